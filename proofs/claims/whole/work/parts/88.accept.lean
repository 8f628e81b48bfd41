/-! what comes of a block that a cell has decoded -/
theorem y_acc {I : SI} {J : SJ} {A : SI} {B : SJ} {b c : Nat} (hb : b < 2 ^ 20) (hc : c < 3) (h : SW I A) :
    ∃ I' A', go (p_Sw_accept (nI b) (nI c) (A 0 36 / 4)) I J I' J ∧ go (p_Md_switched (nI c) (nI b)) A B A' B ∧ SW I' A' ∧ fS I I' A A' := by
  have hm : b / 8192 % 8 < 8 := Nat.mod_lt _ (by decide)
  obtain ⟨q1, ⟨q2, q3⟩, q4⟩ := h.1 _ hm
  have mdl : ∀ post : SI → SJ → Prop, (((¬ nI (b / 65536) = (1 : Int32) → ∃ j6, nI (b / 8192 % 8) = nI j6 ∧ j6 < 8 ∧ ((¬ (A (24) j6) = nI c → post A B) ∧ ((A (24) j6) = nI c → ∀ x7, x7 = ((4 : Int32) * nI (b / 2048 % 4)) + nI (b / 512 % 4) → ((¬ nI (b / 65536) = (2 : Int32) → (((8 : Int32) ≤ x7 → post A B) ∧ (¬ (8 : Int32) ≤ x7 → ∃ j8, x7 = nI j8 ∧ j8 < 8 ∧ (((A (24) j8) < (0) → post A B) ∧ (¬ (A (24) j8) < (0) → ∃ j9, x7 = nI j9 ∧ j9 < 8 ∧ p_Md_control (11 : Int32) x7 (xsr (nI (b / 8192 % 8)) (2 : Int32)) ((nI (b / 8192 % 8)) &&& (3 : Int32)) (nI (b % 512)) (fun r12 I10 J11 => p_Md_toSay (A (24) j9) r12 (fun I13 J14 => post I13 J14) I10 J11) A B))))) ∧ (nI (b / 65536) = (2 : Int32) → p_Md_requested (nI (b / 8192 % 8)) (nI (b / 2048 % 4)) (nI (b / 512 % 4)) (fun I17 J18 => post I17 J18) A B))))) ∧ (nI (b / 65536) = (1 : Int32) → ∃ j21, nI (b / 8192 % 8) = nI j21 ∧ j21 < 8 ∧ p_Md_mix (A (5) j21) ((A 0 36) / (4 : Int32)) (fun r24 I22 J23 => ((¬ (r24 &&& (511 : Int32)) = nI (b % 512) → post I22 J23) ∧ ((r24 &&& (511 : Int32)) = nI (b % 512) → ∃ j25, nI (b / 8192 % 8) = nI j25 ∧ j25 < 8 ∧ ∀ I26, I26 = xu I22 (24) j25 (nI c) → post I26 J23))) A B))) → p_Md_switched (nI c) (nI b) post A B := by
    intro post k x1 e1 x2 e2 x3 e3 x4 e4 x5 e5
    rw [fs_16 hb] at e1
    rw [fs_13 hb] at e2
    rw [fs_11 hb] at e3
    rw [fs_9 hb] at e4
    rw [fr hb] at e5
    subst e1; subst e2; subst e3; subst e4; subst e5
    exact k
  have cls : ∀ post : SI → SJ → Prop, ((¬ nI (b / 65536) = (1 : Int32) → ∃ j7, nI (b / 8192 % 8) = nI j7 ∧ j7 < 8 ∧ ((¬ (I (8) j7) = nI c → post I J) ∧ ((I (8) j7) = nI c → ((¬ nI (b / 65536) = (2 : Int32) → p_Sw_passData (nI (b / 8192 % 8)) (nI (b / 512 % 16)) (nI (b % 512)) post I J) ∧ (nI (b / 65536) = (2 : Int32) → p_Sw_acceptRequest (nI (b / 8192 % 8)) (nI (b / 2048 % 4)) (nI (b / 512 % 4)) (A 0 36 / 4) post I J))))) ∧ (nI (b / 65536) = (1 : Int32) → ∃ j32, nI (b / 8192 % 8) = nI j32 ∧ j32 < 8 ∧ p_TC_mix (I (7) j32) (A 0 36 / 4) (fun r35 I33 J34 => ((¬ nI (b % 512) = (r35 &&& (511 : Int32)) → post I33 J34) ∧ (nI (b % 512) = (r35 &&& (511 : Int32)) → ∃ j36, nI (b / 8192 % 8) = nI j36 ∧ j36 < 8 ∧ ∀ I37, I37 = xu I33 (8) j36 (nI c) → post I37 J34))) I J)) → p_Sw_accept (nI b) (nI c) (A 0 36 / 4) post I J := by
    intro post k
    unfold p_Sw_accept p_Bk_mobileOf p_Bk_kindOf p_Bk_otherOf p_Bk_restOf p_Bk_groupOf p_Bk_levelOf
    rw [fu_16 hb, fu_13 hb, fu_11 hb, fu_9 hb, fu_o hb, fr hb]
    exact k
  generalize hk : b / 65536 = kd at cls mdl
  generalize hmm : b / 8192 % 8 = m at cls mdl hm q1 q2 q3 q4
  have hg : b / 2048 % 4 < 4 := Nat.mod_lt _ (by decide)
  have hl : b / 512 % 4 < 4 := Nat.mod_lt _ (by decide)
  have hr : b % 512 < 512 := Nat.mod_lt _ (by decide)
  by_cases k1 : nI kd = (1 : Int32)
  · by_cases e : nI (b % 512) = (mxF (A 5 m) (A 0 36 / 4)) &&& (511 : Int32)
    · refine ⟨xu I 8 m (nI c), xu A 24 m (nI c), fun post q => cls post ⟨fun hx => absurd k1 hx, fun _ => ⟨m, rfl, hm, z_TC_mix ⟨fun hx => absurd (by rw [q1]; exact e) hx, fun _ => ⟨m, rfl, hm, fun I3 e3 => ?_⟩⟩⟩⟩, fun post q => mdl post ⟨fun hx => absurd k1 hx, fun _ => ⟨m, rfl, hm, z_Md_mix ⟨fun hx => absurd e.symm hx, fun _ => ⟨m, rfl, hm, fun I3 e3 => ?_⟩⟩⟩⟩, ⟨fun p hp => ?_, fun g hg => ?_, fun c hc => ?_⟩, ⟨fun o ho h8 => xu_o _ _ _ h8, fun o ho => xu_o _ _ _ (by omega)⟩⟩
      · subst e3
        exact q
      · subst e3
        exact q
      · by_cases ep : p = m
        · subst ep
          unfold rPl
          rw [xu_o _ _ _ (show 7 ≠ 8 by decide), xu_o _ _ _ (show 9 ≠ 8 by decide), xu_o _ _ _ (show 5 ≠ 24 by decide), xu_o _ _ _ (show 6 ≠ 24 by decide), xu_s, xu_s]
          exact ⟨q1, ⟨rfl, Or.inr ⟨c, hc, rfl⟩⟩, q4⟩
        · exact rPl_of (h.1 p hp) (by rw [xu_o _ _ _ (by decide)]) (xu_k _ _ _ ep) (by rw [xu_o _ _ _ (by decide)]) (by rw [xu_o _ _ _ (by decide)]) (by rw [xu_o _ _ _ (by decide)]) (xu_k _ _ _ ep)
      · exact rGrp_of (h.2.1 g hg) (xu_o _ _ _ (by omega)) (xu_o _ _ _ (by omega)) (fun o _ _ _ => by rw [xu_o _ _ _ (by omega)]) (fun k _ => by rw [xu_o _ _ _ (by decide)])
      · exact rSy_of (h.2.2 c hc) (xu_o _ _ _ (by omega)) (xu_o _ _ _ (by omega)) (by rw [xu_o _ _ _ (by decide)]) (fun k _ => by rw [xu_o _ _ _ (by decide)])
    · exact ⟨I, A, fun post q => cls post ⟨fun hx => absurd k1 hx, fun _ => ⟨m, rfl, hm, z_TC_mix ⟨fun _ => q, fun hx => absurd (by rw [q1] at hx; exact hx) e⟩⟩⟩, fun post q => mdl post ⟨fun hx => absurd k1 hx, fun _ => ⟨m, rfl, hm, z_Md_mix ⟨fun _ => q, fun hx => absurd hx.symm e⟩⟩⟩, h, fS.refl I A⟩
  · by_cases e : A 24 m = nI c
    · by_cases k2 : nI kd = (2 : Int32)
      · obtain ⟨I', A', g1, g2, w, f⟩ := y_req (J := J) (B := B) hg hm hl h
        exact ⟨I', A', fun post q => cls post ⟨fun _ => ⟨m, rfl, hm, fun hx => absurd (q2.trans e) hx, fun _ => ⟨fun hx => absurd k2 hx, fun _ => g1 post q⟩⟩, fun hx => absurd hx k1⟩, fun post q => mdl post ⟨fun _ => ⟨m, rfl, hm, fun hx => absurd e hx, fun _ x7 e7 => ⟨fun hx => absurd k2 hx, fun _ => g2 post q⟩⟩, fun hx => absurd hx k1⟩, w, f.fS⟩
      · have eo : ((4 : Int32) * nI (b / 2048 % 4)) + nI (b / 512 % 4) = nI (b / 512 % 16) := by
          rw [show (4 : Int32) * nI (b / 2048 % 4) = nI (4 * (b / 2048 % 4)) from pk_mul 4 _, nI_add]
          congr 1
          omega
        have ho : b / 512 % 16 < 16 := Nat.mod_lt _ (by decide)
        have c1 : ∀ post : SI → SJ → Prop, p_Sw_passData (nI m) (nI (b / 512 % 16)) (nI (b % 512)) post I J → p_Sw_accept (nI b) (nI c) (A 0 36 / 4) post I J := fun post q => cls post ⟨fun _ => ⟨m, rfl, hm, fun hx => absurd (q2.trans e) hx, fun _ => ⟨fun _ => q, fun hx => absurd hx k2⟩⟩, fun hx => absurd hx k1⟩
        have c2 : ∀ post : SI → SJ → Prop, (((8 : Int32) ≤ nI (b / 512 % 16) → post A B) ∧ (¬ (8 : Int32) ≤ nI (b / 512 % 16) → ∃ j8, nI (b / 512 % 16) = nI j8 ∧ j8 < 8 ∧ (((A (24) j8) < (0) → post A B) ∧ (¬ (A (24) j8) < (0) → ∃ j9, nI (b / 512 % 16) = nI j9 ∧ j9 < 8 ∧ p_Md_control (11 : Int32) (nI (b / 512 % 16)) (xsr (nI m) (2 : Int32)) ((nI m) &&& (3 : Int32)) (nI (b % 512)) (fun r12 I10 J11 => p_Md_toSay (A (24) j9) r12 (fun I13 J14 => post I13 J14) I10 J11) A B)))) → p_Md_switched (nI c) (nI b) post A B := fun post q => mdl post ⟨fun _ => ⟨m, rfl, hm, fun hx => absurd e hx, fun _ x7 e7 => ⟨fun _ => by rw [eo] at e7; subst e7; exact q, fun hx => absurd hx k2⟩⟩, fun hx => absurd hx k1⟩
        generalize b / 512 % 16 = w at c1 c2 ho
        by_cases w8 : 8 ≤ w
        · have l8 : (8 : Int32) ≤ nI w := nI_le (a := 8) w8 (by omega)
          exact ⟨I, A, fun post q => c1 post ⟨fun _ => q, fun hx => absurd l8 hx⟩, fun post q => c2 post ⟨fun _ => q, fun hx => absurd l8 hx⟩, h, fS.refl I A⟩
        · have l8 : ¬ (8 : Int32) ≤ nI w := nI_ge (b := 8) (by omega) (by decide)
          have hw : w < 8 := by omega
          obtain ⟨_, ⟨t2, t3⟩, _⟩ := h.1 w hw
          rcases t3 with t3 | ⟨d, hd, t3⟩
          · have n1 : A 24 w < 0 := by rw [t3]; decide
            exact ⟨I, A, fun post q => c1 post ⟨fun _ => q, fun _ => ⟨w, rfl, hw, fun _ => q, fun hx => absurd (t2.trans t3) hx⟩⟩, fun post q => c2 post ⟨fun _ => q, fun _ => ⟨w, rfl, hw, fun _ => q, fun hx => absurd n1 hx⟩⟩, h, fS.refl I A⟩
          · have n0 : ¬ A 24 w < 0 := by rw [t3]; exact nI_pos (by omega)
            have n1 : ¬ I 8 w = (-1 : Int32) := by
              rw [t2, t3]
              have : ∀ q, q < 3 → ¬ nI q = (-1 : Int32) := by decide +kernel
              exact this d hd
            have m3 : nI m &&& (3 : Int32) = nI (m % 4) := pk_andN (by omega) 2 (by decide)
            obtain ⟨I', A', g1, g2, w', f⟩ := y_say (J := J) (B := B) (c := d) (b := blk 11 w (4 * (m / 4) + m % 4) (b % 512)) hd (blk_lt (by omega) hw (by omega) hr) h
            refine ⟨I', A', fun post q => c1 post ⟨fun hx => absurd hx l8, fun _ => ⟨w, rfl, hw, fun hx => absurd hx n1, fun _ => ⟨w, rfl, hw, d, t2.trans t3, hd, ?_⟩⟩⟩, fun post q => c2 post ⟨fun hx => absurd hx l8, fun _ => ⟨w, rfl, hw, fun hx => absurd hx n0, fun _ => ⟨w, rfl, hw, ?_⟩⟩⟩, w', f.fS⟩
            · unfold p_Bk_ofData
              rw [su_2 (by omega)]
              exact s_Bk_of (k := 11) (by omega) hw (by omega) (by omega) hr m3 (g1 post q)
            · rw [sr_2 (by omega), m3]
              refine s_Md_control (k := 11) (by omega) hw (by omega) (by omega) hr ?_
              rw [t3]
              exact g2 post q
    · exact ⟨I, A, fun post q => cls post ⟨fun _ => ⟨m, rfl, hm, fun _ => q, fun hx => absurd (q2.symm.trans hx) e⟩, fun hx => absurd hx k1⟩, fun post q => mdl post ⟨fun _ => ⟨m, rfl, hm, fun _ => q, fun hx => absurd hx e⟩, fun hx => absurd hx k1⟩, h, fS.refl I A⟩
