theorem d_Gr_endCall_0 : decode b_Gr_endCall 0 = .ok (.aload_n 0, 1) := by decide +kernel
theorem d_Gr_endCall_1 : decode b_Gr_endCall 1 = .ok (.iconst (-1), 1) := by decide +kernel
theorem d_Gr_endCall_2 : decode b_Gr_endCall 2 = .ok (.putfield 18, 3) := by decide +kernel
theorem d_Gr_endCall_5 : decode b_Gr_endCall 5 = .ok (.aload_n 0, 1) := by decide +kernel
theorem d_Gr_endCall_6 : decode b_Gr_endCall 6 = .ok (.iconst (-1), 1) := by decide +kernel
theorem d_Gr_endCall_7 : decode b_Gr_endCall 7 = .ok (.putfield 22, 3) := by decide +kernel
theorem d_Gr_endCall_10 : decode b_Gr_endCall 10 = .ok (.aload_n 0, 1) := by decide +kernel
theorem d_Gr_endCall_11 : decode b_Gr_endCall 11 = .ok (.iconst (-1), 1) := by decide +kernel
theorem d_Gr_endCall_12 : decode b_Gr_endCall 12 = .ok (.putfield 25, 3) := by decide +kernel
theorem d_Gr_endCall_15 : decode b_Gr_endCall 15 = .ok (.return_, 1) := by decide +kernel
theorem d_Gr_hasCall_0 : decode b_Gr_hasCall 0 = .ok (.aload_n 0, 1) := by decide +kernel
theorem d_Gr_hasCall_1 : decode b_Gr_hasCall 1 = .ok (.getfield 18, 3) := by decide +kernel
theorem d_Gr_hasCall_4 : decode b_Gr_hasCall 4 = .ok (.iconst (-1), 1) := by decide +kernel
theorem d_Gr_hasCall_5 : decode b_Gr_hasCall 5 = .ok (.if_icmp .eq (7), 3) := by decide +kernel
theorem d_Gr_hasCall_8 : decode b_Gr_hasCall 8 = .ok (.iconst (1), 1) := by decide +kernel
theorem d_Gr_hasCall_9 : decode b_Gr_hasCall 9 = .ok (.goto (4), 3) := by decide +kernel
theorem d_Gr_hasCall_12 : decode b_Gr_hasCall 12 = .ok (.iconst (0), 1) := by decide +kernel
theorem d_Gr_hasCall_13 : decode b_Gr_hasCall 13 = .ok (.ireturn, 1) := by decide +kernel
theorem d_Gr_isInRow_0 : decode b_Gr_isInRow 0 = .ok (.iconst (0), 1) := by decide +kernel
theorem d_Gr_isInRow_1 : decode b_Gr_isInRow 1 = .ok (.istore_n 2, 1) := by decide +kernel
theorem d_Gr_isInRow_2 : decode b_Gr_isInRow 2 = .ok (.iload_n 2, 1) := by decide +kernel
theorem d_Gr_isInRow_3 : decode b_Gr_isInRow 3 = .ok (.aload_n 0, 1) := by decide +kernel
theorem d_Gr_isInRow_4 : decode b_Gr_isInRow 4 = .ok (.getfield 28, 3) := by decide +kernel
theorem d_Gr_isInRow_7 : decode b_Gr_isInRow 7 = .ok (.if_icmp .ge (23), 3) := by decide +kernel
theorem d_Gr_isInRow_10 : decode b_Gr_isInRow 10 = .ok (.aload_n 0, 1) := by decide +kernel
theorem d_Gr_isInRow_11 : decode b_Gr_isInRow 11 = .ok (.getfield 9, 3) := by decide +kernel
theorem d_Gr_isInRow_14 : decode b_Gr_isInRow 14 = .ok (.iload_n 2, 1) := by decide +kernel
theorem d_Gr_isInRow_15 : decode b_Gr_isInRow 15 = .ok (.iaload, 1) := by decide +kernel
theorem d_Gr_isInRow_16 : decode b_Gr_isInRow 16 = .ok (.iconst (2), 1) := by decide +kernel
theorem d_Gr_isInRow_17 : decode b_Gr_isInRow 17 = .ok (.iushr, 1) := by decide +kernel
theorem d_Gr_isInRow_18 : decode b_Gr_isInRow 18 = .ok (.iload_n 1, 1) := by decide +kernel
theorem d_Gr_isInRow_19 : decode b_Gr_isInRow 19 = .ok (.if_icmp .ne (5), 3) := by decide +kernel
theorem d_Gr_isInRow_22 : decode b_Gr_isInRow 22 = .ok (.iconst (1), 1) := by decide +kernel
theorem d_Gr_isInRow_23 : decode b_Gr_isInRow 23 = .ok (.ireturn, 1) := by decide +kernel
theorem d_Gr_isInRow_24 : decode b_Gr_isInRow 24 = .ok (.iinc 2 (1), 3) := by decide +kernel
theorem d_Gr_isInRow_27 : decode b_Gr_isInRow 27 = .ok (.goto (-25), 3) := by decide +kernel
theorem d_Gr_isInRow_30 : decode b_Gr_isInRow 30 = .ok (.iconst (0), 1) := by decide +kernel
theorem d_Gr_isInRow_31 : decode b_Gr_isInRow 31 = .ok (.ireturn, 1) := by decide +kernel
theorem d_Gr_joinRow_0 : decode b_Gr_joinRow 0 = .ok (.aload_n 0, 1) := by decide +kernel
theorem d_Gr_joinRow_1 : decode b_Gr_joinRow 1 = .ok (.getfield 22, 3) := by decide +kernel
theorem d_Gr_joinRow_4 : decode b_Gr_joinRow 4 = .ok (.iload_n 1, 1) := by decide +kernel
theorem d_Gr_joinRow_5 : decode b_Gr_joinRow 5 = .ok (.if_icmp .eq (44), 3) := by decide +kernel
theorem d_Gr_joinRow_8 : decode b_Gr_joinRow 8 = .ok (.aload_n 0, 1) := by decide +kernel
theorem d_Gr_joinRow_9 : decode b_Gr_joinRow 9 = .ok (.getfield 28, 3) := by decide +kernel
theorem d_Gr_joinRow_12 : decode b_Gr_joinRow 12 = .ok (.bipush (6), 2) := by decide +kernel
theorem d_Gr_joinRow_14 : decode b_Gr_joinRow 14 = .ok (.if_icmp .ge (35), 3) := by decide +kernel
theorem d_Gr_joinRow_17 : decode b_Gr_joinRow 17 = .ok (.aload_n 0, 1) := by decide +kernel
theorem d_Gr_joinRow_18 : decode b_Gr_joinRow 18 = .ok (.iload_n 1, 1) := by decide +kernel
theorem d_Gr_joinRow_19 : decode b_Gr_joinRow 19 = .ok (.invokevirtual 31, 3) := by decide +kernel
theorem d_Gr_joinRow_22 : decode b_Gr_joinRow 22 = .ok (.ifCond .ne (27), 3) := by decide +kernel
theorem d_Gr_joinRow_25 : decode b_Gr_joinRow 25 = .ok (.aload_n 0, 1) := by decide +kernel
theorem d_Gr_joinRow_26 : decode b_Gr_joinRow 26 = .ok (.getfield 9, 3) := by decide +kernel
theorem d_Gr_joinRow_29 : decode b_Gr_joinRow 29 = .ok (.aload_n 0, 1) := by decide +kernel
theorem d_Gr_joinRow_30 : decode b_Gr_joinRow 30 = .ok (.getfield 28, 3) := by decide +kernel
theorem d_Gr_joinRow_33 : decode b_Gr_joinRow 33 = .ok (.iconst (4), 1) := by decide +kernel
theorem d_Gr_joinRow_34 : decode b_Gr_joinRow 34 = .ok (.iload_n 1, 1) := by decide +kernel
theorem d_Gr_joinRow_35 : decode b_Gr_joinRow 35 = .ok (.imul, 1) := by decide +kernel
theorem d_Gr_joinRow_36 : decode b_Gr_joinRow 36 = .ok (.iload_n 2, 1) := by decide +kernel
theorem d_Gr_joinRow_37 : decode b_Gr_joinRow 37 = .ok (.iadd, 1) := by decide +kernel
theorem d_Gr_joinRow_38 : decode b_Gr_joinRow 38 = .ok (.iastore, 1) := by decide +kernel
theorem d_Gr_joinRow_39 : decode b_Gr_joinRow 39 = .ok (.aload_n 0, 1) := by decide +kernel
theorem d_Gr_joinRow_40 : decode b_Gr_joinRow 40 = .ok (.dup, 1) := by decide +kernel
theorem d_Gr_joinRow_41 : decode b_Gr_joinRow 41 = .ok (.getfield 28, 3) := by decide +kernel
theorem d_Gr_joinRow_44 : decode b_Gr_joinRow 44 = .ok (.iconst (1), 1) := by decide +kernel
theorem d_Gr_joinRow_45 : decode b_Gr_joinRow 45 = .ok (.iadd, 1) := by decide +kernel
theorem d_Gr_joinRow_46 : decode b_Gr_joinRow 46 = .ok (.putfield 28, 3) := by decide +kernel
theorem d_Gr_joinRow_49 : decode b_Gr_joinRow 49 = .ok (.return_, 1) := by decide +kernel
theorem d_Gr_firstOfHighest_0 : decode b_Gr_firstOfHighest 0 = .ok (.iconst (0), 1) := by decide +kernel
theorem d_Gr_firstOfHighest_1 : decode b_Gr_firstOfHighest 1 = .ok (.istore_n 1, 1) := by decide +kernel
theorem d_Gr_firstOfHighest_2 : decode b_Gr_firstOfHighest 2 = .ok (.iconst (1), 1) := by decide +kernel
theorem d_Gr_firstOfHighest_3 : decode b_Gr_firstOfHighest 3 = .ok (.istore_n 2, 1) := by decide +kernel
theorem d_Gr_firstOfHighest_4 : decode b_Gr_firstOfHighest 4 = .ok (.iload_n 2, 1) := by decide +kernel
theorem d_Gr_firstOfHighest_5 : decode b_Gr_firstOfHighest 5 = .ok (.aload_n 0, 1) := by decide +kernel
theorem d_Gr_firstOfHighest_6 : decode b_Gr_firstOfHighest 6 = .ok (.getfield 28, 3) := by decide +kernel
theorem d_Gr_firstOfHighest_9 : decode b_Gr_firstOfHighest 9 = .ok (.if_icmp .ge (30), 3) := by decide +kernel
theorem d_Gr_firstOfHighest_12 : decode b_Gr_firstOfHighest 12 = .ok (.aload_n 0, 1) := by decide +kernel
theorem d_Gr_firstOfHighest_13 : decode b_Gr_firstOfHighest 13 = .ok (.getfield 9, 3) := by decide +kernel
theorem d_Gr_firstOfHighest_16 : decode b_Gr_firstOfHighest 16 = .ok (.iload_n 2, 1) := by decide +kernel
theorem d_Gr_firstOfHighest_17 : decode b_Gr_firstOfHighest 17 = .ok (.iaload, 1) := by decide +kernel
theorem d_Gr_firstOfHighest_18 : decode b_Gr_firstOfHighest 18 = .ok (.iconst (3), 1) := by decide +kernel
theorem d_Gr_firstOfHighest_19 : decode b_Gr_firstOfHighest 19 = .ok (.iand, 1) := by decide +kernel
theorem d_Gr_firstOfHighest_20 : decode b_Gr_firstOfHighest 20 = .ok (.aload_n 0, 1) := by decide +kernel
theorem d_Gr_firstOfHighest_21 : decode b_Gr_firstOfHighest 21 = .ok (.getfield 9, 3) := by decide +kernel
theorem d_Gr_firstOfHighest_24 : decode b_Gr_firstOfHighest 24 = .ok (.iload_n 1, 1) := by decide +kernel
theorem d_Gr_firstOfHighest_25 : decode b_Gr_firstOfHighest 25 = .ok (.iaload, 1) := by decide +kernel
theorem d_Gr_firstOfHighest_26 : decode b_Gr_firstOfHighest 26 = .ok (.iconst (3), 1) := by decide +kernel
theorem d_Gr_firstOfHighest_27 : decode b_Gr_firstOfHighest 27 = .ok (.iand, 1) := by decide +kernel
theorem d_Gr_firstOfHighest_28 : decode b_Gr_firstOfHighest 28 = .ok (.if_icmp .le (5), 3) := by decide +kernel
theorem d_Gr_firstOfHighest_31 : decode b_Gr_firstOfHighest 31 = .ok (.iload_n 2, 1) := by decide +kernel
theorem d_Gr_firstOfHighest_32 : decode b_Gr_firstOfHighest 32 = .ok (.istore_n 1, 1) := by decide +kernel
theorem d_Gr_firstOfHighest_33 : decode b_Gr_firstOfHighest 33 = .ok (.iinc 2 (1), 3) := by decide +kernel
theorem d_Gr_firstOfHighest_36 : decode b_Gr_firstOfHighest 36 = .ok (.goto (-32), 3) := by decide +kernel
theorem d_Gr_firstOfHighest_39 : decode b_Gr_firstOfHighest 39 = .ok (.iload_n 1, 1) := by decide +kernel
theorem d_Gr_firstOfHighest_40 : decode b_Gr_firstOfHighest 40 = .ok (.ireturn, 1) := by decide +kernel
theorem d_Gr_giveFloor_0 : decode b_Gr_giveFloor 0 = .ok (.aload_n 0, 1) := by decide +kernel
theorem d_Gr_giveFloor_1 : decode b_Gr_giveFloor 1 = .ok (.invokevirtual 35, 3) := by decide +kernel
theorem d_Gr_giveFloor_4 : decode b_Gr_giveFloor 4 = .ok (.istore_n 2, 1) := by decide +kernel
theorem d_Gr_giveFloor_5 : decode b_Gr_giveFloor 5 = .ok (.aload_n 0, 1) := by decide +kernel
theorem d_Gr_giveFloor_6 : decode b_Gr_giveFloor 6 = .ok (.aload_n 0, 1) := by decide +kernel
theorem d_Gr_giveFloor_7 : decode b_Gr_giveFloor 7 = .ok (.getfield 9, 3) := by decide +kernel
theorem d_Gr_giveFloor_10 : decode b_Gr_giveFloor 10 = .ok (.iload_n 2, 1) := by decide +kernel
theorem d_Gr_giveFloor_11 : decode b_Gr_giveFloor 11 = .ok (.iaload, 1) := by decide +kernel
theorem d_Gr_giveFloor_12 : decode b_Gr_giveFloor 12 = .ok (.iconst (2), 1) := by decide +kernel
theorem d_Gr_giveFloor_13 : decode b_Gr_giveFloor 13 = .ok (.iushr, 1) := by decide +kernel
theorem d_Gr_giveFloor_14 : decode b_Gr_giveFloor 14 = .ok (.putfield 22, 3) := by decide +kernel
theorem d_Gr_giveFloor_17 : decode b_Gr_giveFloor 17 = .ok (.aload_n 0, 1) := by decide +kernel
theorem d_Gr_giveFloor_18 : decode b_Gr_giveFloor 18 = .ok (.iload_n 1, 1) := by decide +kernel
theorem d_Gr_giveFloor_19 : decode b_Gr_giveFloor 19 = .ok (.putfield 25, 3) := by decide +kernel
theorem d_Gr_giveFloor_22 : decode b_Gr_giveFloor 22 = .ok (.aload_n 0, 1) := by decide +kernel
theorem d_Gr_giveFloor_23 : decode b_Gr_giveFloor 23 = .ok (.dup, 1) := by decide +kernel
theorem d_Gr_giveFloor_24 : decode b_Gr_giveFloor 24 = .ok (.getfield 28, 3) := by decide +kernel
theorem d_Gr_giveFloor_27 : decode b_Gr_giveFloor 27 = .ok (.iconst (1), 1) := by decide +kernel
theorem d_Gr_giveFloor_28 : decode b_Gr_giveFloor 28 = .ok (.isub, 1) := by decide +kernel
theorem d_Gr_giveFloor_29 : decode b_Gr_giveFloor 29 = .ok (.putfield 28, 3) := by decide +kernel
theorem d_Gr_giveFloor_32 : decode b_Gr_giveFloor 32 = .ok (.aload_n 0, 1) := by decide +kernel
theorem d_Gr_giveFloor_33 : decode b_Gr_giveFloor 33 = .ok (.getfield 9, 3) := by decide +kernel
theorem d_Gr_giveFloor_36 : decode b_Gr_giveFloor 36 = .ok (.iload_n 2, 1) := by decide +kernel
theorem d_Gr_giveFloor_37 : decode b_Gr_giveFloor 37 = .ok (.iconst (1), 1) := by decide +kernel
theorem d_Gr_giveFloor_38 : decode b_Gr_giveFloor 38 = .ok (.iadd, 1) := by decide +kernel
theorem d_Gr_giveFloor_39 : decode b_Gr_giveFloor 39 = .ok (.aload_n 0, 1) := by decide +kernel
theorem d_Gr_giveFloor_40 : decode b_Gr_giveFloor 40 = .ok (.getfield 9, 3) := by decide +kernel
theorem d_Gr_giveFloor_43 : decode b_Gr_giveFloor 43 = .ok (.iload_n 2, 1) := by decide +kernel
theorem d_Gr_giveFloor_44 : decode b_Gr_giveFloor 44 = .ok (.aload_n 0, 1) := by decide +kernel
theorem d_Gr_giveFloor_45 : decode b_Gr_giveFloor 45 = .ok (.getfield 28, 3) := by decide +kernel
theorem d_Gr_giveFloor_48 : decode b_Gr_giveFloor 48 = .ok (.iload_n 2, 1) := by decide +kernel
theorem d_Gr_giveFloor_49 : decode b_Gr_giveFloor 49 = .ok (.isub, 1) := by decide +kernel
theorem d_Gr_giveFloor_50 : decode b_Gr_giveFloor 50 = .ok (.invokestatic 39, 3) := by decide +kernel
theorem d_Gr_giveFloor_53 : decode b_Gr_giveFloor 53 = .ok (.return_, 1) := by decide +kernel
theorem d_Gr_rowAt_0 : decode b_Gr_rowAt 0 = .ok (.iload_n 1, 1) := by decide +kernel
theorem d_Gr_rowAt_1 : decode b_Gr_rowAt 1 = .ok (.aload_n 0, 1) := by decide +kernel
theorem d_Gr_rowAt_2 : decode b_Gr_rowAt 2 = .ok (.getfield 28, 3) := by decide +kernel
theorem d_Gr_rowAt_5 : decode b_Gr_rowAt 5 = .ok (.invokestatic 45, 3) := by decide +kernel
theorem d_Gr_rowAt_8 : decode b_Gr_rowAt 8 = .ok (.ifCond .eq (12), 3) := by decide +kernel
theorem d_Gr_rowAt_11 : decode b_Gr_rowAt 11 = .ok (.aload_n 0, 1) := by decide +kernel
theorem d_Gr_rowAt_12 : decode b_Gr_rowAt 12 = .ok (.getfield 9, 3) := by decide +kernel
theorem d_Gr_rowAt_15 : decode b_Gr_rowAt 15 = .ok (.iload_n 1, 1) := by decide +kernel
theorem d_Gr_rowAt_16 : decode b_Gr_rowAt 16 = .ok (.iaload, 1) := by decide +kernel
theorem d_Gr_rowAt_17 : decode b_Gr_rowAt 17 = .ok (.goto (4), 3) := by decide +kernel
theorem d_Gr_rowAt_20 : decode b_Gr_rowAt 20 = .ok (.iconst (-1), 1) := by decide +kernel
theorem d_Gr_rowAt_21 : decode b_Gr_rowAt 21 = .ok (.ireturn, 1) := by decide +kernel
theorem d_Gr_tell_0 : decode b_Gr_tell 0 = .ok (.iload_n 1, 1) := by decide +kernel
theorem d_Gr_tell_1 : decode b_Gr_tell 1 = .ok (.tableswitch (51) (0) (3) #[31, 36, 41, 46], 31) := by decide +kernel
theorem d_Gr_tell_32 : decode b_Gr_tell 32 = .ok (.aload_n 0, 1) := by decide +kernel
theorem d_Gr_tell_33 : decode b_Gr_tell 33 = .ok (.getfield 18, 3) := by decide +kernel
theorem d_Gr_tell_36 : decode b_Gr_tell 36 = .ok (.ireturn, 1) := by decide +kernel
theorem d_Gr_tell_37 : decode b_Gr_tell 37 = .ok (.aload_n 0, 1) := by decide +kernel
theorem d_Gr_tell_38 : decode b_Gr_tell 38 = .ok (.getfield 22, 3) := by decide +kernel
theorem d_Gr_tell_41 : decode b_Gr_tell 41 = .ok (.ireturn, 1) := by decide +kernel
theorem d_Gr_tell_42 : decode b_Gr_tell 42 = .ok (.aload_n 0, 1) := by decide +kernel
theorem d_Gr_tell_43 : decode b_Gr_tell 43 = .ok (.getfield 25, 3) := by decide +kernel
theorem d_Gr_tell_46 : decode b_Gr_tell 46 = .ok (.ireturn, 1) := by decide +kernel
theorem d_Gr_tell_47 : decode b_Gr_tell 47 = .ok (.aload_n 0, 1) := by decide +kernel
theorem d_Gr_tell_48 : decode b_Gr_tell 48 = .ok (.getfield 28, 3) := by decide +kernel
theorem d_Gr_tell_51 : decode b_Gr_tell 51 = .ok (.ireturn, 1) := by decide +kernel
theorem d_Gr_tell_52 : decode b_Gr_tell 52 = .ok (.iconst (-1), 1) := by decide +kernel
theorem d_Gr_tell_53 : decode b_Gr_tell 53 = .ok (.ireturn, 1) := by decide +kernel
def p_Gr_endCall (a0 : Nat) (post : SI → SJ → Prop) (I : SI) (J : SJ) : Prop :=
  ∀ I1, I1 = xu I (38 + a0) 3 (-1 : Int32) → ∀ I2, I2 = xu I1 (38 + a0) 4 (-1 : Int32) → ∀ I3, I3 = xu I2 (38 + a0) 5 (-1 : Int32) → post I3 J
abbrev rm_Gr_endCall : Room := { frames := 0, cells := 0, slots := 0, locals := 0 }
def p_Gr_hasCall (a0 : Nat) (post : Int32 → SI → SJ → Prop) (I : SI) (J : SJ) : Prop :=
  (((I (38 + a0) 3) = (-1 : Int32) → post (0 : Int32) I J) ∧ (¬ (I (38 + a0) 3) = (-1 : Int32) → post (1 : Int32) I J))
abbrev rm_Gr_hasCall : Room := { frames := 0, cells := 0, slots := 0, locals := 0 }
def p_Gr_isInRow_L2 (a0 : Nat) (p1 : Int32) (post : Int32 → SI → SJ → Prop) : Nat → Int32 → SI → SJ → Prop
  | 0, _, _, _ => False
  | n + 1, v2, I, J => (((I (38 + a0) 1) ≤ v2 → post (0 : Int32) I J) ∧ (¬ (I (38 + a0) 1) ≤ v2 → ∃ j2, v2 = nI j2 ∧ j2 < 6 ∧ ((¬ (xsu (I (42 + a0) j2) (2 : Int32)) = p1 → ∀ x3, x3 = v2 + (1 : Int32) → p_Gr_isInRow_L2 a0 p1 post n x3 I J) ∧ ((xsu (I (42 + a0) j2) (2 : Int32)) = p1 → post (1 : Int32) I J))))
def p_Gr_isInRow (a0 : Nat) (p1 : Int32) (post : Int32 → SI → SJ → Prop) (I : SI) (J : SJ) : Prop :=
  ∀ x1, x1 = (0 : Int32) → ∃ n6, p_Gr_isInRow_L2 a0 p1 post n6 x1 I J
abbrev rm_Gr_isInRow : Room := { frames := 0, cells := 0, slots := 0, locals := 0 }
def p_Gr_joinRow (a0 : Nat) (p1 : Int32) (p2 : Int32) (post : SI → SJ → Prop) (I : SI) (J : SJ) : Prop :=
  (((I (38 + a0) 4) = p1 → post I J) ∧ (¬ (I (38 + a0) 4) = p1 → (((6 : Int32) ≤ (I (38 + a0) 1) → post I J) ∧ (¬ (6 : Int32) ≤ (I (38 + a0) 1) → p_Gr_isInRow a0 p1 (fun r3 I1 J2 => ((¬ r3 = (0) → post I1 J2) ∧ (r3 = (0) → ∃ j4, I1 (38 + a0) 1 = nI j4 ∧ j4 < 6 ∧ ∀ I5, I5 = xu I1 (42 + a0) j4 (((4 : Int32) * p1) + p2) → ∀ I6, I6 = xu I5 (38 + a0) 1 ((I5 (38 + a0) 1) + (1 : Int32)) → post I6 J2))) I J))))
abbrev rm_Gr_joinRow : Room := { frames := 1, cells := 0, slots := 0, locals := 22 }
def p_Gr_firstOfHighest_33 (a0 : Nat) (post : Int32 → SI → SJ → Prop) (k4 : Int32 → Int32 → SI → SJ → Prop) (v1 : Int32) (v2 : Int32) (I : SI) (J : SJ) : Prop :=
  ∀ x5, x5 = v2 + (1 : Int32) → k4 v1 x5 I J
def p_Gr_firstOfHighest_L4 (a0 : Nat) (post : Int32 → SI → SJ → Prop) : Nat → Int32 → Int32 → SI → SJ → Prop
  | 0, _, _, _, _ => False
  | n + 1, v1, v2, I, J => (((I (38 + a0) 1) ≤ v2 → post v1 I J) ∧ (¬ (I (38 + a0) 1) ≤ v2 → ∃ j3, v2 = nI j3 ∧ j3 < 6 ∧ ∃ j4, v1 = nI j4 ∧ j4 < 6 ∧ ((((I (42 + a0) j3) &&& (3 : Int32)) ≤ ((I (42 + a0) j4) &&& (3 : Int32)) → p_Gr_firstOfHighest_33 a0 post (p_Gr_firstOfHighest_L4 a0 post n) v1 v2 I J) ∧ (¬ ((I (42 + a0) j3) &&& (3 : Int32)) ≤ ((I (42 + a0) j4) &&& (3 : Int32)) → p_Gr_firstOfHighest_33 a0 post (p_Gr_firstOfHighest_L4 a0 post n) v2 v2 I J))))
def p_Gr_firstOfHighest (a0 : Nat) (post : Int32 → SI → SJ → Prop) (I : SI) (J : SJ) : Prop :=
  ∀ x1, x1 = (0 : Int32) → ∀ x2, x2 = (1 : Int32) → ∃ n8, p_Gr_firstOfHighest_L4 a0 post n8 x1 x2 I J
abbrev rm_Gr_firstOfHighest : Room := { frames := 0, cells := 0, slots := 0, locals := 0 }
def p_Gr_giveFloor (a0 : Nat) (p1 : Int32) (post : SI → SJ → Prop) (I : SI) (J : SJ) : Prop :=
  p_Gr_firstOfHighest a0 (fun r3 I1 J2 => ∃ j4, r3 = nI j4 ∧ j4 < 6 ∧ ∀ I5, I5 = xu I1 (38 + a0) 4 (xsu (I1 (42 + a0) j4) (2 : Int32)) → ∀ I6, I6 = xu I5 (38 + a0) 5 p1 → ∀ I7, I7 = xu I6 (38 + a0) 1 ((I6 (38 + a0) 1) - (1 : Int32)) → ∃ j8 j9 j10, r3 + (1 : Int32) = nI j8 ∧ r3 = nI j9 ∧ (I7 (38 + a0) 1) - r3 = nI j10 ∧ j8 + j10 ≤ 6 ∧ j9 + j10 ≤ 6 ∧ ∀ I11, I11 = xr I7 (42 + a0) (va_cpy (I7 (42 + a0)) (I7 (42 + a0)) j8 j9 j10) → post I11 J2) I J
abbrev rm_Gr_giveFloor : Room := { frames := 1, cells := 0, slots := 0, locals := 22 }
def p_Gr_rowAt (a0 : Nat) (p1 : Int32) (post : Int32 → SI → SJ → Prop) (I : SI) (J : SJ) : Prop :=
  p_TC_isIndex p1 (I (38 + a0) 1) (fun r3 I1 J2 => ((r3 = (0) → post (-1 : Int32) I1 J2) ∧ (¬ r3 = (0) → ∃ j4, p1 = nI j4 ∧ j4 < 6 ∧ post (I1 (42 + a0) j4) I1 J2))) I J
abbrev rm_Gr_rowAt : Room := { frames := 1, cells := 0, slots := 0, locals := 21 }
def p_Gr_tell (a0 : Nat) (p1 : Int32) (post : Int32 → SI → SJ → Prop) (I : SI) (J : SJ) : Prop :=
  ((p1 = (0 : Int32) → post (I (38 + a0) 3) I J) ∧ (¬ p1 = (0 : Int32) → ((p1 = (1 : Int32) → post (I (38 + a0) 4) I J) ∧ (¬ p1 = (1 : Int32) → ((p1 = (2 : Int32) → post (I (38 + a0) 5) I J) ∧ (¬ p1 = (2 : Int32) → ((p1 = (3 : Int32) → post (I (38 + a0) 1) I J) ∧ (¬ p1 = (3 : Int32) → post (-1 : Int32) I J))))))))
abbrev rm_Gr_tell : Room := { frames := 0, cells := 0, slots := 0, locals := 0 }
set_option maxHeartbeats 4000000 in
set_option maxRecDepth 100000 in
theorem c_Gr_endCall (l : Launch) (D : va_G) (κ : Nat → ClassId) {Θ : Nat → Nat} (hΘ : xJ 52 Θ) (sz : Nat) (a0 : Nat) (h_a0 : a0 < 4) (I : SI) (J : SJ) (post : SI → SJ → Prop) (h : p_Gr_endCall a0 post I J) : Met l y_Gr_endCall WS rm_Gr_endCall (va_Pc [.ref (Θ (38 + a0))] (xPR D clA (tysA κ) 52 Θ (eC Θ κ) sz I J)) (xQv D clA 52 Θ (eC Θ κ) sz post) 0 0 (xA 52 Θ sz) := by
  refine xMet (cc := b_Gr_endCall) (maxL := 1) (ret := none) (by decide) q_Gr_endCall.1 ?_
  intro p e s m args below meth c s₁ B hml hv
  obtain ⟨hargs, hsz, hP, hK, hN, hG⟩ := hv
  have hx := B.exec
  have hb := B.bytes
  have hr := B.returns
  have hlocks := B.notSynchronized
  have hts := atoms_spec (ws := WS) B.pre
  have hown : s.vm.findClass R_Gr = some m.cls := findClass_of_methodNamed B.named
  have C : xC p m c b_Gr_endCall 1 s args R_Gr D clA (tysA κ) 52 Θ sz := ⟨⟨hx, hb, hml, hown, hts⟩, hK, hN, hG, hsz⟩
  have hS : va_S (xA 52 Θ sz) s.heap s.heap [] := va_S.rf
  have hE := lg_entry_eq m [.ref (Θ (38 + a0))] 1
  rw [← hargs] at hE
  rw [hE]
  have hl := lv_entry [.ref (Θ (38 + a0))] (n := 1) (Nat.le_of_ble_eq_true rfl)
  generalize (lg_sl [.ref (Θ (38 + a0))] ++ List.replicate (1 - (lg_sl [.ref (Θ (38 + a0))]).length) Slot.unset).toArray = ls at hl ⊢
  have hl : lv_has ls 1 [(0, .ref (Θ (38 + a0)))] := hl
  unfold p_Gr_endCall at h
  refine lv_aload_n hx hb d_Gr_endCall_0 rfl (lv_at hl 0 rfl) ?_
  refine lv_iconst (v := (-1 : Int32)) hx hb d_Gr_endCall_1 (by decide) ?_
  refine pfC_Gr_18 C hΘ hP hS h_a0 d_Gr_endCall_2 (fun H locs hP hS => ?_)
  obtain ⟨I1, eI1⟩ : ∃ y, y = xu I (38 + a0) 3 (-1 : Int32) := ⟨_, rfl⟩
  have hP : va_P D clA (xw 52 Θ (eC Θ κ) I1 J) H := by rw [eI1]; exact hP
  have h := h I1 eI1
  refine lv_aload_n hx hb d_Gr_endCall_5 rfl (lv_at hl 0 rfl) ?_
  refine lv_iconst (v := (-1 : Int32)) hx hb d_Gr_endCall_6 (by decide) ?_
  refine pfC_Gr_22 C hΘ hP hS h_a0 d_Gr_endCall_7 (fun H locs hP hS => ?_)
  obtain ⟨I2, eI2⟩ : ∃ y, y = xu I1 (38 + a0) 4 (-1 : Int32) := ⟨_, rfl⟩
  have hP : va_P D clA (xw 52 Θ (eC Θ κ) I2 J) H := by rw [eI2]; exact hP
  have h := h I2 eI2
  refine lv_aload_n hx hb d_Gr_endCall_10 rfl (lv_at hl 0 rfl) ?_
  refine lv_iconst (v := (-1 : Int32)) hx hb d_Gr_endCall_11 (by decide) ?_
  refine pfC_Gr_25 C hΘ hP hS h_a0 d_Gr_endCall_12 (fun H locs hP hS => ?_)
  obtain ⟨I3, eI3⟩ : ∃ y, y = xu I2 (38 + a0) 5 (-1 : Int32) := ⟨_, rfl⟩
  have hP : va_P D clA (xw 52 Θ (eC Θ κ) I3 J) H := by rw [eI3]; exact hP
  have h := h I3 eI3
  exact x_vret hx hb hr hlocks hP hS h d_Gr_endCall_15
set_option maxHeartbeats 4000000 in
set_option maxRecDepth 100000 in
theorem c_Gr_hasCall (l : Launch) (D : va_G) (κ : Nat → ClassId) {Θ : Nat → Nat} (hΘ : xJ 52 Θ) (sz : Nat) (a0 : Nat) (h_a0 : a0 < 4) (I : SI) (J : SJ) (post : Int32 → SI → SJ → Prop) (h : p_Gr_hasCall a0 post I J) : Met l y_Gr_hasCall WS rm_Gr_hasCall (va_Pc [.ref (Θ (38 + a0))] (xPR D clA (tysA κ) 52 Θ (eC Θ κ) sz I J)) (xQi D clA 52 Θ (eC Θ κ) sz post) 0 0 (xA 52 Θ sz) := by
  refine xMet (cc := b_Gr_hasCall) (maxL := 1) (ret := (some .boolean)) (by decide) q_Gr_hasCall.1 ?_
  intro p e s m args below meth c s₁ B hml hv
  obtain ⟨hargs, hsz, hP, hK, hN, hG⟩ := hv
  have hx := B.exec
  have hb := B.bytes
  have hr := B.returns
  have hlocks := B.notSynchronized
  have hts := atoms_spec (ws := WS) B.pre
  have hown : s.vm.findClass R_Gr = some m.cls := findClass_of_methodNamed B.named
  have C : xC p m c b_Gr_hasCall 1 s args R_Gr D clA (tysA κ) 52 Θ sz := ⟨⟨hx, hb, hml, hown, hts⟩, hK, hN, hG, hsz⟩
  have hS : va_S (xA 52 Θ sz) s.heap s.heap [] := va_S.rf
  have hE := lg_entry_eq m [.ref (Θ (38 + a0))] 1
  rw [← hargs] at hE
  rw [hE]
  have hl := lv_entry [.ref (Θ (38 + a0))] (n := 1) (Nat.le_of_ble_eq_true rfl)
  generalize (lg_sl [.ref (Θ (38 + a0))] ++ List.replicate (1 - (lg_sl [.ref (Θ (38 + a0))]).length) Slot.unset).toArray = ls at hl ⊢
  have hl : lv_has ls 1 [(0, .ref (Θ (38 + a0)))] := hl
  unfold p_Gr_hasCall at h
  refine lv_aload_n hx hb d_Gr_hasCall_0 rfl (lv_at hl 0 rfl) ?_
  refine gfC_Gr_18 C hP h_a0 d_Gr_hasCall_1 ?_
  refine lv_iconst (v := (-1 : Int32)) hx hb d_Gr_hasCall_4 (by decide) ?_
  refine lv_icmp_eq hx hb d_Gr_hasCall_5 (tgt := 12) rfl (fun hc1 => ?_) (fun hc1 => ?_)
  · have h := h.1 hc1
    refine lv_iconst (v := (0 : Int32)) hx hb d_Gr_hasCall_12 (by decide) ?_
    exact x_zret hx hb hr hlocks hP hS (by decide) h d_Gr_hasCall_13
  · have h := h.2 hc1
    refine lv_iconst (v := (1 : Int32)) hx hb d_Gr_hasCall_8 (by decide) ?_
    refine lv_goto hx hb d_Gr_hasCall_9 (tgt := 13) rfl ?_
    exact x_zret hx hb hr hlocks hP hS (by decide) h d_Gr_hasCall_13
set_option maxHeartbeats 4000000 in
set_option maxRecDepth 100000 in
theorem c_Gr_isInRow (l : Launch) (D : va_G) (κ : Nat → ClassId) {Θ : Nat → Nat} (hΘ : xJ 52 Θ) (sz : Nat) (a0 : Nat) (h_a0 : a0 < 4) (p1 : Int32) (I : SI) (J : SJ) (post : Int32 → SI → SJ → Prop) (h : p_Gr_isInRow a0 p1 post I J) : Met l y_Gr_isInRow WS rm_Gr_isInRow (va_Pc [.ref (Θ (38 + a0)), .int p1] (xPR D clA (tysA κ) 52 Θ (eC Θ κ) sz I J)) (xQi D clA 52 Θ (eC Θ κ) sz post) 0 0 (xA 52 Θ sz) := by
  refine xMet (cc := b_Gr_isInRow) (maxL := 3) (ret := (some .boolean)) (by decide) q_Gr_isInRow.1 ?_
  intro p e s m args below meth c s₁ B hml hv
  obtain ⟨hargs, hsz, hP, hK, hN, hG⟩ := hv
  have hx := B.exec
  have hb := B.bytes
  have hr := B.returns
  have hlocks := B.notSynchronized
  have hts := atoms_spec (ws := WS) B.pre
  have hown : s.vm.findClass R_Gr = some m.cls := findClass_of_methodNamed B.named
  have C : xC p m c b_Gr_isInRow 3 s args R_Gr D clA (tysA κ) 52 Θ sz := ⟨⟨hx, hb, hml, hown, hts⟩, hK, hN, hG, hsz⟩
  have hS : va_S (xA 52 Θ sz) s.heap s.heap [] := va_S.rf
  have tL2 : ∀ (n : Nat) (v2 : Int32) (I : SI) (J : SJ), p_Gr_isInRow_L2 a0 p1 post n v2 I J → ∀ (H : Heap) (locs : List Loc) (ls : Array Slot), lv_has ls 3 [(0, .ref (Θ (38 + a0))), (1, .int p1), (2, .int v2)] → va_P D clA (xw 52 Θ (eC Θ κ) I J) H → va_S (xA 52 Θ sz) s.heap H locs → W p l e (headSpec WS rm_Gr_isInRow).room s m args below meth c H locs 0 0 (MQ below (xQi D clA 52 Θ (eC Θ κ) sz post) args s 0 0 (xA 52 Θ sz)) (F0 m 2 ls []) := by
    intro n
    induction n with
    | zero =>
      intro v2 I J h H locs ls hl hP hS
      exact h.elim
    | succ n ih =>
      intro v2 I J h H locs ls hl hP hS
      unfold p_Gr_isInRow_L2 at h
      refine lv_iload_n hx hb d_Gr_isInRow_2 rfl (lv_at hl 2 rfl) ?_
      refine lv_aload_n hx hb d_Gr_isInRow_3 rfl (lv_at hl 0 rfl) ?_
      refine gfC_Gr_28 C hP h_a0 d_Gr_isInRow_4 ?_
      refine lv_icmp_ge hx hb d_Gr_isInRow_7 (tgt := 30) rfl (fun hc5 => ?_) (fun hc5 => ?_)
      · have h := h.1 hc5
        refine lv_iconst (v := (0 : Int32)) hx hb d_Gr_isInRow_30 (by decide) ?_
        exact x_zret hx hb hr hlocks hP hS (by decide) h d_Gr_isInRow_31
      · have h := h.2 hc5
        refine lv_aload_n hx hb d_Gr_isInRow_10 rfl (lv_at hl 0 rfl) ?_
        refine gfC_Gr_9 C hP h_a0 d_Gr_isInRow_11 ?_
        refine lv_iload_n hx hb d_Gr_isInRow_14 rfl (lv_at hl 2 rfl) ?_
        obtain ⟨j2, ej2, h_j2, h⟩ := h
        refine x_iald hx hb hK hP (42 + a0) 0 (xlt h_a0 rfl) (eC_row h_a0) rfl ej2 h_j2 (by decide) d_Gr_isInRow_15 ?_
        refine lv_iconst (v := (2 : Int32)) hx hb d_Gr_isInRow_16 (by decide) ?_
        refine lv_iushr (v := xsu (I (42 + a0) j2) (2 : Int32)) hx hb d_Gr_isInRow_17 rfl ?_
        refine lv_iload_n hx hb d_Gr_isInRow_18 rfl (lv_at hl 1 rfl) ?_
        refine lv_icmp_ne hx hb d_Gr_isInRow_19 (tgt := 24) rfl (fun hc4 => ?_) (fun hc4 => ?_)
        · have h := h.1 hc4
          obtain ⟨x3, ex3⟩ : ∃ y : Int32, y = v2 + (1 : Int32) := ⟨_, rfl⟩
          have h := h x3 ex3
          refine lv_iinc (k := 2) (v := x3) hx hb d_Gr_isInRow_24 hl rfl (by rw [ex3]; rfl) (Nat.le_of_ble_eq_true rfl) (lv' := [(2, .int x3), (0, .ref (Θ (38 + a0))), (1, .int p1)]) rfl (fun ls hl => ?_)
          refine lv_goto hx hb d_Gr_isInRow_27 (tgt := 2) rfl ?_
          exact ih _ _ _ h _ _ _ (lv_sub hl [1, 2, 0] rfl) hP hS
        · have h := h.2 hc4
          refine lv_iconst (v := (1 : Int32)) hx hb d_Gr_isInRow_22 (by decide) ?_
          exact x_zret hx hb hr hlocks hP hS (by decide) h d_Gr_isInRow_23
  have hE := lg_entry_eq m [.ref (Θ (38 + a0)), .int p1] 3
  rw [← hargs] at hE
  rw [hE]
  have hl := lv_entry [.ref (Θ (38 + a0)), .int p1] (n := 3) (Nat.le_of_ble_eq_true rfl)
  generalize (lg_sl [.ref (Θ (38 + a0)), .int p1] ++ List.replicate (3 - (lg_sl [.ref (Θ (38 + a0)), .int p1]).length) Slot.unset).toArray = ls at hl ⊢
  have hl : lv_has ls 3 [(0, .ref (Θ (38 + a0))), (1, .int p1)] := hl
  unfold p_Gr_isInRow at h
  refine lv_iconst (v := (0 : Int32)) hx hb d_Gr_isInRow_0 (by decide) ?_
  refine lv_topi (fun x1 ex1 => ?_)
  have h := h x1 ex1
  refine lv_istore_n hx hb d_Gr_isInRow_1 rfl hl (Nat.le_of_ble_eq_true rfl) (lv' := [(2, .int x1), (0, .ref (Θ (38 + a0))), (1, .int p1)]) rfl (fun ls hl => ?_)
  obtain ⟨n6, h⟩ := h
  refine tL2 n6 _ _ _ h _ _ _ (lv_sub hl [1, 2, 0] rfl) hP hS
set_option maxHeartbeats 4000000 in
set_option maxRecDepth 100000 in
theorem c_Gr_joinRow (l : Launch) (D : va_G) (κ : Nat → ClassId) {Θ : Nat → Nat} (hΘ : xJ 52 Θ) (sz : Nat) (a0 : Nat) (h_a0 : a0 < 4) (p1 : Int32) (p2 : Int32) (I : SI) (J : SJ) (post : SI → SJ → Prop) (h : p_Gr_joinRow a0 p1 p2 post I J) : Met l y_Gr_joinRow WS rm_Gr_joinRow (va_Pc [.ref (Θ (38 + a0)), .int p1, .int p2] (xPR D clA (tysA κ) 52 Θ (eC Θ κ) sz I J)) (xQv D clA 52 Θ (eC Θ κ) sz post) 0 0 (xA 52 Θ sz) := by
  refine xMet (cc := b_Gr_joinRow) (maxL := 3) (ret := none) (by decide) q_Gr_joinRow.1 ?_
  intro p e s m args below meth c s₁ B hml hv
  obtain ⟨hargs, hsz, hP, hK, hN, hG⟩ := hv
  have hx := B.exec
  have hb := B.bytes
  have hr := B.returns
  have hlocks := B.notSynchronized
  have hts := atoms_spec (ws := WS) B.pre
  have hown : s.vm.findClass R_Gr = some m.cls := findClass_of_methodNamed B.named
  have C : xC p m c b_Gr_joinRow 3 s args R_Gr D clA (tysA κ) 52 Θ sz := ⟨⟨hx, hb, hml, hown, hts⟩, hK, hN, hG, hsz⟩
  have hS : va_S (xA 52 Θ sz) s.heap s.heap [] := va_S.rf
  have hE := lg_entry_eq m [.ref (Θ (38 + a0)), .int p1, .int p2] 3
  rw [← hargs] at hE
  rw [hE]
  have hl := lv_entry [.ref (Θ (38 + a0)), .int p1, .int p2] (n := 3) (Nat.le_of_ble_eq_true rfl)
  generalize (lg_sl [.ref (Θ (38 + a0)), .int p1, .int p2] ++ List.replicate (3 - (lg_sl [.ref (Θ (38 + a0)), .int p1, .int p2]).length) Slot.unset).toArray = ls at hl ⊢
  have hl : lv_has ls 3 [(0, .ref (Θ (38 + a0))), (1, .int p1), (2, .int p2)] := hl
  unfold p_Gr_joinRow at h
  refine lv_aload_n hx hb d_Gr_joinRow_0 rfl (lv_at hl 0 rfl) ?_
  refine gfC_Gr_22 C hP h_a0 d_Gr_joinRow_1 ?_
  refine lv_iload_n hx hb d_Gr_joinRow_4 rfl (lv_at hl 1 rfl) ?_
  refine lv_icmp_eq hx hb d_Gr_joinRow_5 (tgt := 49) rfl (fun hc9 => ?_) (fun hc9 => ?_)
  · have h := h.1 hc9
    exact x_vret hx hb hr hlocks hP hS h d_Gr_joinRow_49
  · have h := h.2 hc9
    refine lv_aload_n hx hb d_Gr_joinRow_8 rfl (lv_at hl 0 rfl) ?_
    refine gfC_Gr_28 C hP h_a0 d_Gr_joinRow_9 ?_
    refine lv_bipush (v := (6 : Int32)) hx hb d_Gr_joinRow_12 (by decide) ?_
    refine lv_icmp_ge hx hb d_Gr_joinRow_14 (tgt := 49) rfl (fun hc8 => ?_) (fun hc8 => ?_)
    · have h := h.1 hc8
      exact x_vret hx hb hr hlocks hP hS h d_Gr_joinRow_49
    · have h := h.2 hc8
      refine lv_aload_n hx hb d_Gr_joinRow_17 rfl (lv_at hl 0 rfl) ?_
      refine lv_iload_n hx hb d_Gr_joinRow_18 rfl (lv_at hl 1 rfl) ?_
      refine x_gi (x_V C hP hS (xlt h_a0 rfl) ((eC_Gr h_a0) _ _) rfl (c_Gr_isInRow l D κ hΘ sz a0 h_a0 p1 I J _ h) q_Gr_isInRow k_637 sel_Gr_isInRow k_635 rfl rfl ⟨Nat.le_of_ble_eq_true rfl, Nat.le_of_ble_eq_true rfl⟩ rfl hl.1 rfl (Nat.le_of_ble_eq_true rfl) d_Gr_joinRow_19) hS (fun r3 I1 J2 h H locs hP hS => ?_)
      refine lv_if_ne hx hb d_Gr_joinRow_22 (tgt := 49) rfl (fun hc7 => ?_) (fun hc7 => ?_)
      · have h := h.1 hc7
        exact x_vret hx hb hr hlocks hP hS h d_Gr_joinRow_49
      · have h := h.2 hc7
        refine lv_aload_n hx hb d_Gr_joinRow_25 rfl (lv_at hl 0 rfl) ?_
        refine gfC_Gr_9 C hP h_a0 d_Gr_joinRow_26 ?_
        refine lv_aload_n hx hb d_Gr_joinRow_29 rfl (lv_at hl 0 rfl) ?_
        refine gfC_Gr_28 C hP h_a0 d_Gr_joinRow_30 ?_
        refine lv_iconst (v := (4 : Int32)) hx hb d_Gr_joinRow_33 (by decide) ?_
        refine lv_iload_n hx hb d_Gr_joinRow_34 rfl (lv_at hl 1 rfl) ?_
        refine lv_imul hx hb d_Gr_joinRow_35 ?_
        refine lv_iload_n hx hb d_Gr_joinRow_36 rfl (lv_at hl 2 rfl) ?_
        refine lv_iadd hx hb d_Gr_joinRow_37 ?_
        obtain ⟨j4, ej4, h_j4, h⟩ := h
        refine x_iast hx hb hK hΘ hP hS (42 + a0) 0 (xlt h_a0 rfl) (eC_row h_a0) rfl ej4 h_j4 (by decide) d_Gr_joinRow_38 (fun H locs hP hS => ?_)
        obtain ⟨I5, eI5⟩ : ∃ y, y = xu I1 (42 + a0) j4 (((4 : Int32) * p1) + p2) := ⟨_, rfl⟩
        have hP : va_P D clA (xw 52 Θ (eC Θ κ) I5 J2) H := by rw [eI5]; exact hP
        have h := h I5 eI5
        refine lv_aload_n hx hb d_Gr_joinRow_39 rfl (lv_at hl 0 rfl) ?_
        refine lv_dup hx hb d_Gr_joinRow_40 rfl ?_
        refine gfC_Gr_28 C hP h_a0 d_Gr_joinRow_41 ?_
        refine lv_iconst (v := (1 : Int32)) hx hb d_Gr_joinRow_44 (by decide) ?_
        refine lv_iadd hx hb d_Gr_joinRow_45 ?_
        refine pfC_Gr_28 C hΘ hP hS h_a0 d_Gr_joinRow_46 (fun H locs hP hS => ?_)
        obtain ⟨I6, eI6⟩ : ∃ y, y = xu I5 (38 + a0) 1 ((I5 (38 + a0) 1) + (1 : Int32)) := ⟨_, rfl⟩
        have hP : va_P D clA (xw 52 Θ (eC Θ κ) I6 J2) H := by rw [eI6]; exact hP
        have h := h I6 eI6
        exact x_vret hx hb hr hlocks hP hS h d_Gr_joinRow_49
set_option maxHeartbeats 4000000 in
set_option maxRecDepth 100000 in
theorem c_Gr_firstOfHighest (l : Launch) (D : va_G) (κ : Nat → ClassId) {Θ : Nat → Nat} (hΘ : xJ 52 Θ) (sz : Nat) (a0 : Nat) (h_a0 : a0 < 4) (I : SI) (J : SJ) (post : Int32 → SI → SJ → Prop) (h : p_Gr_firstOfHighest a0 post I J) : Met l y_Gr_firstOfHighest WS rm_Gr_firstOfHighest (va_Pc [.ref (Θ (38 + a0))] (xPR D clA (tysA κ) 52 Θ (eC Θ κ) sz I J)) (xQi D clA 52 Θ (eC Θ κ) sz post) 0 0 (xA 52 Θ sz) := by
  refine xMet (cc := b_Gr_firstOfHighest) (maxL := 3) (ret := (some .int)) (by decide) q_Gr_firstOfHighest.1 ?_
  intro p e s m args below meth c s₁ B hml hv
  obtain ⟨hargs, hsz, hP, hK, hN, hG⟩ := hv
  have hx := B.exec
  have hb := B.bytes
  have hr := B.returns
  have hlocks := B.notSynchronized
  have hts := atoms_spec (ws := WS) B.pre
  have hown : s.vm.findClass R_Gr = some m.cls := findClass_of_methodNamed B.named
  have C : xC p m c b_Gr_firstOfHighest 3 s args R_Gr D clA (tysA κ) 52 Θ sz := ⟨⟨hx, hb, hml, hown, hts⟩, hK, hN, hG, hsz⟩
  have hS : va_S (xA 52 Θ sz) s.heap s.heap [] := va_S.rf
  have tJ33 : ∀ (k4 : Int32 → Int32 → SI → SJ → Prop), (∀ (v1 : Int32) (v2 : Int32) (I : SI) (J : SJ), k4 v1 v2 I J → ∀ (H : Heap) (locs : List Loc) (ls : Array Slot), lv_has ls 3 [(0, .ref (Θ (38 + a0))), (1, .int v1), (2, .int v2)] → va_P D clA (xw 52 Θ (eC Θ κ) I J) H → va_S (xA 52 Θ sz) s.heap H locs → W p l e (headSpec WS rm_Gr_firstOfHighest).room s m args below meth c H locs 0 0 (MQ below (xQi D clA 52 Θ (eC Θ κ) sz post) args s 0 0 (xA 52 Θ sz)) (F0 m 4 ls [])) → ∀ (v1 : Int32) (v2 : Int32) (I : SI) (J : SJ), p_Gr_firstOfHighest_33 a0 post k4 v1 v2 I J → ∀ (H : Heap) (locs : List Loc) (ls : Array Slot), lv_has ls 3 [(0, .ref (Θ (38 + a0))), (1, .int v1), (2, .int v2)] → va_P D clA (xw 52 Θ (eC Θ κ) I J) H → va_S (xA 52 Θ sz) s.heap H locs → W p l e (headSpec WS rm_Gr_firstOfHighest).room s m args below meth c H locs 0 0 (MQ below (xQi D clA 52 Θ (eC Θ κ) sz post) args s 0 0 (xA 52 Θ sz)) (F0 m 33 ls []) := by
    intro k4 hk4 v1 v2 I J h H locs ls hl hP hS
    unfold p_Gr_firstOfHighest_33 at h
    obtain ⟨x5, ex5⟩ : ∃ y : Int32, y = v2 + (1 : Int32) := ⟨_, rfl⟩
    have h := h x5 ex5
    refine lv_iinc (k := 2) (v := x5) hx hb d_Gr_firstOfHighest_33 hl rfl (by rw [ex5]; rfl) (Nat.le_of_ble_eq_true rfl) (lv' := [(2, .int x5), (0, .ref (Θ (38 + a0))), (1, .int v1)]) rfl (fun ls hl => ?_)
    refine lv_goto hx hb d_Gr_firstOfHighest_36 (tgt := 4) rfl ?_
    exact hk4 _ _ _ _ h _ _ _ (lv_sub hl [1, 2, 0] rfl) hP hS
  have tL4 : ∀ (n : Nat) (v1 : Int32) (v2 : Int32) (I : SI) (J : SJ), p_Gr_firstOfHighest_L4 a0 post n v1 v2 I J → ∀ (H : Heap) (locs : List Loc) (ls : Array Slot), lv_has ls 3 [(0, .ref (Θ (38 + a0))), (1, .int v1), (2, .int v2)] → va_P D clA (xw 52 Θ (eC Θ κ) I J) H → va_S (xA 52 Θ sz) s.heap H locs → W p l e (headSpec WS rm_Gr_firstOfHighest).room s m args below meth c H locs 0 0 (MQ below (xQi D clA 52 Θ (eC Θ κ) sz post) args s 0 0 (xA 52 Θ sz)) (F0 m 4 ls []) := by
    intro n
    induction n with
    | zero =>
      intro v1 v2 I J h H locs ls hl hP hS
      exact h.elim
    | succ n ih =>
      intro v1 v2 I J h H locs ls hl hP hS
      unfold p_Gr_firstOfHighest_L4 at h
      refine lv_iload_n hx hb d_Gr_firstOfHighest_4 rfl (lv_at hl 2 rfl) ?_
      refine lv_aload_n hx hb d_Gr_firstOfHighest_5 rfl (lv_at hl 0 rfl) ?_
      refine gfC_Gr_28 C hP h_a0 d_Gr_firstOfHighest_6 ?_
      refine lv_icmp_ge hx hb d_Gr_firstOfHighest_9 (tgt := 39) rfl (fun hc7 => ?_) (fun hc7 => ?_)
      · have h := h.1 hc7
        refine lv_iload_n hx hb d_Gr_firstOfHighest_39 rfl (lv_at hl 1 rfl) ?_
        exact x_iret hx hb hr hlocks hP hS h d_Gr_firstOfHighest_40
      · have h := h.2 hc7
        refine lv_aload_n hx hb d_Gr_firstOfHighest_12 rfl (lv_at hl 0 rfl) ?_
        refine gfC_Gr_9 C hP h_a0 d_Gr_firstOfHighest_13 ?_
        refine lv_iload_n hx hb d_Gr_firstOfHighest_16 rfl (lv_at hl 2 rfl) ?_
        obtain ⟨j3, ej3, h_j3, h⟩ := h
        refine x_iald hx hb hK hP (42 + a0) 0 (xlt h_a0 rfl) (eC_row h_a0) rfl ej3 h_j3 (by decide) d_Gr_firstOfHighest_17 ?_
        refine lv_iconst (v := (3 : Int32)) hx hb d_Gr_firstOfHighest_18 (by decide) ?_
        refine lv_iand hx hb d_Gr_firstOfHighest_19 ?_
        refine lv_aload_n hx hb d_Gr_firstOfHighest_20 rfl (lv_at hl 0 rfl) ?_
        refine gfC_Gr_9 C hP h_a0 d_Gr_firstOfHighest_21 ?_
        refine lv_iload_n hx hb d_Gr_firstOfHighest_24 rfl (lv_at hl 1 rfl) ?_
        obtain ⟨j4, ej4, h_j4, h⟩ := h
        refine x_iald hx hb hK hP (42 + a0) 0 (xlt h_a0 rfl) (eC_row h_a0) rfl ej4 h_j4 (by decide) d_Gr_firstOfHighest_25 ?_
        refine lv_iconst (v := (3 : Int32)) hx hb d_Gr_firstOfHighest_26 (by decide) ?_
        refine lv_iand hx hb d_Gr_firstOfHighest_27 ?_
        refine lv_icmp_le hx hb d_Gr_firstOfHighest_28 (tgt := 33) rfl (fun hc6 => ?_) (fun hc6 => ?_)
        · have h := h.1 hc6
          exact tJ33 _ ih _ _ _ _ h _ _ _ (lv_sub hl [0, 1, 2] rfl) hP hS
        · have h := h.2 hc6
          refine lv_iload_n hx hb d_Gr_firstOfHighest_31 rfl (lv_at hl 2 rfl) ?_
          refine lv_istore_n hx hb d_Gr_firstOfHighest_32 rfl hl (Nat.le_of_ble_eq_true rfl) (lv' := [(1, .int v2), (0, .ref (Θ (38 + a0))), (2, .int v2)]) rfl (fun ls hl => ?_)
          exact tJ33 _ ih _ _ _ _ h _ _ _ (lv_sub hl [1, 0, 2] rfl) hP hS
  have hE := lg_entry_eq m [.ref (Θ (38 + a0))] 3
  rw [← hargs] at hE
  rw [hE]
  have hl := lv_entry [.ref (Θ (38 + a0))] (n := 3) (Nat.le_of_ble_eq_true rfl)
  generalize (lg_sl [.ref (Θ (38 + a0))] ++ List.replicate (3 - (lg_sl [.ref (Θ (38 + a0))]).length) Slot.unset).toArray = ls at hl ⊢
  have hl : lv_has ls 3 [(0, .ref (Θ (38 + a0)))] := hl
  unfold p_Gr_firstOfHighest at h
  refine lv_iconst (v := (0 : Int32)) hx hb d_Gr_firstOfHighest_0 (by decide) ?_
  refine lv_topi (fun x1 ex1 => ?_)
  have h := h x1 ex1
  refine lv_istore_n hx hb d_Gr_firstOfHighest_1 rfl hl (Nat.le_of_ble_eq_true rfl) (lv' := [(1, .int x1), (0, .ref (Θ (38 + a0)))]) rfl (fun ls hl => ?_)
  refine lv_iconst (v := (1 : Int32)) hx hb d_Gr_firstOfHighest_2 (by decide) ?_
  refine lv_topi (fun x2 ex2 => ?_)
  have h := h x2 ex2
  refine lv_istore_n hx hb d_Gr_firstOfHighest_3 rfl hl (Nat.le_of_ble_eq_true rfl) (lv' := [(2, .int x2), (1, .int x1), (0, .ref (Θ (38 + a0)))]) rfl (fun ls hl => ?_)
  obtain ⟨n8, h⟩ := h
  refine tL4 n8 _ _ _ _ h _ _ _ (lv_sub hl [2, 1, 0] rfl) hP hS
set_option maxHeartbeats 4000000 in
set_option maxRecDepth 100000 in
theorem c_Gr_giveFloor (l : Launch) (D : va_G) (κ : Nat → ClassId) {Θ : Nat → Nat} (hΘ : xJ 52 Θ) (sz : Nat) (a0 : Nat) (h_a0 : a0 < 4) (p1 : Int32) (I : SI) (J : SJ) (post : SI → SJ → Prop) (h : p_Gr_giveFloor a0 p1 post I J) : Met l y_Gr_giveFloor WS rm_Gr_giveFloor (va_Pc [.ref (Θ (38 + a0)), .int p1] (xPR D clA (tysA κ) 52 Θ (eC Θ κ) sz I J)) (xQv D clA 52 Θ (eC Θ κ) sz post) 0 0 (xA 52 Θ sz) := by
  refine xMet (cc := b_Gr_giveFloor) (maxL := 3) (ret := none) (by decide) q_Gr_giveFloor.1 ?_
  intro p e s m args below meth c s₁ B hml hv
  obtain ⟨hargs, hsz, hP, hK, hN, hG⟩ := hv
  have hx := B.exec
  have hb := B.bytes
  have hr := B.returns
  have hlocks := B.notSynchronized
  have hts := atoms_spec (ws := WS) B.pre
  have hown : s.vm.findClass R_Gr = some m.cls := findClass_of_methodNamed B.named
  have C : xC p m c b_Gr_giveFloor 3 s args R_Gr D clA (tysA κ) 52 Θ sz := ⟨⟨hx, hb, hml, hown, hts⟩, hK, hN, hG, hsz⟩
  have hS : va_S (xA 52 Θ sz) s.heap s.heap [] := va_S.rf
  have hE := lg_entry_eq m [.ref (Θ (38 + a0)), .int p1] 3
  rw [← hargs] at hE
  rw [hE]
  have hl := lv_entry [.ref (Θ (38 + a0)), .int p1] (n := 3) (Nat.le_of_ble_eq_true rfl)
  generalize (lg_sl [.ref (Θ (38 + a0)), .int p1] ++ List.replicate (3 - (lg_sl [.ref (Θ (38 + a0)), .int p1]).length) Slot.unset).toArray = ls at hl ⊢
  have hl : lv_has ls 3 [(0, .ref (Θ (38 + a0))), (1, .int p1)] := hl
  unfold p_Gr_giveFloor at h
  refine lv_aload_n hx hb d_Gr_giveFloor_0 rfl (lv_at hl 0 rfl) ?_
  refine x_gi (x_V C hP hS (xlt h_a0 rfl) ((eC_Gr h_a0) _ _) rfl (c_Gr_firstOfHighest l D κ hΘ sz a0 h_a0 I J _ h) q_Gr_firstOfHighest k_661 sel_Gr_firstOfHighest k_659 rfl rfl ⟨Nat.le_of_ble_eq_true rfl, Nat.le_of_ble_eq_true rfl⟩ rfl hl.1 rfl (Nat.le_of_ble_eq_true rfl) d_Gr_giveFloor_1) hS (fun r3 I1 J2 h H locs hP hS => ?_)
  refine lv_istore_n hx hb d_Gr_giveFloor_4 rfl hl (Nat.le_of_ble_eq_true rfl) (lv' := [(2, .int r3), (0, .ref (Θ (38 + a0))), (1, .int p1)]) rfl (fun ls hl => ?_)
  refine lv_aload_n hx hb d_Gr_giveFloor_5 rfl (lv_at hl 1 rfl) ?_
  refine lv_aload_n hx hb d_Gr_giveFloor_6 rfl (lv_at hl 1 rfl) ?_
  refine gfC_Gr_9 C hP h_a0 d_Gr_giveFloor_7 ?_
  refine lv_iload_n hx hb d_Gr_giveFloor_10 rfl (lv_at hl 0 rfl) ?_
  obtain ⟨j4, ej4, h_j4, h⟩ := h
  refine x_iald hx hb hK hP (42 + a0) 0 (xlt h_a0 rfl) (eC_row h_a0) rfl ej4 h_j4 (by decide) d_Gr_giveFloor_11 ?_
  refine lv_iconst (v := (2 : Int32)) hx hb d_Gr_giveFloor_12 (by decide) ?_
  refine lv_iushr (v := xsu (I1 (42 + a0) j4) (2 : Int32)) hx hb d_Gr_giveFloor_13 rfl ?_
  refine pfC_Gr_22 C hΘ hP hS h_a0 d_Gr_giveFloor_14 (fun H locs hP hS => ?_)
  obtain ⟨I5, eI5⟩ : ∃ y, y = xu I1 (38 + a0) 4 (xsu (I1 (42 + a0) j4) (2 : Int32)) := ⟨_, rfl⟩
  have hP : va_P D clA (xw 52 Θ (eC Θ κ) I5 J2) H := by rw [eI5]; exact hP
  have h := h I5 eI5
  refine lv_aload_n hx hb d_Gr_giveFloor_17 rfl (lv_at hl 1 rfl) ?_
  refine lv_iload_n hx hb d_Gr_giveFloor_18 rfl (lv_at hl 2 rfl) ?_
  refine pfC_Gr_25 C hΘ hP hS h_a0 d_Gr_giveFloor_19 (fun H locs hP hS => ?_)
  obtain ⟨I6, eI6⟩ : ∃ y, y = xu I5 (38 + a0) 5 p1 := ⟨_, rfl⟩
  have hP : va_P D clA (xw 52 Θ (eC Θ κ) I6 J2) H := by rw [eI6]; exact hP
  have h := h I6 eI6
  refine lv_aload_n hx hb d_Gr_giveFloor_22 rfl (lv_at hl 1 rfl) ?_
  refine lv_dup hx hb d_Gr_giveFloor_23 rfl ?_
  refine gfC_Gr_28 C hP h_a0 d_Gr_giveFloor_24 ?_
  refine lv_iconst (v := (1 : Int32)) hx hb d_Gr_giveFloor_27 (by decide) ?_
  refine lv_isub hx hb d_Gr_giveFloor_28 ?_
  refine pfC_Gr_28 C hΘ hP hS h_a0 d_Gr_giveFloor_29 (fun H locs hP hS => ?_)
  obtain ⟨I7, eI7⟩ : ∃ y, y = xu I6 (38 + a0) 1 ((I6 (38 + a0) 1) - (1 : Int32)) := ⟨_, rfl⟩
  have hP : va_P D clA (xw 52 Θ (eC Θ κ) I7 J2) H := by rw [eI7]; exact hP
  have h := h I7 eI7
  refine lv_aload_n hx hb d_Gr_giveFloor_32 rfl (lv_at hl 1 rfl) ?_
  refine gfC_Gr_9 C hP h_a0 d_Gr_giveFloor_33 ?_
  refine lv_iload_n hx hb d_Gr_giveFloor_36 rfl (lv_at hl 0 rfl) ?_
  refine lv_iconst (v := (1 : Int32)) hx hb d_Gr_giveFloor_37 (by decide) ?_
  refine lv_iadd hx hb d_Gr_giveFloor_38 ?_
  refine lv_aload_n hx hb d_Gr_giveFloor_39 rfl (lv_at hl 1 rfl) ?_
  refine gfC_Gr_9 C hP h_a0 d_Gr_giveFloor_40 ?_
  refine lv_iload_n hx hb d_Gr_giveFloor_43 rfl (lv_at hl 0 rfl) ?_
  refine lv_aload_n hx hb d_Gr_giveFloor_44 rfl (lv_at hl 1 rfl) ?_
  refine gfC_Gr_28 C hP h_a0 d_Gr_giveFloor_45 ?_
  refine lv_iload_n hx hb d_Gr_giveFloor_48 rfl (lv_at hl 0 rfl) ?_
  refine lv_isub hx hb d_Gr_giveFloor_49 ?_
  obtain ⟨j8, j9, j10, ej8, ej9, ej10, h_j8, h_j9, h⟩ := h
  refine x_copy C hΘ hP hS (42 + a0) (xlt h_a0 rfl) (eC_row h_a0) rfl ej8 ej9 ej10 h_j8 h_j9 (by decide) hl.1 k_663 (Nat.le_of_ble_eq_true rfl) (Nat.le_of_ble_eq_true rfl) d_Gr_giveFloor_50 (fun H locs hP hS => ?_)
  obtain ⟨I11, eI11⟩ : ∃ y, y = xr I7 (42 + a0) (va_cpy (I7 (42 + a0)) (I7 (42 + a0)) j8 j9 j10) := ⟨_, rfl⟩
  have hP : va_P D clA (xw 52 Θ (eC Θ κ) I11 J2) H := by rw [eI11]; exact hP
  have h := h I11 eI11
  exact x_vret hx hb hr hlocks hP hS h d_Gr_giveFloor_53
set_option maxHeartbeats 4000000 in
set_option maxRecDepth 100000 in
theorem c_Gr_rowAt (l : Launch) (D : va_G) (κ : Nat → ClassId) {Θ : Nat → Nat} (hΘ : xJ 52 Θ) (sz : Nat) (a0 : Nat) (h_a0 : a0 < 4) (p1 : Int32) (I : SI) (J : SJ) (post : Int32 → SI → SJ → Prop) (h : p_Gr_rowAt a0 p1 post I J) : Met l y_Gr_rowAt WS rm_Gr_rowAt (va_Pc [.ref (Θ (38 + a0)), .int p1] (xPR D clA (tysA κ) 52 Θ (eC Θ κ) sz I J)) (xQi D clA 52 Θ (eC Θ κ) sz post) 0 0 (xA 52 Θ sz) := by
  refine xMet (cc := b_Gr_rowAt) (maxL := 2) (ret := (some .int)) (by decide) q_Gr_rowAt.1 ?_
  intro p e s m args below meth c s₁ B hml hv
  obtain ⟨hargs, hsz, hP, hK, hN, hG⟩ := hv
  have hx := B.exec
  have hb := B.bytes
  have hr := B.returns
  have hlocks := B.notSynchronized
  have hts := atoms_spec (ws := WS) B.pre
  have hown : s.vm.findClass R_Gr = some m.cls := findClass_of_methodNamed B.named
  have C : xC p m c b_Gr_rowAt 2 s args R_Gr D clA (tysA κ) 52 Θ sz := ⟨⟨hx, hb, hml, hown, hts⟩, hK, hN, hG, hsz⟩
  have hS : va_S (xA 52 Θ sz) s.heap s.heap [] := va_S.rf
  have hE := lg_entry_eq m [.ref (Θ (38 + a0)), .int p1] 2
  rw [← hargs] at hE
  rw [hE]
  have hl := lv_entry [.ref (Θ (38 + a0)), .int p1] (n := 2) (Nat.le_of_ble_eq_true rfl)
  generalize (lg_sl [.ref (Θ (38 + a0)), .int p1] ++ List.replicate (2 - (lg_sl [.ref (Θ (38 + a0)), .int p1]).length) Slot.unset).toArray = ls at hl ⊢
  have hl : lv_has ls 2 [(0, .ref (Θ (38 + a0))), (1, .int p1)] := hl
  unfold p_Gr_rowAt at h
  refine lv_iload_n hx hb d_Gr_rowAt_0 rfl (lv_at hl 1 rfl) ?_
  refine lv_aload_n hx hb d_Gr_rowAt_1 rfl (lv_at hl 0 rfl) ?_
  refine gfC_Gr_28 C hP h_a0 d_Gr_rowAt_2 ?_
  refine x_gi (x_SN C hP hS (c_TC_isIndex l D κ hΘ sz p1 (I (38 + a0) 1) I J _ h) q_TC_isIndex k_239 nk_268 rfl rfl ⟨Nat.le_of_ble_eq_true rfl, Nat.le_of_ble_eq_true rfl⟩ rfl hl.1 rfl (Nat.le_of_ble_eq_true rfl) d_Gr_rowAt_5) hS (fun r3 I1 J2 h H locs hP hS => ?_)
  refine lv_if_eq hx hb d_Gr_rowAt_8 (tgt := 20) rfl (fun hc5 => ?_) (fun hc5 => ?_)
  · have h := h.1 hc5
    refine lv_iconst (v := (-1 : Int32)) hx hb d_Gr_rowAt_20 (by decide) ?_
    exact x_iret hx hb hr hlocks hP hS h d_Gr_rowAt_21
  · have h := h.2 hc5
    refine lv_aload_n hx hb d_Gr_rowAt_11 rfl (lv_at hl 0 rfl) ?_
    refine gfC_Gr_9 C hP h_a0 d_Gr_rowAt_12 ?_
    refine lv_iload_n hx hb d_Gr_rowAt_15 rfl (lv_at hl 1 rfl) ?_
    obtain ⟨j4, ej4, h_j4, h⟩ := h
    refine x_iald hx hb hK hP (42 + a0) 0 (xlt h_a0 rfl) (eC_row h_a0) rfl ej4 h_j4 (by decide) d_Gr_rowAt_16 ?_
    refine lv_goto hx hb d_Gr_rowAt_17 (tgt := 21) rfl ?_
    exact x_iret hx hb hr hlocks hP hS h d_Gr_rowAt_21
set_option maxHeartbeats 4000000 in
set_option maxRecDepth 100000 in
theorem c_Gr_tell (l : Launch) (D : va_G) (κ : Nat → ClassId) {Θ : Nat → Nat} (hΘ : xJ 52 Θ) (sz : Nat) (a0 : Nat) (h_a0 : a0 < 4) (p1 : Int32) (I : SI) (J : SJ) (post : Int32 → SI → SJ → Prop) (h : p_Gr_tell a0 p1 post I J) : Met l y_Gr_tell WS rm_Gr_tell (va_Pc [.ref (Θ (38 + a0)), .int p1] (xPR D clA (tysA κ) 52 Θ (eC Θ κ) sz I J)) (xQi D clA 52 Θ (eC Θ κ) sz post) 0 0 (xA 52 Θ sz) := by
  refine xMet (cc := b_Gr_tell) (maxL := 2) (ret := (some .int)) (by decide) q_Gr_tell.1 ?_
  intro p e s m args below meth c s₁ B hml hv
  obtain ⟨hargs, hsz, hP, hK, hN, hG⟩ := hv
  have hx := B.exec
  have hb := B.bytes
  have hr := B.returns
  have hlocks := B.notSynchronized
  have hts := atoms_spec (ws := WS) B.pre
  have hown : s.vm.findClass R_Gr = some m.cls := findClass_of_methodNamed B.named
  have C : xC p m c b_Gr_tell 2 s args R_Gr D clA (tysA κ) 52 Θ sz := ⟨⟨hx, hb, hml, hown, hts⟩, hK, hN, hG, hsz⟩
  have hS : va_S (xA 52 Θ sz) s.heap s.heap [] := va_S.rf
  have hE := lg_entry_eq m [.ref (Θ (38 + a0)), .int p1] 2
  rw [← hargs] at hE
  rw [hE]
  have hl := lv_entry [.ref (Θ (38 + a0)), .int p1] (n := 2) (Nat.le_of_ble_eq_true rfl)
  generalize (lg_sl [.ref (Θ (38 + a0)), .int p1] ++ List.replicate (2 - (lg_sl [.ref (Θ (38 + a0)), .int p1]).length) Slot.unset).toArray = ls at hl ⊢
  have hl : lv_has ls 2 [(0, .ref (Θ (38 + a0))), (1, .int p1)] := hl
  unfold p_Gr_tell at h
  refine lv_iload_n hx hb d_Gr_tell_0 rfl (lv_at hl 1 rfl) ?_
  by_cases hc1 : p1 = (0 : Int32)
  · have h := h.1 hc1
    refine lv_tableIn hx hb d_Gr_tell_1 (off := 31) (tgt := 32) (by rw [hc1]; decide) (by rw [hc1]; decide) (by rw [hc1]; decide) rfl ?_
    refine lv_aload_n hx hb d_Gr_tell_32 rfl (lv_at hl 0 rfl) ?_
    refine gfC_Gr_18 C hP h_a0 d_Gr_tell_33 ?_
    exact x_iret hx hb hr hlocks hP hS h d_Gr_tell_36
  have h := h.2 hc1
  by_cases hc2 : p1 = (1 : Int32)
  · have h := h.1 hc2
    refine lv_tableIn hx hb d_Gr_tell_1 (off := 36) (tgt := 37) (by rw [hc2]; decide) (by rw [hc2]; decide) (by rw [hc2]; decide) rfl ?_
    refine lv_aload_n hx hb d_Gr_tell_37 rfl (lv_at hl 0 rfl) ?_
    refine gfC_Gr_22 C hP h_a0 d_Gr_tell_38 ?_
    exact x_iret hx hb hr hlocks hP hS h d_Gr_tell_41
  have h := h.2 hc2
  by_cases hc3 : p1 = (2 : Int32)
  · have h := h.1 hc3
    refine lv_tableIn hx hb d_Gr_tell_1 (off := 41) (tgt := 42) (by rw [hc3]; decide) (by rw [hc3]; decide) (by rw [hc3]; decide) rfl ?_
    refine lv_aload_n hx hb d_Gr_tell_42 rfl (lv_at hl 0 rfl) ?_
    refine gfC_Gr_25 C hP h_a0 d_Gr_tell_43 ?_
    exact x_iret hx hb hr hlocks hP hS h d_Gr_tell_46
  have h := h.2 hc3
  by_cases hc4 : p1 = (3 : Int32)
  · have h := h.1 hc4
    refine lv_tableIn hx hb d_Gr_tell_1 (off := 46) (tgt := 47) (by rw [hc4]; decide) (by rw [hc4]; decide) (by rw [hc4]; decide) rfl ?_
    refine lv_aload_n hx hb d_Gr_tell_47 rfl (lv_at hl 0 rfl) ?_
    refine gfC_Gr_28 C hP h_a0 d_Gr_tell_48 ?_
    exact x_iret hx hb hr hlocks hP hS h d_Gr_tell_51
  have h := h.2 hc4
  refine lv_tableOut hx hb d_Gr_tell_1 (tgt := 52) (by have hq : ∀ k : Int32, ¬ p1 = k → ¬ (p1).toInt = k.toInt := fun k hk e => hk (Int32.toInt_inj.mp e); have q0 := hq _ hc1; have q1 := hq _ hc2; have q2 := hq _ hc3; have q3 := hq _ hc4; rw [show ((0 : Int32)).toInt = 0 from rfl] at q0; rw [show ((1 : Int32)).toInt = 1 from rfl] at q1; rw [show ((2 : Int32)).toInt = 2 from rfl] at q2; rw [show ((3 : Int32)).toInt = 3 from rfl] at q3; omega) rfl ?_
  refine lv_iconst (v := (-1 : Int32)) hx hb d_Gr_tell_52 (by decide) ?_
  exact x_iret hx hb hr hlocks hP hS h d_Gr_tell_53
