/-! the law's loop, and the law from its entry -/
def R_law : String := "TrunkCellsLaw"
def lw_P (b : Addr) (xs : List Int32) (args : Array Value) (s : State) : Prop := args = #[.ref b] ∧ s.IntsAt b xs ∧ xs.length ≤ 2048 ∧ (Jvm.Cond.and given_1 narrow_1).before args s = true
def lw_Q (_ : Array Value) (s : State) (o : Outcome) (t : State) : Prop := o = .returned (some (.int 1)) ∧ Framed s o t [] 601024 7293034
def lw_Z (below : List Frame) (a : Array Value) (s : State) : State → Prop := fun t => ∃ o, t.status = .running ∧ Ended t below o ∧ lw_Q a s o t
/-- the law's own end, with 1 on the stack, nothing written that was there before, its room as the claim has it -/
theorem lw_ret {p : Program} {l : Launch} {e : Env} {s : State} {m : MethodId} {below : List Frame} {meth : Method} {c : Code} {b : Nat} (hx : p.tables.exec = Jvm.exec) (hb : c.code = code) (hr : meth.sig.returnType = ret) (hlocks : meth.locks = false) {pc : Nat} {H : Heap} {ls : Array Slot} (hdg : decode code pc = .ok (.ireturn, 1)) : W p l e room_1 s m #[Value.ref b] below meth c H [] 601024 7293034 (lw_Z below #[Value.ref b] s) (F0 m pc ls [.int 1]) := by
  intro T hT X
  obtain ⟨fs, hret, hrun, hended, hW, hframe⟩ := X.leave (v := some (.int 1)) (hlocks := hlocks) (fun h => by rw [hr] at h; cases h)
  have hmeth' : T.vm.method? m = some meth := X.method'
  refine ⟨T.setFrames fs, ?_, .returned (some (.int 1)), hrun, hended, rfl, ⟨_, rfl⟩, hW, hframe⟩
  jvm_step X.here [X.here.top, hx, hb, hdg, hmeth', hr, ret, narrow_b1]
  (try refine ⟨rfl, ?_⟩); (try refine ⟨rfl, ?_⟩)
  first | (intro acts; rw [hret _ acts rfl rfl rfl]) | rw [hret _ _ rfl rfl rfl]
  exact Steps.refl _
/-- what holds at the law's entry: the machine, the code, the tables' words (any of lw_tbl by 'hts w (by decide +kernel)'), the script of L ints xs at the cell b, what the Statement gives of the start (any of its parts by flat_of_before) -/
def lw_At (p : Program) (s : State) (m : MethodId) (meth : Method) (c : Code) (b L : Nat) (xs : Nat → Int32) : Prop :=
  p.tables.exec = Jvm.exec ∧ c.code = code ∧ meth.sig.returnType = ret ∧ c.maxLocals = 7 ∧ s.vm.findClass R_law = some m.cls ∧ (∀ w ∈ lw_tbl, w.before #[Value.ref b] s = true) ∧ va_X b L xs s s.heap ∧ b < s.heap.size ∧ meth.locks = false ∧ (Jvm.Cond.and given_1 narrow_1).before #[Value.ref b] s = true
section LL
variable {p : Program} {l : Launch} {e : Env} {s : State} {m : MethodId} {below : List Frame} {meth : Method} {c : Code} {b L : Nat} {xs : Nat → Int32} {D : va_G} {κ : Nat → ClassId} {ao i cells slots : Nat} {Θ Φ : Nat → Nat} {Q : State → Prop}
theorem lw_end (C0 : lwC p l s m c b L xs D κ) (hr : meth.sig.returnType = ret) (hlocks : meth.locks = false) (h1 : cells ≤ 601024) (h2 : slots ≤ 7293034) : lwN p l e s m below meth c b D κ Θ Φ ao i cells slots (lw_Z below #[Value.ref b] s) 1086 := by
  intro f I J A B H locs ls hI hP hD hS hl
  obtain ⟨C, hT, hfl, hX, hbl, hL⟩ := C0
  have hx := C.1.1
  have hb := C.1.2.1
  refine lv_iconst (v := (1 : Int32)) hx hb d_law_1086 (by decide) ?_
  refine W.widen (k := 601024) (n := 7293034) h1 h2 ?_
  refine va_forget (fun q hq => hS.2.2 q hq) ?_
  exact lw_ret hx hb hr hlocks d_law_1087
theorem lw_next (C0 : lwC p l s m c b L xs D κ) (k : lwN p l e s m below meth c b D κ Θ Φ ao (i + 4) cells slots Q 23) : lwN p l e s m below meth c b D κ Θ Φ ao i cells slots Q 1080 := by
  intro f I J A B H locs ls hI hP hD hS hl
  obtain ⟨C, hT, hfl, hX, hbl, hL⟩ := C0
  have hx := C.1.1
  have hb := C.1.2.1
  refine lv_iinc (k := 0) (v := nI (i + 4)) hx hb d_law_1080 hl rfl (by rw [show Int32.ofInt 4 = nI 4 from by decide]; exact nI_add i 4) (Nat.le_of_ble_eq_true rfl) (lv' := lwL b Θ Φ ao (i + 4)) rfl (fun ls hl => ?_)
  refine lv_goto hx hb d_law_1083 (tgt := 23) rfl ?_
  exact k f I J A B _ _ ls hI hP hD hS hl
set_option maxHeartbeats 1000000 in
theorem lw_head (C0 : lwC p l s m c b L xs D κ) (hi : i ≤ L) (ke : lwN p l e s m below meth c b D κ Θ Φ ao i cells slots Q 1086) (kt : i + 4 ≤ L → ∀ pc ∈ ([128, 188, 236, 284, 332, 368, 428, 464, 524, 572, 620, 700, 756, 793, 830, 867, 904, 942, 1011, 1080] : List Nat), lwN p l e s m below meth c b D κ Θ Φ ao i cells slots Q pc) : lwN p l e s m below meth c b D κ Θ Φ ao i cells slots Q 23 := by
  intro f I J A B H locs ls hI hP hD hS hl
  obtain ⟨C, hT, hfl, hX, hbl, hL⟩ := C0
  have hx := C.1.1
  have hb := C.1.2.1
  refine lv_iload hx hb d_law_23 (lv_at hl 0 rfl) ?_
  refine lv_aload_n hx hb d_law_25 rfl (lv_at hl 4 rfl) ?_
  refine va_slen hx hb hX hbl (A := Aw s) (fun h => by have h' : s.heap.size ≤ b := h; omega) hS d_law_26 ?_
  refine lv_iconst (v := nI 4) hx hb d_law_27 (by decide) ?_
  refine lv_isub hx hb d_law_28 ?_
  refine lv_icmp_gt hx hb d_law_29 (tgt := 1086) rfl (fun _ => ke f I J A B _ _ ls hI hP hD hS hl) (fun hn => ?_)
  have h4 : i + 4 ≤ L := by
    rw [Int32.lt_iff_toInt_lt] at hn
    have e1 : (Int32.ofNat L - nI 4).toInt = (L : Int) - 4 := pk_sub_toInt (a := L) (b := 4) (by omega) (by decide)
    rw [e1, nI_toInt (by omega)] at hn
    omega
  refine lv_aload_n hx hb d_law_32 rfl (lv_at hl 4 rfl) ?_
  refine lv_iload hx hb d_law_33 (lv_at hl 0 rfl) ?_
  refine y_sld (k := 0) hx hb hX hbl hS (by omega) hL rfl d_law_35 ?_
  refine lv_bipush (v := (31 : Int32)) hx hb d_law_36 (by decide) ?_
  refine lv_iand hx hb d_law_38 ?_
  obtain ⟨t, ht, e⟩ := pk_andE (xs (i + 0)) (m := 31) 5 (by decide)
  rw [e]
  by_cases h19 : t < 19
  · rcases (show t = 0 ∨ t = 1 ∨ t = 2 ∨ t = 3 ∨ t = 4 ∨ t = 5 ∨ t = 6 ∨ t = 7 ∨ t = 8 ∨ t = 9 ∨ t = 10 ∨ t = 11 ∨ t = 12 ∨ t = 13 ∨ t = 14 ∨ t = 15 ∨ t = 16 ∨ t = 17 ∨ t = 18 by omega) with rfl | rfl | rfl | rfl | rfl | rfl | rfl | rfl | rfl | rfl | rfl | rfl | rfl | rfl | rfl | rfl | rfl | rfl | rfl
    · exact lv_tableIn hx hb d_law_39 (tgt := 128) (off := 89) (by decide) (by decide) rfl rfl (kt h4 128 (by decide) f I J A B _ _ ls hI hP hD hS hl)
    · exact lv_tableIn hx hb d_law_39 (tgt := 188) (off := 149) (by decide) (by decide) rfl rfl (kt h4 188 (by decide) f I J A B _ _ ls hI hP hD hS hl)
    · exact lv_tableIn hx hb d_law_39 (tgt := 236) (off := 197) (by decide) (by decide) rfl rfl (kt h4 236 (by decide) f I J A B _ _ ls hI hP hD hS hl)
    · exact lv_tableIn hx hb d_law_39 (tgt := 284) (off := 245) (by decide) (by decide) rfl rfl (kt h4 284 (by decide) f I J A B _ _ ls hI hP hD hS hl)
    · exact lv_tableIn hx hb d_law_39 (tgt := 332) (off := 293) (by decide) (by decide) rfl rfl (kt h4 332 (by decide) f I J A B _ _ ls hI hP hD hS hl)
    · exact lv_tableIn hx hb d_law_39 (tgt := 368) (off := 329) (by decide) (by decide) rfl rfl (kt h4 368 (by decide) f I J A B _ _ ls hI hP hD hS hl)
    · exact lv_tableIn hx hb d_law_39 (tgt := 428) (off := 389) (by decide) (by decide) rfl rfl (kt h4 428 (by decide) f I J A B _ _ ls hI hP hD hS hl)
    · exact lv_tableIn hx hb d_law_39 (tgt := 464) (off := 425) (by decide) (by decide) rfl rfl (kt h4 464 (by decide) f I J A B _ _ ls hI hP hD hS hl)
    · exact lv_tableIn hx hb d_law_39 (tgt := 524) (off := 485) (by decide) (by decide) rfl rfl (kt h4 524 (by decide) f I J A B _ _ ls hI hP hD hS hl)
    · exact lv_tableIn hx hb d_law_39 (tgt := 572) (off := 533) (by decide) (by decide) rfl rfl (kt h4 572 (by decide) f I J A B _ _ ls hI hP hD hS hl)
    · exact lv_tableIn hx hb d_law_39 (tgt := 620) (off := 581) (by decide) (by decide) rfl rfl (kt h4 620 (by decide) f I J A B _ _ ls hI hP hD hS hl)
    · exact lv_tableIn hx hb d_law_39 (tgt := 700) (off := 661) (by decide) (by decide) rfl rfl (kt h4 700 (by decide) f I J A B _ _ ls hI hP hD hS hl)
    · exact lv_tableIn hx hb d_law_39 (tgt := 756) (off := 717) (by decide) (by decide) rfl rfl (kt h4 756 (by decide) f I J A B _ _ ls hI hP hD hS hl)
    · exact lv_tableIn hx hb d_law_39 (tgt := 793) (off := 754) (by decide) (by decide) rfl rfl (kt h4 793 (by decide) f I J A B _ _ ls hI hP hD hS hl)
    · exact lv_tableIn hx hb d_law_39 (tgt := 830) (off := 791) (by decide) (by decide) rfl rfl (kt h4 830 (by decide) f I J A B _ _ ls hI hP hD hS hl)
    · exact lv_tableIn hx hb d_law_39 (tgt := 867) (off := 828) (by decide) (by decide) rfl rfl (kt h4 867 (by decide) f I J A B _ _ ls hI hP hD hS hl)
    · exact lv_tableIn hx hb d_law_39 (tgt := 904) (off := 865) (by decide) (by decide) rfl rfl (kt h4 904 (by decide) f I J A B _ _ ls hI hP hD hS hl)
    · exact lv_tableIn hx hb d_law_39 (tgt := 942) (off := 903) (by decide) (by decide) rfl rfl (kt h4 942 (by decide) f I J A B _ _ ls hI hP hD hS hl)
    · exact lv_tableIn hx hb d_law_39 (tgt := 1011) (off := 972) (by decide) (by decide) rfl rfl (kt h4 1011 (by decide) f I J A B _ _ ls hI hP hD hS hl)
  · refine lv_tableOut hx hb d_law_39 (tgt := 1080) (Or.inr ?_) rfl (kt h4 1080 (by decide) f I J A B _ _ ls hI hP hD hS hl)
    rw [nI_toInt (by omega)]
    omega
set_option maxHeartbeats 1000000 in
theorem lw_loop (C0 : lwC p l s m c b L xs D κ) (hr : meth.sig.returnType = ret) (hlocks : meth.locks = false) : ∀ (n i cells slots : Nat), L ≤ i + 4 * n → i ≤ L → cells + n ≤ 601024 → slots + 6 * n ≤ 7293034 → lwN p l e s m below meth c b D κ Θ Φ ao i cells slots (lw_Z below #[Value.ref b] s) 23 := by
  intro n
  induction n with
  | zero =>
    intro i cells slots h1 h2 h3 h4
    exact lw_head C0 h2 (lw_end C0 hr hlocks (by omega) (by omega)) (fun h => by omega)
  | succ n ih =>
    intro i cells slots h1 h2 h3 h4
    refine lw_head C0 h2 (lw_end C0 hr hlocks (by omega) (by omega)) (fun hi pc hpc => ?_)
    have nx : lwN p l e s m below meth c b D κ Θ Φ ao i (cells + 1) (slots + 6) (lw_Z below #[Value.ref b] s) 1080 := lw_next C0 (ih (i + 4) (cells + 1) (slots + 6) (by omega) hi (by omega) (by omega))
    have hc : cells + 1 ≤ room_1.cells ∧ slots + 6 ≤ room_1.slots := ⟨by show _ ≤ 601024; omega, by show _ ≤ 7293034; omega⟩
    simp only [List.mem_cons, List.not_mem_nil, or_false] at hpc
    rcases hpc with rfl | rfl | rfl | rfl | rfl | rfl | rfl | rfl | rfl | rfl | rfl | rfl | rfl | rfl | rfl | rfl | rfl | rfl | rfl | rfl
    · exact lw_keys C0 hi hc nx
    · exact lw_group C0 hi hc nx
    · exact lw_member C0 hi hc nx
    · exact lw_move C0 hi hc nx
    · exact lw_register C0 hi hc nx
    · exact lw_press C0 hi hc nx
    · exact lw_release C0 hi hc nx
    · exact lw_send C0 hi hc nx
    · exact lw_speak C0 hi hc nx
    · exact lw_draw C0 hi hc nx
    · exact lw_fault C0 hi hc nx
    · exact lw_tick C0 hi hc nx
    · exact lw_mobile C0 hi hc nx
    · exact lw_call C0 hi hc nx
    · exact lw_waiting C0 hi hc nx
    · exact lw_saying C0 hi hc nx
    · exact lw_coded C0 hi hc nx
    · exact lw_decoded C0 hi hc nx
    · exact lw_distance C0 hi hc nx
    · exact fun f I J A B H locs ls hI hP hD hS hl => W.widen (k := cells + 1) (n := slots + 6) (by omega) (by omega) (nx f I J A B H locs ls hI hP hD hS hl)
end LL
