section XHR
variable {p : Program} {l : Launch} {e : Env} {R : Room} {s : State} {m : MethodId} {args : Array Value} {below : List Frame} {meth : Method} {c : Code} {H : Heap} {locs : List Loc} {cc : ByteArray} {pc : Nat} {ls : Array Slot} {D : va_G} {cl : List vw_C} {n sz : Nat} {Θ : Nat → Nat} {X : EE} {I : SI} {J : SJ}
theorem x_hret {v : Int32} {post : Int32 → SI → SJ → Prop} (hx : p.tables.exec = Jvm.exec) (hb : c.code = cc) (hr : meth.sig.returnType = some .int) (hlocks : meth.locks = false) (hP : va_P D cl (xw n Θ X I J) H) (hS : va_S (xA n Θ sz) s.heap H locs) (h : post v I J) (hdg : decode cc pc = .ok (.ireturn, 1)) : W p l e R s m args below meth c H locs 1 6 (MQ below (xQi D cl n Θ X sz post) args s 1 6 (xA n Θ sz)) (F0 m pc ls [.int v]) :=
  W.iret (v := v) hx hb hr (fun t ht hW => ⟨⟨v, (I, J), rfl, h, by show va_P D cl (xw n Θ X I J) t.heap; rw [ht]; exact hP⟩, hS.F ht⟩) hS.2.2 hdg hlocks
end XHR
theorem d_Lw_keys_0 : decode b_Lw_keys 0 = .ok (.aload_n 0, 1) := by decide +kernel
theorem d_Lw_keys_1 : decode b_Lw_keys 1 = .ok (.iload_n 1, 1) := by decide +kernel
theorem d_Lw_keys_2 : decode b_Lw_keys 2 = .ok (.iload_n 2, 1) := by decide +kernel
theorem d_Lw_keys_3 : decode b_Lw_keys 3 = .ok (.iload_n 3, 1) := by decide +kernel
theorem d_Lw_keys_4 : decode b_Lw_keys 4 = .ok (.invokevirtual 7, 3) := by decide +kernel
theorem d_Lw_keys_7 : decode b_Lw_keys 7 = .ok (.goto (7), 3) := by decide +kernel
theorem d_Lw_keys_10 : decode b_Lw_keys 10 = .ok (.astore 4, 2) := by decide +kernel
theorem d_Lw_keys_12 : decode b_Lw_keys 12 = .ok (.iconst (1), 1) := by decide +kernel
theorem d_Lw_keys_13 : decode b_Lw_keys 13 = .ok (.ireturn, 1) := by decide +kernel
theorem d_Lw_keys_14 : decode b_Lw_keys 14 = .ok (.iconst (0), 1) := by decide +kernel
theorem d_Lw_keys_15 : decode b_Lw_keys 15 = .ok (.ireturn, 1) := by decide +kernel
theorem d_Lw_group_0 : decode b_Lw_group 0 = .ok (.aload_n 0, 1) := by decide +kernel
theorem d_Lw_group_1 : decode b_Lw_group 1 = .ok (.iload_n 1, 1) := by decide +kernel
theorem d_Lw_group_2 : decode b_Lw_group 2 = .ok (.iload_n 2, 1) := by decide +kernel
theorem d_Lw_group_3 : decode b_Lw_group 3 = .ok (.invokevirtual 15, 3) := by decide +kernel
theorem d_Lw_group_6 : decode b_Lw_group 6 = .ok (.goto (6), 3) := by decide +kernel
theorem d_Lw_group_9 : decode b_Lw_group 9 = .ok (.astore_n 3, 1) := by decide +kernel
theorem d_Lw_group_10 : decode b_Lw_group 10 = .ok (.iconst (1), 1) := by decide +kernel
theorem d_Lw_group_11 : decode b_Lw_group 11 = .ok (.ireturn, 1) := by decide +kernel
theorem d_Lw_group_12 : decode b_Lw_group 12 = .ok (.iconst (0), 1) := by decide +kernel
theorem d_Lw_group_13 : decode b_Lw_group 13 = .ok (.ireturn, 1) := by decide +kernel
theorem d_Lw_member_0 : decode b_Lw_member 0 = .ok (.aload_n 0, 1) := by decide +kernel
theorem d_Lw_member_1 : decode b_Lw_member 1 = .ok (.iload_n 1, 1) := by decide +kernel
theorem d_Lw_member_2 : decode b_Lw_member 2 = .ok (.iload_n 2, 1) := by decide +kernel
theorem d_Lw_member_3 : decode b_Lw_member 3 = .ok (.invokevirtual 19, 3) := by decide +kernel
theorem d_Lw_member_6 : decode b_Lw_member 6 = .ok (.goto (6), 3) := by decide +kernel
theorem d_Lw_member_9 : decode b_Lw_member 9 = .ok (.astore_n 3, 1) := by decide +kernel
theorem d_Lw_member_10 : decode b_Lw_member 10 = .ok (.iconst (1), 1) := by decide +kernel
theorem d_Lw_member_11 : decode b_Lw_member 11 = .ok (.ireturn, 1) := by decide +kernel
theorem d_Lw_member_12 : decode b_Lw_member 12 = .ok (.iconst (0), 1) := by decide +kernel
theorem d_Lw_member_13 : decode b_Lw_member 13 = .ok (.ireturn, 1) := by decide +kernel
theorem d_Lw_move_0 : decode b_Lw_move 0 = .ok (.aload_n 0, 1) := by decide +kernel
theorem d_Lw_move_1 : decode b_Lw_move 1 = .ok (.iload_n 1, 1) := by decide +kernel
theorem d_Lw_move_2 : decode b_Lw_move 2 = .ok (.iload_n 2, 1) := by decide +kernel
theorem d_Lw_move_3 : decode b_Lw_move 3 = .ok (.invokevirtual 22, 3) := by decide +kernel
theorem d_Lw_move_6 : decode b_Lw_move 6 = .ok (.goto (6), 3) := by decide +kernel
theorem d_Lw_move_9 : decode b_Lw_move 9 = .ok (.astore_n 3, 1) := by decide +kernel
theorem d_Lw_move_10 : decode b_Lw_move 10 = .ok (.iconst (1), 1) := by decide +kernel
theorem d_Lw_move_11 : decode b_Lw_move 11 = .ok (.ireturn, 1) := by decide +kernel
theorem d_Lw_move_12 : decode b_Lw_move 12 = .ok (.iconst (0), 1) := by decide +kernel
theorem d_Lw_move_13 : decode b_Lw_move 13 = .ok (.ireturn, 1) := by decide +kernel
theorem d_Lw_register_0 : decode b_Lw_register 0 = .ok (.aload_n 0, 1) := by decide +kernel
theorem d_Lw_register_1 : decode b_Lw_register 1 = .ok (.iload_n 1, 1) := by decide +kernel
theorem d_Lw_register_2 : decode b_Lw_register 2 = .ok (.invokevirtual 25, 3) := by decide +kernel
theorem d_Lw_register_5 : decode b_Lw_register 5 = .ok (.goto (9), 3) := by decide +kernel
theorem d_Lw_register_8 : decode b_Lw_register 8 = .ok (.astore_n 2, 1) := by decide +kernel
theorem d_Lw_register_9 : decode b_Lw_register 9 = .ok (.iconst (1), 1) := by decide +kernel
theorem d_Lw_register_10 : decode b_Lw_register 10 = .ok (.ireturn, 1) := by decide +kernel
theorem d_Lw_register_11 : decode b_Lw_register 11 = .ok (.astore_n 2, 1) := by decide +kernel
theorem d_Lw_register_12 : decode b_Lw_register 12 = .ok (.iconst (2), 1) := by decide +kernel
theorem d_Lw_register_13 : decode b_Lw_register 13 = .ok (.ireturn, 1) := by decide +kernel
theorem d_Lw_register_14 : decode b_Lw_register 14 = .ok (.iconst (0), 1) := by decide +kernel
theorem d_Lw_register_15 : decode b_Lw_register 15 = .ok (.ireturn, 1) := by decide +kernel
theorem d_Lw_press_0 : decode b_Lw_press 0 = .ok (.aload_n 0, 1) := by decide +kernel
theorem d_Lw_press_1 : decode b_Lw_press 1 = .ok (.iload_n 1, 1) := by decide +kernel
theorem d_Lw_press_2 : decode b_Lw_press 2 = .ok (.iload_n 2, 1) := by decide +kernel
theorem d_Lw_press_3 : decode b_Lw_press 3 = .ok (.iload_n 3, 1) := by decide +kernel
theorem d_Lw_press_4 : decode b_Lw_press 4 = .ok (.invokevirtual 31, 3) := by decide +kernel
theorem d_Lw_press_7 : decode b_Lw_press 7 = .ok (.goto (11), 3) := by decide +kernel
theorem d_Lw_press_10 : decode b_Lw_press 10 = .ok (.astore 4, 2) := by decide +kernel
theorem d_Lw_press_12 : decode b_Lw_press 12 = .ok (.iconst (1), 1) := by decide +kernel
theorem d_Lw_press_13 : decode b_Lw_press 13 = .ok (.ireturn, 1) := by decide +kernel
theorem d_Lw_press_14 : decode b_Lw_press 14 = .ok (.astore 4, 2) := by decide +kernel
theorem d_Lw_press_16 : decode b_Lw_press 16 = .ok (.iconst (2), 1) := by decide +kernel
theorem d_Lw_press_17 : decode b_Lw_press 17 = .ok (.ireturn, 1) := by decide +kernel
theorem d_Lw_press_18 : decode b_Lw_press 18 = .ok (.iconst (0), 1) := by decide +kernel
theorem d_Lw_press_19 : decode b_Lw_press 19 = .ok (.ireturn, 1) := by decide +kernel
theorem d_Lw_release_0 : decode b_Lw_release 0 = .ok (.aload_n 0, 1) := by decide +kernel
theorem d_Lw_release_1 : decode b_Lw_release 1 = .ok (.iload_n 1, 1) := by decide +kernel
theorem d_Lw_release_2 : decode b_Lw_release 2 = .ok (.invokevirtual 34, 3) := by decide +kernel
theorem d_Lw_release_5 : decode b_Lw_release 5 = .ok (.goto (6), 3) := by decide +kernel
theorem d_Lw_release_8 : decode b_Lw_release 8 = .ok (.astore_n 2, 1) := by decide +kernel
theorem d_Lw_release_9 : decode b_Lw_release 9 = .ok (.iconst (1), 1) := by decide +kernel
theorem d_Lw_release_10 : decode b_Lw_release 10 = .ok (.ireturn, 1) := by decide +kernel
theorem d_Lw_release_11 : decode b_Lw_release 11 = .ok (.iconst (0), 1) := by decide +kernel
theorem d_Lw_release_12 : decode b_Lw_release 12 = .ok (.ireturn, 1) := by decide +kernel
theorem d_Lw_send_0 : decode b_Lw_send 0 = .ok (.aload_n 0, 1) := by decide +kernel
theorem d_Lw_send_1 : decode b_Lw_send 1 = .ok (.iload_n 1, 1) := by decide +kernel
theorem d_Lw_send_2 : decode b_Lw_send 2 = .ok (.iload_n 2, 1) := by decide +kernel
theorem d_Lw_send_3 : decode b_Lw_send 3 = .ok (.iload_n 3, 1) := by decide +kernel
theorem d_Lw_send_4 : decode b_Lw_send 4 = .ok (.invokevirtual 37, 3) := by decide +kernel
theorem d_Lw_send_7 : decode b_Lw_send 7 = .ok (.goto (11), 3) := by decide +kernel
theorem d_Lw_send_10 : decode b_Lw_send 10 = .ok (.astore 4, 2) := by decide +kernel
theorem d_Lw_send_12 : decode b_Lw_send 12 = .ok (.iconst (1), 1) := by decide +kernel
theorem d_Lw_send_13 : decode b_Lw_send 13 = .ok (.ireturn, 1) := by decide +kernel
theorem d_Lw_send_14 : decode b_Lw_send 14 = .ok (.astore 4, 2) := by decide +kernel
theorem d_Lw_send_16 : decode b_Lw_send 16 = .ok (.iconst (2), 1) := by decide +kernel
theorem d_Lw_send_17 : decode b_Lw_send 17 = .ok (.ireturn, 1) := by decide +kernel
theorem d_Lw_send_18 : decode b_Lw_send 18 = .ok (.iconst (0), 1) := by decide +kernel
theorem d_Lw_send_19 : decode b_Lw_send 19 = .ok (.ireturn, 1) := by decide +kernel
theorem d_Lw_speak_0 : decode b_Lw_speak 0 = .ok (.aload_n 0, 1) := by decide +kernel
theorem d_Lw_speak_1 : decode b_Lw_speak 1 = .ok (.iload_n 1, 1) := by decide +kernel
theorem d_Lw_speak_2 : decode b_Lw_speak 2 = .ok (.iload_n 2, 1) := by decide +kernel
theorem d_Lw_speak_3 : decode b_Lw_speak 3 = .ok (.invokevirtual 40, 3) := by decide +kernel
theorem d_Lw_speak_6 : decode b_Lw_speak 6 = .ok (.goto (6), 3) := by decide +kernel
theorem d_Lw_speak_9 : decode b_Lw_speak 9 = .ok (.astore_n 3, 1) := by decide +kernel
theorem d_Lw_speak_10 : decode b_Lw_speak 10 = .ok (.iconst (1), 1) := by decide +kernel
theorem d_Lw_speak_11 : decode b_Lw_speak 11 = .ok (.ireturn, 1) := by decide +kernel
theorem d_Lw_speak_12 : decode b_Lw_speak 12 = .ok (.iconst (0), 1) := by decide +kernel
theorem d_Lw_speak_13 : decode b_Lw_speak 13 = .ok (.ireturn, 1) := by decide +kernel
theorem d_Lw_draw_0 : decode b_Lw_draw 0 = .ok (.aload_n 0, 1) := by decide +kernel
theorem d_Lw_draw_1 : decode b_Lw_draw 1 = .ok (.iload_n 1, 1) := by decide +kernel
theorem d_Lw_draw_2 : decode b_Lw_draw 2 = .ok (.iload_n 2, 1) := by decide +kernel
theorem d_Lw_draw_3 : decode b_Lw_draw 3 = .ok (.invokevirtual 43, 3) := by decide +kernel
theorem d_Lw_draw_6 : decode b_Lw_draw 6 = .ok (.goto (12), 3) := by decide +kernel
theorem d_Lw_draw_9 : decode b_Lw_draw 9 = .ok (.astore_n 3, 1) := by decide +kernel
theorem d_Lw_draw_10 : decode b_Lw_draw 10 = .ok (.iconst (1), 1) := by decide +kernel
theorem d_Lw_draw_11 : decode b_Lw_draw 11 = .ok (.ireturn, 1) := by decide +kernel
theorem d_Lw_draw_12 : decode b_Lw_draw 12 = .ok (.astore_n 3, 1) := by decide +kernel
theorem d_Lw_draw_13 : decode b_Lw_draw 13 = .ok (.iconst (2), 1) := by decide +kernel
theorem d_Lw_draw_14 : decode b_Lw_draw 14 = .ok (.ireturn, 1) := by decide +kernel
theorem d_Lw_draw_15 : decode b_Lw_draw 15 = .ok (.astore_n 3, 1) := by decide +kernel
theorem d_Lw_draw_16 : decode b_Lw_draw 16 = .ok (.iconst (3), 1) := by decide +kernel
theorem d_Lw_draw_17 : decode b_Lw_draw 17 = .ok (.ireturn, 1) := by decide +kernel
theorem d_Lw_draw_18 : decode b_Lw_draw 18 = .ok (.iconst (0), 1) := by decide +kernel
theorem d_Lw_draw_19 : decode b_Lw_draw 19 = .ok (.ireturn, 1) := by decide +kernel
theorem d_Lw_fault_0 : decode b_Lw_fault 0 = .ok (.aload_n 0, 1) := by decide +kernel
theorem d_Lw_fault_1 : decode b_Lw_fault 1 = .ok (.iload_n 1, 1) := by decide +kernel
theorem d_Lw_fault_2 : decode b_Lw_fault 2 = .ok (.lload_n 2, 1) := by decide +kernel
theorem d_Lw_fault_3 : decode b_Lw_fault 3 = .ok (.invokevirtual 48, 3) := by decide +kernel
theorem d_Lw_fault_6 : decode b_Lw_fault 6 = .ok (.goto (7), 3) := by decide +kernel
theorem d_Lw_fault_9 : decode b_Lw_fault 9 = .ok (.astore 4, 2) := by decide +kernel
theorem d_Lw_fault_11 : decode b_Lw_fault 11 = .ok (.iconst (1), 1) := by decide +kernel
theorem d_Lw_fault_12 : decode b_Lw_fault 12 = .ok (.ireturn, 1) := by decide +kernel
theorem d_Lw_fault_13 : decode b_Lw_fault 13 = .ok (.iconst (0), 1) := by decide +kernel
theorem d_Lw_fault_14 : decode b_Lw_fault 14 = .ok (.ireturn, 1) := by decide +kernel
def p_Lw_keys (p1 : Int32) (p2 : Int32) (p3 : Int32) (post : Int32 → SI → SJ → Prop) (I : SI) (J : SJ) : Prop :=
  p_TC_keys p1 p2 p3 (fun I J => post 0 I J) (fun i I J => (i = 1 ∧ post 1 I J)) I J
abbrev rm_Lw_keys : Room := { frames := 8, cells := 1, slots := 6, locals := 126 }
def p_Lw_group (p1 : Int32) (p2 : Int32) (post : Int32 → SI → SJ → Prop) (I : SI) (J : SJ) : Prop :=
  p_TC_group p1 p2 (fun I J => post 0 I J) (fun i I J => (i = 1 ∧ post 1 I J)) I J
abbrev rm_Lw_group : Room := { frames := 8, cells := 1, slots := 6, locals := 125 }
def p_Lw_member (p1 : Int32) (p2 : Int32) (post : Int32 → SI → SJ → Prop) (I : SI) (J : SJ) : Prop :=
  p_TC_member p1 p2 (fun I J => post 0 I J) (fun i I J => (i = 1 ∧ post 1 I J)) I J
abbrev rm_Lw_member : Room := { frames := 8, cells := 1, slots := 6, locals := 125 }
def p_Lw_move (p1 : Int32) (p2 : Int32) (post : Int32 → SI → SJ → Prop) (I : SI) (J : SJ) : Prop :=
  p_TC_move p1 p2 (fun I J => post 0 I J) (fun i I J => (i = 1 ∧ post 1 I J)) I J
abbrev rm_Lw_move : Room := { frames := 8, cells := 1, slots := 6, locals := 126 }
def p_Lw_register (p1 : Int32) (post : Int32 → SI → SJ → Prop) (I : SI) (J : SJ) : Prop :=
  p_TC_register p1 (fun I J => post 0 I J) (fun i I J => (i = 1 ∧ post 1 I J) ∨ (i = 2 ∧ post 2 I J)) I J
abbrev rm_Lw_register : Room := { frames := 8, cells := 1, slots := 6, locals := 124 }
def p_Lw_press (p1 : Int32) (p2 : Int32) (p3 : Int32) (post : Int32 → SI → SJ → Prop) (I : SI) (J : SJ) : Prop :=
  p_TC_press p1 p2 p3 (fun I J => post 0 I J) (fun i I J => (i = 1 ∧ post 1 I J) ∨ (i = 2 ∧ post 2 I J)) I J
abbrev rm_Lw_press : Room := { frames := 8, cells := 1, slots := 6, locals := 126 }
def p_Lw_release (p1 : Int32) (post : Int32 → SI → SJ → Prop) (I : SI) (J : SJ) : Prop :=
  p_TC_release p1 (fun I J => post 0 I J) (fun i I J => (i = 1 ∧ post 1 I J)) I J
abbrev rm_Lw_release : Room := { frames := 8, cells := 1, slots := 6, locals := 124 }
def p_Lw_send (p1 : Int32) (p2 : Int32) (p3 : Int32) (post : Int32 → SI → SJ → Prop) (I : SI) (J : SJ) : Prop :=
  p_TC_send p1 p2 p3 (fun I J => post 0 I J) (fun i I J => (i = 1 ∧ post 1 I J) ∨ (i = 2 ∧ post 2 I J)) I J
abbrev rm_Lw_send : Room := { frames := 8, cells := 1, slots := 6, locals := 126 }
def p_Lw_speak (p1 : Int32) (p2 : Int32) (post : Int32 → SI → SJ → Prop) (I : SI) (J : SJ) : Prop :=
  p_TC_speak p1 p2 (fun I J => post 0 I J) (fun i I J => (i = 1 ∧ post 1 I J)) I J
abbrev rm_Lw_speak : Room := { frames := 8, cells := 1, slots := 6, locals := 125 }
def p_Lw_draw (p1 : Int32) (p2 : Int32) (post : Int32 → SI → SJ → Prop) (I : SI) (J : SJ) : Prop :=
  p_TC_draw p1 p2 (fun I J => post 0 I J) (fun i I J => (i = 1 ∧ post 1 I J) ∨ (i = 3 ∧ post 2 I J) ∨ (i = 2 ∧ post 3 I J)) I J
abbrev rm_Lw_draw : Room := { frames := 8, cells := 1, slots := 6, locals := 125 }
def p_Lw_fault (p1 : Int32) (p2 : Int64) (post : Int32 → SI → SJ → Prop) (I : SI) (J : SJ) : Prop :=
  p_TC_fault p1 p2 (fun I J => post 0 I J) (fun i I J => (i = 1 ∧ post 1 I J)) I J
abbrev rm_Lw_fault : Room := { frames := 8, cells := 1, slots := 6, locals := 126 }
set_option maxHeartbeats 4000000 in
set_option maxRecDepth 100000 in
theorem c_Lw_keys (l : Launch) (hfl : l.flags = pinnedFlags ++ [noTraceFlag]) (D : va_G) (κ : Nat → ClassId) {Θ : Nat → Nat} (hΘ : xJ 52 Θ) (sz : Nat) (p1 : Int32) (p2 : Int32) (p3 : Int32) (I : SI) (J : SJ) (post : Int32 → SI → SJ → Prop) (h : p_Lw_keys p1 p2 p3 post I J) : Met l y_Lw_keys WS rm_Lw_keys (va_Pc [.ref (Θ 0), .int p1, .int p2, .int p3] (xPX D clA (tysA κ) 52 Θ (eC Θ κ) sz I J)) (xQi D clA 52 Θ (eC Θ κ) sz post) 1 6 (xA 52 Θ sz) := by
  refine xMetH (cc := b_Lw_keys) (maxL := 5) (ret := (some .int)) (hs := [(0, 7, 10, 13)]) (by decide) k_332 ?_
  intro p e s m args below meth c s₁ B hml htb hv
  obtain ⟨hargs, ⟨hsz, hP, hK, hN, hG⟩, hsz2, hT⟩ := hv
  have hx := B.exec
  have hb := B.bytes
  have hr := B.returns
  have hlocks := B.notSynchronized
  have hts := atoms_spec (ws := WS) B.pre
  have hown : s.vm.findClass R_Lw = some m.cls := findClass_of_methodNamed B.named
  have C : xC p m c b_Lw_keys 5 s args R_Lw D clA (tysA κ) 52 Θ sz := ⟨⟨hx, hb, hml, hown, hts⟩, hK, hN, hG, hsz⟩
  have hE := lg_entry_eq m [.ref (Θ 0), .int p1, .int p2, .int p3] 5
  rw [← hargs] at hE
  rw [hE]
  have hl := lv_entry [.ref (Θ 0), .int p1, .int p2, .int p3] (n := 5) (Nat.le_of_ble_eq_true rfl)
  generalize (lg_sl [.ref (Θ 0), .int p1, .int p2, .int p3] ++ List.replicate (5 - (lg_sl [.ref (Θ 0), .int p1, .int p2, .int p3]).length) Slot.unset).toArray = ls at hl ⊢
  have hl : lv_has ls 5 [(0, .ref (Θ 0)), (1, .int p1), (2, .int p2), (3, .int p3)] := hl
  unfold p_Lw_keys at h
  refine lv_aload_n hx hb d_Lw_keys_0 rfl (lv_at hl 0 rfl) ?_
  refine lv_iload_n hx hb d_Lw_keys_1 rfl (lv_at hl 1 rfl) ?_
  refine lv_iload_n hx hb d_Lw_keys_2 rfl (lv_at hl 2 rfl) ?_
  refine lv_iload_n hx hb d_Lw_keys_3 rfl (lv_at hl 3 rfl) ?_
  refine x_callC [1] C hT hsz2 htb hP (Nat.le_of_ble_eq_true rfl) (eC_TC _ _) rfl (c_TC_keys l hfl D κ hΘ sz p1 p2 p3 I J _ _ h) q_TC_keys k_335 k_336 k_334 (Nat.le_of_ble_eq_true rfl) (Nat.le_of_ble_eq_true rfl) ⟨(Nat.le_of_ble_eq_true rfl), (Nat.le_of_ble_eq_true rfl)⟩ rfl hl.1 rfl (Nat.le_of_ble_eq_true rfl) d_Lw_keys_4 (fun v I1 J1 hv H locs hP hS => ?_) (fun i I1 J1 hv a H locs hP hS => ?_)
  · obtain ⟨rfl, h⟩ := hv
    refine lv_goto hx hb d_Lw_keys_7 (tgt := 14) rfl ?_
    refine lv_iconst (v := (0 : Int32)) hx hb d_Lw_keys_14 (by decide) ?_
    refine W.widen (k := 1) (n := 6) (by omega) (by omega) ?_
    exact x_hret hx hb hr hlocks hP hS h d_Lw_keys_15
  · rcases hv with ⟨rfl, h⟩
    · refine ⟨10, ⟨by decide, by decide, k_333, Or.inl ⟨rfl, rfl⟩⟩, ?_⟩
      refine lv_astore hx hb d_Lw_keys_10 hl (Nat.le_of_ble_eq_true rfl) (lv' := [(4, .ref a), (0, .ref (Θ 0)), (1, .int p1), (2, .int p2), (3, .int p3)]) rfl (fun ls hl => ?_)
      refine lv_iconst (v := (1 : Int32)) hx hb d_Lw_keys_12 (by decide) ?_
      exact x_hret hx hb hr hlocks hP hS h d_Lw_keys_13
set_option maxHeartbeats 4000000 in
set_option maxRecDepth 100000 in
theorem c_Lw_group (l : Launch) (hfl : l.flags = pinnedFlags ++ [noTraceFlag]) (D : va_G) (κ : Nat → ClassId) {Θ : Nat → Nat} (hΘ : xJ 52 Θ) (sz : Nat) (p1 : Int32) (p2 : Int32) (I : SI) (J : SJ) (post : Int32 → SI → SJ → Prop) (h : p_Lw_group p1 p2 post I J) : Met l y_Lw_group WS rm_Lw_group (va_Pc [.ref (Θ 0), .int p1, .int p2] (xPX D clA (tysA κ) 52 Θ (eC Θ κ) sz I J)) (xQi D clA 52 Θ (eC Θ κ) sz post) 1 6 (xA 52 Θ sz) := by
  refine xMetH (cc := b_Lw_group) (maxL := 4) (ret := (some .int)) (hs := [(0, 6, 9, 13)]) (by decide) k_411 ?_
  intro p e s m args below meth c s₁ B hml htb hv
  obtain ⟨hargs, ⟨hsz, hP, hK, hN, hG⟩, hsz2, hT⟩ := hv
  have hx := B.exec
  have hb := B.bytes
  have hr := B.returns
  have hlocks := B.notSynchronized
  have hts := atoms_spec (ws := WS) B.pre
  have hown : s.vm.findClass R_Lw = some m.cls := findClass_of_methodNamed B.named
  have C : xC p m c b_Lw_group 4 s args R_Lw D clA (tysA κ) 52 Θ sz := ⟨⟨hx, hb, hml, hown, hts⟩, hK, hN, hG, hsz⟩
  have hE := lg_entry_eq m [.ref (Θ 0), .int p1, .int p2] 4
  rw [← hargs] at hE
  rw [hE]
  have hl := lv_entry [.ref (Θ 0), .int p1, .int p2] (n := 4) (Nat.le_of_ble_eq_true rfl)
  generalize (lg_sl [.ref (Θ 0), .int p1, .int p2] ++ List.replicate (4 - (lg_sl [.ref (Θ 0), .int p1, .int p2]).length) Slot.unset).toArray = ls at hl ⊢
  have hl : lv_has ls 4 [(0, .ref (Θ 0)), (1, .int p1), (2, .int p2)] := hl
  unfold p_Lw_group at h
  refine lv_aload_n hx hb d_Lw_group_0 rfl (lv_at hl 0 rfl) ?_
  refine lv_iload_n hx hb d_Lw_group_1 rfl (lv_at hl 1 rfl) ?_
  refine lv_iload_n hx hb d_Lw_group_2 rfl (lv_at hl 2 rfl) ?_
  refine x_callC [1] C hT hsz2 htb hP (Nat.le_of_ble_eq_true rfl) (eC_TC _ _) rfl (c_TC_group l hfl D κ hΘ sz p1 p2 I J _ _ h) q_TC_group k_413 k_414 k_412 (Nat.le_of_ble_eq_true rfl) (Nat.le_of_ble_eq_true rfl) ⟨(Nat.le_of_ble_eq_true rfl), (Nat.le_of_ble_eq_true rfl)⟩ rfl hl.1 rfl (Nat.le_of_ble_eq_true rfl) d_Lw_group_3 (fun v I1 J1 hv H locs hP hS => ?_) (fun i I1 J1 hv a H locs hP hS => ?_)
  · obtain ⟨rfl, h⟩ := hv
    refine lv_goto hx hb d_Lw_group_6 (tgt := 12) rfl ?_
    refine lv_iconst (v := (0 : Int32)) hx hb d_Lw_group_12 (by decide) ?_
    refine W.widen (k := 1) (n := 6) (by omega) (by omega) ?_
    exact x_hret hx hb hr hlocks hP hS h d_Lw_group_13
  · rcases hv with ⟨rfl, h⟩
    · refine ⟨9, ⟨by decide, by decide, k_333, Or.inl ⟨rfl, rfl⟩⟩, ?_⟩
      refine lv_astore_n hx hb d_Lw_group_9 rfl hl (Nat.le_of_ble_eq_true rfl) (lv' := [(3, .ref a), (0, .ref (Θ 0)), (1, .int p1), (2, .int p2)]) rfl (fun ls hl => ?_)
      refine lv_iconst (v := (1 : Int32)) hx hb d_Lw_group_10 (by decide) ?_
      exact x_hret hx hb hr hlocks hP hS h d_Lw_group_11
set_option maxHeartbeats 4000000 in
set_option maxRecDepth 100000 in
theorem c_Lw_member (l : Launch) (hfl : l.flags = pinnedFlags ++ [noTraceFlag]) (D : va_G) (κ : Nat → ClassId) {Θ : Nat → Nat} (hΘ : xJ 52 Θ) (sz : Nat) (p1 : Int32) (p2 : Int32) (I : SI) (J : SJ) (post : Int32 → SI → SJ → Prop) (h : p_Lw_member p1 p2 post I J) : Met l y_Lw_member WS rm_Lw_member (va_Pc [.ref (Θ 0), .int p1, .int p2] (xPX D clA (tysA κ) 52 Θ (eC Θ κ) sz I J)) (xQi D clA 52 Θ (eC Θ κ) sz post) 1 6 (xA 52 Θ sz) := by
  refine xMetH (cc := b_Lw_member) (maxL := 4) (ret := (some .int)) (hs := [(0, 6, 9, 13)]) (by decide) k_418 ?_
  intro p e s m args below meth c s₁ B hml htb hv
  obtain ⟨hargs, ⟨hsz, hP, hK, hN, hG⟩, hsz2, hT⟩ := hv
  have hx := B.exec
  have hb := B.bytes
  have hr := B.returns
  have hlocks := B.notSynchronized
  have hts := atoms_spec (ws := WS) B.pre
  have hown : s.vm.findClass R_Lw = some m.cls := findClass_of_methodNamed B.named
  have C : xC p m c b_Lw_member 4 s args R_Lw D clA (tysA κ) 52 Θ sz := ⟨⟨hx, hb, hml, hown, hts⟩, hK, hN, hG, hsz⟩
  have hE := lg_entry_eq m [.ref (Θ 0), .int p1, .int p2] 4
  rw [← hargs] at hE
  rw [hE]
  have hl := lv_entry [.ref (Θ 0), .int p1, .int p2] (n := 4) (Nat.le_of_ble_eq_true rfl)
  generalize (lg_sl [.ref (Θ 0), .int p1, .int p2] ++ List.replicate (4 - (lg_sl [.ref (Θ 0), .int p1, .int p2]).length) Slot.unset).toArray = ls at hl ⊢
  have hl : lv_has ls 4 [(0, .ref (Θ 0)), (1, .int p1), (2, .int p2)] := hl
  unfold p_Lw_member at h
  refine lv_aload_n hx hb d_Lw_member_0 rfl (lv_at hl 0 rfl) ?_
  refine lv_iload_n hx hb d_Lw_member_1 rfl (lv_at hl 1 rfl) ?_
  refine lv_iload_n hx hb d_Lw_member_2 rfl (lv_at hl 2 rfl) ?_
  refine x_callC [1] C hT hsz2 htb hP (Nat.le_of_ble_eq_true rfl) (eC_TC _ _) rfl (c_TC_member l hfl D κ hΘ sz p1 p2 I J _ _ h) q_TC_member k_420 k_421 k_419 (Nat.le_of_ble_eq_true rfl) (Nat.le_of_ble_eq_true rfl) ⟨(Nat.le_of_ble_eq_true rfl), (Nat.le_of_ble_eq_true rfl)⟩ rfl hl.1 rfl (Nat.le_of_ble_eq_true rfl) d_Lw_member_3 (fun v I1 J1 hv H locs hP hS => ?_) (fun i I1 J1 hv a H locs hP hS => ?_)
  · obtain ⟨rfl, h⟩ := hv
    refine lv_goto hx hb d_Lw_member_6 (tgt := 12) rfl ?_
    refine lv_iconst (v := (0 : Int32)) hx hb d_Lw_member_12 (by decide) ?_
    refine W.widen (k := 1) (n := 6) (by omega) (by omega) ?_
    exact x_hret hx hb hr hlocks hP hS h d_Lw_member_13
  · rcases hv with ⟨rfl, h⟩
    · refine ⟨9, ⟨by decide, by decide, k_333, Or.inl ⟨rfl, rfl⟩⟩, ?_⟩
      refine lv_astore_n hx hb d_Lw_member_9 rfl hl (Nat.le_of_ble_eq_true rfl) (lv' := [(3, .ref a), (0, .ref (Θ 0)), (1, .int p1), (2, .int p2)]) rfl (fun ls hl => ?_)
      refine lv_iconst (v := (1 : Int32)) hx hb d_Lw_member_10 (by decide) ?_
      exact x_hret hx hb hr hlocks hP hS h d_Lw_member_11
set_option maxHeartbeats 4000000 in
set_option maxRecDepth 100000 in
theorem c_Lw_move (l : Launch) (hfl : l.flags = pinnedFlags ++ [noTraceFlag]) (D : va_G) (κ : Nat → ClassId) {Θ : Nat → Nat} (hΘ : xJ 52 Θ) (sz : Nat) (p1 : Int32) (p2 : Int32) (I : SI) (J : SJ) (post : Int32 → SI → SJ → Prop) (h : p_Lw_move p1 p2 post I J) : Met l y_Lw_move WS rm_Lw_move (va_Pc [.ref (Θ 0), .int p1, .int p2] (xPX D clA (tysA κ) 52 Θ (eC Θ κ) sz I J)) (xQi D clA 52 Θ (eC Θ κ) sz post) 1 6 (xA 52 Θ sz) := by
  refine xMetH (cc := b_Lw_move) (maxL := 4) (ret := (some .int)) (hs := [(0, 6, 9, 13)]) (by decide) k_425 ?_
  intro p e s m args below meth c s₁ B hml htb hv
  obtain ⟨hargs, ⟨hsz, hP, hK, hN, hG⟩, hsz2, hT⟩ := hv
  have hx := B.exec
  have hb := B.bytes
  have hr := B.returns
  have hlocks := B.notSynchronized
  have hts := atoms_spec (ws := WS) B.pre
  have hown : s.vm.findClass R_Lw = some m.cls := findClass_of_methodNamed B.named
  have C : xC p m c b_Lw_move 4 s args R_Lw D clA (tysA κ) 52 Θ sz := ⟨⟨hx, hb, hml, hown, hts⟩, hK, hN, hG, hsz⟩
  have hE := lg_entry_eq m [.ref (Θ 0), .int p1, .int p2] 4
  rw [← hargs] at hE
  rw [hE]
  have hl := lv_entry [.ref (Θ 0), .int p1, .int p2] (n := 4) (Nat.le_of_ble_eq_true rfl)
  generalize (lg_sl [.ref (Θ 0), .int p1, .int p2] ++ List.replicate (4 - (lg_sl [.ref (Θ 0), .int p1, .int p2]).length) Slot.unset).toArray = ls at hl ⊢
  have hl : lv_has ls 4 [(0, .ref (Θ 0)), (1, .int p1), (2, .int p2)] := hl
  unfold p_Lw_move at h
  refine lv_aload_n hx hb d_Lw_move_0 rfl (lv_at hl 0 rfl) ?_
  refine lv_iload_n hx hb d_Lw_move_1 rfl (lv_at hl 1 rfl) ?_
  refine lv_iload_n hx hb d_Lw_move_2 rfl (lv_at hl 2 rfl) ?_
  refine x_callC [1] C hT hsz2 htb hP (Nat.le_of_ble_eq_true rfl) (eC_TC _ _) rfl (c_TC_move l hfl D κ hΘ sz p1 p2 I J _ _ h) q_TC_move k_427 k_428 k_426 (Nat.le_of_ble_eq_true rfl) (Nat.le_of_ble_eq_true rfl) ⟨(Nat.le_of_ble_eq_true rfl), (Nat.le_of_ble_eq_true rfl)⟩ rfl hl.1 rfl (Nat.le_of_ble_eq_true rfl) d_Lw_move_3 (fun v I1 J1 hv H locs hP hS => ?_) (fun i I1 J1 hv a H locs hP hS => ?_)
  · obtain ⟨rfl, h⟩ := hv
    refine lv_goto hx hb d_Lw_move_6 (tgt := 12) rfl ?_
    refine lv_iconst (v := (0 : Int32)) hx hb d_Lw_move_12 (by decide) ?_
    refine W.widen (k := 1) (n := 6) (by omega) (by omega) ?_
    exact x_hret hx hb hr hlocks hP hS h d_Lw_move_13
  · rcases hv with ⟨rfl, h⟩
    · refine ⟨9, ⟨by decide, by decide, k_333, Or.inl ⟨rfl, rfl⟩⟩, ?_⟩
      refine lv_astore_n hx hb d_Lw_move_9 rfl hl (Nat.le_of_ble_eq_true rfl) (lv' := [(3, .ref a), (0, .ref (Θ 0)), (1, .int p1), (2, .int p2)]) rfl (fun ls hl => ?_)
      refine lv_iconst (v := (1 : Int32)) hx hb d_Lw_move_10 (by decide) ?_
      exact x_hret hx hb hr hlocks hP hS h d_Lw_move_11
set_option maxHeartbeats 4000000 in
set_option maxRecDepth 100000 in
theorem c_Lw_register (l : Launch) (hfl : l.flags = pinnedFlags ++ [noTraceFlag]) (D : va_G) (κ : Nat → ClassId) {Θ : Nat → Nat} (hΘ : xJ 52 Θ) (sz : Nat) (p1 : Int32) (I : SI) (J : SJ) (post : Int32 → SI → SJ → Prop) (h : p_Lw_register p1 post I J) : Met l y_Lw_register WS rm_Lw_register (va_Pc [.ref (Θ 0), .int p1] (xPX D clA (tysA κ) 52 Θ (eC Θ κ) sz I J)) (xQi D clA 52 Θ (eC Θ κ) sz post) 1 6 (xA 52 Θ sz) := by
  refine xMetH (cc := b_Lw_register) (maxL := 3) (ret := (some .int)) (hs := [(0, 5, 8, 13), (0, 5, 11, 29)]) (by decide) k_448 ?_
  intro p e s m args below meth c s₁ B hml htb hv
  obtain ⟨hargs, ⟨hsz, hP, hK, hN, hG⟩, hsz2, hT⟩ := hv
  have hx := B.exec
  have hb := B.bytes
  have hr := B.returns
  have hlocks := B.notSynchronized
  have hts := atoms_spec (ws := WS) B.pre
  have hown : s.vm.findClass R_Lw = some m.cls := findClass_of_methodNamed B.named
  have C : xC p m c b_Lw_register 3 s args R_Lw D clA (tysA κ) 52 Θ sz := ⟨⟨hx, hb, hml, hown, hts⟩, hK, hN, hG, hsz⟩
  have hE := lg_entry_eq m [.ref (Θ 0), .int p1] 3
  rw [← hargs] at hE
  rw [hE]
  have hl := lv_entry [.ref (Θ 0), .int p1] (n := 3) (Nat.le_of_ble_eq_true rfl)
  generalize (lg_sl [.ref (Θ 0), .int p1] ++ List.replicate (3 - (lg_sl [.ref (Θ 0), .int p1]).length) Slot.unset).toArray = ls at hl ⊢
  have hl : lv_has ls 3 [(0, .ref (Θ 0)), (1, .int p1)] := hl
  unfold p_Lw_register at h
  refine lv_aload_n hx hb d_Lw_register_0 rfl (lv_at hl 0 rfl) ?_
  refine lv_iload_n hx hb d_Lw_register_1 rfl (lv_at hl 1 rfl) ?_
  refine x_callC [1, 2] C hT hsz2 htb hP (Nat.le_of_ble_eq_true rfl) (eC_TC _ _) rfl (c_TC_register l hfl D κ hΘ sz p1 I J _ _ h) q_TC_register k_451 k_452 k_450 (Nat.le_of_ble_eq_true rfl) (Nat.le_of_ble_eq_true rfl) ⟨(Nat.le_of_ble_eq_true rfl), (Nat.le_of_ble_eq_true rfl)⟩ rfl hl.1 rfl (Nat.le_of_ble_eq_true rfl) d_Lw_register_2 (fun v I1 J1 hv H locs hP hS => ?_) (fun i I1 J1 hv a H locs hP hS => ?_)
  · obtain ⟨rfl, h⟩ := hv
    refine lv_goto hx hb d_Lw_register_5 (tgt := 14) rfl ?_
    refine lv_iconst (v := (0 : Int32)) hx hb d_Lw_register_14 (by decide) ?_
    refine W.widen (k := 1) (n := 6) (by omega) (by omega) ?_
    exact x_hret hx hb hr hlocks hP hS h d_Lw_register_15
  · rcases hv with ⟨rfl, h⟩ | ⟨rfl, h⟩
    · refine ⟨8, ⟨by decide, by decide, k_333, Or.inl ⟨rfl, rfl⟩⟩, ?_⟩
      refine lv_astore_n hx hb d_Lw_register_8 rfl hl (Nat.le_of_ble_eq_true rfl) (lv' := [(2, .ref a), (0, .ref (Θ 0)), (1, .int p1)]) rfl (fun ls hl => ?_)
      refine lv_iconst (v := (1 : Int32)) hx hb d_Lw_register_9 (by decide) ?_
      exact x_hret hx hb hr hlocks hP hS h d_Lw_register_10
    · refine ⟨11, ⟨by decide, by decide, k_333, Or.inr ⟨by decide, ⟨by decide, by decide, k_449, Or.inl ⟨rfl, rfl⟩⟩⟩⟩, ?_⟩
      refine lv_astore_n hx hb d_Lw_register_11 rfl hl (Nat.le_of_ble_eq_true rfl) (lv' := [(2, .ref a), (0, .ref (Θ 0)), (1, .int p1)]) rfl (fun ls hl => ?_)
      refine lv_iconst (v := (2 : Int32)) hx hb d_Lw_register_12 (by decide) ?_
      exact x_hret hx hb hr hlocks hP hS h d_Lw_register_13
set_option maxHeartbeats 4000000 in
set_option maxRecDepth 100000 in
theorem c_Lw_press (l : Launch) (hfl : l.flags = pinnedFlags ++ [noTraceFlag]) (D : va_G) (κ : Nat → ClassId) {Θ : Nat → Nat} (hΘ : xJ 52 Θ) (sz : Nat) (p1 : Int32) (p2 : Int32) (p3 : Int32) (I : SI) (J : SJ) (post : Int32 → SI → SJ → Prop) (h : p_Lw_press p1 p2 p3 post I J) : Met l y_Lw_press WS rm_Lw_press (va_Pc [.ref (Θ 0), .int p1, .int p2, .int p3] (xPX D clA (tysA κ) 52 Θ (eC Θ κ) sz I J)) (xQi D clA 52 Θ (eC Θ κ) sz post) 1 6 (xA 52 Θ sz) := by
  refine xMetH (cc := b_Lw_press) (maxL := 5) (ret := (some .int)) (hs := [(0, 7, 10, 13), (0, 7, 14, 29)]) (by decide) k_483 ?_
  intro p e s m args below meth c s₁ B hml htb hv
  obtain ⟨hargs, ⟨hsz, hP, hK, hN, hG⟩, hsz2, hT⟩ := hv
  have hx := B.exec
  have hb := B.bytes
  have hr := B.returns
  have hlocks := B.notSynchronized
  have hts := atoms_spec (ws := WS) B.pre
  have hown : s.vm.findClass R_Lw = some m.cls := findClass_of_methodNamed B.named
  have C : xC p m c b_Lw_press 5 s args R_Lw D clA (tysA κ) 52 Θ sz := ⟨⟨hx, hb, hml, hown, hts⟩, hK, hN, hG, hsz⟩
  have hE := lg_entry_eq m [.ref (Θ 0), .int p1, .int p2, .int p3] 5
  rw [← hargs] at hE
  rw [hE]
  have hl := lv_entry [.ref (Θ 0), .int p1, .int p2, .int p3] (n := 5) (Nat.le_of_ble_eq_true rfl)
  generalize (lg_sl [.ref (Θ 0), .int p1, .int p2, .int p3] ++ List.replicate (5 - (lg_sl [.ref (Θ 0), .int p1, .int p2, .int p3]).length) Slot.unset).toArray = ls at hl ⊢
  have hl : lv_has ls 5 [(0, .ref (Θ 0)), (1, .int p1), (2, .int p2), (3, .int p3)] := hl
  unfold p_Lw_press at h
  refine lv_aload_n hx hb d_Lw_press_0 rfl (lv_at hl 0 rfl) ?_
  refine lv_iload_n hx hb d_Lw_press_1 rfl (lv_at hl 1 rfl) ?_
  refine lv_iload_n hx hb d_Lw_press_2 rfl (lv_at hl 2 rfl) ?_
  refine lv_iload_n hx hb d_Lw_press_3 rfl (lv_at hl 3 rfl) ?_
  refine x_callC [1, 2] C hT hsz2 htb hP (Nat.le_of_ble_eq_true rfl) (eC_TC _ _) rfl (c_TC_press l hfl D κ hΘ sz p1 p2 p3 I J _ _ h) q_TC_press k_485 k_486 k_484 (Nat.le_of_ble_eq_true rfl) (Nat.le_of_ble_eq_true rfl) ⟨(Nat.le_of_ble_eq_true rfl), (Nat.le_of_ble_eq_true rfl)⟩ rfl hl.1 rfl (Nat.le_of_ble_eq_true rfl) d_Lw_press_4 (fun v I1 J1 hv H locs hP hS => ?_) (fun i I1 J1 hv a H locs hP hS => ?_)
  · obtain ⟨rfl, h⟩ := hv
    refine lv_goto hx hb d_Lw_press_7 (tgt := 18) rfl ?_
    refine lv_iconst (v := (0 : Int32)) hx hb d_Lw_press_18 (by decide) ?_
    refine W.widen (k := 1) (n := 6) (by omega) (by omega) ?_
    exact x_hret hx hb hr hlocks hP hS h d_Lw_press_19
  · rcases hv with ⟨rfl, h⟩ | ⟨rfl, h⟩
    · refine ⟨10, ⟨by decide, by decide, k_333, Or.inl ⟨rfl, rfl⟩⟩, ?_⟩
      refine lv_astore hx hb d_Lw_press_10 hl (Nat.le_of_ble_eq_true rfl) (lv' := [(4, .ref a), (0, .ref (Θ 0)), (1, .int p1), (2, .int p2), (3, .int p3)]) rfl (fun ls hl => ?_)
      refine lv_iconst (v := (1 : Int32)) hx hb d_Lw_press_12 (by decide) ?_
      exact x_hret hx hb hr hlocks hP hS h d_Lw_press_13
    · refine ⟨14, ⟨by decide, by decide, k_333, Or.inr ⟨by decide, ⟨by decide, by decide, k_449, Or.inl ⟨rfl, rfl⟩⟩⟩⟩, ?_⟩
      refine lv_astore hx hb d_Lw_press_14 hl (Nat.le_of_ble_eq_true rfl) (lv' := [(4, .ref a), (0, .ref (Θ 0)), (1, .int p1), (2, .int p2), (3, .int p3)]) rfl (fun ls hl => ?_)
      refine lv_iconst (v := (2 : Int32)) hx hb d_Lw_press_16 (by decide) ?_
      exact x_hret hx hb hr hlocks hP hS h d_Lw_press_17
set_option maxHeartbeats 4000000 in
set_option maxRecDepth 100000 in
theorem c_Lw_release (l : Launch) (hfl : l.flags = pinnedFlags ++ [noTraceFlag]) (D : va_G) (κ : Nat → ClassId) {Θ : Nat → Nat} (hΘ : xJ 52 Θ) (sz : Nat) (p1 : Int32) (I : SI) (J : SJ) (post : Int32 → SI → SJ → Prop) (h : p_Lw_release p1 post I J) : Met l y_Lw_release WS rm_Lw_release (va_Pc [.ref (Θ 0), .int p1] (xPX D clA (tysA κ) 52 Θ (eC Θ κ) sz I J)) (xQi D clA 52 Θ (eC Θ κ) sz post) 1 6 (xA 52 Θ sz) := by
  refine xMetH (cc := b_Lw_release) (maxL := 3) (ret := (some .int)) (hs := [(0, 5, 8, 13)]) (by decide) k_491 ?_
  intro p e s m args below meth c s₁ B hml htb hv
  obtain ⟨hargs, ⟨hsz, hP, hK, hN, hG⟩, hsz2, hT⟩ := hv
  have hx := B.exec
  have hb := B.bytes
  have hr := B.returns
  have hlocks := B.notSynchronized
  have hts := atoms_spec (ws := WS) B.pre
  have hown : s.vm.findClass R_Lw = some m.cls := findClass_of_methodNamed B.named
  have C : xC p m c b_Lw_release 3 s args R_Lw D clA (tysA κ) 52 Θ sz := ⟨⟨hx, hb, hml, hown, hts⟩, hK, hN, hG, hsz⟩
  have hE := lg_entry_eq m [.ref (Θ 0), .int p1] 3
  rw [← hargs] at hE
  rw [hE]
  have hl := lv_entry [.ref (Θ 0), .int p1] (n := 3) (Nat.le_of_ble_eq_true rfl)
  generalize (lg_sl [.ref (Θ 0), .int p1] ++ List.replicate (3 - (lg_sl [.ref (Θ 0), .int p1]).length) Slot.unset).toArray = ls at hl ⊢
  have hl : lv_has ls 3 [(0, .ref (Θ 0)), (1, .int p1)] := hl
  unfold p_Lw_release at h
  refine lv_aload_n hx hb d_Lw_release_0 rfl (lv_at hl 0 rfl) ?_
  refine lv_iload_n hx hb d_Lw_release_1 rfl (lv_at hl 1 rfl) ?_
  refine x_callC [1] C hT hsz2 htb hP (Nat.le_of_ble_eq_true rfl) (eC_TC _ _) rfl (c_TC_release l hfl D κ hΘ sz p1 I J _ _ h) q_TC_release k_493 k_494 k_492 (Nat.le_of_ble_eq_true rfl) (Nat.le_of_ble_eq_true rfl) ⟨(Nat.le_of_ble_eq_true rfl), (Nat.le_of_ble_eq_true rfl)⟩ rfl hl.1 rfl (Nat.le_of_ble_eq_true rfl) d_Lw_release_2 (fun v I1 J1 hv H locs hP hS => ?_) (fun i I1 J1 hv a H locs hP hS => ?_)
  · obtain ⟨rfl, h⟩ := hv
    refine lv_goto hx hb d_Lw_release_5 (tgt := 11) rfl ?_
    refine lv_iconst (v := (0 : Int32)) hx hb d_Lw_release_11 (by decide) ?_
    refine W.widen (k := 1) (n := 6) (by omega) (by omega) ?_
    exact x_hret hx hb hr hlocks hP hS h d_Lw_release_12
  · rcases hv with ⟨rfl, h⟩
    · refine ⟨8, ⟨by decide, by decide, k_333, Or.inl ⟨rfl, rfl⟩⟩, ?_⟩
      refine lv_astore_n hx hb d_Lw_release_8 rfl hl (Nat.le_of_ble_eq_true rfl) (lv' := [(2, .ref a), (0, .ref (Θ 0)), (1, .int p1)]) rfl (fun ls hl => ?_)
      refine lv_iconst (v := (1 : Int32)) hx hb d_Lw_release_9 (by decide) ?_
      exact x_hret hx hb hr hlocks hP hS h d_Lw_release_10
set_option maxHeartbeats 4000000 in
set_option maxRecDepth 100000 in
theorem c_Lw_send (l : Launch) (hfl : l.flags = pinnedFlags ++ [noTraceFlag]) (D : va_G) (κ : Nat → ClassId) {Θ : Nat → Nat} (hΘ : xJ 52 Θ) (sz : Nat) (p1 : Int32) (p2 : Int32) (p3 : Int32) (I : SI) (J : SJ) (post : Int32 → SI → SJ → Prop) (h : p_Lw_send p1 p2 p3 post I J) : Met l y_Lw_send WS rm_Lw_send (va_Pc [.ref (Θ 0), .int p1, .int p2, .int p3] (xPX D clA (tysA κ) 52 Θ (eC Θ κ) sz I J)) (xQi D clA 52 Θ (eC Θ κ) sz post) 1 6 (xA 52 Θ sz) := by
  refine xMetH (cc := b_Lw_send) (maxL := 5) (ret := (some .int)) (hs := [(0, 7, 10, 13), (0, 7, 14, 29)]) (by decide) k_499 ?_
  intro p e s m args below meth c s₁ B hml htb hv
  obtain ⟨hargs, ⟨hsz, hP, hK, hN, hG⟩, hsz2, hT⟩ := hv
  have hx := B.exec
  have hb := B.bytes
  have hr := B.returns
  have hlocks := B.notSynchronized
  have hts := atoms_spec (ws := WS) B.pre
  have hown : s.vm.findClass R_Lw = some m.cls := findClass_of_methodNamed B.named
  have C : xC p m c b_Lw_send 5 s args R_Lw D clA (tysA κ) 52 Θ sz := ⟨⟨hx, hb, hml, hown, hts⟩, hK, hN, hG, hsz⟩
  have hE := lg_entry_eq m [.ref (Θ 0), .int p1, .int p2, .int p3] 5
  rw [← hargs] at hE
  rw [hE]
  have hl := lv_entry [.ref (Θ 0), .int p1, .int p2, .int p3] (n := 5) (Nat.le_of_ble_eq_true rfl)
  generalize (lg_sl [.ref (Θ 0), .int p1, .int p2, .int p3] ++ List.replicate (5 - (lg_sl [.ref (Θ 0), .int p1, .int p2, .int p3]).length) Slot.unset).toArray = ls at hl ⊢
  have hl : lv_has ls 5 [(0, .ref (Θ 0)), (1, .int p1), (2, .int p2), (3, .int p3)] := hl
  unfold p_Lw_send at h
  refine lv_aload_n hx hb d_Lw_send_0 rfl (lv_at hl 0 rfl) ?_
  refine lv_iload_n hx hb d_Lw_send_1 rfl (lv_at hl 1 rfl) ?_
  refine lv_iload_n hx hb d_Lw_send_2 rfl (lv_at hl 2 rfl) ?_
  refine lv_iload_n hx hb d_Lw_send_3 rfl (lv_at hl 3 rfl) ?_
  refine x_callC [1, 2] C hT hsz2 htb hP (Nat.le_of_ble_eq_true rfl) (eC_TC _ _) rfl (c_TC_send l hfl D κ hΘ sz p1 p2 p3 I J _ _ h) q_TC_send k_501 k_502 k_500 (Nat.le_of_ble_eq_true rfl) (Nat.le_of_ble_eq_true rfl) ⟨(Nat.le_of_ble_eq_true rfl), (Nat.le_of_ble_eq_true rfl)⟩ rfl hl.1 rfl (Nat.le_of_ble_eq_true rfl) d_Lw_send_4 (fun v I1 J1 hv H locs hP hS => ?_) (fun i I1 J1 hv a H locs hP hS => ?_)
  · obtain ⟨rfl, h⟩ := hv
    refine lv_goto hx hb d_Lw_send_7 (tgt := 18) rfl ?_
    refine lv_iconst (v := (0 : Int32)) hx hb d_Lw_send_18 (by decide) ?_
    refine W.widen (k := 1) (n := 6) (by omega) (by omega) ?_
    exact x_hret hx hb hr hlocks hP hS h d_Lw_send_19
  · rcases hv with ⟨rfl, h⟩ | ⟨rfl, h⟩
    · refine ⟨10, ⟨by decide, by decide, k_333, Or.inl ⟨rfl, rfl⟩⟩, ?_⟩
      refine lv_astore hx hb d_Lw_send_10 hl (Nat.le_of_ble_eq_true rfl) (lv' := [(4, .ref a), (0, .ref (Θ 0)), (1, .int p1), (2, .int p2), (3, .int p3)]) rfl (fun ls hl => ?_)
      refine lv_iconst (v := (1 : Int32)) hx hb d_Lw_send_12 (by decide) ?_
      exact x_hret hx hb hr hlocks hP hS h d_Lw_send_13
    · refine ⟨14, ⟨by decide, by decide, k_333, Or.inr ⟨by decide, ⟨by decide, by decide, k_449, Or.inl ⟨rfl, rfl⟩⟩⟩⟩, ?_⟩
      refine lv_astore hx hb d_Lw_send_14 hl (Nat.le_of_ble_eq_true rfl) (lv' := [(4, .ref a), (0, .ref (Θ 0)), (1, .int p1), (2, .int p2), (3, .int p3)]) rfl (fun ls hl => ?_)
      refine lv_iconst (v := (2 : Int32)) hx hb d_Lw_send_16 (by decide) ?_
      exact x_hret hx hb hr hlocks hP hS h d_Lw_send_17
set_option maxHeartbeats 4000000 in
set_option maxRecDepth 100000 in
theorem c_Lw_speak (l : Launch) (hfl : l.flags = pinnedFlags ++ [noTraceFlag]) (D : va_G) (κ : Nat → ClassId) {Θ : Nat → Nat} (hΘ : xJ 52 Θ) (sz : Nat) (p1 : Int32) (p2 : Int32) (I : SI) (J : SJ) (post : Int32 → SI → SJ → Prop) (h : p_Lw_speak p1 p2 post I J) : Met l y_Lw_speak WS rm_Lw_speak (va_Pc [.ref (Θ 0), .int p1, .int p2] (xPX D clA (tysA κ) 52 Θ (eC Θ κ) sz I J)) (xQi D clA 52 Θ (eC Θ κ) sz post) 1 6 (xA 52 Θ sz) := by
  refine xMetH (cc := b_Lw_speak) (maxL := 4) (ret := (some .int)) (hs := [(0, 6, 9, 13)]) (by decide) k_510 ?_
  intro p e s m args below meth c s₁ B hml htb hv
  obtain ⟨hargs, ⟨hsz, hP, hK, hN, hG⟩, hsz2, hT⟩ := hv
  have hx := B.exec
  have hb := B.bytes
  have hr := B.returns
  have hlocks := B.notSynchronized
  have hts := atoms_spec (ws := WS) B.pre
  have hown : s.vm.findClass R_Lw = some m.cls := findClass_of_methodNamed B.named
  have C : xC p m c b_Lw_speak 4 s args R_Lw D clA (tysA κ) 52 Θ sz := ⟨⟨hx, hb, hml, hown, hts⟩, hK, hN, hG, hsz⟩
  have hE := lg_entry_eq m [.ref (Θ 0), .int p1, .int p2] 4
  rw [← hargs] at hE
  rw [hE]
  have hl := lv_entry [.ref (Θ 0), .int p1, .int p2] (n := 4) (Nat.le_of_ble_eq_true rfl)
  generalize (lg_sl [.ref (Θ 0), .int p1, .int p2] ++ List.replicate (4 - (lg_sl [.ref (Θ 0), .int p1, .int p2]).length) Slot.unset).toArray = ls at hl ⊢
  have hl : lv_has ls 4 [(0, .ref (Θ 0)), (1, .int p1), (2, .int p2)] := hl
  unfold p_Lw_speak at h
  refine lv_aload_n hx hb d_Lw_speak_0 rfl (lv_at hl 0 rfl) ?_
  refine lv_iload_n hx hb d_Lw_speak_1 rfl (lv_at hl 1 rfl) ?_
  refine lv_iload_n hx hb d_Lw_speak_2 rfl (lv_at hl 2 rfl) ?_
  refine x_callC [1] C hT hsz2 htb hP (Nat.le_of_ble_eq_true rfl) (eC_TC _ _) rfl (c_TC_speak l hfl D κ hΘ sz p1 p2 I J _ _ h) q_TC_speak k_512 k_513 k_511 (Nat.le_of_ble_eq_true rfl) (Nat.le_of_ble_eq_true rfl) ⟨(Nat.le_of_ble_eq_true rfl), (Nat.le_of_ble_eq_true rfl)⟩ rfl hl.1 rfl (Nat.le_of_ble_eq_true rfl) d_Lw_speak_3 (fun v I1 J1 hv H locs hP hS => ?_) (fun i I1 J1 hv a H locs hP hS => ?_)
  · obtain ⟨rfl, h⟩ := hv
    refine lv_goto hx hb d_Lw_speak_6 (tgt := 12) rfl ?_
    refine lv_iconst (v := (0 : Int32)) hx hb d_Lw_speak_12 (by decide) ?_
    refine W.widen (k := 1) (n := 6) (by omega) (by omega) ?_
    exact x_hret hx hb hr hlocks hP hS h d_Lw_speak_13
  · rcases hv with ⟨rfl, h⟩
    · refine ⟨9, ⟨by decide, by decide, k_333, Or.inl ⟨rfl, rfl⟩⟩, ?_⟩
      refine lv_astore_n hx hb d_Lw_speak_9 rfl hl (Nat.le_of_ble_eq_true rfl) (lv' := [(3, .ref a), (0, .ref (Θ 0)), (1, .int p1), (2, .int p2)]) rfl (fun ls hl => ?_)
      refine lv_iconst (v := (1 : Int32)) hx hb d_Lw_speak_10 (by decide) ?_
      exact x_hret hx hb hr hlocks hP hS h d_Lw_speak_11
set_option maxHeartbeats 4000000 in
set_option maxRecDepth 100000 in
theorem c_Lw_draw (l : Launch) (hfl : l.flags = pinnedFlags ++ [noTraceFlag]) (D : va_G) (κ : Nat → ClassId) {Θ : Nat → Nat} (hΘ : xJ 52 Θ) (sz : Nat) (p1 : Int32) (p2 : Int32) (I : SI) (J : SJ) (post : Int32 → SI → SJ → Prop) (h : p_Lw_draw p1 p2 post I J) : Met l y_Lw_draw WS rm_Lw_draw (va_Pc [.ref (Θ 0), .int p1, .int p2] (xPX D clA (tysA κ) 52 Θ (eC Θ κ) sz I J)) (xQi D clA 52 Θ (eC Θ κ) sz post) 1 6 (xA 52 Θ sz) := by
  refine xMetH (cc := b_Lw_draw) (maxL := 4) (ret := (some .int)) (hs := [(0, 6, 9, 13), (0, 6, 12, 46), (0, 6, 15, 29)]) (by decide) k_518 ?_
  intro p e s m args below meth c s₁ B hml htb hv
  obtain ⟨hargs, ⟨hsz, hP, hK, hN, hG⟩, hsz2, hT⟩ := hv
  have hx := B.exec
  have hb := B.bytes
  have hr := B.returns
  have hlocks := B.notSynchronized
  have hts := atoms_spec (ws := WS) B.pre
  have hown : s.vm.findClass R_Lw = some m.cls := findClass_of_methodNamed B.named
  have C : xC p m c b_Lw_draw 4 s args R_Lw D clA (tysA κ) 52 Θ sz := ⟨⟨hx, hb, hml, hown, hts⟩, hK, hN, hG, hsz⟩
  have hE := lg_entry_eq m [.ref (Θ 0), .int p1, .int p2] 4
  rw [← hargs] at hE
  rw [hE]
  have hl := lv_entry [.ref (Θ 0), .int p1, .int p2] (n := 4) (Nat.le_of_ble_eq_true rfl)
  generalize (lg_sl [.ref (Θ 0), .int p1, .int p2] ++ List.replicate (4 - (lg_sl [.ref (Θ 0), .int p1, .int p2]).length) Slot.unset).toArray = ls at hl ⊢
  have hl : lv_has ls 4 [(0, .ref (Θ 0)), (1, .int p1), (2, .int p2)] := hl
  unfold p_Lw_draw at h
  refine lv_aload_n hx hb d_Lw_draw_0 rfl (lv_at hl 0 rfl) ?_
  refine lv_iload_n hx hb d_Lw_draw_1 rfl (lv_at hl 1 rfl) ?_
  refine lv_iload_n hx hb d_Lw_draw_2 rfl (lv_at hl 2 rfl) ?_
  refine x_callC [1, 3, 2] C hT hsz2 htb hP (Nat.le_of_ble_eq_true rfl) (eC_TC _ _) rfl (c_TC_draw l hfl D κ hΘ sz p1 p2 I J _ _ h) q_TC_draw k_521 k_522 k_520 (Nat.le_of_ble_eq_true rfl) (Nat.le_of_ble_eq_true rfl) ⟨(Nat.le_of_ble_eq_true rfl), (Nat.le_of_ble_eq_true rfl)⟩ rfl hl.1 rfl (Nat.le_of_ble_eq_true rfl) d_Lw_draw_3 (fun v I1 J1 hv H locs hP hS => ?_) (fun i I1 J1 hv a H locs hP hS => ?_)
  · obtain ⟨rfl, h⟩ := hv
    refine lv_goto hx hb d_Lw_draw_6 (tgt := 18) rfl ?_
    refine lv_iconst (v := (0 : Int32)) hx hb d_Lw_draw_18 (by decide) ?_
    refine W.widen (k := 1) (n := 6) (by omega) (by omega) ?_
    exact x_hret hx hb hr hlocks hP hS h d_Lw_draw_19
  · rcases hv with ⟨rfl, h⟩ | ⟨rfl, h⟩ | ⟨rfl, h⟩
    · refine ⟨9, ⟨by decide, by decide, k_333, Or.inl ⟨rfl, rfl⟩⟩, ?_⟩
      refine lv_astore_n hx hb d_Lw_draw_9 rfl hl (Nat.le_of_ble_eq_true rfl) (lv' := [(3, .ref a), (0, .ref (Θ 0)), (1, .int p1), (2, .int p2)]) rfl (fun ls hl => ?_)
      refine lv_iconst (v := (1 : Int32)) hx hb d_Lw_draw_10 (by decide) ?_
      exact x_hret hx hb hr hlocks hP hS h d_Lw_draw_11
    · refine ⟨12, ⟨by decide, by decide, k_333, Or.inr ⟨by decide, ⟨by decide, by decide, k_519, Or.inl ⟨rfl, rfl⟩⟩⟩⟩, ?_⟩
      refine lv_astore_n hx hb d_Lw_draw_12 rfl hl (Nat.le_of_ble_eq_true rfl) (lv' := [(3, .ref a), (0, .ref (Θ 0)), (1, .int p1), (2, .int p2)]) rfl (fun ls hl => ?_)
      refine lv_iconst (v := (2 : Int32)) hx hb d_Lw_draw_13 (by decide) ?_
      exact x_hret hx hb hr hlocks hP hS h d_Lw_draw_14
    · refine ⟨15, ⟨by decide, by decide, k_333, Or.inr ⟨by decide, ⟨by decide, by decide, k_519, Or.inr ⟨by decide, ⟨by decide, by decide, k_449, Or.inl ⟨rfl, rfl⟩⟩⟩⟩⟩⟩, ?_⟩
      refine lv_astore_n hx hb d_Lw_draw_15 rfl hl (Nat.le_of_ble_eq_true rfl) (lv' := [(3, .ref a), (0, .ref (Θ 0)), (1, .int p1), (2, .int p2)]) rfl (fun ls hl => ?_)
      refine lv_iconst (v := (3 : Int32)) hx hb d_Lw_draw_16 (by decide) ?_
      exact x_hret hx hb hr hlocks hP hS h d_Lw_draw_17
set_option maxHeartbeats 4000000 in
set_option maxRecDepth 100000 in
theorem c_Lw_fault (l : Launch) (hfl : l.flags = pinnedFlags ++ [noTraceFlag]) (D : va_G) (κ : Nat → ClassId) {Θ : Nat → Nat} (hΘ : xJ 52 Θ) (sz : Nat) (p1 : Int32) (p2 : Int64) (I : SI) (J : SJ) (post : Int32 → SI → SJ → Prop) (h : p_Lw_fault p1 p2 post I J) : Met l y_Lw_fault WS rm_Lw_fault (va_Pc [.ref (Θ 0), .int p1, .long p2] (xPX D clA (tysA κ) 52 Θ (eC Θ κ) sz I J)) (xQi D clA 52 Θ (eC Θ κ) sz post) 1 6 (xA 52 Θ sz) := by
  refine xMetH (cc := b_Lw_fault) (maxL := 5) (ret := (some .int)) (hs := [(0, 6, 9, 13)]) (by decide) k_547 ?_
  intro p e s m args below meth c s₁ B hml htb hv
  obtain ⟨hargs, ⟨hsz, hP, hK, hN, hG⟩, hsz2, hT⟩ := hv
  have hx := B.exec
  have hb := B.bytes
  have hr := B.returns
  have hlocks := B.notSynchronized
  have hts := atoms_spec (ws := WS) B.pre
  have hown : s.vm.findClass R_Lw = some m.cls := findClass_of_methodNamed B.named
  have C : xC p m c b_Lw_fault 5 s args R_Lw D clA (tysA κ) 52 Θ sz := ⟨⟨hx, hb, hml, hown, hts⟩, hK, hN, hG, hsz⟩
  have hE := lg_entry_eq m [.ref (Θ 0), .int p1, .long p2] 5
  rw [← hargs] at hE
  rw [hE]
  have hl := lv_entry [.ref (Θ 0), .int p1, .long p2] (n := 5) (Nat.le_of_ble_eq_true rfl)
  generalize (lg_sl [.ref (Θ 0), .int p1, .long p2] ++ List.replicate (5 - (lg_sl [.ref (Θ 0), .int p1, .long p2]).length) Slot.unset).toArray = ls at hl ⊢
  have hl : lv_has ls 5 [(0, .ref (Θ 0)), (1, .int p1), (2, .long p2)] := hl
  unfold p_Lw_fault at h
  refine lv_aload_n hx hb d_Lw_fault_0 rfl (lv_at hl 0 rfl) ?_
  refine lv_iload_n hx hb d_Lw_fault_1 rfl (lv_at hl 1 rfl) ?_
  refine lv_lload_n hx hb d_Lw_fault_2 rfl (lv_at hl 2 rfl) ?_
  refine x_callC [1] C hT hsz2 htb hP (Nat.le_of_ble_eq_true rfl) (eC_TC _ _) rfl (c_TC_fault l hfl D κ hΘ sz p1 p2 I J _ _ h) q_TC_fault k_549 k_550 k_548 (Nat.le_of_ble_eq_true rfl) (Nat.le_of_ble_eq_true rfl) ⟨(Nat.le_of_ble_eq_true rfl), (Nat.le_of_ble_eq_true rfl)⟩ rfl hl.1 rfl (Nat.le_of_ble_eq_true rfl) d_Lw_fault_3 (fun v I1 J1 hv H locs hP hS => ?_) (fun i I1 J1 hv a H locs hP hS => ?_)
  · obtain ⟨rfl, h⟩ := hv
    refine lv_goto hx hb d_Lw_fault_6 (tgt := 13) rfl ?_
    refine lv_iconst (v := (0 : Int32)) hx hb d_Lw_fault_13 (by decide) ?_
    refine W.widen (k := 1) (n := 6) (by omega) (by omega) ?_
    exact x_hret hx hb hr hlocks hP hS h d_Lw_fault_14
  · rcases hv with ⟨rfl, h⟩
    · refine ⟨9, ⟨by decide, by decide, k_333, Or.inl ⟨rfl, rfl⟩⟩, ?_⟩
      refine lv_astore hx hb d_Lw_fault_9 hl (Nat.le_of_ble_eq_true rfl) (lv' := [(4, .ref a), (0, .ref (Θ 0)), (1, .int p1), (2, .long p2)]) rfl (fun ls hl => ?_)
      refine lv_iconst (v := (1 : Int32)) hx hb d_Lw_fault_11 (by decide) ?_
      exact x_hret hx hb hr hlocks hP hS h d_Lw_fault_12
