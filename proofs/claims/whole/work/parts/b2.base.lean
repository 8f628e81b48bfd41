/-! the law's body: its cells, and what holds between two calls -/
abbrev LWs (κ : Nat → ClassId) (Θ Φ : Nat → Nat) (ao : Nat) (f : Nat → Int64) (I : SI) (J : SJ) (A : SI) (B : SJ) : va_W := xw 34 Φ (eM Φ κ) A B ++ (xw 52 Θ (eC Θ κ) I J ++ wO κ ao f)
abbrev Aw (s : State) : Nat → Prop := fun q => s.heap.size ≤ q
abbrev lwL (b : Nat) (Θ Φ : Nat → Nat) (ao i : Nat) : List (Nat × Value) := [(4, .int (nI i)), (3, .ref ao), (2, .ref (Φ 0)), (1, .ref (Θ 0)), (0, .ref b)]
def lwN (p : Program) (l : Launch) (e : Env) (s : State) (m : MethodId) (below : List Frame) (meth : Method) (c : Code) (b : Nat) (D : va_G) (κ : Nat → ClassId) (Θ Φ : Nat → Nat) (ao i cells slots : Nat) (Q : State → Prop) (pc : Nat) : Prop :=
  ∀ (f : Nat → Int64) (I : SI) (J : SJ) (A : SI) (B : SJ) (H : Heap) (locs : List Loc) (ls : Array Slot), jInv I J A B → va_P D clA (LWs κ Θ Φ ao f I J A B) H → va_D (Aw s) (LWs κ Θ Φ ao f I J A B) → va_S (Aw s) s.heap H locs → lv_has ls 7 (lwL b Θ Φ ao i) → W p l e room_1 s m #[Value.ref b] below meth c H locs cells slots Q (F0 m pc ls [])
/-- what stands fast through the law -/
def lwC (p : Program) (l : Launch) (s : State) (m : MethodId) (c : Code) (b L : Nat) (xs : Nat → Int32) (D : va_G) (κ : Nat → ClassId) : Prop := cC p m c code 7 s #[Value.ref b] R_Lw D κ s.heap.size (Aw s) ∧ TG s ∧ l.flags = pinnedFlags ++ [noTraceFlag] ∧ va_X b L xs s s.heap ∧ b < s.heap.size ∧ L ≤ 2048
section LS
variable {p : Program} {l : Launch} {e : Env} {R : Room} {s : State} {m : MethodId} {args : Array Value} {below : List Frame} {meth : Method} {c : Code} {H : Heap} {locs : List Loc} {cells slots : Nat} {Q : State → Prop}
variable {cc : ByteArray} {pc : Nat} {ls : Array Slot} {rest : List Value} {b L i k : Nat} {xs : Nat → Int32} {x : Int32}
theorem y_sld (hx : p.tables.exec = Jvm.exec) (hb : c.code = cc) (hX : va_X b L xs s s.heap) (hbl : b < s.heap.size) (hS : va_S (Aw s) s.heap H locs) (hi : i + k < L) (hL : L ≤ 2048) (ex : x = nI (i + k)) (hdg : decode cc pc = .ok (.iaload, 1))
    (kk : W p l e R s m args below meth c H locs cells slots Q (F0 m (pc + 1) ls (.int (xs (i + k)) :: rest))) : W p l e R s m args below meth c H locs cells slots Q (F0 m pc ls (.int x :: .ref b :: rest)) := by
  subst ex
  refine va_sld hx hb hX hbl (A := Aw s) (fun h => by omega) hS (vp_in_nI hi (by omega)) hdg ?_
  rw [nI_clamp (by omega)]
  exact kk
end LS
