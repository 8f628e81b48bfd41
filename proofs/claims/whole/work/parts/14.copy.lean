section CP
variable {p : Program} {l : Launch} {e : Env} {R : Room} {s : State} {m : MethodId} {args : Array Value} {below : List Frame} {meth : Method} {c : Code} {H : Heap} {locs : List Loc} {Q : State → Prop}
variable {cc : ByteArray} {pc nL : Nat} {ls : Array Slot} {rest : List Value} {D : va_G} {cl : List vw_C} {tys : List (ClassId × FieldType)} {n sz : Nat} {Θ : Nat → Nat} {X : EE} {I : SI} {J : SJ} {own : String} {index : Nat}
theorem x_copy (C : xC p m c cc nL s args own D cl tys n Θ sz) (hΘ : xJ n Θ) (hP : va_P D cl (xw n Θ X I J) H) (hS : va_S (xA n Θ sz) s.heap H locs) (o : Nat) (ho : o < n) {cA : ClassId} {N : Nat} (hE : ∀ f g, X o f g = .inl (cA, N, .inl f)) (ht : tys[0]? = some (cA, .int)) {sp dp k' : Int32} {a b k : Nat} (ea : sp = nI a) (eb : dp = nI b) (ek : k' = nI k) (ha : a + k ≤ N) (hb' : b + k ≤ N) (hN : N < 2 ^ 31) (hsize : ls.size = nL) (hl : Cond.methodLink own index arraycopyName ∈ WS) (hf : 1 ≤ R.frames) (hlo : (rest.map fun v => v.category).sum + (nativeFrameWords "java/lang/System" "arraycopy" 5 + 11) ≤ R.locals) (hdg : decode cc pc = .ok (.invokestatic index, 3))
    (kk : ∀ (H1 : Heap) (locs1 : List Loc), va_P D cl (xw n Θ X (xr I o (va_cpy (I o) (I o) a b k)) J) H1 → va_S (xA n Θ sz) s.heap H1 locs1 → W p l e R s m args below meth c H1 locs1 0 0 Q (F0 m (pc + 3) ls rest)) : W p l e R s m args below meth c H locs 0 0 Q (F0 m pc ls (.int k' :: .int dp :: .ref (Θ o) :: .int sp :: .ref (Θ o) :: rest)) := by
  subst ea; subst eb; subst ek
  have c1 : (nI a).toNatClampNeg = a := nI_clamp (by omega)
  have c2 : (nI b).toNatClampNeg = b := nI_clamp (by omega)
  have c3 : (nI k).toNatClampNeg = k := nI_clamp (by omega)
  refine va_copyi C.1.1 C.1.2.1 (C.1.2.2.1.trans hsize.symm) C.1.2.2.2.1 (C.1.2.2.2.2 _ hl) (C.1.2.2.2.2 _ k_606) (C.1.2.2.2.2 _ k_605) (C.1.2.2.2.2 _ k_19) C.2.1 hP (xw_D hΘ) hS o o 0 0 (xw_at ho (hE _ _)) (xw_at ho (hE _ _)) ht ht rfl (nI_pos (by omega)) (nI_pos (by omega)) (nI_pos (by omega)) (by rw [c1, c3]; exact ha) (by rw [c2, c3]; exact hb') (fun _ _ => rfl) hf hlo hdg (fun H1 locs1 h1 _ h3 => kk H1 locs1 ?_ h3)
  rw [c1, c2, c3, xw_set (I' := xr I o (va_cpy (I o) (I o) a b k)) (J' := J) ho (fun x hx => xr_n I _ hx) (fun _ _ => rfl) (by rw [hE, xr_s])] at h1
  exact h1
theorem x_mmin (C : xC p m c cc nL s args own D cl tys n Θ sz) (hsize : ls.size = nL) (hl : Cond.methodLink own index Lib.Math.min.name ∈ WS) (hf : 1 ≤ R.frames) (hlo : (rest.map fun v => v.category).sum + 13 ≤ R.locals) {x y : Int32} (hdg : decode cc pc = .ok (.invokestatic index, 3))
    (kk : W p l e R s m args below meth c H locs 0 0 Q (F0 m (pc + 3) ls (.int (if y < x then y else x) :: rest))) : W p l e R s m args below meth c H locs 0 0 Q (F0 m pc ls (.int y :: .int x :: rest)) :=
  va_mmin C.1.1 C.1.2.1 (C.1.2.2.1.trans hsize.symm) C.1.2.2.2.1 (C.1.2.2.2.2 _ hl) (C.1.2.2.2.2 _ k_602) (C.1.2.2.2.2 _ k_18) (C.1.2.2.2.2 _ k_603) hf hlo (Nat.zero_le _) (Nat.zero_le _) hdg kk
end CP
