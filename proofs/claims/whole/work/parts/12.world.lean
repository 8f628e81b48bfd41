/-! the cells of world C: 52 of them -/
def eC (Θ : Nat → Nat) (κ : Nat → ClassId) : EE := fun o f g =>
  if o < 1 then .inr (0, [.ref (Θ 1), .ref (Θ 6), .ref (Θ 12), .ref (Θ 13), .int (f 4)]) else
  if o < 2 then .inr (1, [.ref (Θ 2), .ref (Θ 3), .ref (Θ 4), .ref (Θ 5)]) else
  if o < 3 then .inl (κ 1, 8, .inr (.inl g)) else
  if o < 4 then .inl (κ 0, 32, .inl f) else
  if o < 6 then .inl (κ 1, 16, .inr (.inl g)) else
  if o < 7 then .inr (2, [.ref (Θ 7), .ref (Θ 8), .ref (Θ 9), .ref (Θ 10), .ref (Θ 11)]) else
  if o < 8 then .inl (κ 0, 8, .inl f) else
  if o < 9 then .inl (κ 0, 8, .inl f) else
  if o < 10 then .inl (κ 0, 8, .inl f) else
  if o < 11 then .inl (κ 4, 4, .inr (.inr (.inr (.inr (fun k => some (Θ (38 + k))))))) else
  if o < 12 then .inl (κ 5, 3, .inr (.inr (.inr (.inr (fun k => some (Θ (46 + k))))))) else
  if o < 13 then .inl (κ 3, 8, .inr (.inr (.inr (.inr (fun k => some (Θ (14 + k))))))) else
  if o < 14 then .inl (κ 1, 11, .inr (.inl g)) else
  if o < 22 then .inr (3, [.int (f 0), .ref (Θ (o + 8)), .ref (Θ (o + 16)), .int (f 3), .int (f 4), .int (f 5), .int (f 6), .int (f 7), .int (f 8), .int (f 9), .int (f 10), .int (f 11), .int (f 12), .int (f 13), .int (f 14)]) else
  if o < 30 then .inr (4, [.int (f 0), .int (f 1), .int (f 2), .int (f 3)]) else
  if o < 38 then .inl (κ 0, 8, .inl f) else
  if o < 42 then .inr (5, [.ref (Θ (o + 4)), .int (f 1), .int (f 2), .int (f 3), .int (f 4), .int (f 5)]) else
  if o < 46 then .inl (κ 0, 6, .inl f) else
  if o < 49 then .inr (6, [.ref (Θ (o + 3)), .int (f 1)]) else
  .inl (κ 0, 8, .inl f)
theorem eC_TC {Θ : Nat → Nat} {κ : Nat → ClassId} : ∀ f g, eC Θ κ 0 f g = .inr (0, [.ref (Θ 1), .ref (Θ 6), .ref (Θ 12), .ref (Θ 13), .int (f 4)]) := fun _ _ => rfl
theorem eC_Co {Θ : Nat → Nat} {κ : Nat → ClassId} : ∀ f g, eC Θ κ 1 f g = .inr (1, [.ref (Θ 2), .ref (Θ 3), .ref (Θ 4), .ref (Θ 5)]) := fun _ _ => rfl
theorem eC_colourRows {Θ : Nat → Nat} {κ : Nat → ClassId} : ∀ f g, eC Θ κ 2 f g = .inl (κ 1, 8, .inr (.inl g)) := fun _ _ => rfl
theorem eC_sums {Θ : Nat → Nat} {κ : Nat → ClassId} : ∀ f g, eC Θ κ 3 f g = .inl (κ 0, 32, .inl f) := fun _ _ => rfl
theorem eC_keyRow {Θ : Nat → Nat} {κ : Nat → ClassId} {i : Nat} (hi : i < 2) : ∀ f g, eC Θ κ (4 + i) f g = .inl (κ 1, 16, .inr (.inl g)) := by
  intro f g
  have h : i = 0 ∨ i = 1 := by omega
  rcases h with rfl | rfl <;> rfl
theorem eC_Sw {Θ : Nat → Nat} {κ : Nat → ClassId} : ∀ f g, eC Θ κ 6 f g = .inr (2, [.ref (Θ 7), .ref (Θ 8), .ref (Θ 9), .ref (Θ 10), .ref (Θ 11)]) := fun _ _ => rfl
theorem eC_keys {Θ : Nat → Nat} {κ : Nat → ClassId} : ∀ f g, eC Θ κ 7 f g = .inl (κ 0, 8, .inl f) := fun _ _ => rfl
theorem eC_places {Θ : Nat → Nat} {κ : Nat → ClassId} : ∀ f g, eC Θ κ 8 f g = .inl (κ 0, 8, .inl f) := fun _ _ => rfl
theorem eC_memberships {Θ : Nat → Nat} {κ : Nat → ClassId} : ∀ f g, eC Θ κ 9 f g = .inl (κ 0, 8, .inl f) := fun _ _ => rfl
theorem eC_groups {Θ : Nat → Nat} {κ : Nat → ClassId} : ∀ f g, eC Θ κ 10 f g = .inl (κ 4, 4, .inr (.inr (.inr (.inr (fun k => some (Θ (38 + k))))))) := fun _ _ => rfl
theorem eC_cells {Θ : Nat → Nat} {κ : Nat → ClassId} : ∀ f g, eC Θ κ 11 f g = .inl (κ 5, 3, .inr (.inr (.inr (.inr (fun k => some (Θ (46 + k))))))) := fun _ _ => rfl
theorem eC_mobiles {Θ : Nat → Nat} {κ : Nat → ClassId} : ∀ f g, eC Θ κ 12 f g = .inl (κ 3, 8, .inr (.inr (.inr (.inr (fun k => some (Θ (14 + k))))))) := fun _ _ => rfl
theorem eC_faults {Θ : Nat → Nat} {κ : Nat → ClassId} : ∀ f g, eC Θ κ 13 f g = .inl (κ 1, 11, .inr (.inl g)) := fun _ _ => rfl
theorem eC_Mo {Θ : Nat → Nat} {κ : Nat → ClassId} {i : Nat} (hi : i < 8) : ∀ f g, eC Θ κ (14 + i) f g = .inr (3, [.int (f 0), .ref (Θ (22 + i)), .ref (Θ (30 + i)), .int (f 3), .int (f 4), .int (f 5), .int (f 6), .int (f 7), .int (f 8), .int (f 9), .int (f 10), .int (f 11), .int (f 12), .int (f 13), .int (f 14)]) := by
  intro f g
  have h : i = 0 ∨ i = 1 ∨ i = 2 ∨ i = 3 ∨ i = 4 ∨ i = 5 ∨ i = 6 ∨ i = 7 := by omega
  rcases h with rfl | rfl | rfl | rfl | rfl | rfl | rfl | rfl <;> rfl
theorem eC_Me {Θ : Nat → Nat} {κ : Nat → ClassId} {i : Nat} (hi : i < 8) : ∀ f g, eC Θ κ (22 + i) f g = .inr (4, [.int (f 0), .int (f 1), .int (f 2), .int (f 3)]) := by
  intro f g
  have h : i = 0 ∨ i = 1 ∨ i = 2 ∨ i = 3 ∨ i = 4 ∨ i = 5 ∨ i = 6 ∨ i = 7 := by omega
  rcases h with rfl | rfl | rfl | rfl | rfl | rfl | rfl | rfl <;> rfl
theorem eC_draws {Θ : Nat → Nat} {κ : Nat → ClassId} {i : Nat} (hi : i < 8) : ∀ f g, eC Θ κ (30 + i) f g = .inl (κ 0, 8, .inl f) := by
  intro f g
  have h : i = 0 ∨ i = 1 ∨ i = 2 ∨ i = 3 ∨ i = 4 ∨ i = 5 ∨ i = 6 ∨ i = 7 := by omega
  rcases h with rfl | rfl | rfl | rfl | rfl | rfl | rfl | rfl <;> rfl
theorem eC_Gr {Θ : Nat → Nat} {κ : Nat → ClassId} {i : Nat} (hi : i < 4) : ∀ f g, eC Θ κ (38 + i) f g = .inr (5, [.ref (Θ (42 + i)), .int (f 1), .int (f 2), .int (f 3), .int (f 4), .int (f 5)]) := by
  intro f g
  have h : i = 0 ∨ i = 1 ∨ i = 2 ∨ i = 3 := by omega
  rcases h with rfl | rfl | rfl | rfl <;> rfl
theorem eC_row {Θ : Nat → Nat} {κ : Nat → ClassId} {i : Nat} (hi : i < 4) : ∀ f g, eC Θ κ (42 + i) f g = .inl (κ 0, 6, .inl f) := by
  intro f g
  have h : i = 0 ∨ i = 1 ∨ i = 2 ∨ i = 3 := by omega
  rcases h with rfl | rfl | rfl | rfl <;> rfl
theorem eC_Ce {Θ : Nat → Nat} {κ : Nat → ClassId} {i : Nat} (hi : i < 3) : ∀ f g, eC Θ κ (46 + i) f g = .inr (6, [.ref (Θ (49 + i)), .int (f 1)]) := by
  intro f g
  have h : i = 0 ∨ i = 1 ∨ i = 2 := by omega
  rcases h with rfl | rfl | rfl <;> rfl
theorem eC_blocks {Θ : Nat → Nat} {κ : Nat → ClassId} {i : Nat} (hi : i < 3) : ∀ f g, eC Θ κ (49 + i) f g = .inl (κ 0, 8, .inl f) := by
  intro f g
  have h : i = 0 ∨ i = 1 ∨ i = 2 := by omega
  rcases h with rfl | rfl | rfl <;> rfl
/-! the cells of world M: 34 of them -/
def eM (Θ : Nat → Nat) (κ : Nat → ClassId) : EE := fun o f g =>
  if o < 1 then .inr (7, [.int (f 0), .ref (Θ 1), .ref (Θ 2), .long (g 3), .int (f 4), .ref (Θ 3), .ref (Θ 4), .ref (Θ 5), .ref (Θ 6), .ref (Θ 7), .ref (Θ 8), .ref (Θ 9), .ref (Θ 10), .ref (Θ 11), .ref (Θ 12), .ref (Θ 13), .ref (Θ 14), .ref (Θ 15), .ref (Θ 16), .ref (Θ 17), .ref (Θ 18), .ref (Θ 19), .ref (Θ 20), .ref (Θ 21), .ref (Θ 22), .ref (Θ 23), .ref (Θ 24), .ref (Θ 25), .ref (Θ 26), .ref (Θ 27), .ref (Θ 28), .ref (Θ 29), .ref (Θ 30), .ref (Θ 31), .ref (Θ 32), .ref (Θ 33), .int (f 36)]) else
  if o < 2 then .inl (κ 0, 72, .inl f) else
  if o < 3 then .inl (κ 0, 592, .inl f) else
  if o < 4 then .inl (κ 0, 8, .inl f) else
  if o < 5 then .inl (κ 0, 8, .inl f) else
  if o < 6 then .inl (κ 0, 8, .inl f) else
  if o < 7 then .inl (κ 0, 8, .inl f) else
  if o < 8 then .inl (κ 0, 8, .inl f) else
  if o < 9 then .inl (κ 0, 8, .inl f) else
  if o < 10 then .inl (κ 0, 8, .inl f) else
  if o < 11 then .inl (κ 0, 8, .inl f) else
  if o < 12 then .inl (κ 0, 8, .inl f) else
  if o < 13 then .inl (κ 2, 8, .inl f) else
  if o < 14 then .inl (κ 0, 8, .inl f) else
  if o < 15 then .inl (κ 0, 8, .inl f) else
  if o < 16 then .inl (κ 0, 8, .inl f) else
  if o < 17 then .inl (κ 0, 8, .inl f) else
  if o < 18 then .inl (κ 0, 8, .inl f) else
  if o < 19 then .inl (κ 0, 64, .inl f) else
  if o < 20 then .inl (κ 0, 8, .inl f) else
  if o < 21 then .inl (κ 0, 8, .inl f) else
  if o < 22 then .inl (κ 0, 8, .inl f) else
  if o < 23 then .inl (κ 0, 8, .inl f) else
  if o < 24 then .inl (κ 0, 8, .inl f) else
  if o < 25 then .inl (κ 0, 8, .inl f) else
  if o < 26 then .inl (κ 1, 11, .inr (.inl g)) else
  if o < 27 then .inl (κ 0, 4, .inl f) else
  if o < 28 then .inl (κ 0, 4, .inl f) else
  if o < 29 then .inl (κ 0, 4, .inl f) else
  if o < 30 then .inl (κ 0, 4, .inl f) else
  if o < 31 then .inl (κ 0, 24, .inl f) else
  if o < 32 then .inl (κ 0, 4, .inl f) else
  if o < 33 then .inl (κ 0, 27, .inl f) else
  .inl (κ 0, 3, .inl f)
theorem eM_Md {Θ : Nat → Nat} {κ : Nat → ClassId} : ∀ f g, eM Θ κ 0 f g = .inr (7, [.int (f 0), .ref (Θ 1), .ref (Θ 2), .long (g 3), .int (f 4), .ref (Θ 3), .ref (Θ 4), .ref (Θ 5), .ref (Θ 6), .ref (Θ 7), .ref (Θ 8), .ref (Θ 9), .ref (Θ 10), .ref (Θ 11), .ref (Θ 12), .ref (Θ 13), .ref (Θ 14), .ref (Θ 15), .ref (Θ 16), .ref (Θ 17), .ref (Θ 18), .ref (Θ 19), .ref (Θ 20), .ref (Θ 21), .ref (Θ 22), .ref (Θ 23), .ref (Θ 24), .ref (Θ 25), .ref (Θ 26), .ref (Θ 27), .ref (Θ 28), .ref (Θ 29), .ref (Θ 30), .ref (Θ 31), .ref (Θ 32), .ref (Θ 33), .int (f 36)]) := fun _ _ => rfl
theorem eM_seen {Θ : Nat → Nat} {κ : Nat → ClassId} : ∀ f g, eM Θ κ 1 f g = .inl (κ 0, 72, .inl f) := fun _ _ => rfl
theorem eM_cost {Θ : Nat → Nat} {κ : Nat → ClassId} : ∀ f g, eM Θ κ 2 f g = .inl (κ 0, 592, .inl f) := fun _ _ => rfl
theorem eM_cellOf {Θ : Nat → Nat} {κ : Nat → ClassId} : ∀ f g, eM Θ κ 3 f g = .inl (κ 0, 8, .inl f) := fun _ _ => rfl
theorem eM_ownKey {Θ : Nat → Nat} {κ : Nat → ClassId} : ∀ f g, eM Θ κ 4 f g = .inl (κ 0, 8, .inl f) := fun _ _ => rfl
theorem eM_knownKey {Θ : Nat → Nat} {κ : Nat → ClassId} : ∀ f g, eM Θ κ 5 f g = .inl (κ 0, 8, .inl f) := fun _ _ => rfl
theorem eM_groups {Θ : Nat → Nat} {κ : Nat → ClassId} : ∀ f g, eM Θ κ 6 f g = .inl (κ 0, 8, .inl f) := fun _ _ => rfl
theorem eM_kind {Θ : Nat → Nat} {κ : Nat → ClassId} : ∀ f g, eM Θ κ 7 f g = .inl (κ 0, 8, .inl f) := fun _ _ => rfl
theorem eM_what {Θ : Nat → Nat} {κ : Nat → ClassId} : ∀ f g, eM Θ κ 8 f g = .inl (κ 0, 8, .inl f) := fun _ _ => rfl
theorem eM_rest {Θ : Nat → Nat} {κ : Nat → ClassId} : ∀ f g, eM Θ κ 9 f g = .inl (κ 0, 8, .inl f) := fun _ _ => rfl
theorem eM_tries {Θ : Nat → Nat} {κ : Nat → ClassId} : ∀ f g, eM Θ κ 10 f g = .inl (κ 0, 8, .inl f) := fun _ _ => rfl
theorem eM_wait {Θ : Nat → Nat} {κ : Nat → ClassId} : ∀ f g, eM Θ κ 11 f g = .inl (κ 0, 8, .inl f) := fun _ _ => rfl
theorem eM_sent {Θ : Nat → Nat} {κ : Nat → ClassId} : ∀ f g, eM Θ κ 12 f g = .inl (κ 2, 8, .inl f) := fun _ _ => rfl
theorem eM_doing {Θ : Nat → Nat} {κ : Nat → ClassId} : ∀ f g, eM Θ κ 13 f g = .inl (κ 0, 8, .inl f) := fun _ _ => rfl
theorem eM_channel {Θ : Nat → Nat} {κ : Nat → ClassId} : ∀ f g, eM Θ κ 14 f g = .inl (κ 0, 8, .inl f) := fun _ _ => rfl
theorem eM_inCall {Θ : Nat → Nat} {κ : Nat → ClassId} : ∀ f g, eM Θ κ 15 f g = .inl (κ 0, 8, .inl f) := fun _ _ => rfl
theorem eM_presses {Θ : Nat → Nat} {κ : Nat → ClassId} : ∀ f g, eM Θ κ 16 f g = .inl (κ 0, 8, .inl f) := fun _ _ => rfl
theorem eM_speech {Θ : Nat → Nat} {κ : Nat → ClassId} : ∀ f g, eM Θ κ 17 f g = .inl (κ 0, 8, .inl f) := fun _ _ => rfl
theorem eM_draws {Θ : Nat → Nat} {κ : Nat → ClassId} : ∀ f g, eM Θ κ 18 f g = .inl (κ 0, 64, .inl f) := fun _ _ => rfl
theorem eM_drawCount {Θ : Nat → Nat} {κ : Nat → ClassId} : ∀ f g, eM Θ κ 19 f g = .inl (κ 0, 8, .inl f) := fun _ _ => rfl
theorem eM_heard {Θ : Nat → Nat} {κ : Nat → ClassId} : ∀ f g, eM Θ κ 20 f g = .inl (κ 0, 8, .inl f) := fun _ _ => rfl
theorem eM_heardLast {Θ : Nat → Nat} {κ : Nat → ClassId} : ∀ f g, eM Θ κ 21 f g = .inl (κ 0, 8, .inl f) := fun _ _ => rfl
theorem eM_got {Θ : Nat → Nat} {κ : Nat → ClassId} : ∀ f g, eM Θ κ 22 f g = .inl (κ 0, 8, .inl f) := fun _ _ => rfl
theorem eM_gotLast {Θ : Nat → Nat} {κ : Nat → ClassId} : ∀ f g, eM Θ κ 23 f g = .inl (κ 0, 8, .inl f) := fun _ _ => rfl
theorem eM_registered {Θ : Nat → Nat} {κ : Nat → ClassId} : ∀ f g, eM Θ κ 24 f g = .inl (κ 0, 8, .inl f) := fun _ _ => rfl
theorem eM_faults {Θ : Nat → Nat} {κ : Nat → ClassId} : ∀ f g, eM Θ κ 25 f g = .inl (κ 1, 11, .inr (.inl g)) := fun _ _ => rfl
theorem eM_groupKey {Θ : Nat → Nat} {κ : Nat → ClassId} : ∀ f g, eM Θ κ 26 f g = .inl (κ 0, 4, .inl f) := fun _ _ => rfl
theorem eM_callChannel {Θ : Nat → Nat} {κ : Nat → ClassId} : ∀ f g, eM Θ κ 27 f g = .inl (κ 0, 4, .inl f) := fun _ _ => rfl
theorem eM_holder {Θ : Nat → Nat} {κ : Nat → ClassId} : ∀ f g, eM Θ κ 28 f g = .inl (κ 0, 4, .inl f) := fun _ _ => rfl
theorem eM_since {Θ : Nat → Nat} {κ : Nat → ClassId} : ∀ f g, eM Θ κ 29 f g = .inl (κ 0, 4, .inl f) := fun _ _ => rfl
theorem eM_rows {Θ : Nat → Nat} {κ : Nat → ClassId} : ∀ f g, eM Θ κ 30 f g = .inl (κ 0, 24, .inl f) := fun _ _ => rfl
theorem eM_rowCount {Θ : Nat → Nat} {κ : Nat → ClassId} : ∀ f g, eM Θ κ 31 f g = .inl (κ 0, 4, .inl f) := fun _ _ => rfl
theorem eM_says {Θ : Nat → Nat} {κ : Nat → ClassId} : ∀ f g, eM Θ κ 32 f g = .inl (κ 0, 27, .inl f) := fun _ _ => rfl
theorem eM_sayCount {Θ : Nat → Nat} {κ : Nat → ClassId} : ∀ f g, eM Θ κ 33 f g = .inl (κ 0, 3, .inl f) := fun _ _ => rfl
