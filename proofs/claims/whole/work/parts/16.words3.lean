/-! ===== links between nest mates ===== -/
set_option maxRecDepth 100000 in
set_option maxHeartbeats 4000000 in
theorem mnA0 : ∀ e ∈ mcTab 0, (e.2.1 = 4 → (0 = 10 ∧ e.1 = 21 ∧ e.2.2.2.nm = yX8_init) ∨ (0 = 10 ∧ e.1 = 65 ∧ e.2.2.2.nm = yX2_init)) ∧ (e.2.1 = 5 → 0 = 7 ∧ e.1 = 189 ∧ e.2.2.2.nm = yX10_cellOf) := by decide +kernel
set_option maxRecDepth 100000 in
set_option maxHeartbeats 4000000 in
theorem mnA1 : ∀ e ∈ mcTab 1, (e.2.1 = 4 → (1 = 10 ∧ e.1 = 21 ∧ e.2.2.2.nm = yX8_init) ∨ (1 = 10 ∧ e.1 = 65 ∧ e.2.2.2.nm = yX2_init)) ∧ (e.2.1 = 5 → 1 = 7 ∧ e.1 = 189 ∧ e.2.2.2.nm = yX10_cellOf) := by decide +kernel
set_option maxRecDepth 100000 in
set_option maxHeartbeats 4000000 in
theorem mnA2 : ∀ e ∈ mcTab 2, (e.2.1 = 4 → (2 = 10 ∧ e.1 = 21 ∧ e.2.2.2.nm = yX8_init) ∨ (2 = 10 ∧ e.1 = 65 ∧ e.2.2.2.nm = yX2_init)) ∧ (e.2.1 = 5 → 2 = 7 ∧ e.1 = 189 ∧ e.2.2.2.nm = yX10_cellOf) := by decide +kernel
set_option maxRecDepth 100000 in
set_option maxHeartbeats 4000000 in
theorem mnA3 : ∀ e ∈ mcTab 3, (e.2.1 = 4 → (3 = 10 ∧ e.1 = 21 ∧ e.2.2.2.nm = yX8_init) ∨ (3 = 10 ∧ e.1 = 65 ∧ e.2.2.2.nm = yX2_init)) ∧ (e.2.1 = 5 → 3 = 7 ∧ e.1 = 189 ∧ e.2.2.2.nm = yX10_cellOf) := by decide +kernel
set_option maxRecDepth 100000 in
set_option maxHeartbeats 4000000 in
theorem mnA4 : ∀ e ∈ mcTab 4, (e.2.1 = 4 → (4 = 10 ∧ e.1 = 21 ∧ e.2.2.2.nm = yX8_init) ∨ (4 = 10 ∧ e.1 = 65 ∧ e.2.2.2.nm = yX2_init)) ∧ (e.2.1 = 5 → 4 = 7 ∧ e.1 = 189 ∧ e.2.2.2.nm = yX10_cellOf) := by decide +kernel
set_option maxRecDepth 100000 in
set_option maxHeartbeats 4000000 in
theorem mnA5 : ∀ e ∈ mcTab 5, (e.2.1 = 4 → (5 = 10 ∧ e.1 = 21 ∧ e.2.2.2.nm = yX8_init) ∨ (5 = 10 ∧ e.1 = 65 ∧ e.2.2.2.nm = yX2_init)) ∧ (e.2.1 = 5 → 5 = 7 ∧ e.1 = 189 ∧ e.2.2.2.nm = yX10_cellOf) := by decide +kernel
set_option maxRecDepth 100000 in
set_option maxHeartbeats 4000000 in
theorem mnA6 : ∀ e ∈ mcTab 6, (e.2.1 = 4 → (6 = 10 ∧ e.1 = 21 ∧ e.2.2.2.nm = yX8_init) ∨ (6 = 10 ∧ e.1 = 65 ∧ e.2.2.2.nm = yX2_init)) ∧ (e.2.1 = 5 → 6 = 7 ∧ e.1 = 189 ∧ e.2.2.2.nm = yX10_cellOf) := by decide +kernel
set_option maxRecDepth 100000 in
set_option maxHeartbeats 4000000 in
theorem mnA7 : ∀ e ∈ mcTab 7, (e.2.1 = 4 → (7 = 10 ∧ e.1 = 21 ∧ e.2.2.2.nm = yX8_init) ∨ (7 = 10 ∧ e.1 = 65 ∧ e.2.2.2.nm = yX2_init)) ∧ (e.2.1 = 5 → 7 = 7 ∧ e.1 = 189 ∧ e.2.2.2.nm = yX10_cellOf) := by decide +kernel
set_option maxRecDepth 100000 in
set_option maxHeartbeats 4000000 in
theorem mnA8 : ∀ e ∈ mcTab 8, (e.2.1 = 4 → (8 = 10 ∧ e.1 = 21 ∧ e.2.2.2.nm = yX8_init) ∨ (8 = 10 ∧ e.1 = 65 ∧ e.2.2.2.nm = yX2_init)) ∧ (e.2.1 = 5 → 8 = 7 ∧ e.1 = 189 ∧ e.2.2.2.nm = yX10_cellOf) := by decide +kernel
set_option maxRecDepth 100000 in
set_option maxHeartbeats 4000000 in
theorem mnA9 : ∀ e ∈ mcTab 9, (e.2.1 = 4 → (9 = 10 ∧ e.1 = 21 ∧ e.2.2.2.nm = yX8_init) ∨ (9 = 10 ∧ e.1 = 65 ∧ e.2.2.2.nm = yX2_init)) ∧ (e.2.1 = 5 → 9 = 7 ∧ e.1 = 189 ∧ e.2.2.2.nm = yX10_cellOf) := by decide +kernel
set_option maxRecDepth 100000 in
set_option maxHeartbeats 4000000 in
theorem mnA10 : ∀ e ∈ mcTab 10, (e.2.1 = 4 → (10 = 10 ∧ e.1 = 21 ∧ e.2.2.2.nm = yX8_init) ∨ (10 = 10 ∧ e.1 = 65 ∧ e.2.2.2.nm = yX2_init)) ∧ (e.2.1 = 5 → 10 = 7 ∧ e.1 = 189 ∧ e.2.2.2.nm = yX10_cellOf) := by decide +kernel
set_option maxRecDepth 100000 in
set_option maxHeartbeats 4000000 in
theorem mnA11 : ∀ e ∈ mcTab 11, (e.2.1 = 4 → (11 = 10 ∧ e.1 = 21 ∧ e.2.2.2.nm = yX8_init) ∨ (11 = 10 ∧ e.1 = 65 ∧ e.2.2.2.nm = yX2_init)) ∧ (e.2.1 = 5 → 11 = 7 ∧ e.1 = 189 ∧ e.2.2.2.nm = yX10_cellOf) := by decide +kernel
set_option maxRecDepth 100000 in
set_option maxHeartbeats 4000000 in
theorem mnA12 : ∀ e ∈ mcTab 12, (e.2.1 = 4 → (12 = 10 ∧ e.1 = 21 ∧ e.2.2.2.nm = yX8_init) ∨ (12 = 10 ∧ e.1 = 65 ∧ e.2.2.2.nm = yX2_init)) ∧ (e.2.1 = 5 → 12 = 7 ∧ e.1 = 189 ∧ e.2.2.2.nm = yX10_cellOf) := by decide +kernel
theorem mnA : ∀ own, ∀ e ∈ mcTab own, (e.2.1 = 4 → (own = 10 ∧ e.1 = 21 ∧ e.2.2.2.nm = yX8_init) ∨ (own = 10 ∧ e.1 = 65 ∧ e.2.2.2.nm = yX2_init)) ∧ (e.2.1 = 5 → own = 7 ∧ e.1 = 189 ∧ e.2.2.2.nm = yX10_cellOf)
  | 0 => mnA0
  | 1 => mnA1
  | 2 => mnA2
  | 3 => mnA3
  | 4 => mnA4
  | 5 => mnA5
  | 6 => mnA6
  | 7 => mnA7
  | 8 => mnA8
  | 9 => mnA9
  | 10 => mnA10
  | 11 => mnA11
  | 12 => mnA12
  | _ + 13 => fun _ h => by first | (cases h; done) | (exact absurd h (by decide))
theorem mnest4 (own idx n : Nat) (M' : mM) (h : mcT own idx = some (4, n, M')) : (mcn own = RX10 ∧ idx = 21 ∧ M'.nm = yX8_init) ∨ (mcn own = RX10 ∧ idx = 65 ∧ M'.nm = yX2_init) := by
  rcases (mnA own _ (mlook_mem h)).1 rfl with ⟨h1, h2, h3⟩ | ⟨h1, h2, h3⟩
  · exact Or.inl ⟨by rw [h1]; rfl, h2, h3⟩
  · exact Or.inr ⟨by rw [h1]; rfl, h2, h3⟩
theorem mnest5 (own idx n : Nat) (M' : mM) (h : mcT own idx = some (5, n, M')) : mcn own = RX7 ∧ idx = 189 ∧ M'.nm = yX10_cellOf := by
  obtain ⟨h1, h2, h3⟩ := (mnA own _ (mlook_mem h)).2 rfl
  exact ⟨by rw [h1]; rfl, h2, h3⟩
