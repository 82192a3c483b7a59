/-! ===== links between nest mates ===== -/
set_option maxRecDepth 100000 in
set_option maxHeartbeats 4000000 in
theorem mnA0 : ∀ e ∈ mcTab 0, (e.2.1 = 4 → (0 = 10 ∧ e.1 = 21 ∧ e.2.2.2.nm = yX8_init) ∨ (0 = 10 ∧ e.1 = 65 ∧ e.2.2.2.nm = yX2_init)) ∧ (e.2.1 = 5 → 0 = 7 ∧ e.1 = 189 ∧ e.2.2.2.nm = yX10_cellOf) := by decide +kernel
set_option maxRecDepth 100000 in
set_option maxHeartbeats 4000000 in
theorem mnA1 : ∀ e ∈ mcTab 1, (e.2.1 = 4 → (1 = 10 ∧ e.1 = 21 ∧ e.2.2.2.nm = yX8_init) ∨ (1 = 10 ∧ e.1 = 65 ∧ e.2.2.2.nm = yX2_init)) ∧ (e.2.1 = 5 → 1 = 7 ∧ e.1 = 189 ∧ e.2.2.2.nm = yX10_cellOf) := by decide +kernel
set_option maxRecDepth 100000 in
set_option maxHeartbeats 4000000 in
theorem mnA2 : ∀ e ∈ mcTab 2, (e.2.1 = 4 → (2 = 10 ∧ e.1 = 21 ∧ e.2.2.2.nm = yX8_init) ∨ (2 = 10 ∧ e.1 = 65 ∧ e.2.2.2.nm = yX2_init)) ∧ (e.2.1 = 5 → 2 = 7 ∧ e.1 = 189 ∧ e.2.2.2.nm = yX10_cellOf) := by decide +kernel
set_option maxRecDepth 100000 in
set_option maxHeartbeats 4000000 in
theorem mnA3 : ∀ e ∈ mcTab 3, (e.2.1 = 4 → (3 = 10 ∧ e.1 = 21 ∧ e.2.2.2.nm = yX8_init) ∨ (3 = 10 ∧ e.1 = 65 ∧ e.2.2.2.nm = yX2_init)) ∧ (e.2.1 = 5 → 3 = 7 ∧ e.1 = 189 ∧ e.2.2.2.nm = yX10_cellOf) := by decide +kernel
set_option maxRecDepth 100000 in
set_option maxHeartbeats 4000000 in
theorem mnA4 : ∀ e ∈ mcTab 4, (e.2.1 = 4 → (4 = 10 ∧ e.1 = 21 ∧ e.2.2.2.nm = yX8_init) ∨ (4 = 10 ∧ e.1 = 65 ∧ e.2.2.2.nm = yX2_init)) ∧ (e.2.1 = 5 → 4 = 7 ∧ e.1 = 189 ∧ e.2.2.2.nm = yX10_cellOf) := by decide +kernel
set_option maxRecDepth 100000 in
set_option maxHeartbeats 4000000 in
theorem mnA5 : ∀ e ∈ mcTab 5, (e.2.1 = 4 → (5 = 10 ∧ e.1 = 21 ∧ e.2.2.2.nm = yX8_init) ∨ (5 = 10 ∧ e.1 = 65 ∧ e.2.2.2.nm = yX2_init)) ∧ (e.2.1 = 5 → 5 = 7 ∧ e.1 = 189 ∧ e.2.2.2.nm = yX10_cellOf) := by decide +kernel
set_option maxRecDepth 100000 in
set_option maxHeartbeats 4000000 in
theorem mnA6 : ∀ e ∈ mcTab 6, (e.2.1 = 4 → (6 = 10 ∧ e.1 = 21 ∧ e.2.2.2.nm = yX8_init) ∨ (6 = 10 ∧ e.1 = 65 ∧ e.2.2.2.nm = yX2_init)) ∧ (e.2.1 = 5 → 6 = 7 ∧ e.1 = 189 ∧ e.2.2.2.nm = yX10_cellOf) := by decide +kernel
set_option maxRecDepth 100000 in
set_option maxHeartbeats 4000000 in
theorem mnA7 : ∀ e ∈ mcTab 7, (e.2.1 = 4 → (7 = 10 ∧ e.1 = 21 ∧ e.2.2.2.nm = yX8_init) ∨ (7 = 10 ∧ e.1 = 65 ∧ e.2.2.2.nm = yX2_init)) ∧ (e.2.1 = 5 → 7 = 7 ∧ e.1 = 189 ∧ e.2.2.2.nm = yX10_cellOf) := by decide +kernel
set_option maxRecDepth 100000 in
set_option maxHeartbeats 4000000 in
theorem mnA8 : ∀ e ∈ mcTab 8, (e.2.1 = 4 → (8 = 10 ∧ e.1 = 21 ∧ e.2.2.2.nm = yX8_init) ∨ (8 = 10 ∧ e.1 = 65 ∧ e.2.2.2.nm = yX2_init)) ∧ (e.2.1 = 5 → 8 = 7 ∧ e.1 = 189 ∧ e.2.2.2.nm = yX10_cellOf) := by decide +kernel
set_option maxRecDepth 100000 in
set_option maxHeartbeats 4000000 in
theorem mnA9 : ∀ e ∈ mcTab 9, (e.2.1 = 4 → (9 = 10 ∧ e.1 = 21 ∧ e.2.2.2.nm = yX8_init) ∨ (9 = 10 ∧ e.1 = 65 ∧ e.2.2.2.nm = yX2_init)) ∧ (e.2.1 = 5 → 9 = 7 ∧ e.1 = 189 ∧ e.2.2.2.nm = yX10_cellOf) := by decide +kernel
set_option maxRecDepth 100000 in
set_option maxHeartbeats 4000000 in
theorem mnA10 : ∀ e ∈ mcTab 10, (e.2.1 = 4 → (10 = 10 ∧ e.1 = 21 ∧ e.2.2.2.nm = yX8_init) ∨ (10 = 10 ∧ e.1 = 65 ∧ e.2.2.2.nm = yX2_init)) ∧ (e.2.1 = 5 → 10 = 7 ∧ e.1 = 189 ∧ e.2.2.2.nm = yX10_cellOf) := by decide +kernel
set_option maxRecDepth 100000 in
set_option maxHeartbeats 4000000 in
theorem mnA11 : ∀ e ∈ mcTab 11, (e.2.1 = 4 → (11 = 10 ∧ e.1 = 21 ∧ e.2.2.2.nm = yX8_init) ∨ (11 = 10 ∧ e.1 = 65 ∧ e.2.2.2.nm = yX2_init)) ∧ (e.2.1 = 5 → 11 = 7 ∧ e.1 = 189 ∧ e.2.2.2.nm = yX10_cellOf) := by decide +kernel
set_option maxRecDepth 100000 in
set_option maxHeartbeats 4000000 in
theorem mnA12 : ∀ e ∈ mcTab 12, (e.2.1 = 4 → (12 = 10 ∧ e.1 = 21 ∧ e.2.2.2.nm = yX8_init) ∨ (12 = 10 ∧ e.1 = 65 ∧ e.2.2.2.nm = yX2_init)) ∧ (e.2.1 = 5 → 12 = 7 ∧ e.1 = 189 ∧ e.2.2.2.nm = yX10_cellOf) := by decide +kernel
theorem mnA : ∀ own, ∀ e ∈ mcTab own, (e.2.1 = 4 → (own = 10 ∧ e.1 = 21 ∧ e.2.2.2.nm = yX8_init) ∨ (own = 10 ∧ e.1 = 65 ∧ e.2.2.2.nm = yX2_init)) ∧ (e.2.1 = 5 → own = 7 ∧ e.1 = 189 ∧ e.2.2.2.nm = yX10_cellOf)
  | 0 => mnA0
  | 1 => mnA1
  | 2 => mnA2
  | 3 => mnA3
  | 4 => mnA4
  | 5 => mnA5
  | 6 => mnA6
  | 7 => mnA7
  | 8 => mnA8
  | 9 => mnA9
  | 10 => mnA10
  | 11 => mnA11
  | 12 => mnA12
  | _ + 13 => fun _ h => by first | (cases h; done) | (exact absurd h (by decide))
theorem mnest4 (own idx n : Nat) (M' : mM) (h : mcT own idx = some (4, n, M')) : (mcn own = RX10 ∧ idx = 21 ∧ M'.nm = yX8_init) ∨ (mcn own = RX10 ∧ idx = 65 ∧ M'.nm = yX2_init) := by
  rcases (mnA own _ (mlook_mem h)).1 rfl with ⟨h1, h2, h3⟩ | ⟨h1, h2, h3⟩
  · exact Or.inl ⟨by rw [h1]; rfl, h2, h3⟩
  · exact Or.inr ⟨by rw [h1]; rfl, h2, h3⟩
theorem mnest5 (own idx n : Nat) (M' : mM) (h : mcT own idx = some (5, n, M')) : mcn own = RX7 ∧ idx = 189 ∧ M'.nm = yX10_cellOf := by
  obtain ⟨h1, h2, h3⟩ := (mnA own _ (mlook_mem h)).2 rfl
  exact ⟨by rw [h1]; rfl, h2, h3⟩
def mkw (own : Nat) (e : Nat × Value) : List Cond := match e.2 with
  | .int x => [.constant (mcn own) e.1 x]
  | .long x => [.constantLong (mcn own) e.1 x]
  | _ => []
def mchkk (own : Nat) : List (Nat × Value) → List (List Nat) → Bool
  | [], [] => true
  | e :: es, ps :: pss => mchkw (mkw own e) ps && mchkk own es pss
  | _, _ => false
theorem mchkk_ok (own : Nat) : ∀ (es : List (Nat × Value)) (pss : List (List Nat)), mchkk own es pss = true → ∀ e ∈ es, ∀ w ∈ mkw own e, w ∈ lw_tbl ∧ goodWord w = true
  | [], _, _, w, h => nomatch h
  | e :: es, [], h, _, _ => by simp [mchkk] at h
  | e :: es, ps :: pss, h, v, hv => by
    simp only [mchkk, Bool.and_eq_true] at h
    rcases List.mem_cons.mp hv with rfl | hv
    · exact mchkw_ok _ _ h.1
    · exact mchkk_ok own es pss h.2 v hv
set_option maxRecDepth 100000 in
theorem mkA0 : ∀ e ∈ mkTab 0, ∀ w ∈ mkw 0 e, w ∈ lw_tbl ∧ goodWord w = true := mchkk_ok 0 _ [] (by decide +kernel)
set_option maxRecDepth 100000 in
theorem mkA1 : ∀ e ∈ mkTab 1, ∀ w ∈ mkw 1 e, w ∈ lw_tbl ∧ goodWord w = true := mchkk_ok 1 _ [] (by decide +kernel)
set_option maxRecDepth 100000 in
theorem mkA2 : ∀ e ∈ mkTab 2, ∀ w ∈ mkw 2 e, w ∈ lw_tbl ∧ goodWord w = true := mchkk_ok 2 _ [[1301]] (by decide +kernel)
set_option maxRecDepth 100000 in
theorem mkA3 : ∀ e ∈ mkTab 3, ∀ w ∈ mkw 3 e, w ∈ lw_tbl ∧ goodWord w = true := mchkk_ok 3 _ [[], [], [], [], [], [], [], []] (by decide +kernel)
set_option maxRecDepth 100000 in
theorem mkA4 : ∀ e ∈ mkTab 4, ∀ w ∈ mkw 4 e, w ∈ lw_tbl ∧ goodWord w = true := mchkk_ok 4 _ [[], [], [], [], []] (by decide +kernel)
set_option maxRecDepth 100000 in
theorem mkA5 : ∀ e ∈ mkTab 5, ∀ w ∈ mkw 5 e, w ∈ lw_tbl ∧ goodWord w = true := mchkk_ok 5 _ [] (by decide +kernel)
set_option maxRecDepth 100000 in
theorem mkA6 : ∀ e ∈ mkTab 6, ∀ w ∈ mkw 6 e, w ∈ lw_tbl ∧ goodWord w = true := mchkk_ok 6 _ [] (by decide +kernel)
set_option maxRecDepth 100000 in
theorem mkA7 : ∀ e ∈ mkTab 7, ∀ w ∈ mkw 7 e, w ∈ lw_tbl ∧ goodWord w = true := mchkk_ok 7 _ [] (by decide +kernel)
set_option maxRecDepth 100000 in
theorem mkA8 : ∀ e ∈ mkTab 8, ∀ w ∈ mkw 8 e, w ∈ lw_tbl ∧ goodWord w = true := mchkk_ok 8 _ [] (by decide +kernel)
set_option maxRecDepth 100000 in
theorem mkA9 : ∀ e ∈ mkTab 9, ∀ w ∈ mkw 9 e, w ∈ lw_tbl ∧ goodWord w = true := mchkk_ok 9 _ [] (by decide +kernel)
set_option maxRecDepth 100000 in
theorem mkA10 : ∀ e ∈ mkTab 10, ∀ w ∈ mkw 10 e, w ∈ lw_tbl ∧ goodWord w = true := mchkk_ok 10 _ [[1234]] (by decide +kernel)
set_option maxRecDepth 100000 in
theorem mkA11 : ∀ e ∈ mkTab 11, ∀ w ∈ mkw 11 e, w ∈ lw_tbl ∧ goodWord w = true := mchkk_ok 11 _ [[1308], [1955], [2007], [2012], [2013], [2014]] (by decide +kernel)
set_option maxRecDepth 100000 in
theorem mkA12 : ∀ e ∈ mkTab 12, ∀ w ∈ mkw 12 e, w ∈ lw_tbl ∧ goodWord w = true := mchkk_ok 12 _ [] (by decide +kernel)
set_option maxRecDepth 100000 in
theorem mkA13 : ∀ e ∈ mkTab 13, ∀ w ∈ mkw 13 e, w ∈ lw_tbl ∧ goodWord w = true := mchkk_ok 13 _ [] (by decide +kernel)
set_option maxRecDepth 100000 in
theorem mkA14 : ∀ e ∈ mkTab 14, ∀ w ∈ mkw 14 e, w ∈ lw_tbl ∧ goodWord w = true := mchkk_ok 14 _ [[1074], [1075], [1076]] (by decide +kernel)
theorem mkA : ∀ own, ∀ e ∈ mkTab own, ∀ w ∈ mkw own e, w ∈ lw_tbl ∧ goodWord w = true
  | 0 => mkA0
  | 1 => mkA1
  | 2 => mkA2
  | 3 => mkA3
  | 4 => mkA4
  | 5 => mkA5
  | 6 => mkA6
  | 7 => mkA7
  | 8 => mkA8
  | 9 => mkA9
  | 10 => mkA10
  | 11 => mkA11
  | 12 => mkA12
  | 13 => mkA13
  | 14 => mkA14
  | _ + 15 => fun _ h => by first | (cases h; done) | (exact absurd h (by decide))
def mkq : Value → Bool
  | .int _ => true
  | .long _ => true
  | .retAddr _ => true
  | _ => false
theorem mkB0 : ∀ e ∈ mkTab 0, mkq e.2 = true := by decide +kernel
theorem mkB1 : ∀ e ∈ mkTab 1, mkq e.2 = true := by decide +kernel
theorem mkB2 : ∀ e ∈ mkTab 2, mkq e.2 = true := by decide +kernel
theorem mkB3 : ∀ e ∈ mkTab 3, mkq e.2 = true := by decide +kernel
theorem mkB4 : ∀ e ∈ mkTab 4, mkq e.2 = true := by decide +kernel
theorem mkB5 : ∀ e ∈ mkTab 5, mkq e.2 = true := by decide +kernel
theorem mkB6 : ∀ e ∈ mkTab 6, mkq e.2 = true := by decide +kernel
theorem mkB7 : ∀ e ∈ mkTab 7, mkq e.2 = true := by decide +kernel
theorem mkB8 : ∀ e ∈ mkTab 8, mkq e.2 = true := by decide +kernel
theorem mkB9 : ∀ e ∈ mkTab 9, mkq e.2 = true := by decide +kernel
theorem mkB10 : ∀ e ∈ mkTab 10, mkq e.2 = true := by decide +kernel
theorem mkB11 : ∀ e ∈ mkTab 11, mkq e.2 = true := by decide +kernel
theorem mkB12 : ∀ e ∈ mkTab 12, mkq e.2 = true := by decide +kernel
theorem mkB13 : ∀ e ∈ mkTab 13, mkq e.2 = true := by decide +kernel
theorem mkB14 : ∀ e ∈ mkTab 14, mkq e.2 = true := by decide +kernel
theorem mkB : ∀ own, ∀ e ∈ mkTab own, mkq e.2 = true
  | 0 => mkB0
  | 1 => mkB1
  | 2 => mkB2
  | 3 => mkB3
  | 4 => mkB4
  | 5 => mkB5
  | 6 => mkB6
  | 7 => mkB7
  | 8 => mkB8
  | 9 => mkB9
  | 10 => mkB10
  | 11 => mkB11
  | 12 => mkB12
  | 13 => mkB13
  | 14 => mkB14
  | _ + 15 => fun _ h => by first | (cases h; done) | (exact absurd h (by decide))
theorem mn12_0 : ∀ e ∈ mnTab 0, e.2 < 100 → e.2 < 12 := by decide +kernel
theorem mn12_1 : ∀ e ∈ mnTab 1, e.2 < 100 → e.2 < 12 := by decide +kernel
theorem mn12_2 : ∀ e ∈ mnTab 2, e.2 < 100 → e.2 < 12 := by decide +kernel
theorem mn12_3 : ∀ e ∈ mnTab 3, e.2 < 100 → e.2 < 12 := by decide +kernel
theorem mn12_4 : ∀ e ∈ mnTab 4, e.2 < 100 → e.2 < 12 := by decide +kernel
theorem mn12_5 : ∀ e ∈ mnTab 5, e.2 < 100 → e.2 < 12 := by decide +kernel
theorem mn12_6 : ∀ e ∈ mnTab 6, e.2 < 100 → e.2 < 12 := by decide +kernel
theorem mn12_7 : ∀ e ∈ mnTab 7, e.2 < 100 → e.2 < 12 := by decide +kernel
theorem mn12_8 : ∀ e ∈ mnTab 8, e.2 < 100 → e.2 < 12 := by decide +kernel
theorem mn12_9 : ∀ e ∈ mnTab 9, e.2 < 100 → e.2 < 12 := by decide +kernel
theorem mn12_10 : ∀ e ∈ mnTab 10, e.2 < 100 → e.2 < 12 := by decide +kernel
theorem mn12_11 : ∀ e ∈ mnTab 11, e.2 < 100 → e.2 < 12 := by decide +kernel
theorem mn12_12 : ∀ e ∈ mnTab 12, e.2 < 100 → e.2 < 12 := by decide +kernel
theorem mn12a : ∀ own, ∀ e ∈ mnTab own, e.2 < 100 → e.2 < 12
  | 0 => mn12_0
  | 1 => mn12_1
  | 2 => mn12_2
  | 3 => mn12_3
  | 4 => mn12_4
  | 5 => mn12_5
  | 6 => mn12_6
  | 7 => mn12_7
  | 8 => mn12_8
  | 9 => mn12_9
  | 10 => mn12_10
  | 11 => mn12_11
  | 12 => mn12_12
  | _ + 13 => fun _ h => by first | (cases h; done) | (exact absurd h (by decide))
theorem mn12 (own idx c : Nat) (h : mnT own idx = some c) (hc : c < 100) : c < 12 := mn12a own _ (mlook_mem h) hc
theorem mw_words : Cond.fieldLink RX11 250 RX11 "WORDS" "[B" ∈ lw_tbl ∧ goodWord (Cond.fieldLink RX11 250 RX11 "WORDS" "[B") = true := ⟨List.mem_of_getElem? (i := 1530) (by decide +kernel), rfl⟩
