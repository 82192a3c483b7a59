/-! ===== what a state is, and how the class holds it (gen_state.py) ===== -/
/-- lies, the frame of a page, chains, the knot of a frame, the trees, numbers: 0 cells, 1 advised, 2 befell, 3 sum, 4 age, 5 rest, 6 tally -/
abbrev aS : Type := (Int → List Int) × (Int → Int) × (Int → List Int) × (Int → Int) × (Int → Tr) × (Int → Tr) × mStore
abbrev aS.L (A : aS) : Int → List Int := A.1
abbrev aS.w (A : aS) : Int → Int := A.2.1
abbrev aS.C (A : aS) : Int → List Int := A.2.2.1
abbrev aS.k (A : aS) : Int → Int := A.2.2.2.1
abbrev aS.ts (A : aS) : Int → Tr := A.2.2.2.2.1
abbrev aS.tw (A : aS) : Int → Tr := A.2.2.2.2.2.1
abbrev aS.v (A : aS) : mStore := A.2.2.2.2.2.2
abbrev aS.sL (A : aS) (L : Int → List Int) (w : Int → Int) : aS := (L, w, A.C, A.k, A.ts, A.tw, A.v)
abbrev aS.sC (A : aS) (C : Int → List Int) (k : Int → Int) : aS := (A.L, A.w, C, k, A.ts, A.tw, A.v)
abbrev aS.sts (A : aS) (t : Int → Tr) : aS := (A.L, A.w, A.C, A.k, t, A.tw, A.v)
abbrev aS.stw (A : aS) (t : Int → Tr) : aS := (A.L, A.w, A.C, A.k, A.ts, t, A.v)
abbrev aS.sv (A : aS) (j : Nat) (i x : Int) : aS := (A.L, A.w, A.C, A.k, A.ts, A.tw, up A.v j i x)
/-- a plan: 0 numbers (frames, share, least, most, zero, smart, guests, pages), 1 pagesOf, 2 realm, 3 first, 4 guestOf -/
abbrev aP : Type := mStore
abbrev planR (S : mStore) (a : Nat) (P : aP) : Prop := (∀ i, 0 ≤ i → i < 8 → S a i = P 0 i) ∧ (∀ i, 0 ≤ i → i < P 0 6 → S (a + 1) i = P 1 i) ∧ (∀ i, 0 ≤ i → i < P 0 6 → S (a + 2) i = P 2 i) ∧ (∀ i, 0 ≤ i → i < P 0 6 → S (a + 3) i = P 3 i) ∧ (∀ i, 0 ≤ i → i < P 0 7 → S (a + 4) i = P 4 i)
abbrev wfP (P : aP) : Prop := (1 ≤ P 0 0 ∧ P 0 0 ≤ 48) ∧ (2 ≤ P 0 1 ∧ P 0 1 ≤ 8) ∧ (1 ≤ P 0 2 ∧ P 0 2 ≤ P 0 3 ∧ P 0 3 ≤ 16) ∧ ((P 0 4 = 0 ∨ P 0 4 = 1) ∧ (P 0 5 = 0 ∨ P 0 5 = 1)) ∧ (0 ≤ P 0 6 ∧ P 0 6 ≤ 4) ∧ (0 ≤ P 0 7 ∧ P 0 7 ≤ 48) ∧ (∀ g, 0 ≤ g → g < P 0 6 → (1 ≤ P 1 g ∧ P 1 g ≤ 12) ∧ (0 ≤ P 2 g ∧ P 2 g < 3) ∧ 0 ≤ P 3 g ∧ P 3 g + P 1 g ≤ P 0 7 ∧ ∀ i, 0 ≤ i → i < P 1 g → P 4 (P 3 g + i) = g) ∧ (∀ p, 0 ≤ p → p < P 0 7 → 0 ≤ P 4 p ∧ P 4 p < P 0 6 ∧ P 3 (P 4 p) ≤ p ∧ p < P 3 (P 4 p) + P 1 (P 4 p))
def rlm (P : aP) (p : Int) : Int := P 2 (P 4 p)
abbrev stateR (S : mStore) (a : Nat) (A : aS) : Prop := rowsR S (a + 2) (a + 3) (a + 4) A.L A.w ∧ rowsR S (a + 6) (a + 7) (a + 8) A.C A.k ∧ treeR (S (a + 10)) A.ts ∧ treeR (S (a + 12)) A.tw ∧ (∀ i, 0 ≤ i → i < 48 → S (a + 13) i = A.v 0 i) ∧ (∀ i, 0 ≤ i → i < 48 → S (a + 14) i = A.v 1 i) ∧ (∀ i, 0 ≤ i → i < 48 → S (a + 15) i = A.v 2 i) ∧ (∀ i, 0 ≤ i → i < 48 → S (a + 16) i = A.v 3 i) ∧ (∀ i, 0 ≤ i → i < 48 → S (a + 17) i = A.v 4 i) ∧ (∀ i, 0 ≤ i → i < 48 → S (a + 18) i = A.v 5 i) ∧ (∀ i, 0 ≤ i → i < 12 → S (a + 19) i = A.v 6 i)
abbrev wfA (P : aP) (A : aS) : Prop := wfR A.L A.w ∧ wfR A.C A.k ∧ wfT A.ts ∧ wfT A.tw ∧ (∀ p, A.w p ≠ -1 → 0 ≤ p ∧ p < P 0 7 ∧ A.w p < P 0 0) ∧ (∀ f, A.k f ≠ -1 → 0 ≤ f ∧ f < P 0 0 ∧ A.L f ≠ []) ∧ (∀ f, A.k f = -1 → (A.L f).length ≤ 1) ∧ (∀ f, ((A.L f).length : Int) ≤ P 0 1) ∧ (∀ x, x ∈ al A.ts ↔ A.C x ≠ []) ∧ (∀ ρ p, 0 ≤ ρ → ρ < 3 → p ∈ lb (A.tw ρ) → p < P 0 7 ∧ rlm P p = ρ ∧ p < A.v 6 9 ∧ (A.w p ≠ -1 → A.k (A.w p) = -1)) ∧ (∀ f, 0 ≤ A.v 0 f ∧ A.v 0 f < 65536) ∧ (∀ p, A.v 1 p = 0 ∨ A.v 1 p = 1) ∧ (1 ≤ A.v 6 0 ∧ A.v 6 0 ≤ 16) ∧ (0 ≤ A.v 6 9 ∧ A.v 6 9 ≤ 48)
section
variable {S S' : mStore} {a : Nat} {A : aS} {P : aP}
theorem rowsR_cong {S S' : mStore} {i n f : Nat} {L : Int → List Int} {w : Int → Int} (h : rowsR S i n f L w) (hi : S' i = S i) (hn : S' n = S n) (hf : S' f = S f) : rowsR S' i n f L w := by
  unfold rowsR at *
  rw [hi, hn, hf]; exact h
/-- other places have changed -/
theorem stateR_far (h : stateR S a A) (hS : ∀ j, a ≤ j → j < a + 20 → S' j = S j) : stateR S' a A := by
  unfold stateR rowsR at *
  rw [hS (a + 2) (by omega) (by omega), hS (a + 3) (by omega) (by omega), hS (a + 4) (by omega) (by omega), hS (a + 6) (by omega) (by omega), hS (a + 7) (by omega) (by omega), hS (a + 8) (by omega) (by omega), hS (a + 10) (by omega) (by omega), hS (a + 12) (by omega) (by omega), hS (a + 13) (by omega) (by omega), hS (a + 14) (by omega) (by omega), hS (a + 15) (by omega) (by omega), hS (a + 16) (by omega) (by omega), hS (a + 17) (by omega) (by omega), hS (a + 18) (by omega) (by omega), hS (a + 19) (by omega) (by omega)]
  exact h
theorem planR_far (h : planR S a P) (hS : ∀ j, a ≤ j → j < a + 5 → S' j = S j) : planR S' a P := by
  unfold planR at *
  rw [hS a (by omega) (by omega), hS (a + 1) (by omega) (by omega), hS (a + 2) (by omega) (by omega), hS (a + 3) (by omega) (by omega), hS (a + 4) (by omega) (by omega)]
  exact h
theorem stateR_L (h : stateR S a A) {L : Int → List Int} {w : Int → Int} (h' : rowsR S' (a + 2) (a + 3) (a + 4) L w) (hS : ∀ j, j ≠ a + 2 → j ≠ a + 3 → j ≠ a + 4 → S' j = S j) : stateR S' a (A.sL L w) := by
  obtain ⟨q0, q1, q2, q3, q4, q5, q6, q7, q8, q9, q10⟩ := h
  have e6 : S' (a + 6) = S (a + 6) := hS _ (by omega) (by omega) (by omega)
  have e7 : S' (a + 7) = S (a + 7) := hS _ (by omega) (by omega) (by omega)
  have e8 : S' (a + 8) = S (a + 8) := hS _ (by omega) (by omega) (by omega)
  have e10 : S' (a + 10) = S (a + 10) := hS _ (by omega) (by omega) (by omega)
  have e12 : S' (a + 12) = S (a + 12) := hS _ (by omega) (by omega) (by omega)
  have e13 : S' (a + 13) = S (a + 13) := hS _ (by omega) (by omega) (by omega)
  have e14 : S' (a + 14) = S (a + 14) := hS _ (by omega) (by omega) (by omega)
  have e15 : S' (a + 15) = S (a + 15) := hS _ (by omega) (by omega) (by omega)
  have e16 : S' (a + 16) = S (a + 16) := hS _ (by omega) (by omega) (by omega)
  have e17 : S' (a + 17) = S (a + 17) := hS _ (by omega) (by omega) (by omega)
  have e18 : S' (a + 18) = S (a + 18) := hS _ (by omega) (by omega) (by omega)
  have e19 : S' (a + 19) = S (a + 19) := hS _ (by omega) (by omega) (by omega)
  unfold stateR rowsR at *
  rw [e6, e7, e8, e10, e12, e13, e14, e15, e16, e17, e18, e19]
  exact ⟨h', q1, q2, q3, q4, q5, q6, q7, q8, q9, q10⟩
theorem stateR_C (h : stateR S a A) {L : Int → List Int} {w : Int → Int} (h' : rowsR S' (a + 6) (a + 7) (a + 8) L w) (hS : ∀ j, j ≠ a + 6 → j ≠ a + 7 → j ≠ a + 8 → S' j = S j) : stateR S' a (A.sC L w) := by
  obtain ⟨q0, q1, q2, q3, q4, q5, q6, q7, q8, q9, q10⟩ := h
  have e2 : S' (a + 2) = S (a + 2) := hS _ (by omega) (by omega) (by omega)
  have e3 : S' (a + 3) = S (a + 3) := hS _ (by omega) (by omega) (by omega)
  have e4 : S' (a + 4) = S (a + 4) := hS _ (by omega) (by omega) (by omega)
  have e10 : S' (a + 10) = S (a + 10) := hS _ (by omega) (by omega) (by omega)
  have e12 : S' (a + 12) = S (a + 12) := hS _ (by omega) (by omega) (by omega)
  have e13 : S' (a + 13) = S (a + 13) := hS _ (by omega) (by omega) (by omega)
  have e14 : S' (a + 14) = S (a + 14) := hS _ (by omega) (by omega) (by omega)
  have e15 : S' (a + 15) = S (a + 15) := hS _ (by omega) (by omega) (by omega)
  have e16 : S' (a + 16) = S (a + 16) := hS _ (by omega) (by omega) (by omega)
  have e17 : S' (a + 17) = S (a + 17) := hS _ (by omega) (by omega) (by omega)
  have e18 : S' (a + 18) = S (a + 18) := hS _ (by omega) (by omega) (by omega)
  have e19 : S' (a + 19) = S (a + 19) := hS _ (by omega) (by omega) (by omega)
  unfold stateR rowsR at *
  rw [e2, e3, e4, e10, e12, e13, e14, e15, e16, e17, e18, e19]
  exact ⟨q0, h', q2, q3, q4, q5, q6, q7, q8, q9, q10⟩
theorem stateR_ts (h : stateR S a A) {t : Int → Tr} (h' : treeR (S' (a + 10)) t) (hS : ∀ j, j ≠ a + 10 → S' j = S j) : stateR S' a (A.sts t) := by
  obtain ⟨q0, q1, q2, q3, q4, q5, q6, q7, q8, q9, q10⟩ := h
  have e2 : S' (a + 2) = S (a + 2) := hS _ (by omega)
  have e3 : S' (a + 3) = S (a + 3) := hS _ (by omega)
  have e4 : S' (a + 4) = S (a + 4) := hS _ (by omega)
  have e6 : S' (a + 6) = S (a + 6) := hS _ (by omega)
  have e7 : S' (a + 7) = S (a + 7) := hS _ (by omega)
  have e8 : S' (a + 8) = S (a + 8) := hS _ (by omega)
  have e12 : S' (a + 12) = S (a + 12) := hS _ (by omega)
  have e13 : S' (a + 13) = S (a + 13) := hS _ (by omega)
  have e14 : S' (a + 14) = S (a + 14) := hS _ (by omega)
  have e15 : S' (a + 15) = S (a + 15) := hS _ (by omega)
  have e16 : S' (a + 16) = S (a + 16) := hS _ (by omega)
  have e17 : S' (a + 17) = S (a + 17) := hS _ (by omega)
  have e18 : S' (a + 18) = S (a + 18) := hS _ (by omega)
  have e19 : S' (a + 19) = S (a + 19) := hS _ (by omega)
  unfold stateR rowsR at *
  rw [e2, e3, e4, e6, e7, e8, e12, e13, e14, e15, e16, e17, e18, e19]
  exact ⟨q0, q1, h', q3, q4, q5, q6, q7, q8, q9, q10⟩
theorem stateR_tw (h : stateR S a A) {t : Int → Tr} (h' : treeR (S' (a + 12)) t) (hS : ∀ j, j ≠ a + 12 → S' j = S j) : stateR S' a (A.stw t) := by
  obtain ⟨q0, q1, q2, q3, q4, q5, q6, q7, q8, q9, q10⟩ := h
  have e2 : S' (a + 2) = S (a + 2) := hS _ (by omega)
  have e3 : S' (a + 3) = S (a + 3) := hS _ (by omega)
  have e4 : S' (a + 4) = S (a + 4) := hS _ (by omega)
  have e6 : S' (a + 6) = S (a + 6) := hS _ (by omega)
  have e7 : S' (a + 7) = S (a + 7) := hS _ (by omega)
  have e8 : S' (a + 8) = S (a + 8) := hS _ (by omega)
  have e10 : S' (a + 10) = S (a + 10) := hS _ (by omega)
  have e13 : S' (a + 13) = S (a + 13) := hS _ (by omega)
  have e14 : S' (a + 14) = S (a + 14) := hS _ (by omega)
  have e15 : S' (a + 15) = S (a + 15) := hS _ (by omega)
  have e16 : S' (a + 16) = S (a + 16) := hS _ (by omega)
  have e17 : S' (a + 17) = S (a + 17) := hS _ (by omega)
  have e18 : S' (a + 18) = S (a + 18) := hS _ (by omega)
  have e19 : S' (a + 19) = S (a + 19) := hS _ (by omega)
  unfold stateR rowsR at *
  rw [e2, e3, e4, e6, e7, e8, e10, e13, e14, e15, e16, e17, e18, e19]
  exact ⟨q0, q1, q2, h', q4, q5, q6, q7, q8, q9, q10⟩
theorem stateR_v0 (h : stateR S a A) (i x : Int) : stateR (up S (a + 13) i x) a (A.sv 0 i x) := by
  obtain ⟨q0, q1, q2, q3, q4, q5, q6, q7, q8, q9, q10⟩ := h
  refine ⟨?_, ?_, ?_, ?_, ?_, ?_, ?_, ?_, ?_, ?_, ?_⟩
  · exact rowsR_cong q0 (up_ne (by omega)) (up_ne (by omega)) (up_ne (by omega))
  · exact rowsR_cong q1 (up_ne (by omega)) (up_ne (by omega)) (up_ne (by omega))
  · rw [up_ne (by omega)]; exact q2
  · rw [up_ne (by omega)]; exact q3
  · intro y h1 h2; show _ = up A.v 0 i x 0 y; rw [up_at, up_at, q4 y h1 h2]
  · intro y h1 h2; show _ = up A.v 0 i x 1 y; rw [up_ne (by omega), up_ne (by decide)]; exact q5 y h1 h2
  · intro y h1 h2; show _ = up A.v 0 i x 2 y; rw [up_ne (by omega), up_ne (by decide)]; exact q6 y h1 h2
  · intro y h1 h2; show _ = up A.v 0 i x 3 y; rw [up_ne (by omega), up_ne (by decide)]; exact q7 y h1 h2
  · intro y h1 h2; show _ = up A.v 0 i x 4 y; rw [up_ne (by omega), up_ne (by decide)]; exact q8 y h1 h2
  · intro y h1 h2; show _ = up A.v 0 i x 5 y; rw [up_ne (by omega), up_ne (by decide)]; exact q9 y h1 h2
  · intro y h1 h2; show _ = up A.v 0 i x 6 y; rw [up_ne (by omega), up_ne (by decide)]; exact q10 y h1 h2
theorem stateR_v1 (h : stateR S a A) (i x : Int) : stateR (up S (a + 14) i x) a (A.sv 1 i x) := by
  obtain ⟨q0, q1, q2, q3, q4, q5, q6, q7, q8, q9, q10⟩ := h
  refine ⟨?_, ?_, ?_, ?_, ?_, ?_, ?_, ?_, ?_, ?_, ?_⟩
  · exact rowsR_cong q0 (up_ne (by omega)) (up_ne (by omega)) (up_ne (by omega))
  · exact rowsR_cong q1 (up_ne (by omega)) (up_ne (by omega)) (up_ne (by omega))
  · rw [up_ne (by omega)]; exact q2
  · rw [up_ne (by omega)]; exact q3
  · intro y h1 h2; show _ = up A.v 1 i x 0 y; rw [up_ne (by omega), up_ne (by decide)]; exact q4 y h1 h2
  · intro y h1 h2; show _ = up A.v 1 i x 1 y; rw [up_at, up_at, q5 y h1 h2]
  · intro y h1 h2; show _ = up A.v 1 i x 2 y; rw [up_ne (by omega), up_ne (by decide)]; exact q6 y h1 h2
  · intro y h1 h2; show _ = up A.v 1 i x 3 y; rw [up_ne (by omega), up_ne (by decide)]; exact q7 y h1 h2
  · intro y h1 h2; show _ = up A.v 1 i x 4 y; rw [up_ne (by omega), up_ne (by decide)]; exact q8 y h1 h2
  · intro y h1 h2; show _ = up A.v 1 i x 5 y; rw [up_ne (by omega), up_ne (by decide)]; exact q9 y h1 h2
  · intro y h1 h2; show _ = up A.v 1 i x 6 y; rw [up_ne (by omega), up_ne (by decide)]; exact q10 y h1 h2
theorem stateR_v2 (h : stateR S a A) (i x : Int) : stateR (up S (a + 15) i x) a (A.sv 2 i x) := by
  obtain ⟨q0, q1, q2, q3, q4, q5, q6, q7, q8, q9, q10⟩ := h
  refine ⟨?_, ?_, ?_, ?_, ?_, ?_, ?_, ?_, ?_, ?_, ?_⟩
  · exact rowsR_cong q0 (up_ne (by omega)) (up_ne (by omega)) (up_ne (by omega))
  · exact rowsR_cong q1 (up_ne (by omega)) (up_ne (by omega)) (up_ne (by omega))
  · rw [up_ne (by omega)]; exact q2
  · rw [up_ne (by omega)]; exact q3
  · intro y h1 h2; show _ = up A.v 2 i x 0 y; rw [up_ne (by omega), up_ne (by decide)]; exact q4 y h1 h2
  · intro y h1 h2; show _ = up A.v 2 i x 1 y; rw [up_ne (by omega), up_ne (by decide)]; exact q5 y h1 h2
  · intro y h1 h2; show _ = up A.v 2 i x 2 y; rw [up_at, up_at, q6 y h1 h2]
  · intro y h1 h2; show _ = up A.v 2 i x 3 y; rw [up_ne (by omega), up_ne (by decide)]; exact q7 y h1 h2
  · intro y h1 h2; show _ = up A.v 2 i x 4 y; rw [up_ne (by omega), up_ne (by decide)]; exact q8 y h1 h2
  · intro y h1 h2; show _ = up A.v 2 i x 5 y; rw [up_ne (by omega), up_ne (by decide)]; exact q9 y h1 h2
  · intro y h1 h2; show _ = up A.v 2 i x 6 y; rw [up_ne (by omega), up_ne (by decide)]; exact q10 y h1 h2
theorem stateR_v3 (h : stateR S a A) (i x : Int) : stateR (up S (a + 16) i x) a (A.sv 3 i x) := by
  obtain ⟨q0, q1, q2, q3, q4, q5, q6, q7, q8, q9, q10⟩ := h
  refine ⟨?_, ?_, ?_, ?_, ?_, ?_, ?_, ?_, ?_, ?_, ?_⟩
  · exact rowsR_cong q0 (up_ne (by omega)) (up_ne (by omega)) (up_ne (by omega))
  · exact rowsR_cong q1 (up_ne (by omega)) (up_ne (by omega)) (up_ne (by omega))
  · rw [up_ne (by omega)]; exact q2
  · rw [up_ne (by omega)]; exact q3
  · intro y h1 h2; show _ = up A.v 3 i x 0 y; rw [up_ne (by omega), up_ne (by decide)]; exact q4 y h1 h2
  · intro y h1 h2; show _ = up A.v 3 i x 1 y; rw [up_ne (by omega), up_ne (by decide)]; exact q5 y h1 h2
  · intro y h1 h2; show _ = up A.v 3 i x 2 y; rw [up_ne (by omega), up_ne (by decide)]; exact q6 y h1 h2
  · intro y h1 h2; show _ = up A.v 3 i x 3 y; rw [up_at, up_at, q7 y h1 h2]
  · intro y h1 h2; show _ = up A.v 3 i x 4 y; rw [up_ne (by omega), up_ne (by decide)]; exact q8 y h1 h2
  · intro y h1 h2; show _ = up A.v 3 i x 5 y; rw [up_ne (by omega), up_ne (by decide)]; exact q9 y h1 h2
  · intro y h1 h2; show _ = up A.v 3 i x 6 y; rw [up_ne (by omega), up_ne (by decide)]; exact q10 y h1 h2
theorem stateR_v4 (h : stateR S a A) (i x : Int) : stateR (up S (a + 17) i x) a (A.sv 4 i x) := by
  obtain ⟨q0, q1, q2, q3, q4, q5, q6, q7, q8, q9, q10⟩ := h
  refine ⟨?_, ?_, ?_, ?_, ?_, ?_, ?_, ?_, ?_, ?_, ?_⟩
  · exact rowsR_cong q0 (up_ne (by omega)) (up_ne (by omega)) (up_ne (by omega))
  · exact rowsR_cong q1 (up_ne (by omega)) (up_ne (by omega)) (up_ne (by omega))
  · rw [up_ne (by omega)]; exact q2
  · rw [up_ne (by omega)]; exact q3
  · intro y h1 h2; show _ = up A.v 4 i x 0 y; rw [up_ne (by omega), up_ne (by decide)]; exact q4 y h1 h2
  · intro y h1 h2; show _ = up A.v 4 i x 1 y; rw [up_ne (by omega), up_ne (by decide)]; exact q5 y h1 h2
  · intro y h1 h2; show _ = up A.v 4 i x 2 y; rw [up_ne (by omega), up_ne (by decide)]; exact q6 y h1 h2
  · intro y h1 h2; show _ = up A.v 4 i x 3 y; rw [up_ne (by omega), up_ne (by decide)]; exact q7 y h1 h2
  · intro y h1 h2; show _ = up A.v 4 i x 4 y; rw [up_at, up_at, q8 y h1 h2]
  · intro y h1 h2; show _ = up A.v 4 i x 5 y; rw [up_ne (by omega), up_ne (by decide)]; exact q9 y h1 h2
  · intro y h1 h2; show _ = up A.v 4 i x 6 y; rw [up_ne (by omega), up_ne (by decide)]; exact q10 y h1 h2
theorem stateR_v5 (h : stateR S a A) (i x : Int) : stateR (up S (a + 18) i x) a (A.sv 5 i x) := by
  obtain ⟨q0, q1, q2, q3, q4, q5, q6, q7, q8, q9, q10⟩ := h
  refine ⟨?_, ?_, ?_, ?_, ?_, ?_, ?_, ?_, ?_, ?_, ?_⟩
  · exact rowsR_cong q0 (up_ne (by omega)) (up_ne (by omega)) (up_ne (by omega))
  · exact rowsR_cong q1 (up_ne (by omega)) (up_ne (by omega)) (up_ne (by omega))
  · rw [up_ne (by omega)]; exact q2
  · rw [up_ne (by omega)]; exact q3
  · intro y h1 h2; show _ = up A.v 5 i x 0 y; rw [up_ne (by omega), up_ne (by decide)]; exact q4 y h1 h2
  · intro y h1 h2; show _ = up A.v 5 i x 1 y; rw [up_ne (by omega), up_ne (by decide)]; exact q5 y h1 h2
  · intro y h1 h2; show _ = up A.v 5 i x 2 y; rw [up_ne (by omega), up_ne (by decide)]; exact q6 y h1 h2
  · intro y h1 h2; show _ = up A.v 5 i x 3 y; rw [up_ne (by omega), up_ne (by decide)]; exact q7 y h1 h2
  · intro y h1 h2; show _ = up A.v 5 i x 4 y; rw [up_ne (by omega), up_ne (by decide)]; exact q8 y h1 h2
  · intro y h1 h2; show _ = up A.v 5 i x 5 y; rw [up_at, up_at, q9 y h1 h2]
  · intro y h1 h2; show _ = up A.v 5 i x 6 y; rw [up_ne (by omega), up_ne (by decide)]; exact q10 y h1 h2
theorem stateR_v6 (h : stateR S a A) (i x : Int) : stateR (up S (a + 19) i x) a (A.sv 6 i x) := by
  obtain ⟨q0, q1, q2, q3, q4, q5, q6, q7, q8, q9, q10⟩ := h
  refine ⟨?_, ?_, ?_, ?_, ?_, ?_, ?_, ?_, ?_, ?_, ?_⟩
  · exact rowsR_cong q0 (up_ne (by omega)) (up_ne (by omega)) (up_ne (by omega))
  · exact rowsR_cong q1 (up_ne (by omega)) (up_ne (by omega)) (up_ne (by omega))
  · rw [up_ne (by omega)]; exact q2
  · rw [up_ne (by omega)]; exact q3
  · intro y h1 h2; show _ = up A.v 6 i x 0 y; rw [up_ne (by omega), up_ne (by decide)]; exact q4 y h1 h2
  · intro y h1 h2; show _ = up A.v 6 i x 1 y; rw [up_ne (by omega), up_ne (by decide)]; exact q5 y h1 h2
  · intro y h1 h2; show _ = up A.v 6 i x 2 y; rw [up_ne (by omega), up_ne (by decide)]; exact q6 y h1 h2
  · intro y h1 h2; show _ = up A.v 6 i x 3 y; rw [up_ne (by omega), up_ne (by decide)]; exact q7 y h1 h2
  · intro y h1 h2; show _ = up A.v 6 i x 4 y; rw [up_ne (by omega), up_ne (by decide)]; exact q8 y h1 h2
  · intro y h1 h2; show _ = up A.v 6 i x 5 y; rw [up_ne (by omega), up_ne (by decide)]; exact q9 y h1 h2
  · intro y h1 h2; show _ = up A.v 6 i x 6 y; rw [up_at, up_at, q10 y h1 h2]
end
/-- how many, from one on; the first one, from one on: none -/
def cnt (q : Int → Bool) : Nat → Int → Int
  | 0, _ => 0
  | n + 1, i => (if q i = true then 1 else 0) + cnt q n (i + 1)
def fnd (q : Int → Bool) : Nat → Int → Int
  | 0, _ => -1
  | n + 1, i => if q i = true then i else fnd q n (i + 1)
theorem cnt_rg (q : Int → Bool) : ∀ (n : Nat) (i : Int), 0 ≤ cnt q n i ∧ cnt q n i ≤ n
  | 0, _ => ⟨Int.le_refl _, Int.le_refl _⟩
  | n + 1, i => by
    have := cnt_rg q n (i + 1)
    unfold cnt
    split <;> omega
theorem fnd_rg (q : Int → Bool) : ∀ (n : Nat) (i : Int), fnd q n i = -1 ∨ (i ≤ fnd q n i ∧ fnd q n i < i + n ∧ q (fnd q n i) = true)
  | 0, _ => .inl rfl
  | n + 1, i => by
    unfold fnd
    split
    · rename_i h; right; exact ⟨by omega, by omega, h⟩
    · rcases fnd_rg q n (i + 1) with h | h
      · exact .inl h
      · right; exact ⟨by omega, by omega, h.2.2⟩
theorem fnd_no {q : Int → Bool} : ∀ {n : Nat} {i : Int}, fnd q n i = -1 → 0 ≤ i → ∀ x, i ≤ x → x < i + n → q x = false
  | 0, _, _, _, x, h1, h2 => by omega
  | n + 1, i, h, h0, x, h1, h2 => by
    unfold fnd at h
    split at h
    · omega
    · rename_i hq
      by_cases e : x = i
      · rw [e]; simpa using hq
      · exact fnd_no h (by omega) x (by omega) (by omega)
theorem fnd_lt {q : Int → Bool} : ∀ {n : Nat} {i : Int}, 0 ≤ i → ∀ x, i ≤ x → x < fnd q n i → q x = false
  | 0, _, _, x, h1, h2 => by unfold fnd at h2; omega
  | n + 1, i, h0, x, h1, h2 => by
    unfold fnd at h2
    split at h2
    · omega
    · rename_i hq
      by_cases e : x = i
      · rw [e]; simpa using hq
      · exact fnd_lt (by omega) x (by omega) h2
theorem cnt_go {q : Int → Bool} {F : Int → Int → Int → Prop} {lo hi : Int} (hs : ∀ res m i, lo ≤ i → i < hi → 0 ≤ m → m ≤ i - lo → F res (m + (if q i = true then 1 else 0)) (i + 1) → F res m i) (he : ∀ m, 0 ≤ m → m ≤ hi - lo → F m m hi) : ∀ (n : Nat) (m i : Int), lo ≤ i → i + n = hi → 0 ≤ m → m ≤ i - lo → F (m + cnt q n i) m i
  | 0, m, i, h1, h2, h3, h4 => by
    have e : i = hi := by omega
    subst e
    have q := he m h3 (by omega)
    unfold cnt
    rw [Int.add_zero]
    exact q
  | n + 1, m, i, h1, h2, h3, h4 => by
    refine hs _ m i h1 (by omega) h3 h4 ?_
    have q := cnt_go hs he n (m + (if q i = true then 1 else 0)) (i + 1) (by omega) (by omega) (by split <;> omega) (by split <;> omega)
    unfold cnt
    rw [← Int.add_assoc]
    exact q
theorem fnd_go {q : Int → Bool} {F : Int → Int → Prop} {lo hi : Int} (h1 : ∀ i, lo ≤ i → i < hi → q i = true → F i i) (h2 : ∀ res i, lo ≤ i → i < hi → q i = false → F res (i + 1) → F res i) (he : F (-1) hi) : ∀ (n : Nat) (i : Int), lo ≤ i → i + n = hi → F (fnd q n i) i
  | 0, i, _, hn => by
    have e : i = hi := by omega
    subst e
    exact he
  | n + 1, i, hl, hn => by
    unfold fnd
    split
    · rename_i h; exact h1 i hl (by omega) h
    · rename_i h; exact h2 _ i hl (by omega) (by simpa using h) (fnd_go h1 h2 he n (i + 1) (by omega) (by omega))
