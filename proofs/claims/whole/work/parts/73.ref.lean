/-! ===== how the reference's rows hold a state (gen_ref.py) ===== -/
/-- frames of a chain by when they came -/
abbrev cameR (R : Int → Int) (b : Int) (C : Int → List Int) (k : Int → Int) (N : Int) : Prop := (0 ≤ R (b + 12) ∧ R (b + 12) ≤ N) ∧ (∀ f, 0 ≤ f → f < 48 → k f ≠ -1 → 0 ≤ R (b + 1024 + f) ∧ R (b + 1024 + f) ≤ R (b + 12)) ∧ (∀ x, (C x).Pairwise fun f g => R (b + 1024 + f) < R (b + 1024 + g))
abbrev refR (S : mStore) (b : Int) (A : aS) (N : Int) : Prop := (∀ i, 0 ≤ i → i < 12 → S 91 (b + i) = A.v 6 i) ∧ (∀ p, 0 ≤ p → p < 48 → S 91 (b + 16 + p) = A.w p) ∧ (∀ p, 0 ≤ p → p < 48 → S 91 (b + 64 + p) = A.v 1 p) ∧ (∀ p, 0 ≤ p → p < 48 → S 91 (b + 112 + p) = A.v 2 p) ∧ (∀ p, 0 ≤ p → p < 48 → S 91 (b + 160 + p) = A.v 3 p) ∧ (∀ p, 0 ≤ p → p < 48 → S 91 (b + 208 + p) = A.v 4 p) ∧ (∀ p, 0 ≤ p → p < 48 → S 91 (b + 256 + p) = A.v 5 p) ∧ (∀ p, 0 ≤ p → p < 48 → S 91 (b + 304 + p) = if p ∈ al A.tw then 1 else 0) ∧ (∀ f c, 0 ≤ f → f < 48 → 0 ≤ c → c < 4 → S 91 (b + 352 + 4 * f + c) = nb (A.v 0 f) (12 - 4 * c)) ∧ (∀ f, 0 ≤ f → f < 48 → S 91 (b + 544 + f) = (A.L f).length) ∧ (∀ (f i : Int), 0 ≤ f → f < 48 → 0 ≤ i → i < (A.L f).length → S 91 (b + 592 + 8 * f + i) = nthL (A.L f) i.toNat) ∧ (∀ f, 0 ≤ f → f < 48 → S 91 (b + 976 + f) = A.k f) ∧ cameR (S 91) b A.C A.k N ∧ (∀ ρ, 0 ≤ ρ → ρ < 3 → rowl (S 91) (b + 1072 + 97 * ρ) (fd (A.ts ρ) 0)) ∧ (∀ ρ, 0 ≤ ρ → ρ < 3 → rowl (S 91) (b + 1363 + 97 * ρ) (fd (A.tw ρ) 0)) ∧ ((∀ f, (A.L f).length ≤ 8) ∧ ∀ ρ, (lb (A.ts ρ)).length ≤ 48 ∧ (lb (A.tw ρ)).length ≤ 48)
/-- the reference's plan -/
abbrev modP (S : mStore) (P : aP) : Prop := (∀ i, 0 ≤ i → i < 8 → S 90 (12 + i) = P 0 i) ∧ (∀ i, 0 ≤ i → i < P 0 6 → S 95 i = P 1 i) ∧ (∀ i, 0 ≤ i → i < P 0 6 → S 96 i = P 2 i) ∧ (∀ i, 0 ≤ i → i < P 0 6 → S 97 i = P 3 i) ∧ (∀ i, 0 ≤ i → i < P 0 7 → S 98 i = P 4 i)
/-- only one row, what is sought and what is said have changed -/
abbrev modF (S S' : mStore) (b : Int) : Prop := (∀ i, i < b ∨ b + 1654 ≤ i → S' 91 i = S 91 i) ∧ (∀ j, j ≠ 90 → j ≠ 91 → j ≠ 100 → j ≠ 101 → S' j = S j) ∧ (∀ i, i < 28 ∨ 31 < i → S' 90 i = S 90 i)
/-- only one row has changed -/
abbrev modG (S S' : mStore) (b : Int) : Prop := (∀ i, i < b ∨ b + 1654 ≤ i → S' 91 i = S 91 i) ∧ (∀ j, j ≠ 91 → S' j = S j)
theorem modG_rf (S : mStore) (b : Int) : modG S S b := ⟨fun _ _ => rfl, fun _ _ => rfl⟩
theorem modG_tr {S S1 S2 : mStore} {b : Int} (h : modG S S1 b) (h2 : modG S1 S2 b) : modG S S2 b := ⟨fun i hi => (h2.1 i hi).trans (h.1 i hi), fun j hj => (h2.2 j hj).trans (h.2 j hj)⟩
theorem modG_up {S : mStore} {b i x : Int} (h : b ≤ i ∧ i < b + 1654) : modG S (up S 91 i x) b := ⟨fun k hk => by rw [up_at, if_neg (by omega)], fun j hj => up_ne hj⟩
theorem modG_row {S S' : mStore} {b t : Int} (h : rowF S S' t) (ht : b ≤ t ∧ t + 97 ≤ b + 1654) : modG S S' b := ⟨fun i hi => h.1 i (by omega), fun j hj => h.2 j hj⟩
theorem modG_F {S S' : mStore} {b : Int} (h : modG S S' b) : modF S S' b := ⟨h.1, fun j _ hj _ _ => h.2 j hj, fun i _ => by rw [h.2 90 (by decide)]⟩
theorem modF_rf (S : mStore) (b : Int) : modF S S b := ⟨fun _ _ => rfl, fun _ _ _ _ _ => rfl, fun _ _ => rfl⟩
theorem modF_tr {S S1 S2 : mStore} {b : Int} (h : modF S S1 b) (h2 : modF S1 S2 b) : modF S S2 b := ⟨fun i hi => (h2.1 i hi).trans (h.1 i hi), fun j a c d e => (h2.2.1 j a c d e).trans (h.2.1 j a c d e), fun i hi => (h2.2.2 i hi).trans (h.2.2 i hi)⟩
theorem modF_up {S : mStore} {b i x : Int} (h : b ≤ i ∧ i < b + 1654) : modF S (up S 91 i x) b := ⟨fun k hk => by rw [up_at, if_neg (by omega)], fun j _ hj _ _ => up_ne hj, fun i _ => by rw [up_ne (by decide)]⟩
theorem modF_row {S S' : mStore} {b t : Int} (h : rowF S S' t) (ht : b ≤ t ∧ t + 97 ≤ b + 1654) : modF S S' b := ⟨fun i hi => h.1 i (by omega), fun j _ hj _ _ => h.2 j hj, fun i _ => by rw [h.2 90 (by decide)]⟩
theorem modP_F {S S' : mStore} {P : aP} {b : Int} (h : modP S P) (hF : modF S S' b) : modP S' P := by
  obtain ⟨h1, h2, h3, h4, h5⟩ := h
  refine ⟨fun i a c => by rw [hF.2.2 _ (by omega)]; exact h1 i a c, ?_, ?_, ?_, ?_⟩
  · rw [hF.2.1 95 (by decide) (by decide) (by decide) (by decide)]; exact h2
  · rw [hF.2.1 96 (by decide) (by decide) (by decide) (by decide)]; exact h3
  · rw [hF.2.1 97 (by decide) (by decide) (by decide) (by decide)]; exact h4
  · rw [hF.2.1 98 (by decide) (by decide) (by decide) (by decide)]; exact h5
theorem rowl_cong {R R' : Int → Int} {t : Int} {l : List (Int × Int)} (h : rowl R t l) (hl : l.length ≤ 48) (e : ∀ i, t ≤ i → i < t + 97 → R' i = R i) : rowl R' t l := ⟨by rw [e t (by omega) (by omega)]; exact h.1, fun i h1 h2 => by rw [e _ (by omega) (by omega), e _ (by omega) (by omega)]; exact h.2 i h1 h2⟩
theorem cameR_cong {R R' : Int → Int} {b : Int} {C : Int → List Int} {k : Int → Int} {N : Int} (h : cameR R b C k N) (hC : ∀ x, ∀ f ∈ C x, 0 ≤ f ∧ f < 48) (e12 : R' (b + 12) = R (b + 12)) (e : ∀ f, 0 ≤ f → f < 48 → R' (b + 1024 + f) = R (b + 1024 + f)) : cameR R' b C k N := by
  obtain ⟨h1, h2, h3⟩ := h
  refine ⟨by rw [e12]; exact h1, fun f a c d => by rw [e12, e f a c]; exact h2 f a c d, fun x => ?_⟩
  refine (h3 x).imp_of_mem (fun {f g} hf hg h => ?_)
  rw [e f (hC x f hf).1 (hC x f hf).2, e g (hC x g hg).1 (hC x g hg).2]
  exact h
section
variable {S S' : mStore} {b N : Int} {A : aS} {P : aP}
theorem refR_F (h : refR S b A N) (hC : wfR A.C A.k)  (hS : ∀ i, b ≤ i → i < b + 1654 → ¬ ((b + 1654 ≤ i ∧ i < b + 1655)) → S' 91 i = S 91 i) : refR S' b (A) N := by
  obtain ⟨q0, q1, q2, q3, q4, q5, q6, q7, q8, q9, q10, q11, q12, q13, q14, q15⟩ := h
  refine ⟨?_, ?_, ?_, ?_, ?_, ?_, ?_, ?_, ?_, ?_, ?_, ?_, ?_, ?_, ?_, ?_⟩
  · exact fun i a c => by rw [hS _ (by omega) (by omega) (by omega)]; exact q0 i a c
  · exact fun p a c => by rw [hS _ (by omega) (by omega) (by omega)]; exact q1 p a c
  · exact fun p a c => by rw [hS _ (by omega) (by omega) (by omega)]; exact q2 p a c
  · exact fun p a c => by rw [hS _ (by omega) (by omega) (by omega)]; exact q3 p a c
  · exact fun p a c => by rw [hS _ (by omega) (by omega) (by omega)]; exact q4 p a c
  · exact fun p a c => by rw [hS _ (by omega) (by omega) (by omega)]; exact q5 p a c
  · exact fun p a c => by rw [hS _ (by omega) (by omega) (by omega)]; exact q6 p a c
  · exact fun p a c => by rw [hS _ (by omega) (by omega) (by omega)]; exact q7 p a c
  · exact fun f c a1 a2 a3 a4 => by rw [hS _ (by omega) (by omega) (by omega)]; exact q8 f c a1 a2 a3 a4
  · exact fun p a c => by rw [hS _ (by omega) (by omega) (by omega)]; exact q9 p a c
  · exact fun f i a1 a2 a3 a4 => by have := q15.1 f; have a4 : i < (A.L f).length := a4; rw [hS _ (by omega) (by omega) (by omega)]; exact q10 f i a1 a2 a3 a4
  · exact fun p a c => by rw [hS _ (by omega) (by omega) (by omega)]; exact q11 p a c
  · exact cameR_cong q12 (fun x f hf => wf_bd hC hf) (hS _ (by omega) (by omega) (by omega)) (fun f a c => hS _ (by omega) (by omega) (by omega))
  · exact fun ρ a c => rowl_cong (q13 ρ a c) (by rw [fd_len]; exact (q15.2 ρ).1) (fun i i1 i2 => hS i (by omega) (by omega) (by omega))
  · exact fun ρ a c => rowl_cong (q14 ρ a c) (by rw [fd_len]; exact (q15.2 ρ).2) (fun i i1 i2 => hS i (by omega) (by omega) (by omega))
  · exact q15
theorem refR_v6 (h : refR S b A N) (hC : wfR A.C A.k) {i x : Int} (hi : 0 ≤ i ∧ i < 12) : refR (up S 91 (b + i) x) b (A.sv 6 i x) N := by
  obtain ⟨q0, q1, q2, q3, q4, q5, q6, q7, q8, q9, q10, q11, q12, q13, q14, q15⟩ := h
  refine ⟨?_, ?_, ?_, ?_, ?_, ?_, ?_, ?_, ?_, ?_, ?_, ?_, ?_, ?_, ?_, ?_⟩
  · intro y a c
    show up S 91 (b + i) x 91 (b + y) = up A.v 6 i x 6 y
    rw [up_at, up_at]
    by_cases e : y = i
    · rw [if_pos (by omega), if_pos e]
    · rw [if_neg (by omega), if_neg e]; exact q0 y a c
  · exact fun p a c => by rw [up_at, if_neg (by omega)]; exact q1 p a c
  · exact fun y a c => by rw [up_at, if_neg (by omega)]; show _ = up A.v 6 i x 1 y; rw [up_ne (by decide)]; exact q2 y a c
  · exact fun y a c => by rw [up_at, if_neg (by omega)]; show _ = up A.v 6 i x 2 y; rw [up_ne (by decide)]; exact q3 y a c
  · exact fun y a c => by rw [up_at, if_neg (by omega)]; show _ = up A.v 6 i x 3 y; rw [up_ne (by decide)]; exact q4 y a c
  · exact fun y a c => by rw [up_at, if_neg (by omega)]; show _ = up A.v 6 i x 4 y; rw [up_ne (by decide)]; exact q5 y a c
  · exact fun y a c => by rw [up_at, if_neg (by omega)]; show _ = up A.v 6 i x 5 y; rw [up_ne (by decide)]; exact q6 y a c
  · exact fun p a c => by rw [up_at, if_neg (by omega)]; exact q7 p a c
  · exact fun f c a1 a2 a3 a4 => by rw [up_at, if_neg (by omega)]; show _ = nb (up A.v 6 i x 0 f) _; rw [up_ne (by decide)]; exact q8 f c a1 a2 a3 a4
  · exact fun p a c => by rw [up_at, if_neg (by omega)]; exact q9 p a c
  · exact fun f y a1 a2 a3 a4 => by have := q15.1 f; have a4 : y < (A.L f).length := a4; rw [up_at, if_neg (by omega)]; exact q10 f y a1 a2 a3 a4
  · exact fun p a c => by rw [up_at, if_neg (by omega)]; exact q11 p a c
  · exact cameR_cong q12 (fun x f hf => wf_bd hC hf) (by rw [up_at, if_neg (by omega)]) (fun f a c => by rw [up_at, if_neg (by omega)])
  · exact fun ρ a c => rowl_cong (q13 ρ a c) (by rw [fd_len]; exact (q15.2 ρ).1) (fun y i1 i2 => by rw [up_at, if_neg (by omega)])
  · exact fun ρ a c => rowl_cong (q14 ρ a c) (by rw [fd_len]; exact (q15.2 ρ).2) (fun y i1 i2 => by rw [up_at, if_neg (by omega)])
  · exact q15
theorem refR_v1 (h : refR S b A N) (hC : wfR A.C A.k) {i x : Int} (hi : 0 ≤ i ∧ i < 48) : refR (up S 91 (b + 64 + i) x) b (A.sv 1 i x) N := by
  obtain ⟨q0, q1, q2, q3, q4, q5, q6, q7, q8, q9, q10, q11, q12, q13, q14, q15⟩ := h
  refine ⟨?_, ?_, ?_, ?_, ?_, ?_, ?_, ?_, ?_, ?_, ?_, ?_, ?_, ?_, ?_, ?_⟩
  · exact fun y a c => by rw [up_at, if_neg (by omega)]; show _ = up A.v 1 i x 6 y; rw [up_ne (by decide)]; exact q0 y a c
  · exact fun p a c => by rw [up_at, if_neg (by omega)]; exact q1 p a c
  · intro y a c
    show up S 91 (b + 64 + i) x 91 (b + 64 + y) = up A.v 1 i x 1 y
    rw [up_at, up_at]
    by_cases e : y = i
    · rw [if_pos (by omega), if_pos e]
    · rw [if_neg (by omega), if_neg e]; exact q2 y a c
  · exact fun y a c => by rw [up_at, if_neg (by omega)]; show _ = up A.v 1 i x 2 y; rw [up_ne (by decide)]; exact q3 y a c
  · exact fun y a c => by rw [up_at, if_neg (by omega)]; show _ = up A.v 1 i x 3 y; rw [up_ne (by decide)]; exact q4 y a c
  · exact fun y a c => by rw [up_at, if_neg (by omega)]; show _ = up A.v 1 i x 4 y; rw [up_ne (by decide)]; exact q5 y a c
  · exact fun y a c => by rw [up_at, if_neg (by omega)]; show _ = up A.v 1 i x 5 y; rw [up_ne (by decide)]; exact q6 y a c
  · exact fun p a c => by rw [up_at, if_neg (by omega)]; exact q7 p a c
  · exact fun f c a1 a2 a3 a4 => by rw [up_at, if_neg (by omega)]; show _ = nb (up A.v 1 i x 0 f) _; rw [up_ne (by decide)]; exact q8 f c a1 a2 a3 a4
  · exact fun p a c => by rw [up_at, if_neg (by omega)]; exact q9 p a c
  · exact fun f y a1 a2 a3 a4 => by have := q15.1 f; have a4 : y < (A.L f).length := a4; rw [up_at, if_neg (by omega)]; exact q10 f y a1 a2 a3 a4
  · exact fun p a c => by rw [up_at, if_neg (by omega)]; exact q11 p a c
  · exact cameR_cong q12 (fun x f hf => wf_bd hC hf) (by rw [up_at, if_neg (by omega)]) (fun f a c => by rw [up_at, if_neg (by omega)])
  · exact fun ρ a c => rowl_cong (q13 ρ a c) (by rw [fd_len]; exact (q15.2 ρ).1) (fun y i1 i2 => by rw [up_at, if_neg (by omega)])
  · exact fun ρ a c => rowl_cong (q14 ρ a c) (by rw [fd_len]; exact (q15.2 ρ).2) (fun y i1 i2 => by rw [up_at, if_neg (by omega)])
  · exact q15
theorem refR_v2 (h : refR S b A N) (hC : wfR A.C A.k) {i x : Int} (hi : 0 ≤ i ∧ i < 48) : refR (up S 91 (b + 112 + i) x) b (A.sv 2 i x) N := by
  obtain ⟨q0, q1, q2, q3, q4, q5, q6, q7, q8, q9, q10, q11, q12, q13, q14, q15⟩ := h
  refine ⟨?_, ?_, ?_, ?_, ?_, ?_, ?_, ?_, ?_, ?_, ?_, ?_, ?_, ?_, ?_, ?_⟩
  · exact fun y a c => by rw [up_at, if_neg (by omega)]; show _ = up A.v 2 i x 6 y; rw [up_ne (by decide)]; exact q0 y a c
  · exact fun p a c => by rw [up_at, if_neg (by omega)]; exact q1 p a c
  · exact fun y a c => by rw [up_at, if_neg (by omega)]; show _ = up A.v 2 i x 1 y; rw [up_ne (by decide)]; exact q2 y a c
  · intro y a c
    show up S 91 (b + 112 + i) x 91 (b + 112 + y) = up A.v 2 i x 2 y
    rw [up_at, up_at]
    by_cases e : y = i
    · rw [if_pos (by omega), if_pos e]
    · rw [if_neg (by omega), if_neg e]; exact q3 y a c
  · exact fun y a c => by rw [up_at, if_neg (by omega)]; show _ = up A.v 2 i x 3 y; rw [up_ne (by decide)]; exact q4 y a c
  · exact fun y a c => by rw [up_at, if_neg (by omega)]; show _ = up A.v 2 i x 4 y; rw [up_ne (by decide)]; exact q5 y a c
  · exact fun y a c => by rw [up_at, if_neg (by omega)]; show _ = up A.v 2 i x 5 y; rw [up_ne (by decide)]; exact q6 y a c
  · exact fun p a c => by rw [up_at, if_neg (by omega)]; exact q7 p a c
  · exact fun f c a1 a2 a3 a4 => by rw [up_at, if_neg (by omega)]; show _ = nb (up A.v 2 i x 0 f) _; rw [up_ne (by decide)]; exact q8 f c a1 a2 a3 a4
  · exact fun p a c => by rw [up_at, if_neg (by omega)]; exact q9 p a c
  · exact fun f y a1 a2 a3 a4 => by have := q15.1 f; have a4 : y < (A.L f).length := a4; rw [up_at, if_neg (by omega)]; exact q10 f y a1 a2 a3 a4
  · exact fun p a c => by rw [up_at, if_neg (by omega)]; exact q11 p a c
  · exact cameR_cong q12 (fun x f hf => wf_bd hC hf) (by rw [up_at, if_neg (by omega)]) (fun f a c => by rw [up_at, if_neg (by omega)])
  · exact fun ρ a c => rowl_cong (q13 ρ a c) (by rw [fd_len]; exact (q15.2 ρ).1) (fun y i1 i2 => by rw [up_at, if_neg (by omega)])
  · exact fun ρ a c => rowl_cong (q14 ρ a c) (by rw [fd_len]; exact (q15.2 ρ).2) (fun y i1 i2 => by rw [up_at, if_neg (by omega)])
  · exact q15
theorem refR_v3 (h : refR S b A N) (hC : wfR A.C A.k) {i x : Int} (hi : 0 ≤ i ∧ i < 48) : refR (up S 91 (b + 160 + i) x) b (A.sv 3 i x) N := by
  obtain ⟨q0, q1, q2, q3, q4, q5, q6, q7, q8, q9, q10, q11, q12, q13, q14, q15⟩ := h
  refine ⟨?_, ?_, ?_, ?_, ?_, ?_, ?_, ?_, ?_, ?_, ?_, ?_, ?_, ?_, ?_, ?_⟩
  · exact fun y a c => by rw [up_at, if_neg (by omega)]; show _ = up A.v 3 i x 6 y; rw [up_ne (by decide)]; exact q0 y a c
  · exact fun p a c => by rw [up_at, if_neg (by omega)]; exact q1 p a c
  · exact fun y a c => by rw [up_at, if_neg (by omega)]; show _ = up A.v 3 i x 1 y; rw [up_ne (by decide)]; exact q2 y a c
  · exact fun y a c => by rw [up_at, if_neg (by omega)]; show _ = up A.v 3 i x 2 y; rw [up_ne (by decide)]; exact q3 y a c
  · intro y a c
    show up S 91 (b + 160 + i) x 91 (b + 160 + y) = up A.v 3 i x 3 y
    rw [up_at, up_at]
    by_cases e : y = i
    · rw [if_pos (by omega), if_pos e]
    · rw [if_neg (by omega), if_neg e]; exact q4 y a c
  · exact fun y a c => by rw [up_at, if_neg (by omega)]; show _ = up A.v 3 i x 4 y; rw [up_ne (by decide)]; exact q5 y a c
  · exact fun y a c => by rw [up_at, if_neg (by omega)]; show _ = up A.v 3 i x 5 y; rw [up_ne (by decide)]; exact q6 y a c
  · exact fun p a c => by rw [up_at, if_neg (by omega)]; exact q7 p a c
  · exact fun f c a1 a2 a3 a4 => by rw [up_at, if_neg (by omega)]; show _ = nb (up A.v 3 i x 0 f) _; rw [up_ne (by decide)]; exact q8 f c a1 a2 a3 a4
  · exact fun p a c => by rw [up_at, if_neg (by omega)]; exact q9 p a c
  · exact fun f y a1 a2 a3 a4 => by have := q15.1 f; have a4 : y < (A.L f).length := a4; rw [up_at, if_neg (by omega)]; exact q10 f y a1 a2 a3 a4
  · exact fun p a c => by rw [up_at, if_neg (by omega)]; exact q11 p a c
  · exact cameR_cong q12 (fun x f hf => wf_bd hC hf) (by rw [up_at, if_neg (by omega)]) (fun f a c => by rw [up_at, if_neg (by omega)])
  · exact fun ρ a c => rowl_cong (q13 ρ a c) (by rw [fd_len]; exact (q15.2 ρ).1) (fun y i1 i2 => by rw [up_at, if_neg (by omega)])
  · exact fun ρ a c => rowl_cong (q14 ρ a c) (by rw [fd_len]; exact (q15.2 ρ).2) (fun y i1 i2 => by rw [up_at, if_neg (by omega)])
  · exact q15
theorem refR_v4 (h : refR S b A N) (hC : wfR A.C A.k) {i x : Int} (hi : 0 ≤ i ∧ i < 48) : refR (up S 91 (b + 208 + i) x) b (A.sv 4 i x) N := by
  obtain ⟨q0, q1, q2, q3, q4, q5, q6, q7, q8, q9, q10, q11, q12, q13, q14, q15⟩ := h
  refine ⟨?_, ?_, ?_, ?_, ?_, ?_, ?_, ?_, ?_, ?_, ?_, ?_, ?_, ?_, ?_, ?_⟩
  · exact fun y a c => by rw [up_at, if_neg (by omega)]; show _ = up A.v 4 i x 6 y; rw [up_ne (by decide)]; exact q0 y a c
  · exact fun p a c => by rw [up_at, if_neg (by omega)]; exact q1 p a c
  · exact fun y a c => by rw [up_at, if_neg (by omega)]; show _ = up A.v 4 i x 1 y; rw [up_ne (by decide)]; exact q2 y a c
  · exact fun y a c => by rw [up_at, if_neg (by omega)]; show _ = up A.v 4 i x 2 y; rw [up_ne (by decide)]; exact q3 y a c
  · exact fun y a c => by rw [up_at, if_neg (by omega)]; show _ = up A.v 4 i x 3 y; rw [up_ne (by decide)]; exact q4 y a c
  · intro y a c
    show up S 91 (b + 208 + i) x 91 (b + 208 + y) = up A.v 4 i x 4 y
    rw [up_at, up_at]
    by_cases e : y = i
    · rw [if_pos (by omega), if_pos e]
    · rw [if_neg (by omega), if_neg e]; exact q5 y a c
  · exact fun y a c => by rw [up_at, if_neg (by omega)]; show _ = up A.v 4 i x 5 y; rw [up_ne (by decide)]; exact q6 y a c
  · exact fun p a c => by rw [up_at, if_neg (by omega)]; exact q7 p a c
  · exact fun f c a1 a2 a3 a4 => by rw [up_at, if_neg (by omega)]; show _ = nb (up A.v 4 i x 0 f) _; rw [up_ne (by decide)]; exact q8 f c a1 a2 a3 a4
  · exact fun p a c => by rw [up_at, if_neg (by omega)]; exact q9 p a c
  · exact fun f y a1 a2 a3 a4 => by have := q15.1 f; have a4 : y < (A.L f).length := a4; rw [up_at, if_neg (by omega)]; exact q10 f y a1 a2 a3 a4
  · exact fun p a c => by rw [up_at, if_neg (by omega)]; exact q11 p a c
  · exact cameR_cong q12 (fun x f hf => wf_bd hC hf) (by rw [up_at, if_neg (by omega)]) (fun f a c => by rw [up_at, if_neg (by omega)])
  · exact fun ρ a c => rowl_cong (q13 ρ a c) (by rw [fd_len]; exact (q15.2 ρ).1) (fun y i1 i2 => by rw [up_at, if_neg (by omega)])
  · exact fun ρ a c => rowl_cong (q14 ρ a c) (by rw [fd_len]; exact (q15.2 ρ).2) (fun y i1 i2 => by rw [up_at, if_neg (by omega)])
  · exact q15
theorem refR_v5 (h : refR S b A N) (hC : wfR A.C A.k) {i x : Int} (hi : 0 ≤ i ∧ i < 48) : refR (up S 91 (b + 256 + i) x) b (A.sv 5 i x) N := by
  obtain ⟨q0, q1, q2, q3, q4, q5, q6, q7, q8, q9, q10, q11, q12, q13, q14, q15⟩ := h
  refine ⟨?_, ?_, ?_, ?_, ?_, ?_, ?_, ?_, ?_, ?_, ?_, ?_, ?_, ?_, ?_, ?_⟩
  · exact fun y a c => by rw [up_at, if_neg (by omega)]; show _ = up A.v 5 i x 6 y; rw [up_ne (by decide)]; exact q0 y a c
  · exact fun p a c => by rw [up_at, if_neg (by omega)]; exact q1 p a c
  · exact fun y a c => by rw [up_at, if_neg (by omega)]; show _ = up A.v 5 i x 1 y; rw [up_ne (by decide)]; exact q2 y a c
  · exact fun y a c => by rw [up_at, if_neg (by omega)]; show _ = up A.v 5 i x 2 y; rw [up_ne (by decide)]; exact q3 y a c
  · exact fun y a c => by rw [up_at, if_neg (by omega)]; show _ = up A.v 5 i x 3 y; rw [up_ne (by decide)]; exact q4 y a c
  · exact fun y a c => by rw [up_at, if_neg (by omega)]; show _ = up A.v 5 i x 4 y; rw [up_ne (by decide)]; exact q5 y a c
  · intro y a c
    show up S 91 (b + 256 + i) x 91 (b + 256 + y) = up A.v 5 i x 5 y
    rw [up_at, up_at]
    by_cases e : y = i
    · rw [if_pos (by omega), if_pos e]
    · rw [if_neg (by omega), if_neg e]; exact q6 y a c
  · exact fun p a c => by rw [up_at, if_neg (by omega)]; exact q7 p a c
  · exact fun f c a1 a2 a3 a4 => by rw [up_at, if_neg (by omega)]; show _ = nb (up A.v 5 i x 0 f) _; rw [up_ne (by decide)]; exact q8 f c a1 a2 a3 a4
  · exact fun p a c => by rw [up_at, if_neg (by omega)]; exact q9 p a c
  · exact fun f y a1 a2 a3 a4 => by have := q15.1 f; have a4 : y < (A.L f).length := a4; rw [up_at, if_neg (by omega)]; exact q10 f y a1 a2 a3 a4
  · exact fun p a c => by rw [up_at, if_neg (by omega)]; exact q11 p a c
  · exact cameR_cong q12 (fun x f hf => wf_bd hC hf) (by rw [up_at, if_neg (by omega)]) (fun f a c => by rw [up_at, if_neg (by omega)])
  · exact fun ρ a c => rowl_cong (q13 ρ a c) (by rw [fd_len]; exact (q15.2 ρ).1) (fun y i1 i2 => by rw [up_at, if_neg (by omega)])
  · exact fun ρ a c => rowl_cong (q14 ρ a c) (by rw [fd_len]; exact (q15.2 ρ).2) (fun y i1 i2 => by rw [up_at, if_neg (by omega)])
  · exact q15
theorem refR_L (h : refR S b A N) (hC : wfR A.C A.k) {L : Int → List Int} {w : Int → Int} (hw : ∀ p, 0 ≤ p → p < 48 → S' 91 (b + 16 + p) = w p) (hn : ∀ f, 0 ≤ f → f < 48 → S' 91 (b + 544 + f) = (L f).length) (hL : ∀ (f i : Int), 0 ≤ f → f < 48 → 0 ≤ i → i < (L f).length → S' 91 (b + 592 + 8 * f + i) = nthL (L f) i.toNat) (hm : ∀ f, (L f).length ≤ 8) (hS : ∀ i, b ≤ i → i < b + 1654 → ¬ ((b + 16 ≤ i ∧ i < b + 64) ∨ (b + 544 ≤ i ∧ i < b + 976)) → S' 91 i = S 91 i) : refR S' b (A.sL L w) N := by
  obtain ⟨q0, q1, q2, q3, q4, q5, q6, q7, q8, q9, q10, q11, q12, q13, q14, q15⟩ := h
  refine ⟨?_, ?_, ?_, ?_, ?_, ?_, ?_, ?_, ?_, ?_, ?_, ?_, ?_, ?_, ?_, ?_⟩
  · exact fun i a c => by rw [hS _ (by omega) (by omega) (by omega)]; exact q0 i a c
  · exact hw
  · exact fun p a c => by rw [hS _ (by omega) (by omega) (by omega)]; exact q2 p a c
  · exact fun p a c => by rw [hS _ (by omega) (by omega) (by omega)]; exact q3 p a c
  · exact fun p a c => by rw [hS _ (by omega) (by omega) (by omega)]; exact q4 p a c
  · exact fun p a c => by rw [hS _ (by omega) (by omega) (by omega)]; exact q5 p a c
  · exact fun p a c => by rw [hS _ (by omega) (by omega) (by omega)]; exact q6 p a c
  · exact fun p a c => by rw [hS _ (by omega) (by omega) (by omega)]; exact q7 p a c
  · exact fun f c a1 a2 a3 a4 => by rw [hS _ (by omega) (by omega) (by omega)]; exact q8 f c a1 a2 a3 a4
  · exact hn
  · exact hL
  · exact fun p a c => by rw [hS _ (by omega) (by omega) (by omega)]; exact q11 p a c
  · exact cameR_cong q12 (fun x f hf => wf_bd hC hf) (hS _ (by omega) (by omega) (by omega)) (fun f a c => hS _ (by omega) (by omega) (by omega))
  · exact fun ρ a c => rowl_cong (q13 ρ a c) (by rw [fd_len]; exact (q15.2 ρ).1) (fun i i1 i2 => hS i (by omega) (by omega) (by omega))
  · exact fun ρ a c => rowl_cong (q14 ρ a c) (by rw [fd_len]; exact (q15.2 ρ).2) (fun i i1 i2 => hS i (by omega) (by omega) (by omega))
  · exact ⟨hm, q15.2⟩
theorem refR_ts (h : refR S b A N) (hC : wfR A.C A.k) {T : Int → Tr} (hs : ∀ ρ, 0 ≤ ρ → ρ < 3 → rowl (S' 91) (b + 1072 + 97 * ρ) (fd (T ρ) 0)) (hm : ∀ ρ, (lb (T ρ)).length ≤ 48) (hS : ∀ i, b ≤ i → i < b + 1654 → ¬ ((b + 1072 ≤ i ∧ i < b + 1363)) → S' 91 i = S 91 i) : refR S' b (A.sts T) N := by
  obtain ⟨q0, q1, q2, q3, q4, q5, q6, q7, q8, q9, q10, q11, q12, q13, q14, q15⟩ := h
  refine ⟨?_, ?_, ?_, ?_, ?_, ?_, ?_, ?_, ?_, ?_, ?_, ?_, ?_, ?_, ?_, ?_⟩
  · exact fun i a c => by rw [hS _ (by omega) (by omega) (by omega)]; exact q0 i a c
  · exact fun p a c => by rw [hS _ (by omega) (by omega) (by omega)]; exact q1 p a c
  · exact fun p a c => by rw [hS _ (by omega) (by omega) (by omega)]; exact q2 p a c
  · exact fun p a c => by rw [hS _ (by omega) (by omega) (by omega)]; exact q3 p a c
  · exact fun p a c => by rw [hS _ (by omega) (by omega) (by omega)]; exact q4 p a c
  · exact fun p a c => by rw [hS _ (by omega) (by omega) (by omega)]; exact q5 p a c
  · exact fun p a c => by rw [hS _ (by omega) (by omega) (by omega)]; exact q6 p a c
  · exact fun p a c => by rw [hS _ (by omega) (by omega) (by omega)]; exact q7 p a c
  · exact fun f c a1 a2 a3 a4 => by rw [hS _ (by omega) (by omega) (by omega)]; exact q8 f c a1 a2 a3 a4
  · exact fun p a c => by rw [hS _ (by omega) (by omega) (by omega)]; exact q9 p a c
  · exact fun f i a1 a2 a3 a4 => by have := q15.1 f; have a4 : i < (A.L f).length := a4; rw [hS _ (by omega) (by omega) (by omega)]; exact q10 f i a1 a2 a3 a4
  · exact fun p a c => by rw [hS _ (by omega) (by omega) (by omega)]; exact q11 p a c
  · exact cameR_cong q12 (fun x f hf => wf_bd hC hf) (hS _ (by omega) (by omega) (by omega)) (fun f a c => hS _ (by omega) (by omega) (by omega))
  · exact hs
  · exact fun ρ a c => rowl_cong (q14 ρ a c) (by rw [fd_len]; exact (q15.2 ρ).2) (fun i i1 i2 => hS i (by omega) (by omega) (by omega))
  · exact ⟨q15.1, fun ρ => ⟨hm ρ, (q15.2 ρ).2⟩⟩
theorem refR_tw (h : refR S b A N) (hC : wfR A.C A.k) {T : Int → Tr} (hf : ∀ p, 0 ≤ p → p < 48 → S' 91 (b + 304 + p) = if p ∈ al T then 1 else 0) (hs : ∀ ρ, 0 ≤ ρ → ρ < 3 → rowl (S' 91) (b + 1363 + 97 * ρ) (fd (T ρ) 0)) (hm : ∀ ρ, (lb (T ρ)).length ≤ 48) (hS : ∀ i, b ≤ i → i < b + 1654 → ¬ ((b + 304 ≤ i ∧ i < b + 352) ∨ (b + 1363 ≤ i ∧ i < b + 1654)) → S' 91 i = S 91 i) : refR S' b (A.stw T) N := by
  obtain ⟨q0, q1, q2, q3, q4, q5, q6, q7, q8, q9, q10, q11, q12, q13, q14, q15⟩ := h
  refine ⟨?_, ?_, ?_, ?_, ?_, ?_, ?_, ?_, ?_, ?_, ?_, ?_, ?_, ?_, ?_, ?_⟩
  · exact fun i a c => by rw [hS _ (by omega) (by omega) (by omega)]; exact q0 i a c
  · exact fun p a c => by rw [hS _ (by omega) (by omega) (by omega)]; exact q1 p a c
  · exact fun p a c => by rw [hS _ (by omega) (by omega) (by omega)]; exact q2 p a c
  · exact fun p a c => by rw [hS _ (by omega) (by omega) (by omega)]; exact q3 p a c
  · exact fun p a c => by rw [hS _ (by omega) (by omega) (by omega)]; exact q4 p a c
  · exact fun p a c => by rw [hS _ (by omega) (by omega) (by omega)]; exact q5 p a c
  · exact fun p a c => by rw [hS _ (by omega) (by omega) (by omega)]; exact q6 p a c
  · exact hf
  · exact fun f c a1 a2 a3 a4 => by rw [hS _ (by omega) (by omega) (by omega)]; exact q8 f c a1 a2 a3 a4
  · exact fun p a c => by rw [hS _ (by omega) (by omega) (by omega)]; exact q9 p a c
  · exact fun f i a1 a2 a3 a4 => by have := q15.1 f; have a4 : i < (A.L f).length := a4; rw [hS _ (by omega) (by omega) (by omega)]; exact q10 f i a1 a2 a3 a4
  · exact fun p a c => by rw [hS _ (by omega) (by omega) (by omega)]; exact q11 p a c
  · exact cameR_cong q12 (fun x f hf => wf_bd hC hf) (hS _ (by omega) (by omega) (by omega)) (fun f a c => hS _ (by omega) (by omega) (by omega))
  · exact fun ρ a c => rowl_cong (q13 ρ a c) (by rw [fd_len]; exact (q15.2 ρ).1) (fun i i1 i2 => hS i (by omega) (by omega) (by omega))
  · exact hs
  · exact ⟨q15.1, fun ρ => ⟨(q15.2 ρ).1, hm ρ⟩⟩
theorem refR_C (h : refR S b A N) (hC : wfR A.C A.k) {C : Int → List Int} {k : Int → Int} {N' : Int} (hk : ∀ f, 0 ≤ f → f < 48 → S' 91 (b + 976 + f) = k f) (hc : cameR (S' 91) b C k N') (hS : ∀ i, b ≤ i → i < b + 1654 → ¬ ((b + 12 ≤ i ∧ i < b + 13) ∨ (b + 976 ≤ i ∧ i < b + 1072)) → S' 91 i = S 91 i) : refR S' b (A.sC C k) N' := by
  obtain ⟨q0, q1, q2, q3, q4, q5, q6, q7, q8, q9, q10, q11, q12, q13, q14, q15⟩ := h
  refine ⟨?_, ?_, ?_, ?_, ?_, ?_, ?_, ?_, ?_, ?_, ?_, ?_, ?_, ?_, ?_, ?_⟩
  · exact fun i a c => by rw [hS _ (by omega) (by omega) (by omega)]; exact q0 i a c
  · exact fun p a c => by rw [hS _ (by omega) (by omega) (by omega)]; exact q1 p a c
  · exact fun p a c => by rw [hS _ (by omega) (by omega) (by omega)]; exact q2 p a c
  · exact fun p a c => by rw [hS _ (by omega) (by omega) (by omega)]; exact q3 p a c
  · exact fun p a c => by rw [hS _ (by omega) (by omega) (by omega)]; exact q4 p a c
  · exact fun p a c => by rw [hS _ (by omega) (by omega) (by omega)]; exact q5 p a c
  · exact fun p a c => by rw [hS _ (by omega) (by omega) (by omega)]; exact q6 p a c
  · exact fun p a c => by rw [hS _ (by omega) (by omega) (by omega)]; exact q7 p a c
  · exact fun f c a1 a2 a3 a4 => by rw [hS _ (by omega) (by omega) (by omega)]; exact q8 f c a1 a2 a3 a4
  · exact fun p a c => by rw [hS _ (by omega) (by omega) (by omega)]; exact q9 p a c
  · exact fun f i a1 a2 a3 a4 => by have := q15.1 f; have a4 : i < (A.L f).length := a4; rw [hS _ (by omega) (by omega) (by omega)]; exact q10 f i a1 a2 a3 a4
  · exact hk
  · exact hc
  · exact fun ρ a c => rowl_cong (q13 ρ a c) (by rw [fd_len]; exact (q15.2 ρ).1) (fun i i1 i2 => hS i (by omega) (by omega) (by omega))
  · exact fun ρ a c => rowl_cong (q14 ρ a c) (by rw [fd_len]; exact (q15.2 ρ).2) (fun i i1 i2 => hS i (by omega) (by omega) (by omega))
  · exact q15
theorem refR_v0 (h : refR S b A N) (hC : wfR A.C A.k) {f x : Int} (h0 : ∀ f' c, 0 ≤ f' → f' < 48 → 0 ≤ c → c < 4 → S' 91 (b + 352 + 4 * f' + c) = nb (up A.v 0 f x 0 f') (12 - 4 * c)) (hS : ∀ i, b ≤ i → i < b + 1654 → ¬ ((b + 352 ≤ i ∧ i < b + 544)) → S' 91 i = S 91 i) : refR S' b (A.sv 0 f x) N := by
  obtain ⟨q0, q1, q2, q3, q4, q5, q6, q7, q8, q9, q10, q11, q12, q13, q14, q15⟩ := h
  refine ⟨?_, ?_, ?_, ?_, ?_, ?_, ?_, ?_, ?_, ?_, ?_, ?_, ?_, ?_, ?_, ?_⟩
  · exact fun i a c => by rw [hS _ (by omega) (by omega) (by omega)]; show _ = up A.v 0 f x 6 i; rw [up_ne (by decide)]; exact q0 i a c
  · exact fun p a c => by rw [hS _ (by omega) (by omega) (by omega)]; exact q1 p a c
  · exact fun p a c => by rw [hS _ (by omega) (by omega) (by omega)]; show _ = up A.v 0 f x 1 p; rw [up_ne (by decide)]; exact q2 p a c
  · exact fun p a c => by rw [hS _ (by omega) (by omega) (by omega)]; show _ = up A.v 0 f x 2 p; rw [up_ne (by decide)]; exact q3 p a c
  · exact fun p a c => by rw [hS _ (by omega) (by omega) (by omega)]; show _ = up A.v 0 f x 3 p; rw [up_ne (by decide)]; exact q4 p a c
  · exact fun p a c => by rw [hS _ (by omega) (by omega) (by omega)]; show _ = up A.v 0 f x 4 p; rw [up_ne (by decide)]; exact q5 p a c
  · exact fun p a c => by rw [hS _ (by omega) (by omega) (by omega)]; show _ = up A.v 0 f x 5 p; rw [up_ne (by decide)]; exact q6 p a c
  · exact fun p a c => by rw [hS _ (by omega) (by omega) (by omega)]; exact q7 p a c
  · exact h0
  · exact fun p a c => by rw [hS _ (by omega) (by omega) (by omega)]; exact q9 p a c
  · exact fun f i a1 a2 a3 a4 => by have := q15.1 f; have a4 : i < (A.L f).length := a4; rw [hS _ (by omega) (by omega) (by omega)]; exact q10 f i a1 a2 a3 a4
  · exact fun p a c => by rw [hS _ (by omega) (by omega) (by omega)]; exact q11 p a c
  · exact cameR_cong q12 (fun x f hf => wf_bd hC hf) (hS _ (by omega) (by omega) (by omega)) (fun f a c => hS _ (by omega) (by omega) (by omega))
  · exact fun ρ a c => rowl_cong (q13 ρ a c) (by rw [fd_len]; exact (q15.2 ρ).1) (fun i i1 i2 => hS i (by omega) (by omega) (by omega))
  · exact fun ρ a c => rowl_cong (q14 ρ a c) (by rw [fd_len]; exact (q15.2 ρ).2) (fun i i1 i2 => hS i (by omega) (by omega) (by omega))
  · exact q15
end
