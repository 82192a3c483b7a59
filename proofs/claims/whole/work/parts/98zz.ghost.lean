/-! ===== what holds of a draft between clauses ===== -/
def gh (m : Int) (D : aD) : Prop := D.2.2.2.C = (fun _ => []) ∧ D.2.2.2.k = (fun _ => -1) ∧ D.2.2.2.ts = (fun _ => .leaf ()) ∧ D.2.2.2.tw = (fun _ => .leaf ()) ∧ (∀ j, 2 ≤ j → D.2.2.2.v j = vnew m j) ∧ (∀ f, D.2.2.2.L f = [] → D.2.2.2.v 0 f = 0) ∧ (∀ p, ¬(0 ≤ p ∧ p < D.1 0 7) → D.2.2.2.v 1 p = 0) ∧ (∀ f, D.2.2.2.L f ≠ [] → f < D.2.2.1) ∧ (∀ g, 0 ≤ g → g < D.1 0 6 → D.1 3 g + D.1 1 g = if g + 1 = D.1 0 6 then D.1 0 7 else D.1 3 (g + 1)) ∧ (0 < D.1 0 6 → D.1 3 0 = 0) ∧ (D.1 0 6 = 0 → D.1 0 7 = 0)
theorem wfA_mk {P : aP} {A : aS} {m : Int} (hm : 1 ≤ m ∧ m ≤ 16) (hP : wfP P) (hC : A.C = (fun _ => [])) (hk : A.k = (fun _ => -1)) (hts : A.ts = (fun _ => .leaf ())) (htw : A.tw = (fun _ => .leaf ())) (hv : ∀ j, 2 ≤ j → A.v j = vnew m j) (hR : wfR A.L A.w) (h1 : ∀ f, (A.L f).length ≤ 1) (h5 : ∀ p, A.w p ≠ -1 → 0 ≤ p ∧ p < P 0 7 ∧ A.w p < P 0 0) (h0 : ∀ f, 0 ≤ A.v 0 f ∧ A.v 0 f < 65536) (hv1 : ∀ p, A.v 1 p = 0 ∨ A.v 1 p = 1) : wfA P A := by
  have q := wf_new (m := m) hm hP
  have hs := hP.2.1
  refine ⟨hR, by rw [hC, hk]; exact q.2.1, by rw [hts]; exact q.2.2.1, by rw [htw]; exact q.2.2.2.1, h5, fun f hf => absurd (by rw [hk]) hf, fun f _ => h1 f, fun f => by have := h1 f; omega, by rw [hts, hC]; exact q.2.2.2.2.2.2.2.2.1, fun ρ p _ _ hp => ?_, h0, hv1, by rw [hv 6 (by decide)]; exact q.2.2.2.2.2.2.2.2.2.2.2.2.1, by rw [hv 6 (by decide)]; exact q.2.2.2.2.2.2.2.2.2.2.2.2.2⟩
  rw [htw] at hp
  cases hp
theorem wfA_P {P P' : aP} {D : aD} {m : Int} (hm : 1 ≤ m ∧ m ≤ 16) (hg : gh m D) (hA : wfA P D.2.2.2) (hP : wfP P') (h5 : ∀ p, D.2.2.2.w p ≠ -1 → p < P' 0 7 ∧ D.2.2.2.w p < P' 0 0) : wfA P' D.2.2.2 := by
  obtain ⟨g1, g2, g3, g4, g5, -⟩ := hg
  refine wfA_mk hm hP g1 g2 g3 g4 g5 hA.1 (fun f => hA.2.2.2.2.2.2.1 f (by rw [g2])) (fun p hp => ⟨(hA.2.2.2.2.1 p hp).1, h5 p hp⟩) hA.2.2.2.2.2.2.2.2.2.2.1 hA.2.2.2.2.2.2.2.2.2.2.2.1
theorem wfP_addG {P : aP} {m ρ : Int} (hP : wfP P) (hm : 1 ≤ m ∧ m ≤ 12) (hρ : 0 ≤ ρ ∧ ρ < 3) (hg : P 0 6 < 4) (hs : P 0 7 + m ≤ 48) : wfP (addG P m ρ) := by
  obtain ⟨p0, p1, p2, p4, p6, p7, pg, pp⟩ := hP
  refine ⟨?_, ?_, ?_, ?_, ?_, ?_, fun g g0 g1 => ?_, fun p q0 q1 => ?_⟩
  · rw [addG_0 P m ρ (by decide) (by decide)]; exact p0
  · rw [addG_0 P m ρ (by decide) (by decide)]; exact p1
  · rw [addG_0 P m ρ (i := 2) (by decide) (by decide), addG_0 P m ρ (i := 3) (by decide) (by decide)]; exact p2
  · rw [addG_0 P m ρ (i := 4) (by decide) (by decide), addG_0 P m ρ (i := 5) (by decide) (by decide)]; exact p4
  · rw [addG_06]; omega
  · rw [addG_07]; omega
  · rw [addG_06] at g1
    rw [addG_1, addG_2, addG_3, addG_07]
    by_cases c : g = P 0 6
    · rw [if_pos c, if_pos c, if_pos c]
      refine ⟨hm, hρ, p7.1, Int.le_refl _, fun i i0 i1 => ?_⟩
      rw [addG_4, if_pos ⟨by omega, by omega⟩, c]
    · rw [if_neg c, if_neg c, if_neg c]
      have q := pg g g0 (by omega)
      refine ⟨q.1, q.2.1, q.2.2.1, by omega, fun i i0 i1 => ?_⟩
      rw [addG_4, if_neg (by omega)]
      exact q.2.2.2.2 i i0 i1
  · rw [addG_07] at q1
    rw [addG_06]
    by_cases c : P 0 7 ≤ p
    · have e : addG P m ρ 4 p = P 0 6 := by rw [addG_4, if_pos ⟨c, q1⟩]
      rw [e, addG_3, if_pos rfl, addG_1, if_pos rfl]
      omega
    · have q := pp p q0 (by omega)
      have e : addG P m ρ 4 p = P 4 p := by rw [addG_4, if_neg (by omega)]
      rw [e, addG_3, if_neg (by omega), addG_1, if_neg (by omega)]
      omega
theorem gh_addG {D : aD} {m k ρ : Int} (hP : wfP D.1) (hg : gh m D) (hk : 1 ≤ k) : gh m (addG D.1 k ρ, D.2) := by
  obtain ⟨g1, g2, g3, g4, g5, g6, g7, g8, g9, g10, g11⟩ := hg
  have p6 := hP.2.2.2.2.1
  have p7 := hP.2.2.2.2.2.1
  refine ⟨g1, g2, g3, g4, g5, g6, fun p hp => g7 p (fun q => hp ⟨q.1, ?_⟩), g8, fun g g0 gl => ?_, fun _ => ?_, fun q => ?_⟩
  · show p < addG D.1 k ρ 0 7
    rw [addG_07]; omega
  · have gl' : g < addG D.1 k ρ 0 6 := gl
    rw [addG_06] at gl'
    show addG D.1 k ρ 3 g + addG D.1 k ρ 1 g = if g + 1 = addG D.1 k ρ 0 6 then addG D.1 k ρ 0 7 else addG D.1 k ρ 3 (g + 1)
    rw [addG_3, addG_1, addG_06, addG_07, addG_3]
    by_cases c : g = D.1 0 6
    · rw [if_pos c, if_pos c, if_pos (by omega)]
    · rw [if_neg c, if_neg c, if_neg (by omega), g9 g g0 (by omega)]
  · show addG D.1 k ρ 3 0 = 0
    rw [addG_3]
    by_cases c : (0 : Int) = D.1 0 6
    · rw [if_pos c]; exact g11 c.symm
    · rw [if_neg c]; exact g10 (by omega)
  · have q' : addG D.1 k ρ 0 6 = 0 := q
    rw [addG_06] at q'
    omega
theorem iro_32 {t k : Int} (ht : 0 ≤ t ∧ t < 32) (hk : 0 ≤ k ∧ k < 32) : 0 ≤ iro t k ∧ iro t k < 32 := by
  rw [iro_nn ht.1 (by omega) hk.1 (by omega)]
  have := Nat.or_lt_two_pow (x := t.toNat) (y := k.toNat) (n := 5) (by omega) (by omega)
  omega
/-- a scalar of the plan is told -/
theorem wfP_up {P : aP} (hP : wfP P) {i x : Int} (h6 : i ≠ 6) (h7 : i ≠ 7) (h0 : i = 0 → 1 ≤ x ∧ x ≤ 48) (h1 : i = 1 → 2 ≤ x ∧ x ≤ 8) (h2 : i ≠ 2) (h3 : i ≠ 3) (h4 : i = 4 ∨ i = 5 → x = 0 ∨ x = 1) : wfP (up P 0 i x) := by
  obtain ⟨p0, p1, p2, p4, p6, p7, pg, pp⟩ := hP
  have e : ∀ j, j ≠ i → up P 0 i x 0 j = P 0 j := fun j hj => by rw [up_at, if_neg hj]
  have ej : ∀ j : Nat, j ≠ 0 → up P 0 i x j = P j := fun j hj => up_ne hj
  refine ⟨?_, ?_, ?_, ⟨?_, ?_⟩, by rw [e 6 (fun q => h6 q.symm)]; exact p6, by rw [e 7 (fun q => h7 q.symm)]; exact p7, by rw [e 6 (fun q => h6 q.symm), e 7 (fun q => h7 q.symm), ej 1 (by decide), ej 2 (by decide), ej 3 (by decide), ej 4 (by decide)]; exact pg, by rw [e 6 (fun q => h6 q.symm), e 7 (fun q => h7 q.symm), ej 1 (by decide), ej 3 (by decide), ej 4 (by decide)]; exact pp⟩
  · rw [up_at]; split
    · rename_i q; exact h0 q.symm
    · exact p0
  · rw [up_at]; split
    · rename_i q; exact h1 q.symm
    · exact p1
  · rw [e 2 (fun q => h2 q.symm), e 3 (fun q => h3 q.symm)]; exact p2
  · rw [up_at]; split
    · rename_i q; exact h4 (.inl q.symm)
    · exact p4.1
  · rw [up_at]; split
    · rename_i q; exact h4 (.inr q.symm)
    · exact p4.2
theorem wfP_rate {P : aP} (hP : wfP P) {x y : Int} (hx : 1 ≤ x ∧ x ≤ y ∧ y ≤ 16) : wfP (up (up P 0 2 x) 0 3 y) := by
  obtain ⟨p0, p1, p2, p4, p6, p7, pg, pp⟩ := hP
  have e : ∀ j, j ≠ 2 → j ≠ 3 → up (up P 0 2 x) 0 3 y 0 j = P 0 j := fun j h2 h3 => by rw [up_at, if_neg h3, up_at, if_neg h2]
  have ej : ∀ j : Nat, j ≠ 0 → up (up P 0 2 x) 0 3 y j = P j := fun j hj => by rw [up_ne hj, up_ne hj]
  refine ⟨by rw [e 0 (by decide) (by decide)]; exact p0, by rw [e 1 (by decide) (by decide)]; exact p1, ?_, by rw [e 4 (by decide) (by decide), e 5 (by decide) (by decide)]; exact p4, by rw [e 6 (by decide) (by decide)]; exact p6, by rw [e 7 (by decide) (by decide)]; exact p7, by rw [e 6 (by decide) (by decide), e 7 (by decide) (by decide), ej 1 (by decide), ej 2 (by decide), ej 3 (by decide), ej 4 (by decide)]; exact pg, by rw [e 6 (by decide) (by decide), e 7 (by decide) (by decide), ej 1 (by decide), ej 3 (by decide), ej 4 (by decide)]; exact pp⟩
  rw [up_eq, up_at, if_neg (by decide), up_eq]; exact hx
theorem gh_P {D : aD} {m : Int} {P : aP} {t : Int} (hg : gh m D) (e6 : P 0 6 = D.1 0 6) (e7 : P 0 7 = D.1 0 7) (e1 : P 1 = D.1 1) (e3 : P 3 = D.1 3) : gh m (P, t, D.2.2) := by
  obtain ⟨g1, g2, g3, g4, g5, g6, g7, g8, g9, g10, g11⟩ := hg
  refine ⟨g1, g2, g3, g4, g5, g6, fun p hp => g7 p (fun q => hp ⟨q.1, by show p < P 0 7; omega⟩), g8, fun g g0 gl => ?_, fun q => ?_, fun q => ?_⟩
  · have gl' : g < P 0 6 := gl
    have q := g9 g g0 (by omega)
    show P 3 g + P 1 g = if g + 1 = P 0 6 then P 0 7 else P 3 (g + 1)
    rw [e3, e1, q]
    by_cases c : g + 1 = D.1 0 6
    · rw [if_pos c, if_pos (by omega), e7]
    · rw [if_neg c, if_neg (by omega)]
  · have q' : 0 < P 0 6 := q
    show P 3 0 = 0
    rw [e3]; exact g10 (by omega)
  · have q' : P 0 6 = 0 := q
    show P 0 7 = 0
    rw [e7]; exact g11 (by omega)
theorem gh_adv {m : Int} : ∀ (k : Nat) (p : Int) {D : aD}, gh m D → 0 ≤ p → p + k ≤ D.1 0 7 → gh m (D.1, D.2.1, D.2.2.1, (advAll k p D.2.2.2).2)
  | 0, p, D, h, _, _ => h
  | k + 1, p, D, h, h0, h1 => by
    show gh m (D.1, D.2.1, D.2.2.1, (if D.2.2.2.v 1 p = 0 then ((advAll k (p + 1) (D.2.2.2.sv 1 p 1)).1 + 1, (advAll k (p + 1) (D.2.2.2.sv 1 p 1)).2) else advAll k (p + 1) D.2.2.2).2)
    by_cases c : D.2.2.2.v 1 p = 0
    · rw [if_pos c]
      refine gh_adv k (p + 1) (D := (D.1, D.2.1, D.2.2.1, D.2.2.2.sv 1 p 1)) ?_ (by omega) (by dsimp only; omega)
      obtain ⟨g1, g2, g3, g4, g5, g6, g7, g8, g9, g10, g11⟩ := h
      refine ⟨g1, g2, g3, g4, fun j hj => ?_, fun f hf => ?_, fun q hq => ?_, g8, g9, g10, g11⟩
      · show up D.2.2.2.v 1 p 1 j = _
        rw [up_ne (by omega)]; exact g5 j hj
      · show up D.2.2.2.v 1 p 1 0 f = 0
        rw [up_ne (by decide)]; exact g6 f hf
      · show up D.2.2.2.v 1 p 1 1 q = 0
        have hq' : ¬(0 ≤ q ∧ q < D.1 0 7) := hq
        rw [up_at, if_neg (by omega)]; exact g7 q hq'
    · rw [if_neg c]
      exact gh_adv k (p + 1) h (by omega) (by omega)
theorem nq_ok {b : Int → Int} {n : Int} : ∀ (k : Nat) (x : Int) (U : aT), (nqT b n k x U).2.2.1 = 0 → U.2.1 = 0
  | 0, x, U, h => h
  | k + 1, x, U, h => (numT_ok (nq_ok k _ _ h)).1
theorem nq_rg {b : Int → Int} {n : Int} (U : aT) : 0 ≤ (nqT b n 4 0 U).1 ∧ (nqT b n 4 0 U).1 < 65536 := by
  show 0 ≤ 16 * (16 * (16 * (16 * 0 + (numT b n 0 15 U).1) + (numT b n 0 15 (numT b n 0 15 U).2).1) + (numT b n 0 15 (numT b n 0 15 (numT b n 0 15 U).2).2).1) + (numT b n 0 15 (numT b n 0 15 (numT b n 0 15 (numT b n 0 15 U).2).2).2).1 ∧ 16 * (16 * (16 * (16 * 0 + (numT b n 0 15 U).1) + (numT b n 0 15 (numT b n 0 15 U).2).1) + (numT b n 0 15 (numT b n 0 15 (numT b n 0 15 U).2).2).1) + (numT b n 0 15 (numT b n 0 15 (numT b n 0 15 (numT b n 0 15 U).2).2).2).1 < 65536
  have a1 := num15 (b := b) (n := n) U
  have a2 := num15 (b := b) (n := n) (numT b n 0 15 U).2
  have a3 := num15 (b := b) (n := n) (numT b n 0 15 (numT b n 0 15 U).2).2
  have a4 := num15 (b := b) (n := n) (numT b n 0 15 (numT b n 0 15 (numT b n 0 15 U).2).2).2
  omega
/-- no page lies anywhere where none is placed -/
theorem gh_none {m : Int} {D : aD} (hA : wfA D.1 D.2.2.2) (h7 : D.1 0 7 ≤ 48) (hg : gh m D) {p : Int} (hp : D.2.2.2.w p ≠ -1) : D.2.2.2.w p < D.2.2.1 ∧ p ∈ D.2.2.2.L (D.2.2.2.w p) ∧ 0 ≤ D.2.2.2.w p := by
  have q := hA.2.2.2.2.1 p hp
  have r := hA.1.2.2 p
  have mm : p ∈ D.2.2.2.L (D.2.2.2.w p) := (hA.1.2.1 _ p).mpr ⟨⟨q.1, by omega⟩, ⟨by omega, by omega⟩, rfl⟩
  exact ⟨hg.2.2.2.2.2.2.2.1 _ (fun z => by rw [z] at mm; cases mm), mm, by omega⟩
theorem gs_ok {b : Int → Int} {n : Int} {U : aT} (h : (gsT b n U).2.2.1 = 0) : (1 ≤ (gsT b n U).1.1 ∧ (gsT b n U).1.1 ≤ 12) ∧ (0 ≤ (gsT b n U).1.2 ∧ (gsT b n U).1.2 < 3) := by
  unfold gsT at *
  by_cases c : (numT b n 1 12 U).2.2.1 = 0 ∧ tkK b n (numT b n 1 12 U).2.1 = 2
  · rw [if_pos c] at *
    have a1 := num_rg c.1
    have a2 := num_rg h
    exact ⟨a1, a2.1, by dsimp only; omega⟩
  · rw [if_neg c] at *
    exact ⟨num_rg h, by dsimp only; decide⟩
theorem ok_page {D : aD} {m p x : Int} (hm : 1 ≤ m ∧ m ≤ 16) (oD : okE D) (hg : gh m D) (hp : 0 ≤ p ∧ p < D.1 0 7) (hw : D.2.2.2.w p = -1) (hl : D.2.2.1 < D.1 0 0) (hx : 0 ≤ x ∧ x < 65536) : okE (D.1, D.2.1, D.2.2.1 + 1, (lieIn D.2.2.2 p D.2.2.1).sv 0 D.2.2.1 x) ∧ gh m (D.1, D.2.1, D.2.2.1 + 1, (lieIn D.2.2.2 p D.2.2.1).sv 0 D.2.2.1 x) := by
  obtain ⟨oP, oA, oT, oL, o7⟩ := oD
  have p7 := oP.2.2.2.2.2.1
  have p0 := oP.1
  obtain ⟨g1, g2, g3, g4, g5, g6, g7, g8, g9, g10, g11⟩ := hg
  have em : D.2.2.2.L D.2.2.1 = [] := Decidable.byContradiction (fun q => by have := g8 _ q; omega)
  have hR : wfR (lieIn D.2.2.2 p D.2.2.1).L (lieIn D.2.2.2 p D.2.2.1).w := by
    have q := (wf_put oP oA hp (x := 0) (by decide)).1
    obtain ⟨r1, r2, r3⟩ := oA.1
    refine ⟨fun r => ?_, fun r y => ?_, fun y => ?_⟩
    · show (if r = D.2.2.1 then D.2.2.2.L r ++ [p] else D.2.2.2.L r).Nodup
      by_cases c : r = D.2.2.1
      · rw [if_pos c, c, em]; simp
      · rw [if_neg c]; exact r1 r
    · show y ∈ (if r = D.2.2.1 then D.2.2.2.L r ++ [p] else D.2.2.2.L r) ↔ ((0 ≤ y ∧ y < 48) ∧ (0 ≤ r ∧ r < 48) ∧ (if y = p then D.2.2.1 else D.2.2.2.w y) = r)
      have nl : ∀ z, D.2.2.2.w z ≠ D.2.2.1 ∨ ¬(0 ≤ z ∧ z < 48) := fun z => Decidable.byContradiction (fun k => by
        have k1 : D.2.2.2.w z = D.2.2.1 := Decidable.byContradiction (fun k2 => k (.inl k2))
        have k3 : 0 ≤ z ∧ z < 48 := Decidable.byContradiction (fun k2 => k (.inr k2))
        have := (r2 D.2.2.1 z).mpr ⟨k3, ⟨oL.1, by omega⟩, k1⟩
        rw [em] at this
        cases this)
      by_cases c : r = D.2.2.1
      · rw [if_pos c, c, em, List.nil_append, List.mem_singleton]
        constructor
        · intro e
          rw [if_pos e]
          exact ⟨⟨by omega, by omega⟩, ⟨oL.1, by omega⟩, rfl⟩
        · rintro ⟨a, -, b⟩
          by_cases d : y = p
          · exact d
          · rw [if_neg d] at b
            exact absurd a ((nl y).elim (fun k => absurd b k) id)
      · rw [if_neg c, r2 r y]
        by_cases d : y = p
        · rw [if_pos d, d, hw]
          constructor
          · rintro ⟨-, a, b⟩; omega
          · rintro ⟨-, a, b⟩; omega
        · rw [if_neg d]
    · show -1 ≤ (if y = p then D.2.2.1 else D.2.2.2.w y) ∧ (if y = p then D.2.2.1 else D.2.2.2.w y) < 48
      by_cases d : y = p
      · rw [if_pos d]; omega
      · rw [if_neg d]; exact r3 y
  refine ⟨⟨oP, wfA_mk hm oP g1 g2 g3 g4 (fun j hj => ?_) hR (fun f => ?_) (fun q hq => ?_) (fun f => ?_) (fun q => ?_), oT, ⟨by dsimp only; omega, by dsimp only; omega⟩, o7⟩, g1, g2, g3, g4, fun j hj => ?_, fun f hf => ?_, fun q hq => ?_, fun f hf => ?_, g9, g10, g11⟩
  · show up D.2.2.2.v 0 D.2.2.1 x j = _
    rw [up_ne (by omega)]; exact g5 j hj
  · show (if f = D.2.2.1 then D.2.2.2.L f ++ [p] else D.2.2.2.L f).length ≤ 1
    by_cases c : f = D.2.2.1
    · rw [if_pos c, c, em]; simp
    · rw [if_neg c]; exact oA.2.2.2.2.2.2.1 f (by rw [g2])
  · have hq' : (if q = p then D.2.2.1 else D.2.2.2.w q) ≠ -1 := hq
    show 0 ≤ q ∧ q < D.1 0 7 ∧ (if q = p then D.2.2.1 else D.2.2.2.w q) < D.1 0 0
    by_cases c : q = p
    · rw [if_pos c]; omega
    · rw [if_neg c] at hq' ⊢
      exact oA.2.2.2.2.1 q hq'
  · show 0 ≤ up D.2.2.2.v 0 D.2.2.1 x 0 f ∧ up D.2.2.2.v 0 D.2.2.1 x 0 f < 65536
    rw [up_at]; split
    · exact hx
    · exact oA.2.2.2.2.2.2.2.2.2.2.1 f
  · show up D.2.2.2.v 0 D.2.2.1 x 1 q = 0 ∨ up D.2.2.2.v 0 D.2.2.1 x 1 q = 1
    rw [up_ne (by decide)]; exact oA.2.2.2.2.2.2.2.2.2.2.2.1 q
  · show up D.2.2.2.v 0 D.2.2.1 x j = _
    rw [up_ne (by omega)]; exact g5 j hj
  · have hf' : (if f = D.2.2.1 then D.2.2.2.L f ++ [p] else D.2.2.2.L f) = [] := hf
    show up D.2.2.2.v 0 D.2.2.1 x 0 f = 0
    by_cases c : f = D.2.2.1
    · rw [if_pos c] at hf'; simp at hf'
    · rw [if_neg c] at hf'
      rw [up_at, if_neg c]; exact g6 f hf'
  · show up D.2.2.2.v 0 D.2.2.1 x 1 q = 0
    rw [up_ne (by decide)]; exact g7 q hq
  · have hf' : (if f = D.2.2.1 then D.2.2.2.L f ++ [p] else D.2.2.2.L f) ≠ [] := hf
    show f < D.2.2.1 + 1
    by_cases c : f = D.2.2.1
    · omega
    · rw [if_neg c] at hf'
      have := g8 f hf'; omega
theorem ok_clB {b : Int → Int} {n : Int} {D : aD} {T : aT} {m : Int} (hm : 1 ≤ m ∧ m ≤ 16) (hf : T.2.1 = 0) (oD : okE D) (hg : gh m D) (hz : (clB b n D T).2.2.1 = 0) : okE (clB b n D T).1 ∧ gh m (clB b n D T).1 := by
  obtain ⟨oP, oA, oT, oL, o7⟩ := oD
  have p7 := oP.2.2.2.2.2.1
  have p6 := oP.2.2.2.2.1
  have p0 := oP.1
  have nof : ∀ k s, (failA k s T).2.1 = 0 → k = 0 := fun k s q => by rw [failA_z hf] at q; exact q
  have w5 : ∀ p, D.2.2.2.w p ≠ -1 → p < D.1 0 7 ∧ D.2.2.2.w p < D.1 0 0 := fun p hp => (oA.2.2.2.2.1 p hp).2
  have sc1 : ∀ (P : aP) (t : Int), wfP P → P 0 0 = D.1 0 0 → P 0 6 = D.1 0 6 → P 0 7 = D.1 0 7 → P 1 = D.1 1 → P 3 = D.1 3 → (0 ≤ t ∧ t < 32) → okE (P, t, D.2.2) ∧ gh m (P, t, D.2.2) := fun P t hP e0 e6 e7 e1 e3 ht => ⟨⟨hP, wfA_P (D := D) (P' := P) hm hg oA hP (fun p hp => by rw [e7, e0]; exact w5 p hp), ht, ⟨oL.1, by show D.2.2.1 ≤ P 0 0; rw [e0]; exact oL.2⟩, by show P 0 7 ≤ 12 * P 0 6; rw [e7, e6]; exact o7⟩, gh_P hg e6 e7 e1 e3⟩
  unfold clB at *
  by_cases d : tkW b n T.1 = 0
  · rw [if_pos d] at *
    by_cases k : 0 < D.2.2.1
    · rw [if_pos k] at hz; exact absurd (nof _ _ hz) (by decide)
    rw [if_neg k] at *
    by_cases k2 : ian D.2.1 1 ≠ 0
    · rw [if_pos k2] at hz; exact absurd (nof _ _ hz) (by decide)
    rw [if_neg k2] at *
    have xr := num_rg hz
    have hP' := wfP_up oP (i := 0) (x := (numT b n 1 48 (goT b n T)).1) (by decide) (by decide) (fun _ => xr) (fun q => absurd q (by decide)) (by decide) (by decide) (fun q => absurd q (by decide))
    have nw : ∀ p, D.2.2.2.w p = -1 := fun p => Decidable.byContradiction (fun q => by have := gh_none oA p7.2 hg q; omega)
    refine ⟨⟨hP', wfA_P hm hg oA hP' (fun p hp => absurd (nw p) hp), iro_32 oT (by decide), ⟨oL.1, ?_⟩, ?_⟩, gh_P hg (by rw [up_at, if_neg (by decide)]) (by rw [up_at, if_neg (by decide)]) (up_ne (by decide)) (up_ne (by decide))⟩
    · show D.2.2.1 ≤ up D.1 0 0 (numT b n 1 48 (goT b n T)).1 0 0
      rw [up_eq]; omega
    · show up D.1 0 0 (numT b n 1 48 (goT b n T)).1 0 7 ≤ 12 * up D.1 0 0 (numT b n 1 48 (goT b n T)).1 0 6
      rw [up_at, if_neg (by decide), up_at, if_neg (by decide)]; exact o7
  rw [if_neg d] at *
  by_cases d : tkW b n T.1 = 1
  · rw [if_pos d] at *
    by_cases k2 : ian D.2.1 2 ≠ 0
    · rw [if_pos k2] at hz; exact absurd (nof _ _ hz) (by decide)
    rw [if_neg k2] at *
    have xr := num_rg hz
    exact sc1 _ _ (wfP_up oP (by decide) (by decide) (fun q => absurd q (by decide)) (fun _ => xr) (by decide) (by decide) (fun q => absurd q (by decide))) (by rw [up_at, if_neg (by decide)]) (by rw [up_at, if_neg (by decide)]) (by rw [up_at, if_neg (by decide)]) (up_ne (by decide)) (up_ne (by decide)) (iro_32 oT (by decide))
  rw [if_neg d] at *
  by_cases d : tkW b n T.1 = 2
  · rw [if_pos d] at *
    by_cases k2 : ian D.2.1 4 ≠ 0
    · rw [if_pos k2] at hz; exact absurd (nof _ _ hz) (by decide)
    rw [if_neg k2] at *
    have xr := num_rg hz
    have yr := num_rg (numT_ok hz).1
    exact sc1 _ _ (wfP_rate oP ⟨yr.1, xr⟩) (by rw [up_at, if_neg (by decide), up_at, if_neg (by decide)]) (by rw [up_at, if_neg (by decide), up_at, if_neg (by decide)]) (by rw [up_at, if_neg (by decide), up_at, if_neg (by decide)]) (by rw [up_ne (by decide), up_ne (by decide)]) (by rw [up_ne (by decide), up_ne (by decide)]) (iro_32 oT (by decide))
  rw [if_neg d] at *
  by_cases d : tkW b n T.1 = 3
  · rw [if_pos d] at *
    by_cases k2 : ian D.2.1 8 ≠ 0
    · rw [if_pos k2] at hz; exact absurd (nof _ _ hz) (by decide)
    rw [if_neg k2] at *
    exact sc1 _ _ (wfP_up oP (by decide) (by decide) (fun q => absurd q (by decide)) (fun q => absurd q (by decide)) (by decide) (by decide) (fun _ => .inr rfl)) (by rw [up_at, if_neg (by decide)]) (by rw [up_at, if_neg (by decide)]) (by rw [up_at, if_neg (by decide)]) (up_ne (by decide)) (up_ne (by decide)) (iro_32 oT (by decide))
  rw [if_neg d] at *
  by_cases d : tkW b n T.1 = 4
  · rw [if_pos d] at *
    by_cases k2 : ian D.2.1 16 ≠ 0
    · rw [if_pos k2] at hz; exact absurd (nof _ _ hz) (by decide)
    rw [if_neg k2] at *
    exact sc1 _ _ (wfP_up oP (by decide) (by decide) (fun q => absurd q (by decide)) (fun q => absurd q (by decide)) (by decide) (by decide) (fun _ => .inr rfl)) (by rw [up_at, if_neg (by decide)]) (by rw [up_at, if_neg (by decide)]) (by rw [up_at, if_neg (by decide)]) (up_ne (by decide)) (up_ne (by decide)) (iro_32 oT (by decide))
  rw [if_neg d] at *
  by_cases d : tkW b n T.1 = 5
  · rw [if_pos d] at *
    by_cases k : 4 ≤ D.1 0 6
    · rw [if_pos k] at hz; exact absurd (nof _ _ hz) (by decide)
    rw [if_neg k] at *
    have gr := gs_ok hz
    have hP' := wfP_addG oP gr.1 gr.2 (by omega) (by omega)
    have hA' := wfA_P (D := D) hm hg oA hP' (fun p hp => by
      have := w5 p hp
      rw [addG_07, addG_0 _ _ _ (by decide) (by decide)]
      omega)
    refine ⟨⟨hP', hA', oT, ⟨oL.1, ?_⟩, ?_⟩, gh_addG oP hg gr.1.1⟩
    · show D.2.2.1 ≤ addG D.1 (gsT b n (goT b n T)).1.1 (gsT b n (goT b n T)).1.2 0 0
      rw [addG_0 _ _ _ (by decide) (by decide)]; exact oL.2
    · show addG D.1 (gsT b n (goT b n T)).1.1 (gsT b n (goT b n T)).1.2 0 7 ≤ 12 * addG D.1 (gsT b n (goT b n T)).1.1 (gsT b n (goT b n T)).1.2 0 6
      rw [addG_07, addG_06]; omega
  rw [if_neg d] at *
  by_cases d : tkW b n T.1 = 6
  · rw [if_pos d] at *
    by_cases k : D.1 0 0 ≤ D.2.2.1
    · rw [if_pos k] at hz; exact absurd (nof _ _ hz) (by decide)
    rw [if_neg k] at *
    unfold pg1 at *
    by_cases y : (pgT b n D.1 (goT b n T)).2.2.1 ≠ 0
    · rw [if_pos y] at hz; exact absurd hz y
    rw [if_neg y] at *
    have y' : (pgT b n D.1 (goT b n T)).2.2.1 = 0 := Decidable.not_not.mp y
    by_cases l : D.2.2.2.w (pgV D.1 (pgT b n D.1 (goT b n T))) ≠ -1
    · rw [if_pos l, failA_z y'] at hz; exact absurd hz (by dsimp only; decide)
    rw [if_neg l] at *
    exact ok_page hm ⟨oP, oA, oT, oL, o7⟩ hg (pgV_ok oP y') (Decidable.not_not.mp l) (by omega) (nq_rg _)
  rw [if_neg d] at *
  by_cases d : tkW b n T.1 = 7
  · rw [if_pos d] at *
    unfold ad1 at *
    by_cases y : (numT b n 0 11 (pgT b n D.1 (goT b n T)).2).2.2.1 ≠ 0
    · rw [if_pos y] at hz; exact absurd hz y
    rw [if_neg y] at *
    have y' : (numT b n 0 11 (pgT b n D.1 (goT b n T)).2).2.2.1 = 0 := Decidable.not_not.mp y
    have y2 := (numT_ok y').1
    by_cases l : plc D.1 (pgT b n D.1 (goT b n T)).1.1 (numT b n 0 11 (pgT b n D.1 (goT b n T)).2).1 = -1 ∨ plc D.1 (pgT b n D.1 (goT b n T)).1.1 (numT b n 0 11 (pgT b n D.1 (goT b n T)).2).1 < pgV D.1 (pgT b n D.1 (goT b n T))
    · rw [if_pos l, failA_z y'] at hz; exact absurd hz (by dsimp only; decide)
    rw [if_neg l] at *
    have pr := pgV_ok oP y2
    have lr := plc_rg oP (fun q => l (.inl q))
    exact ⟨⟨oP, wf_adv _ _ oA, oT, oL, o7⟩, gh_adv _ _ hg pr.1 (by omega)⟩
  rw [if_neg d] at *
  exact absurd (nof _ _ hz) (by decide)
