/-! ===== the class's State: a scan, ticks: contracts ===== -/
section
variable {sc : Nat × (Nat → Int32)} {SH : List mCell} {a : Nat} {P : aP}
theorem bef_ok {S : mStore} {A : aS} (h0 : sState SH a) (ha : 6 ≤ a) (hp : planR S 1 P) (hP : wfP P) (hs : stateR S a A) (hA : wfA P A) {p : Int} (hpp : 0 ≤ p ∧ p < P 0 7) (hcur : ∀ ρ, 0 ≤ ρ → ρ < 3 → p ∉ lb (A.tw ρ)) {u2 u3 u4 u5 u6 u7 u8 : Option Value} : ∃ S', G sc MX7_befall 0 [some (.ref a), some (.int (I p)), u2, u3, u4, u5, u6, u7, u8] [] SH S (rI (befA P A p).1 SH S') ∧ stateR S' a (befA P A p).2 ∧ (∀ j, j < a ∨ a + 20 ≤ j → S' j = S j) := by
  have hP7 := hP.2.2.2.2.2.1
  have hP4 := hP.2.2.2.1
  have b1 := hA.1.2.2 p
  have e1 := hs.1.1 p hpp.1 (by omega)
  have e4 := hp.1 4 (by omega) (by omega)
  have e5 := hp.1 5 (by omega) (by omega)
  have er : S (a + 18) p = A.v 5 p := hs.2.2.2.2.2.2.2.2.2.1 p hpp.1 (by omega)
  unfold befA
  by_cases n1 : A.w p = -1
  · rw [if_pos n1]
    refine ⟨_, qX7_befall_0 h0 ?_, stateR_v3 hs p (-1), fun j hj => up_ne (by omega)⟩
    rw [e1, n1]
    simp (disch := omega) only [iL, iE, iQ, ipos, ineg, an, if_true, if_false]
  · rw [if_neg n1]
    have b2 := hA.2.1.2.2 (A.w p)
    have e6 := hs.2.1.1 (A.w p) (by omega) (by omega)
    have e13 := hs.2.2.2.2.1 (A.w p) (by omega) (by omega)
    have bc := hA.2.2.2.2.2.2.2.2.2.2.1 (A.w p)
    by_cases n2 : A.k (A.w p) = -1
    · rw [if_neg (fun q => q n2)]
      have hlook := look_ok (sc := sc) h0 ha hp hP hs hA hpp n1 n2 hcur (u4 := u4) (u5 := u5) (u6 := u6) (u7 := u7) (u8 := u8) (f := A.w p)
      -- behind the question of rest
      have hz : ∀ r', (if P 0 4 ≠ 0 ∧ A.v 0 (A.w p) = 0 then ∃ S1, G sc MX6_remove 0 [some (.ref (a + 1)), some (.int (I p)), none, none, none, none] [] SH S (rV SH S1) ∧ r' = rI 4 SH (up S1 (a + 16) p (-1)) else G sc MX7_befall 108 [some (.ref a), some (.int (I p)), some (.int (I (A.w p))), some (.int (I (A.v 0 (A.w p)))), u4, u5, u6, u7, u8] [] SH S r') → (if I (P 0 4) = I 0 then G sc MX7_befall 108 [some (.ref a), some (.int (I p)), some (.int (I (A.w p))), some (.int (I (A.v 0 (A.w p)))), u4, u5, u6, u7, u8] [] SH S r' else if I (A.v 0 (A.w p)) = I 0 then ∃ S1, G sc MX6_remove 0 [some (.ref (a + 1)), some (.int (I p)), none, none, none, none] [] SH S (rV SH S1) ∧ r' = rI 4 SH (up S1 (a + 16) p (-1)) else G sc MX7_befall 108 [some (.ref a), some (.int (I p)), some (.int (I (A.w p))), some (.int (I (A.v 0 (A.w p)))), u4, u5, u6, u7, u8] [] SH S r') := by
        intro r' h
        simp (disch := omega) only [iL, iE, iQ]
        by_cases c1 : P 0 4 = 0
        · rw [if_pos c1]; rw [if_neg (fun q => q.1 c1)] at h; exact h
        · rw [if_neg c1]
          by_cases c2 : A.v 0 (A.w p) = 0
          · rw [if_pos c2]; rw [if_pos ⟨c1, c2⟩] at h; exact h
          · rw [if_neg c2]; rw [if_neg (fun q => c2 q.2)] at h; exact h
      by_cases n3 : P 0 5 ≠ 0 ∧ ¬ (I (A.v 5 p) ≤ I 0)
      · rw [if_pos n3]
        refine ⟨_, qX7_befall_0 h0 ?_, stateR_v5 hs p (A.v 5 p - 1), fun j hj => up_ne (by omega)⟩
        rw [e1, e6, n2, e5, er]
        simp (disch := omega) only [iL, iE, iQ, ipos, ineg, an, if_true, if_false]
        rw [if_neg n3.2]
        trivial
      · rw [if_neg n3]
        have hgo : ∀ r', (if P 0 4 ≠ 0 ∧ A.v 0 (A.w p) = 0 then ∃ S1, G sc MX6_remove 0 [some (.ref (a + 1)), some (.int (I p)), none, none, none, none] [] SH S (rV SH S1) ∧ r' = rI 4 SH (up S1 (a + 16) p (-1)) else G sc MX7_befall 108 [some (.ref a), some (.int (I p)), some (.int (I (A.w p))), some (.int (I (A.v 0 (A.w p)))), u4, u5, u6, u7, u8] [] SH S r') → G sc MX7_befall 0 [some (.ref a), some (.int (I p)), u2, u3, u4, u5, u6, u7, u8] [] SH S r' := by
          intro r' h
          have h := hz r' h
          refine qX7_befall_0 h0 ?_
          rw [e1, e6, n2, e5, er, e4, e13]
          simp (disch := omega) only [iL, iE, iQ, ipos, ineg, an, if_true, if_false] at h ⊢
          by_cases c1 : P 0 5 = 0
          · rw [if_pos c1]; exact h
          · rw [if_neg c1, if_pos (Decidable.byContradiction (fun q => n3 ⟨c1, q⟩))]; exact h
        by_cases n4 : P 0 4 ≠ 0 ∧ A.v 0 (A.w p) = 0
        · simp only [if_pos n4] at hgo ⊢
          obtain ⟨S1, g1, r1, f1⟩ := unlie_ok (sc := sc) h0 hs hA.1 (p := p) ⟨hpp.1, by omega⟩ n1
          exact ⟨_, hgo _ ⟨S1, g1, rfl⟩, stateR_v3 r1 p (-1), fun j hj => by rw [up_ne (by omega), f1 j hj]⟩
        · simp only [if_neg n4] at hgo ⊢
          obtain ⟨S1, g1, r1, f1⟩ := hlook
          exact ⟨S1, hgo _ g1, r1, f1⟩
    · rw [if_pos n2]
      refine ⟨S, qX7_befall_0 h0 ?_, hs, fun _ _ => rfl⟩
      rw [e1, e6]
      simp (disch := omega) only [iL, iE, iQ, ipos, ineg, an, if_true, if_false]
/-- behind what befell: age, rest, tally -/
theorem scan171 {S : mStore} {B : aS} (h0 : sState SH a) (hs : stateR S a B) {p w i : Int} (hi : 0 ≤ i ∧ i < 12) (h10 : i ≠ 10) : G sc MX7_scanNext 171 [some (.ref a), some (.int (I p)), some (.int (I w))] [.int (I i), .ref (a + 19)] SH S (rI 1 SH (up (up S (a + 19) i (B.v 6 i + 1)) (a + 19) 10 (B.v 6 10 + 1))) := by
  refine qX7_scanNext_171 h0 ?_
  have e1 : S (a + 19) i = B.v 6 i := hs.2.2.2.2.2.2.2.2.2.2 i hi.1 hi.2
  have e2 : S (a + 19) 10 = B.v 6 10 := hs.2.2.2.2.2.2.2.2.2.2 10 (by decide) (by decide)
  rw [e1, up_at, if_neg (by omega), e2]
  simp (disch := omega) only [an]
theorem scan128 {S : mStore} {A : aS} (h0 : sState SH a) {p w : Int} (hs : stateR S a (midA A p w)) (hw : 1 ≤ w ∧ w ≤ 9) : ∃ S', G sc MX7_scanNext 128 [some (.ref a), some (.int (I p)), some (.int (I w))] [] SH S (rI (scanT A p w).1 SH S') ∧ stateR S' a (scanT A p w).2 ∧ (∀ j, j < a ∨ a + 20 ≤ j → S' j = S j) := by
  have hv : ∀ i, (midA A p w).v 6 i = A.v 6 i := fun i => by
    unfold midA
    split
    · show up A.v 2 p w 6 i = A.v 6 i
      rw [up_ne (by decide)]
    · show up (up (up A.v 2 p w) 4 p (ageA A p w)) 5 p (restA (ageA A p w)) 6 i = A.v 6 i
      rw [up_ne (by decide), up_ne (by decide), up_ne (by decide)]
  unfold scanT
  by_cases c4 : w = 4
  · rw [if_pos c4]
    refine ⟨_, qX7_scanNext_128 h0 ?_, stateR_v6 (stateR_v6 hs 7 (A.v 6 7 + 1)) 10 (A.v 6 10 + 1), fun j hj => by rw [up_ne (by omega), up_ne (by omega)]⟩
    have q := scan171 (sc := sc) h0 hs (p := p) (w := w) (i := 7) (by decide) (by decide)
    rw [hv, hv] at q
    have q2 : G sc MX7_scanNext 146 [some (.ref a), some (.int (I p)), some (.int (I w))] [] SH S (rI 1 SH (up (up S (a + 19) 7 (A.v 6 7 + 1)) (a + 19) 10 (A.v 6 10 + 1))) := by
      refine qX7_scanNext_146 h0 ?_
      simp (disch := omega) only [iL, iE, iQ, ipos, ineg, an, if_true, if_false]
      exact q
    simp (disch := omega) only [iL, iE, iQ, ipos, ineg, an, if_true, if_false]
    exact q2
  · rw [if_neg c4]
    by_cases c5 : w = 5
    · rw [if_pos c5]
      refine ⟨_, qX7_scanNext_128 h0 ?_, stateR_v6 (stateR_v6 hs 5 (A.v 6 5 + 1)) 10 (A.v 6 10 + 1), fun j hj => by rw [up_ne (by omega), up_ne (by omega)]⟩
      have q := scan171 (sc := sc) h0 hs (p := p) (w := w) (i := 5) (by decide) (by decide)
      rw [hv, hv] at q
      have q2 : G sc MX7_scanNext 146 [some (.ref a), some (.int (I p)), some (.int (I w))] [] SH S (rI 1 SH (up (up S (a + 19) 5 (A.v 6 5 + 1)) (a + 19) 10 (A.v 6 10 + 1))) := by
        refine qX7_scanNext_146 h0 ?_
        simp (disch := omega) only [iL, iE, iQ, ipos, ineg, an, if_true, if_false]
        exact q
      simp (disch := omega) only [iL, iE, iQ, ipos, ineg, an, if_true, if_false]
      exact q2
    · rw [if_neg c5]
      by_cases c8 : w = 8
      · rw [if_pos c8]
        refine ⟨_, qX7_scanNext_128 h0 ?_, stateR_v6 (stateR_v6 hs 6 (A.v 6 6 + 1)) 10 (A.v 6 10 + 1), fun j hj => by rw [up_ne (by omega), up_ne (by omega)]⟩
        have q := scan171 (sc := sc) h0 hs (p := p) (w := w) (i := 6) (by decide) (by decide)
        rw [hv, hv] at q
        have q2 : G sc MX7_scanNext 146 [some (.ref a), some (.int (I p)), some (.int (I w))] [] SH S (rI 1 SH (up (up S (a + 19) 6 (A.v 6 6 + 1)) (a + 19) 10 (A.v 6 10 + 1))) := by
          refine qX7_scanNext_146 h0 ?_
          simp (disch := omega) only [iL, iE, iQ, ipos, ineg, an, if_true, if_false]
          exact q
        simp (disch := omega) only [iL, iE, iQ, ipos, ineg, an, if_true, if_false]
        exact q2
      · rw [if_neg c8]
        refine ⟨S, qX7_scanNext_128 h0 ?_, hs, fun _ _ => rfl⟩
        simp (disch := omega) only [iL, iE, iQ, ipos, ineg, an, if_true, if_false]
/-- what is left to do when it is known what befell -/
abbrev tailV (sc : Nat × (Nat → Int32)) (SH : List mCell) (a : Nat) (S : mStore) (p w : Int) (r : mR × mW) : Prop := (((0 : Int) ≤ p ∧ p < 48) ∧ (if I w = I 3 then G sc MX7_scanNext 128 [some (.ref a), some (.int (I p)), some (.int (I w))] [] SH (up S (a + 15) p w) r else (if I w = I 7 then (((0 : Int) ≤ p ∧ p < 48) ∧ G sc MX7_scanNext 112 [some (.ref a), some (.int (I p)), some (.int (I w))] [.int (I (((up S (a + 15) p w) (a + 17) p) + 1)), .int (I p), .ref (a + 17)] SH (up S (a + 15) p w) r) else (if I w = I 9 then (((0 : Int) ≤ p ∧ p < 48) ∧ G sc MX7_scanNext 112 [some (.ref a), some (.int (I p)), some (.int (I w))] [.int (I (((up S (a + 15) p w) (a + 17) p) + 1)), .int (I p), .ref (a + 17)] SH (up S (a + 15) p w) r) else G sc MX7_scanNext 112 [some (.ref a), some (.int (I p)), some (.int (I w))] [.int (I 0), .int (I p), .ref (a + 17)] SH (up S (a + 15) p w) r))))
theorem tail_ok {S : mStore} {A : aS} (h0 : sState SH a) (hs : stateR S a A) {p w : Int} (hp : 0 ≤ p ∧ p < 48) (hw : 1 ≤ w ∧ w ≤ 9) : ∃ S', tailV sc SH a S p w (rI (scanT A p w).1 SH S') ∧ stateR S' a (scanT A p w).2 ∧ (∀ j, j < a ∨ a + 20 ≤ j → S' j = S j) := by
  have s1 := stateR_v2 hs p w
  by_cases c3 : w = 3
  · have s2 : stateR (up S (a + 15) p w) a (midA A p w) := by unfold midA; rw [if_pos c3]; exact s1
    obtain ⟨S', g', r', f'⟩ := scan128 (sc := sc) h0 s2 hw
    refine ⟨S', ?_, r', fun j hj => by rw [f' j hj, up_ne (by omega)]⟩
    unfold tailV
    simp (disch := omega) only [iL, iE, iQ, ipos, ineg, an, if_true, if_false]
    exact g'
  · have s2 : stateR (up (up (up S (a + 15) p w) (a + 17) p (ageA A p w)) (a + 18) p (restA (ageA A p w))) a (midA A p w) := by
      unfold midA; rw [if_neg c3]; exact stateR_v5 (stateR_v4 s1 p (ageA A p w)) p (restA (ageA A p w))
    obtain ⟨S', g', r', f'⟩ := scan128 (sc := sc) h0 s2 hw
    refine ⟨S', ?_, r', fun j hj => by rw [f' j hj, up_ne (by omega), up_ne (by omega), up_ne (by omega)]⟩
    have h112 : G sc MX7_scanNext 112 [some (.ref a), some (.int (I p)), some (.int (I w))] [.int (I (ageA A p w)), .int (I p), .ref (a + 17)] SH (up S (a + 15) p w) (rI (scanT A p w).1 SH S') := by
      refine qX7_scanNext_112 h0 ?_
      rw [up_at, if_pos rfl]
      refine ⟨hp, hp, _, _, rest_ok, hp, g'⟩
    have e17 : up S (a + 15) p w (a + 17) p = A.v 4 p := by rw [up_ne (by omega)]; exact hs.2.2.2.2.2.2.2.2.1 p hp.1 hp.2
    unfold tailV
    rw [e17]
    simp (disch := omega) only [iL, iE, iQ, ipos, ineg, an, if_true, if_false]
    unfold ageA at h112
    by_cases c7 : w = 7
    · rw [if_pos c7]; rw [if_pos (.inl c7)] at h112; exact h112
    · rw [if_neg c7]
      by_cases c9 : w = 9
      · rw [if_pos c9]; rw [if_pos (.inr c9)] at h112; exact h112
      · rw [if_neg c9]; rw [if_neg (fun q => q.elim c7 c9)] at h112; exact h112
theorem scanP_ok {S : mStore} {A : aS} (h0 : sState SH a) (ha : 6 ≤ a) (hp : planR S 1 P) (hP : wfP P) (hs : stateR S a A) (hA : wfA P A) {p : Int} (hpp : A.v 6 9 ≤ p ∧ p < P 0 7) : ∃ S1 S', G sc MX7_befall 0 [some (.ref a), some (.int (I p)), none, none, none, none, none, none, none] [] SH (up (up (up S (a + 19) 9 (p + 1)) (a + 19) 4 (A.v 6 4 + 1)) (a + 19) 11 (A.v 6 11 + 1)) (rI (befA P (setupA A p) p).1 SH S1) ∧ tailV sc SH a S1 p (befA P (setupA A p) p).1 (rI (scanP P A p).1 SH S') ∧ stateR S' a (scanP P A p).2 ∧ (∀ j, j < a ∨ a + 20 ≤ j → S' j = S j) := by
  have hP7 := hP.2.2.2.2.2.1
  have h9 := hA.2.2.2.2.2.2.2.2.2.2.2.2.2
  have s1 := stateR_v6 (stateR_v6 (stateR_v6 hs 9 (p + 1)) 4 (A.v 6 4 + 1)) 11 (A.v 6 11 + 1)
  have hp1 : planR (up (up (up S (a + 19) 9 (p + 1)) (a + 19) 4 (A.v 6 4 + 1)) (a + 19) 11 (A.v 6 11 + 1)) 1 P := planR_far hp (fun j _ hj => by rw [up_ne (by omega), up_ne (by omega), up_ne (by omega)])
  obtain ⟨S1, g1, r1, f1⟩ := bef_ok (sc := sc) h0 ha hp1 hP s1 (wf_setup hP hA hpp) (p := p) ⟨by omega, hpp.2⟩ (cur_no hA hpp.1) (u2 := none) (u3 := none) (u4 := none) (u5 := none) (u6 := none) (u7 := none) (u8 := none)
  obtain ⟨S2, g2, r2, f2⟩ := tail_ok (sc := sc) h0 r1 (p := p) (w := (befA P (setupA A p) p).1) ⟨by omega, by omega⟩ (befA_rg P (setupA A p) p)
  exact ⟨S1, S2, g1, g2, r2, fun j hj => by rw [f2 j hj, f1 j hj, up_ne (by omega), up_ne (by omega), up_ne (by omega)]⟩
theorem scan_ok {S : mStore} {A : aS} (h0 : sState SH a) (ha : 6 ≤ a) (hp : planR S 1 P) (hP : wfP P) (hs : stateR S a A) (hA : wfA P A) {u1 u2 : Option Value} : ∃ S', G sc MX7_scanNext 0 [some (.ref a), u1, u2] [] SH S (rI (scanA P A).1 SH S') ∧ stateR S' a (scanA P A).2 ∧ (∀ j, j < a ∨ a + 20 ≤ j → S' j = S j) := by
  have hP7 := hP.2.2.2.2.2.1
  have h9 := hA.2.2.2.2.2.2.2.2.2.2.2.2.2
  have e9 : S (a + 19) 9 = A.v 6 9 := hs.2.2.2.2.2.2.2.2.2.2 9 (by decide) (by decide)
  have g1 := advF_ok (sc := sc) h0 hp hP hs hA (p := A.v 6 9) ⟨h9.1, h9.2⟩ (u := none)
  have hr1 := advF_rg (A := A) hP h9.1
  unfold scanA
  by_cases c1 : advF P A (A.v 6 9) = -1
  · rw [if_neg (fun q => q c1)]
    rw [c1] at g1
    have g2 := advF_ok (sc := sc) h0 hp hP hs hA (p := 0) ⟨by omega, by omega⟩ (u := none)
    have hr2 := advF_rg (A := A) hP (Int.le_refl 0)
    by_cases c2 : advF P A 0 = -1
    · rw [if_pos c2]
      rw [c2] at g2
      refine ⟨S, qX7_scanNext_0 h0 ?_, hs, fun _ _ => rfl⟩
      rw [e9]
      simp (disch := omega) only [an]
      refine ⟨_, _, g1, ?_⟩
      simp (disch := omega) only [iL, iE, iQ, ipos, ineg, an, if_true, if_false]
      refine ⟨_, _, g2, ?_⟩
      simp (disch := omega) only [iL, iE, iQ, ipos, ineg, an, if_true, if_false]
    · rw [if_neg c2]
      obtain ⟨S3, g3, r3, f3⟩ := end_ok (sc := sc) h0 ha hp hP hs hA (u := none)
      have hp3 : planR S3 1 P := planR_far hp (fun j _ hj => f3 j (by omega))
      obtain ⟨S4, S5, g4, g5, r5, f5⟩ := scanP_ok (sc := sc) h0 ha hp3 hP r3 (wf_end hP hA) (p := advF P A 0) ⟨by rw [endA9]; omega, by omega⟩
      refine ⟨S5, qX7_scanNext_0 h0 ?_, r5, fun j hj => by rw [f5 j hj, f3 j hj]⟩
      have e4 : S3 (a + 19) 4 = (endA P A).v 6 4 := r3.2.2.2.2.2.2.2.2.2.2 4 (by decide) (by decide)
      have e11 : S3 (a + 19) 11 = (endA P A).v 6 11 := r3.2.2.2.2.2.2.2.2.2.2 11 (by decide) (by decide)
      rw [e9]
      simp (disch := omega) only [an]
      refine ⟨_, _, g1, ?_⟩
      rw [if_pos rfl]
      refine ⟨_, _, g2, ?_⟩
      rw [if_neg (by rw [I_eq ⟨by omega, by omega⟩ ⟨by omega, by omega⟩]; exact c2)]
      refine ⟨_, g3, ?_⟩
      rw [up_at, if_neg (by decide), e4, up_at, if_neg (by decide), up_at, if_neg (by decide), e11]
      exact ⟨_, _, g4, g5⟩
  · rw [if_pos c1]
    obtain ⟨S4, S5, g4, g5, r5, f5⟩ := scanP_ok (sc := sc) h0 ha hp hP hs hA (p := advF P A (A.v 6 9)) ⟨by omega, by omega⟩
    refine ⟨S5, qX7_scanNext_0 h0 ?_, r5, f5⟩
    have e4 : S (a + 19) 4 = A.v 6 4 := hs.2.2.2.2.2.2.2.2.2.2 4 (by decide) (by decide)
    have e11 : S (a + 19) 11 = A.v 6 11 := hs.2.2.2.2.2.2.2.2.2.2 11 (by decide) (by decide)
    rw [e9]
    simp (disch := omega) only [an]
    refine ⟨_, _, g1, ?_⟩
    rw [if_neg (by rw [I_eq ⟨by omega, by omega⟩ ⟨by omega, by omega⟩]; exact c1)]
    rw [up_at, if_neg (by decide), e4, up_at, if_neg (by decide), up_at, if_neg (by decide), e11]
    exact ⟨_, _, g4, g5⟩
theorem scanN_lp (h0 : sState SH a) (ha : 6 ≤ a) (hP : wfP P) {m : Int} (hm : m < 1000) : ∀ (n : Nat) (l i : Int) {S : mStore} {A : aS}, planR S 1 P → stateR S a A → wfA P A → 0 ≤ i → i + n = m → ∃ S', G sc MX7_scanMany 4 [some (.ref a), some (.int (I m)), some (.int (I l)), some (.int (I i))] [] SH S (rI (l + (scanN P n A).1) SH S') ∧ stateR S' a (scanN P n A).2 ∧ (∀ j, j < a ∨ a + 20 ≤ j → S' j = S j)
  | 0, l, i, S, A, hp, hs, hA, hi, hn => by
    refine ⟨S, qX7_scanMany_4 h0 ?_, hs, fun _ _ => rfl⟩
    simp only [scanN, Int.add_zero]
    simp (disch := omega) only [iL, iE, iQ, ipos, ineg, an, if_true, if_false]
  | n + 1, l, i, S, A, hp, hs, hA, hi, hn => by
    obtain ⟨S1, g1, r1, f1⟩ := scan_ok (sc := sc) h0 ha hp hP hs hA (u1 := none) (u2 := none)
    have hp1 : planR S1 1 P := planR_far hp (fun j _ hj => f1 j (by omega))
    obtain ⟨S2, g2, r2, f2⟩ := scanN_lp h0 ha hP hm n (l + (scanA P A).1) (i + 1) hp1 r1 (wf_scanA hP hA) (by omega) (by omega)
    refine ⟨S2, qX7_scanMany_4 h0 ?_, r2, fun j hj => by rw [f2 j hj, f1 j hj]⟩
    simp (disch := omega) only [iL, iE, iQ, ipos, ineg, an, if_true, if_false]
    refine ⟨_, _, g1, ?_⟩
    unfold scanN
    rw [← Int.add_assoc]
    exact g2
theorem scanMany_ok {S : mStore} {A : aS} (h0 : sState SH a) (ha : 6 ≤ a) (hp : planR S 1 P) (hP : wfP P) (hs : stateR S a A) (hA : wfA P A) {n : Nat} (hn : n < 1000) {u1 u2 : Option Value} : ∃ S', G sc MX7_scanMany 0 [some (.ref a), some (.int (I n)), u1, u2] [] SH S (rI (scanN P n A).1 SH S') ∧ stateR S' a (scanN P n A).2 ∧ (∀ j, j < a ∨ a + 20 ≤ j → S' j = S j) := by
  obtain ⟨S2, g2, r2, f2⟩ := scanN_lp (sc := sc) h0 ha hP (m := n) (by omega) n 0 0 hp hs hA (by omega) (by omega)
  rw [Int.zero_add] at g2
  exact ⟨S2, qX7_scanMany_0 h0 g2, r2, f2⟩
theorem tock_lp (h0 : sState SH a) (ha : 6 ≤ a) (hP : wfP P) {m t x : Int} (hx : x ≤ 16) : ∀ (n : Nat) (l i : Int) {S : mStore} {A : aS}, planR S 1 P → stateR S a A → wfA P A → 0 ≤ i → i + n = x → ∃ S', (∀ r, G sc MX7_tick 4 [some (.ref a), some (.int (I m)), some (.int (I (l + (scanN P n A).1))), some (.int (I (t + 1))), some (.int (I x)), some (.int (I x))] [] SH (up S' (a + 19) 2 ((scanN P n A).2.v 6 2 + 1)) r → G sc MX7_tick 20 [some (.ref a), some (.int (I m)), some (.int (I l)), some (.int (I t)), some (.int (I x)), some (.int (I i))] [] SH S r) ∧ stateR S' a (scanN P n A).2 ∧ (∀ j, j < a ∨ a + 20 ≤ j → S' j = S j)
  | 0, l, i, S, A, hp, hs, hA, hi, hn => by
    have e : i = x := by omega
    subst e
    refine ⟨S, fun r h => qX7_tick_20 h0 ?_, hs, fun _ _ => rfl⟩
    simp only [scanN, Int.add_zero] at h
    have e2 : S (a + 19) 2 = A.v 6 2 := hs.2.2.2.2.2.2.2.2.2.2 2 (by decide) (by decide)
    rw [e2]
    simp (disch := omega) only [iL, iE, iQ, ipos, ineg, an, if_true, if_false]
    exact h
  | n + 1, l, i, S, A, hp, hs, hA, hi, hn => by
    obtain ⟨S1, g1, r1, f1⟩ := scan_ok (sc := sc) h0 ha hp hP hs hA (u1 := none) (u2 := none)
    have hp1 : planR S1 1 P := planR_far hp (fun j _ hj => f1 j (by omega))
    obtain ⟨S2, g2, r2, f2⟩ := tock_lp h0 ha hP (m := m) (t := t) hx n (l + (scanA P A).1) (i + 1) hp1 r1 (wf_scanA hP hA) (by omega) (by omega)
    refine ⟨S2, fun r h => qX7_tick_20 h0 ?_, r2, fun j hj => by rw [f2 j hj, f1 j hj]⟩
    simp (disch := omega) only [iL, iE, iQ, ipos, ineg, an, if_true, if_false]
    refine ⟨_, _, g1, g2 r ?_⟩
    unfold scanN at h
    rw [← Int.add_assoc] at h
    exact h
theorem tick_lp (h0 : sState SH a) (ha : 6 ≤ a) (hP : wfP P) {m : Int} (hm : m < 1000) : ∀ (n : Nat) (l t : Int) {S : mStore} {A : aS} {u4 u5 : Option Value}, planR S 1 P → stateR S a A → wfA P A → 0 ≤ t → t + n = m → ∃ S', G sc MX7_tick 4 [some (.ref a), some (.int (I m)), some (.int (I l)), some (.int (I t)), u4, u5] [] SH S (rI (l + (tickA P n A).1) SH S') ∧ stateR S' a (tickA P n A).2 ∧ (∀ j, j < a ∨ a + 20 ≤ j → S' j = S j)
  | 0, l, t, S, A, u4, u5, hp, hs, hA, hi, hn => by
    refine ⟨S, qX7_tick_4 h0 ?_, hs, fun _ _ => rfl⟩
    simp only [tickA, Int.add_zero]
    simp (disch := omega) only [iL, iE, iQ, ipos, ineg, an, if_true, if_false]
  | n + 1, l, t, S, A, u4, u5, hp, hs, hA, hi, hn => by
    have h6 := hA.2.2.2.2.2.2.2.2.2.2.2.2.1
    obtain ⟨S1, g1, r1, f1⟩ := tock_lp (sc := sc) h0 ha hP (m := m) (t := t) (x := A.v 6 0) h6.2 (A.v 6 0).toNat l 0 hp hs hA (by omega) (by omega)
    have hp1 : planR (up S1 (a + 19) 2 ((scanN P (A.v 6 0).toNat A).2.v 6 2 + 1)) 1 P := planR_far hp (fun j _ hj => by rw [up_ne (by omega), f1 j (by omega)])
    obtain ⟨S2, g2, r2, f2⟩ := tick_lp h0 ha hP hm n (l + (tockA P A).1) (t + 1) (u4 := some (.int (I (A.v 6 0)))) (u5 := some (.int (I (A.v 6 0)))) hp1 (stateR_v6 r1 2 _) (wf_tock hP hA) (by omega) (by omega)
    refine ⟨S2, qX7_tick_4 h0 ?_, r2, fun j hj => by rw [f2 j hj, up_ne (by omega), f1 j hj]⟩
    have e0 : S (a + 19) 0 = A.v 6 0 := hs.2.2.2.2.2.2.2.2.2.2 0 (by decide) (by decide)
    rw [e0]
    simp (disch := omega) only [iL, iE, iQ, ipos, ineg, an, if_true, if_false]
    refine g1 _ ?_
    unfold tickA
    rw [← Int.add_assoc]
    exact g2
theorem tick_ok {S : mStore} {A : aS} (h0 : sState SH a) (ha : 6 ≤ a) (hp : planR S 1 P) (hP : wfP P) (hs : stateR S a A) (hA : wfA P A) {n : Nat} (hn : n < 1000) {u1 u2 u3 u4 : Option Value} : ∃ S', G sc MX7_tick 0 [some (.ref a), some (.int (I n)), u1, u2, u3, u4] [] SH S (rI (tickA P n A).1 SH S') ∧ stateR S' a (tickA P n A).2 ∧ (∀ j, j < a ∨ a + 20 ≤ j → S' j = S j) := by
  obtain ⟨S2, g2, r2, f2⟩ := tick_lp (sc := sc) h0 ha hP (m := n) (by omega) n 0 0 (u4 := u3) (u5 := u4) hp hs hA (by omega) (by omega)
  rw [Int.zero_add] at g2
  exact ⟨S2, qX7_tick_0 h0 g2, r2, f2⟩
end
