/-! ===== a book becomes another one ===== -/
section
variable {sc : Nat × (Nat → Int32)} {e c s q c' s' q' : Nat} {P : aP}
theorem actsB_lp (hc : actC c s q) (hc' : actC c' s' q') (hne : c ≠ c') {H : List aS} (hl : H.length ≤ 40) (hA : ∀ A, A ∈ H → wfA P A) : ∀ (n k : Nat) {SH : List mCell} {F : Nat → Nat → Option Nat} {S : mStore}, k + n = H.length → shR SH F e → S q 2 = 0 → S q 3 = H.length → (0 ≤ S q' 2 ∧ S q' 2 < 41) → histR S F c 0 (H.take k) → histR S F c' (S q' 2) H → ∃ SH' F' S', G sc MX0_become 15 [some (.ref q), some (.ref q'), some (.int (I k))] [] SH S (rV SH' S') ∧ shR SH' F' e ∧ histR S' F' c 0 H ∧ histR S' F' c' (S q' 2) H ∧ (∀ d j y, F d j = some y → F' d j = some y) ∧ (∀ j, j < 111 → S' j = S j) ∧ SH.length ≤ SH'.length
  | 0, k, SH, F, S, hk, h, h2, h3, ho, hh, hH => by
    obtain ⟨ha, _⟩ := shR_act h hc
    refine ⟨SH, F, S, ?_, h, by rw [List.take_of_length_le (by omega)] at hh; exact hh, hH, fun _ _ _ h => h, fun _ _ => rfl, Nat.le_refl _⟩
    refine tt_ld (P := True) (M := MX0_become) (pc := 15) dX0_become_15 rfl rfl rfl rfl rfl (fun _ => ?_) trivial
    refine tt_ld (P := True) (M := MX0_become) (pc := 16) dX0_become_16 rfl rfl rfl rfl rfl (fun _ => ?_) trivial
    refine tt_getI (P := True) (M := MX0_become) (pc := 17) dX0_become_17 rfl ha rfl (fun _ => ?_) trivial
    refine tt_ic_ge (P1 := True) (P2 := False) (M := MX0_become) (pc := 20) 42 dX0_become_20 rfl (fun _ => ?_) (fun h => h.elim) (by rw [show S q ((3 : Nat) : Int) = S q 3 from rfl, h3, if_pos ((I_le ⟨by omega, by omega⟩ ⟨by omega, by omega⟩).mpr (by omega))]; trivial)
    exact tt_ret (M := MX0_become) (pc := 42) dX0_become_42 rfl rfl
  | n + 1, k, SH, F, S, hk, h, h2, h3, ho, hh, hH => by
    obtain ⟨ha, _⟩ := shR_act h hc
    have hlen := h.2.2.2.2.1
    have hc2 : c < 2 := by omega
    have hc2' : c' < 2 := by omega
    have hq : q < 111 ∧ q' < 111 ∧ q ≠ q' := by omega
    obtain ⟨A, hkA⟩ : ∃ A, H[k]? = some A := ⟨_, List.getElem?_eq_getElem (by omega)⟩
    have hAA : A ∈ H := List.mem_of_getElem? hkA
    obtain ⟨x, SH1, F1, S1, g1, h1, hx, hF1, f1, hl1⟩ := stateAt_ok (sc := sc) (S := S) (u := none) (i := (k : Int)) h hc (by omega) (by omega)
    rw [h2] at hx
    obtain ⟨y, SH2, F2, S2, g2, h2', hy, hF2, f2, hl2⟩ := stateAt_ok (sc := sc) (u := none) (S := S1) (i := (k : Int)) h1 hc' (by rw [f1 q' (by omega)]; exact ho) (by omega)
    rw [f1 q' (by omega)] at hy
    obtain ⟨y', hy', hyr⟩ := hH k A hkA
    rw [hF2 _ _ _ (hF1 _ _ _ hy')] at hy
    cases hy
    have hxs := h2'.2.2.1 c _ x hc2 (by omega) (hF2 _ _ _ hx)
    have hys := h2'.2.2.1 c' _ y hc2' (by omega) (hF2 _ _ _ (hF1 _ _ _ hy'))
    have hy0 := h.2.2.1 c' _ y hc2' (by omega) hy'
    have hdj := h2'.2.2.2.1 c _ c' _ x y hc2 (by omega) hc2' (by omega) (hF2 _ _ _ hx) (hF2 _ _ _ (hF1 _ _ _ hy'))
    obtain ⟨S3, g3, r3, f3⟩ := bec_ok (sc := sc) (S := S2) (a := x) (a1 := y) hxs.1 hys.1 (by omega) (stateR_far hyr (fun j _ _ => by rw [f2 j (by omega), f1 j (by omega)])) (hA A hAA)
    have fr : ∀ j, j < SH.length → j < x ∨ x + 20 ≤ j → S3 j = S j := fun j hj hjx => by rw [f3 j hjx, f2 j (by omega), f1 j hj]
    have e3 : ∀ j, j < 111 → S3 j = S j := fun j hj => fr j (by omega) (by omega)
    have hFF : ∀ d j y, F d j = some y → F2 d j = some y := fun d j y hy => hF2 _ _ _ (hF1 _ _ _ hy)
    have hh3 : histR S3 F2 c 0 (H.take (k + 1)) := by
      intro i B hB
      by_cases hi : i = k
      · subst hi
        rw [List.getElem?_take_of_lt (by omega), hkA] at hB
        cases hB
        exact ⟨x, hF2 _ _ _ hx, r3⟩
      · have hik : i < k := by
          rcases Nat.lt_or_ge i (k + 1) with q | q
          · omega
          · rw [List.getElem?_eq_none (by rw [List.length_take]; omega)] at hB; cases hB
        refine hist_far h h2' hFF (hF2 _ _ _ hx) hc2 (by omega) fr hc2 (L := H.take k) ?_ hh i B (by rw [List.getElem?_take_of_lt (by omega)] at hB ⊢; exact hB)
        intro j hj
        rw [List.length_take] at hj
        omega
    have hH3 : histR S3 F2 c' (S3 q' 2) H := by
      rw [e3 q' hq.2.1]
      exact hist_far h h2' hFF (hF2 _ _ _ hx) hc2 (by omega) fr hc2' (fun j _ => by omega) hH
    obtain ⟨SH4, F4, S4, g4, h4, r4, r4', hF4, f4, hl4⟩ := actsB_lp hc hc' hne hl hA n (k + 1) (by omega) h2' (by rw [e3 q hq.1]; exact h2) (by rw [e3 q hq.1]; exact h3) (by rw [e3 q' hq.2.1]; exact ho) hh3 hH3
    rw [e3 q' hq.2.1] at r4'
    refine ⟨SH4, F4, S4, ?_, h4, r4, r4', fun d j y hy => hF4 _ _ _ (hFF _ _ _ hy), fun j hj => by rw [f4 j hj, e3 j hj], by omega⟩
    obtain ⟨ha1, _⟩ := shR_act h1 hc'
    refine tt_ld (P := True) (M := MX0_become) (pc := 15) dX0_become_15 rfl rfl rfl rfl rfl (fun _ => ?_) trivial
    refine tt_ld (P := True) (M := MX0_become) (pc := 16) dX0_become_16 rfl rfl rfl rfl rfl (fun _ => ?_) trivial
    refine tt_getI (P := True) (M := MX0_become) (pc := 17) dX0_become_17 rfl ha rfl (fun _ => ?_) trivial
    refine tt_ic_ge (P1 := False) (P2 := True) (M := MX0_become) (pc := 20) 42 dX0_become_20 rfl (fun h => h.elim) (fun _ => ?_) (by rw [show S q ((3 : Nat) : Int) = S q 3 from rfl, h3, if_neg (fun hh => absurd ((I_le ⟨by omega, by omega⟩ ⟨by omega, by omega⟩).mp hh) (by omega))]; trivial)
    refine tt_ld (P := True) (M := MX0_become) (pc := 23) dX0_become_23 rfl rfl rfl rfl rfl (fun _ => ?_) trivial
    refine tt_ld (P := True) (M := MX0_become) (pc := 24) dX0_become_24 rfl rfl rfl rfl rfl (fun _ => ?_) trivial
    refine tt_vcR1 (M := MX0_become) (pc := 25) dX0_become_25 rfl rfl [] rfl rfl ⟨rfl, by decide, Nat.le_of_ble_eq_true rfl⟩ ha g1 ?_
    refine tt_ld (P := True) (M := MX0_become) (pc := 28) dX0_become_28 rfl rfl rfl rfl rfl (fun _ => ?_) trivial
    refine tt_ld (P := True) (M := MX0_become) (pc := 29) dX0_become_29 rfl rfl rfl rfl rfl (fun _ => ?_) trivial
    refine tt_vcR1 (M := MX0_become) (pc := 30) dX0_become_30 rfl rfl [.ref x] rfl rfl ⟨rfl, by decide, Nat.le_of_ble_eq_true rfl⟩ ha1 g2 ?_
    refine tt_vcV1 (M := MX0_become) (pc := 33) dX0_become_33 rfl rfl [] rfl rfl ⟨rfl, by decide, Nat.le_of_ble_eq_true rfl⟩ hxs.1.1 g3 ?_
    refine tt_iinc (P := True) (M := MX0_become) (pc := 36) [some (.ref q), some (.ref q'), some (.int (I ((k : Int) + 1)))] dX0_become_36 rfl rfl (fun _ => ?_) trivial
    exact tt_goto (P := True) (M := MX0_become) (pc := 39) 15 dX0_become_39 rfl (fun _ => g4) trivial
theorem actsB_ok {SH : List mCell} {F : Nat → Nat → Option Nat} {S : mStore} (h : shR SH F e) (hc : actC c s q) (hc' : actC c' s' q') (hne : c ≠ c') {H : List aS} (hl : H.length ≤ 40) (hA : ∀ A, A ∈ H → wfA P A) (ho : 0 ≤ S q' 2 ∧ S q' 2 < 41) (hm : S q' 3 = H.length) (hH : histR S F c' (S q' 2) H) {u : Option Value} : ∃ SH' F' S', G sc MX0_become 0 [some (.ref q), some (.ref q'), u] [] SH S (rV SH' S') ∧ shR SH' F' e ∧ histR S' F' c 0 H ∧ histR S' F' c' (S q' 2) H ∧ (∀ d j y, F d j = some y → F' d j = some y) ∧ (∀ j, j < 111 → S' j = up (up S q 2 0) q 3 H.length j) ∧ SH.length ≤ SH'.length := by
  have hq : q < 111 ∧ q' < 111 ∧ q ≠ q' := by omega
  obtain ⟨ha, _⟩ := shR_act h hc
  obtain ⟨ha', _⟩ := shR_act h hc'
  have eq' : up (up S q 2 0) q 3 H.length q' = S q' := by rw [up_ne (by omega), up_ne (by omega)]
  have hl' := h.2.2.2.2.1
  obtain ⟨SH1, F1, S1, g1, h1, r1, r1', hF, f1, hl1⟩ := actsB_lp (sc := sc) (S := up (up S q 2 0) q 3 H.length) hc hc' hne hl hA H.length 0 (by omega) h (by rw [up_at, if_neg (by decide), up_eq]) (up_eq _ _ _ _) (by rw [eq']; exact ho) (fun i B hB => by rw [List.take_zero] at hB; cases hB) (by
    rw [eq']
    exact hist_same hH (fun _ _ _ h => h) h (by omega) (fun j hj _ => by rw [up_ne (by omega), up_ne (by omega)]))
  rw [eq'] at r1'
  refine ⟨SH1, F1, S1, ?_, h1, r1, r1', hF, f1, hl1⟩
  refine tt_ld (P := True) (M := MX0_become) (pc := 0) dX0_become_0 rfl rfl rfl rfl rfl (fun _ => ?_) trivial
  refine tt_iconst (P := True) (M := MX0_become) (pc := 1) dX0_become_1 (fun _ => ?_) trivial
  refine tt_putI (P := True) (M := MX0_become) (pc := 2) dX0_become_2 rfl rfl (.inl rfl) ha rfl (fun _ => ?_) trivial
  refine tt_ld (P := True) (M := MX0_become) (pc := 5) dX0_become_5 rfl rfl rfl rfl rfl (fun _ => ?_) trivial
  refine tt_ld (P := True) (M := MX0_become) (pc := 6) dX0_become_6 rfl rfl rfl rfl rfl (fun _ => ?_) trivial
  refine tt_getI (P := True) (M := MX0_become) (pc := 7) dX0_become_7 rfl ha' rfl (fun _ => ?_) trivial
  refine tt_putI (P := True) (M := MX0_become) (pc := 10) dX0_become_10 rfl rfl (.inl rfl) ha rfl (fun _ => ?_) trivial
  have e3 : up S q ((2 : Nat) : Int) 0 q' ((3 : Nat) : Int) = H.length := by rw [up_ne (by omega)]; exact hm
  rw [e3]
  refine tt_iconst (P := True) (M := MX0_become) (pc := 13) dX0_become_13 (fun _ => ?_) trivial
  refine tt_st (P := True) (M := MX0_become) (pc := 14) [some (.ref q), some (.ref q'), some (.int (I 0))] dX0_become_14 rfl rfl rfl rfl rfl rfl (fun _ => ?_) trivial
  exact g1
end
/-- a book: the state, what is kept, what is noted, what is counted -/
abbrev aB : Type := aS × List aS × Int × mStore
def bkR (S : mStore) (F : Nat → Nat → Option Nat) (o c : Nat) (B : aB) : Prop := stateR S (o + 4) B.1 ∧ (0 ≤ S (o + 24) 2 ∧ S (o + 24) 2 < 41) ∧ S (o + 24) 3 = B.2.1.length ∧ histR S F c (S (o + 24) 2) B.2.1 ∧ S o 5 = B.2.2.1 ∧ (∀ i, 0 ≤ i → i < B.2.2.1 → S (o + 1) i = B.2.2.2 0 i ∧ S (o + 2) i = B.2.2.2 1 i) ∧ (∀ i, 0 ≤ i → i < 3 → S (o + 3) i = B.2.2.2 2 i)
def wfB (P : aP) (B : aB) : Prop := wfA P B.1 ∧ (∀ A, A ∈ B.2.1 → wfA P A) ∧ B.2.1.length ≤ 40 ∧ (0 ≤ B.2.2.1 ∧ B.2.2.1 ≤ 8) ∧ (∀ i, 0 ≤ i → i < B.2.2.1 → (0 ≤ B.2.2.2 0 i ∧ B.2.2.2 0 i ≤ 20) ∧ (0 ≤ B.2.2.2 1 i ∧ B.2.2.2 1 i ≤ 48))
section
variable {sc : Nat × (Nat → Int32)} {SH SH' : List mCell} {F F' : Nat → Nat → Option Nat} {S S' : mStore} {e e' : Nat} {P : aP} {B : aB}
theorem bkR_far {o c : Nat} (h : shR SH F e) (hc : c < 2) (hB : bkR S F o c B) (ho : o + 25 ≤ 111) (hF : ∀ d j y, F d j = some y → F' d j = some y) (h1 : ∀ j, o ≤ j → j < o + 25 → S' j = S j) (h2 : histR S' F' c (S (o + 24) 2) B.2.1) : bkR S' F' o c B := by
  obtain ⟨r1, r2, r3, r4, r5, r6, r7⟩ := hB
  have e24 := h1 (o + 24) (by omega) (by omega)
  refine ⟨stateR_far r1 (fun j _ _ => h1 j (by omega) (by omega)), by rw [e24]; exact r2, by rw [e24]; exact r3, by rw [e24]; exact h2, by rw [h1 o (by omega) (by omega)]; exact r5, ?_, ?_⟩
  · rw [h1 (o + 1) (by omega) (by omega), h1 (o + 2) (by omega) (by omega)]; exact r6
  · rw [h1 (o + 3) (by omega) (by omega)]; exact r7
theorem cpy_to {S : mStore} {a b : Nat} {n i : Int} (h : 0 ≤ i ∧ i < n) : cpy S a b n b i = S a i := if_pos ⟨rfl, h.1, h.2⟩
theorem bookB_ok {o c o' c' : Nat} (h : shR SH F e) (hc : (o = 13 ∧ c = 0 ∧ o' = 39 ∧ c' = 1) ∨ (o = 39 ∧ c = 1 ∧ o' = 13 ∧ c' = 0)) (hB : bkR S F o' c' B) (hW : wfB P B) : ∃ SH' F' S', G sc MX1_become 0 [some (.ref o), some (.ref o')] [] SH S (rV SH' S') ∧ shR SH' F' e ∧ bkR S' F' o c B ∧ bkR S' F' o' c' B ∧ (∀ j, j < 111 → j < o ∨ o + 25 ≤ j → S' j = S j) := by
  obtain ⟨r1, r2, r3, r4, r5, r6, r7⟩ := hB
  have hl := h.2.2.2.2.1
  have hact : actC c (o + 25) (o + 24) := by
    rcases hc with ⟨rfl, rfl, rfl, rfl⟩ | ⟨rfl, rfl, rfl, rfl⟩
    · exact .inl ⟨rfl, rfl, rfl⟩
    · exact .inr ⟨rfl, rfl, rfl⟩
  have hact' : actC c' (o' + 25) (o' + 24) := by
    rcases hc with ⟨rfl, rfl, rfl, rfl⟩ | ⟨rfl, rfl, rfl, rfl⟩
    · exact .inr ⟨rfl, rfl, rfl⟩
    · exact .inl ⟨rfl, rfl, rfl⟩
  have book : ∀ {SH : List mCell} {F : Nat → Nat → Option Nat}, shR SH F e → sBook SH o (o + 1) (o + 2) (o + 3) (o + 4) (o + 24) (o + 25) ∧ sBook SH o' (o' + 1) (o' + 2) (o' + 3) (o' + 4) (o' + 24) (o' + 25) := by
    intro SH F h
    rcases hc with ⟨rfl, rfl, rfl, rfl⟩ | ⟨rfl, rfl, rfl, rfl⟩
    · exact ⟨h.1.1.2.2.2.1, h.1.1.2.2.2.2.1⟩
    · exact ⟨h.1.1.2.2.2.2.1, h.1.1.2.2.2.1⟩
  obtain ⟨b0, b0'⟩ := book h
  have ho : o + 25 ≤ o' ∨ o' + 25 ≤ o := by omega
  have ho2 : o + 26 ≤ 111 ∧ o' + 26 ≤ 111 ∧ 6 ≤ o ∧ 6 ≤ o' := by omega
  have hcc : c < 2 ∧ c' < 2 ∧ c ≠ c' := by omega
  obtain ⟨S1, g1, s1, f1⟩ := bec_ok (sc := sc) (S := S) (a := o + 4) (a1 := o' + 4) b0.2.2.2.2.1 b0'.2.2.2.2.1 (by omega) r1 hW.1
  have f1' : ∀ j, j < o + 4 ∨ o + 24 ≤ j → S1 j = S j := fun j hj => f1 j (by omega)
  obtain ⟨SH2, F2, S2, g2, h2, t1, t2, hF, f2, hl2⟩ := actsB_ok (sc := sc) (u := none) (S := S1) h hact hact' hcc.2.2 hW.2.2.1 hW.2.1 (by rw [f1' _ (by omega)]; exact r2) (by rw [f1' _ (by omega)]; exact r3) (by
    rw [f1' _ (by omega)]
    exact hist_same r4 (fun _ _ _ h => h) h hcc.2.1 (fun j hj _ => f1' j (by omega)))
  rw [f1' _ (by omega)] at t2
  obtain ⟨b2, b2'⟩ := book h2
  have f2' : ∀ j, j < 111 → j ≠ o + 24 → S2 j = S1 j := fun j hj hj2 => by rw [f2 j hj, up_ne hj2, up_ne hj2]
  have e24 : S2 (o + 24) 2 = 0 ∧ S2 (o + 24) 3 = B.2.1.length := by
    rw [f2 _ (by omega)]
    exact ⟨by rw [up_at, if_neg (by decide), up_eq], up_eq _ _ _ _⟩
  have hfar : ∀ (S0 : mStore) (i x : Int), ∀ j, j ≠ o → j ≠ o + 1 → j ≠ o + 2 → j ≠ o + 3 → up (cpy (cpy (cpy S0 (o' + 1) (o + 1) 8) (o' + 2) (o + 2) 8) (o' + 3) (o + 3) 3) o i x j = S0 j := fun S0 i x j q0 q1 q2 q3 => by
    rw [up_ne q0, cpy_ne q3, cpy_ne q2, cpy_ne q1]
  refine ⟨SH2, F2, up (cpy (cpy (cpy S2 (o' + 1) (o + 1) 8) (o' + 2) (o + 2) 8) (o' + 3) (o + 3) 3) o 5 (S o' 5), ?_, h2, ?_, ?_, fun j hj hjo => ?_⟩
  · refine tt_ld (P := True) (M := MX1_become) (pc := 0) dX1_become_0 rfl rfl rfl rfl rfl (fun _ => ?_) trivial
    refine tt_getR (P := True) (M := MX1_become) (pc := 1) dX1_become_1 rfl b0.1 rfl (fun _ => ?_) trivial
    refine tt_ld (P := True) (M := MX1_become) (pc := 4) dX1_become_4 rfl rfl rfl rfl rfl (fun _ => ?_) trivial
    refine tt_getR (P := True) (M := MX1_become) (pc := 5) dX1_become_5 rfl b0'.1 rfl (fun _ => ?_) trivial
    refine tt_vcV1 (M := MX1_become) (pc := 8) dX1_become_8 rfl rfl [] rfl rfl ⟨rfl, by decide, Nat.le_of_ble_eq_true rfl⟩ b0.2.2.2.2.1.1 g1 ?_
    refine tt_ld (P := True) (M := MX1_become) (pc := 11) dX1_become_11 rfl rfl rfl rfl rfl (fun _ => ?_) trivial
    refine tt_getR (P := True) (M := MX1_become) (pc := 12) dX1_become_12 rfl b0.1 rfl (fun _ => ?_) trivial
    refine tt_ld (P := True) (M := MX1_become) (pc := 15) dX1_become_15 rfl rfl rfl rfl rfl (fun _ => ?_) trivial
    refine tt_getR (P := True) (M := MX1_become) (pc := 16) dX1_become_16 rfl b0'.1 rfl (fun _ => ?_) trivial
    refine tt_vcV1 (M := MX1_become) (pc := 19) dX1_become_19 rfl rfl [] rfl rfl ⟨rfl, by decide, Nat.le_of_ble_eq_true rfl⟩ b0.2.2.2.2.2 g2 ?_
    refine tt_ld (P := True) (M := MX1_become) (pc := 22) dX1_become_22 rfl rfl rfl rfl rfl (fun _ => ?_) trivial
    refine tt_getR (P := True) (M := MX1_become) (pc := 23) dX1_become_23 rfl b2'.1 rfl (fun _ => ?_) trivial
    refine tt_iconst (P := True) (M := MX1_become) (pc := 26) dX1_become_26 (fun _ => ?_) trivial
    refine tt_ld (P := True) (M := MX1_become) (pc := 27) dX1_become_27 rfl rfl rfl rfl rfl (fun _ => ?_) trivial
    refine tt_getR (P := True) (M := MX1_become) (pc := 28) dX1_become_28 rfl b2.1 rfl (fun _ => ?_) trivial
    refine tt_iconst (P := True) (M := MX1_become) (pc := 31) dX1_become_31 (fun _ => ?_) trivial
    refine tt_bipush (P := True) (M := MX1_become) (pc := 32) dX1_become_32 (by decide) (fun _ => ?_) trivial
    refine tt_copy (P := True) (M := MX1_become) (pc := 34) (z := 8) dX1_become_34 rfl [] rfl ⟨rfl, by decide, Nat.le_of_ble_eq_true rfl⟩ b2'.2.1 b2.2.1 ⟨by decide, by decide, by decide⟩ (fun _ => ?_) trivial
    refine tt_ld (P := True) (M := MX1_become) (pc := 37) dX1_become_37 rfl rfl rfl rfl rfl (fun _ => ?_) trivial
    refine tt_getR (P := True) (M := MX1_become) (pc := 38) dX1_become_38 rfl b2'.1 rfl (fun _ => ?_) trivial
    refine tt_iconst (P := True) (M := MX1_become) (pc := 41) dX1_become_41 (fun _ => ?_) trivial
    refine tt_ld (P := True) (M := MX1_become) (pc := 42) dX1_become_42 rfl rfl rfl rfl rfl (fun _ => ?_) trivial
    refine tt_getR (P := True) (M := MX1_become) (pc := 43) dX1_become_43 rfl b2.1 rfl (fun _ => ?_) trivial
    refine tt_iconst (P := True) (M := MX1_become) (pc := 46) dX1_become_46 (fun _ => ?_) trivial
    refine tt_bipush (P := True) (M := MX1_become) (pc := 47) dX1_become_47 (by decide) (fun _ => ?_) trivial
    refine tt_copy (P := True) (M := MX1_become) (pc := 49) (z := 8) dX1_become_49 rfl [] rfl ⟨rfl, by decide, Nat.le_of_ble_eq_true rfl⟩ b2'.2.2.1 b2.2.2.1 ⟨by decide, by decide, by decide⟩ (fun _ => ?_) trivial
    refine tt_ld (P := True) (M := MX1_become) (pc := 52) dX1_become_52 rfl rfl rfl rfl rfl (fun _ => ?_) trivial
    refine tt_getR (P := True) (M := MX1_become) (pc := 53) dX1_become_53 rfl b2'.1 rfl (fun _ => ?_) trivial
    refine tt_iconst (P := True) (M := MX1_become) (pc := 56) dX1_become_56 (fun _ => ?_) trivial
    refine tt_ld (P := True) (M := MX1_become) (pc := 57) dX1_become_57 rfl rfl rfl rfl rfl (fun _ => ?_) trivial
    refine tt_getR (P := True) (M := MX1_become) (pc := 58) dX1_become_58 rfl b2.1 rfl (fun _ => ?_) trivial
    refine tt_iconst (P := True) (M := MX1_become) (pc := 61) dX1_become_61 (fun _ => ?_) trivial
    refine tt_iconst (P := True) (M := MX1_become) (pc := 62) dX1_become_62 (fun _ => ?_) trivial
    refine tt_copy (P := True) (M := MX1_become) (pc := 63) (z := 3) dX1_become_63 rfl [] rfl ⟨rfl, by decide, Nat.le_of_ble_eq_true rfl⟩ b2'.2.2.2.1 b2.2.2.2.1 ⟨by decide, by decide, by decide⟩ (fun _ => ?_) trivial
    refine tt_ld (P := True) (M := MX1_become) (pc := 66) dX1_become_66 rfl rfl rfl rfl rfl (fun _ => ?_) trivial
    refine tt_ld (P := True) (M := MX1_become) (pc := 67) dX1_become_67 rfl rfl rfl rfl rfl (fun _ => ?_) trivial
    refine tt_getI (P := True) (M := MX1_become) (pc := 68) dX1_become_68 rfl b2'.1 rfl (fun _ => ?_) trivial
    refine tt_putI (P := True) (M := MX1_become) (pc := 71) dX1_become_71 rfl rfl (.inl rfl) b2.1 rfl (fun _ => ?_) trivial
    have e5 : cpy (cpy (cpy S2 (o' + 1) (o + 1) 8) (o' + 2) (o + 2) 8) (o' + 3) (o + 3) 3 o' ((5 : Nat) : Int) = S o' 5 := by
      rw [cpy_ne (by omega), cpy_ne (by omega), cpy_ne (by omega), f2' _ (by omega) (by omega), f1' _ (by omega)]; rfl
    rw [e5]
    exact tt_ret (M := MX1_become) (pc := 74) dX1_become_74 rfl rfl
  · refine ⟨stateR_far s1 (fun j h1 h2 => by rw [hfar _ _ _ j (by omega) (by omega) (by omega) (by omega), f2' _ (by omega) (by omega)]), ?_, ?_, ?_, ?_, ?_, ?_⟩
    · rw [hfar _ _ _ _ (by omega) (by omega) (by omega) (by omega), e24.1]; omega
    · rw [hfar _ _ _ _ (by omega) (by omega) (by omega) (by omega), e24.2]
    · rw [hfar _ _ _ _ (by omega) (by omega) (by omega) (by omega), e24.1]
      exact hist_same t1 (fun _ _ _ h => h) h2 hcc.1 (fun j hj _ => hfar _ _ _ j (by omega) (by omega) (by omega) (by omega))
    · rw [up_eq]; exact r5
    · intro i hi1 hi2
      have h8 := hW.2.2.2.1
      rw [up_ne (by omega), up_ne (by omega), cpy_ne (by omega), cpy_ne (by omega), cpy_to ⟨hi1, by omega⟩, cpy_ne (by omega), cpy_to ⟨hi1, by omega⟩, cpy_ne (by omega), f2' _ (by omega) (by omega), f1' _ (by omega), f2' _ (by omega) (by omega), f1' _ (by omega)]
      exact r6 i hi1 hi2
    · intro i hi1 hi2
      rw [up_ne (by omega), cpy_to ⟨hi1, hi2⟩, cpy_ne (by omega), cpy_ne (by omega), f2' _ (by omega) (by omega), f1' _ (by omega)]
      exact r7 i hi1 hi2
  · refine bkR_far h hcc.2.1 ⟨r1, r2, r3, r4, r5, r6, r7⟩ (by omega) hF (fun j h1 h2 => by rw [hfar _ _ _ j (by omega) (by omega) (by omega) (by omega), f2' _ (by omega) (by omega), f1' _ (by omega)]) ?_
    exact hist_same t2 (fun _ _ _ h => h) h2 hcc.2.1 (fun j hj _ => hfar _ _ _ j (by omega) (by omega) (by omega) (by omega))
  · rw [hfar _ _ _ j (by omega) (by omega) (by omega) (by omega), f2' _ (by omega) (by omega), f1' _ (by omega)]
end
