/-! ===== the reference: what befalls a page; a page is scanned ===== -/
def befX (P : aP) (A : aS) (p : Int) : aS := if (befA P A p).1 ≤ 4 then A else (befA P A p).2
def yldA (how : Int) : Int := if how = 4 ∨ how = 5 ∨ how = 8 then 1 else 0
def tailR (B : aS) (p how : Int) : aS :=
  let B1 := B.sv 6 7 (B.v 6 7 + (if how = 4 then 1 else 0))
  let B2 := B1.sv 6 5 (B1.v 6 5 + (if how = 5 then 1 else 0))
  let B3 := B2.sv 6 6 (B2.v 6 6 + (if how = 8 then 1 else 0))
  let B4 := if how = 3 then B3.sv 5 p (B3.v 5 p - 1) else (B3.sv 4 p (ageA B3 p how)).sv 5 p (restA (ageA B3 p how))
  B4.sv 6 10 (B4.v 6 10 + yldA how)
section
variable {sc : Nat × (Nat → Int32)} {SH : List mCell} {b N : Int} {P : aP}
theorem rbef_ok {S : mStore} {A : aS} (h0 : sMod SH) (hb : 0 ≤ b ∧ b ≤ 135000) (hN : N < 2147483648) (hm : modP S P) (hP : wfP P) (hr : refR S b A N) (hA : wfA P A) {p : Int} (hpp : 0 ≤ p ∧ p < P 0 7) (hcur : ∀ ρ, 0 ≤ ρ → ρ < 3 → p ∉ lb (A.tw ρ)) : ∃ S', G sc MX11_befalls 0 [some (.ref 90), some (.int (I b)), some (.int (I p))] [] SH S (rI (befA P A p).1 SH S') ∧ refR S' b (befX P A p) (N + 1) ∧ modF S S' b := by
  have hP7 := hP.2.2.2.2.2.1
  have hP4 := hP.2.2.2.1
  have hp48 : 0 ≤ p ∧ p < 48 := ⟨hpp.1, by omega⟩
  have ew : S 91 (b + 16 + p) = A.w p := hr.2.1 p hp48.1 hp48.2
  have e5 : S 91 (b + 256 + p) = A.v 5 p := hr.2.2.2.2.2.2.1 p hp48.1 hp48.2
  have e17 : S 90 17 = P 0 5 := hm.1 5 (by decide) (by decide)
  have e16 : S 90 16 = P 0 4 := hm.1 4 (by decide) (by decide)
  have bw := hA.1.2.2 p
  have gm := risM_ok (sc := sc) h0 hb hr hA hp48
  have gz := risz_ok (sc := sc) h0 hb hr hA hp48
  have hbx : ∀ {S'}, (befA P A p).1 ≤ 4 → modF S S' b → S' 91 = S 91 → refR S' b (befX P A p) (N + 1) := fun h _ e => by
    unfold befX; rw [if_pos h]; exact refR_N (refR_far hr e) (by omega)
  have hme : mrg A p = decide (A.w p ≠ -1 ∧ A.k (A.w p) ≠ -1) := rfl
  by_cases c1 : A.w p = -1
  · have hb1 : befA P A p = (1, A.sv 3 p (-1)) := if_pos c1
    refine ⟨S, qX11_befalls_0 h0 ⟨⟨by omega, by omega⟩, ?_⟩, hbx (by rw [hb1]; dsimp only; decide) (modF_rf _ _) rfl, modF_rf _ _⟩
    rw [ew, c1, if_pos rfl, hb1]
  · have start : ∀ r, (if I (if mrg A p = true then 1 else 0) = I 0 then (if I (P 0 5) = I 1 then (((0 : Int) ≤ (b + 256) + p ∧ (b + 256) + p < 137400) ∧ (if I (A.v 5 p) ≤ I 0 then (if I (P 0 4) = I 1 then (∃ v111 S112, G sc MX11_isZero 0 [some (.ref 90), some (.int (I b)), some (.int (I p))] [] SH S (rI v111 SH S112) ∧ (if I v111 = I 0 then (∃ v113 S114, G sc MX11_looksFor 0 [some (.ref 90), some (.int (I b)), some (.int (I p)), none, none, none, none, none, none, none, none] [] SH S112 (rI v113 SH S114) ∧ r = rI v113 SH S114) else r = rI 4 SH S112)) else (∃ v109 S110, G sc MX11_looksFor 0 [some (.ref 90), some (.int (I b)), some (.int (I p)), none, none, none, none, none, none, none, none] [] SH S (rI v109 SH S110) ∧ r = rI v109 SH S110)) else r = rI 3 SH S)) else (if I (P 0 4) = I 1 then (∃ v105 S106, G sc MX11_isZero 0 [some (.ref 90), some (.int (I b)), some (.int (I p))] [] SH S (rI v105 SH S106) ∧ (if I v105 = I 0 then (∃ v107 S108, G sc MX11_looksFor 0 [some (.ref 90), some (.int (I b)), some (.int (I p)), none, none, none, none, none, none, none, none] [] SH S106 (rI v107 SH S108) ∧ r = rI v107 SH S108) else r = rI 4 SH S106)) else (∃ v103 S104, G sc MX11_looksFor 0 [some (.ref 90), some (.int (I b)), some (.int (I p)), none, none, none, none, none, none, none, none] [] SH S (rI v103 SH S104) ∧ r = rI v103 SH S104))) else r = rI 2 SH S) → G sc MX11_befalls 0 [some (.ref 90), some (.int (I b)), some (.int (I p))] [] SH S r := fun r h => by
      refine qX11_befalls_0 h0 ⟨⟨by omega, by omega⟩, ?_⟩
      rw [ew, if_neg (by rw [I_eq ⟨by omega, by omega⟩ ⟨by omega, by omega⟩]; exact c1)]
      refine ⟨_, _, gm, ?_⟩
      rw [e17, e16, e5]
      exact h
    by_cases c2 : A.k (A.w p) = -1
    · have hmf : ¬ (mrg A p = true) := by rw [hme]; simp [c2]
      simp only [if_neg hmf, if_true] at start
      have hz : ∀ r, (if I (P 0 4) = I 1 then (∃ v111 S112, G sc MX11_isZero 0 [some (.ref 90), some (.int (I b)), some (.int (I p))] [] SH S (rI v111 SH S112) ∧ (if I v111 = I 0 then (∃ v113 S114, G sc MX11_looksFor 0 [some (.ref 90), some (.int (I b)), some (.int (I p)), none, none, none, none, none, none, none, none] [] SH S112 (rI v113 SH S114) ∧ r = rI v113 SH S114) else r = rI 4 SH S112)) else (∃ v109 S110, G sc MX11_looksFor 0 [some (.ref 90), some (.int (I b)), some (.int (I p)), none, none, none, none, none, none, none, none] [] SH S (rI v109 SH S110) ∧ r = rI v109 SH S110)) → (P 0 5 ≠ 0 → I (A.v 5 p) ≤ I 0) → G sc MX11_befalls 0 [some (.ref 90), some (.int (I b)), some (.int (I p))] [] SH S r := fun r h h5 => by
        refine start r ?_
        rcases hP4.2 with e | e
        · rw [e, if_neg (by decide)]; exact h
        · rw [e, if_pos rfl, if_pos (h5 (by omega))]; exact ⟨⟨by omega, by omega⟩, h⟩
      by_cases c3 : P 0 5 ≠ 0 ∧ ¬ (I (A.v 5 p) ≤ I 0)
      · have hb3 : befA P A p = (3, A.sv 5 p (A.v 5 p - 1)) := by unfold befA; rw [if_neg c1, if_neg (fun h => h c2), if_pos c3]
        refine ⟨S, start _ ?_, hbx (by rw [hb3]; dsimp only; decide) (modF_rf _ _) rfl, modF_rf _ _⟩
        rw [hb3, show P 0 5 = 1 from hP4.2.resolve_left c3.1, if_pos rfl, if_neg c3.2]
        exact ⟨⟨by omega, by omega⟩, rfl⟩
      · have h5 : P 0 5 ≠ 0 → I (A.v 5 p) ≤ I 0 := fun h => Decidable.byContradiction (fun q => c3 ⟨h, q⟩)
        have ecx : cellsA A p = A.v 0 (A.w p) := if_neg c1
        rw [ecx] at gz
        by_cases c4 : P 0 4 ≠ 0 ∧ A.v 0 (A.w p) = 0
        · have hb4 : befA P A p = (4, (unlie A p).sv 3 p (-1)) := by unfold befA; rw [if_neg c1, if_neg (fun h => h c2), if_neg c3, if_pos c4]
          refine ⟨S, hz _ ?_ h5, hbx (by rw [hb4]; dsimp only; decide) (modF_rf _ _) rfl, modF_rf _ _⟩
          rw [hb4, show P 0 4 = 1 from hP4.1.resolve_left c4.1, if_pos rfl]
          refine ⟨_, _, gz, ?_⟩
          rw [if_pos c4.2, if_neg (by decide)]
        · have hb5 : befA P A p = lookA P A p := by unfold befA; rw [if_neg c1, if_neg (fun h => h c2), if_neg c3, if_neg c4]
          have hlr := lookA_rg P A p
          obtain ⟨S1, g1, r1, m1⟩ := rlook_ok (sc := sc) h0 hb hN hm hP hr hA hpp c1 c2 hcur (u3 := none) (u4 := none) (u5 := none) (u6 := none) (u7 := none) (u8 := none) (u9 := none) (u10 := none)
          refine ⟨S1, hz _ ?_ h5, by unfold befX; rw [hb5, if_neg (by omega)]; exact r1, m1⟩
          rw [hb5]
          rcases hP4.1 with e | e
          · rw [e, if_neg (by decide)]; exact ⟨_, _, g1, rfl⟩
          · rw [e, if_pos rfl]
            refine ⟨_, _, gz, ?_⟩
            rw [if_neg (fun h => c4 ⟨by omega, h⟩), if_pos rfl]
            exact ⟨_, _, g1, rfl⟩
    · have hmt : mrg A p = true := by rw [hme]; simp [c1, c2]
      simp only [if_pos hmt, if_neg (show ¬ (I 1 = I 0) by decide)] at start
      have hb2 : befA P A p = (2, A) := by unfold befA; rw [if_neg c1, if_pos c2]
      refine ⟨S, start _ (by rw [hb2]), hbx (by rw [hb2]; dsimp only; decide) (modF_rf _ _) rfl, modF_rf _ _⟩
theorem rsp238 {S : mStore} {B : aS} (h0 : sMod SH) (hb : 0 ≤ b ∧ b ≤ 135000) (hr : refR S b B N) (hC : wfR B.C B.k) {p how : Int} (hh : 1 ≤ how ∧ how ≤ 9) {u : Option Value} : ∃ S', G sc MX11_scansPage 238 [some (.ref 90), some (.int (I b)), some (.int (I p)), some (.int (I how)), u] [] SH S (rI (yldA how) SH S') ∧ refR S' b (B.sv 6 10 (B.v 6 10 + yldA how)) N ∧ modG S S' b := by
  have e10 : S 91 (b + 10) = B.v 6 10 := hr.1 10 (by decide) (by decide)
  refine ⟨up S 91 (b + 10) (B.v 6 10 + yldA how), qX11_scansPage_238 h0 ?_, refR_v6 hr hC (i := 10) (by decide), modG_up ⟨by omega, by omega⟩⟩
  have fin : G sc MX11_scansPage 259 [some (.ref 90), some (.int (I b)), some (.int (I p)), some (.int (I how)), u] [.int (I (yldA how))] SH S (rI (yldA how) SH (up S 91 (b + 10) (B.v 6 10 + yldA how))) := by
    refine qX11_scansPage_259 h0 ?_
    rw [e10]
    exact ⟨⟨by omega, by omega⟩, ⟨by omega, by omega⟩, rfl⟩
  simp (disch := omega) only [iQ]
  by_cases c : how = 4 ∨ how = 5 ∨ how = 8
  · have ey : yldA how = 1 := if_pos c
    rw [ey] at fin ⊢
    have f2 := qX11_scansPage_254 (sc := sc) h0 fin
    rcases c with c | c | c
    · rw [if_pos c]; exact f2
    · rw [if_neg (by omega), if_pos c]; exact f2
    · rw [if_neg (by omega), if_neg (by omega), if_pos c]; exact f2
  · have ey : yldA how = 0 := if_neg c
    rw [ey] at fin ⊢
    rw [if_neg (by omega), if_neg (by omega), if_neg (by omega)]
    exact fin
theorem rsp79 {S : mStore} {B : aS} (h0 : sMod SH) (hb : 0 ≤ b ∧ b ≤ 135000) (hr : refR S b B N) (hC : wfR B.C B.k) {p how : Int} (hp : 0 ≤ p ∧ p < 48) (hh : 1 ≤ how ∧ how ≤ 9) {u : Option Value} : ∃ S', G sc MX11_scansPage 79 [some (.ref 90), some (.int (I b)), some (.int (I p)), some (.int (I how)), u] [] SH S (rI (yldA how) SH S') ∧ refR S' b (tailR B p how) N ∧ modG S S' b := by
  unfold tailR
  have r1 := refR_v6 hr hC (i := 7) (x := B.v 6 7 + (if how = 4 then 1 else 0)) (by decide)
  have e7 : S 91 (b + 7) = B.v 6 7 := hr.1 7 (by decide) (by decide)
  have m1 : modG S (up S 91 (b + 7) (B.v 6 7 + (if how = 4 then 1 else 0))) b := modG_up ⟨by omega, by omega⟩
  dsimp only
  generalize hB1 : B.sv 6 7 (B.v 6 7 + (if how = 4 then 1 else 0)) = B1 at *
  have hC1 : wfR B1.C B1.k := by rw [← hB1]; exact hC
  generalize hS1 : up S 91 (b + 7) (B.v 6 7 + (if how = 4 then 1 else 0)) = S1 at *
  have r2 := refR_v6 r1 hC1 (i := 5) (x := B1.v 6 5 + (if how = 5 then 1 else 0)) (by decide)
  have e5 : S1 91 (b + 5) = B1.v 6 5 := r1.1 5 (by decide) (by decide)
  have m2 : modG S1 (up S1 91 (b + 5) (B1.v 6 5 + (if how = 5 then 1 else 0))) b := modG_up ⟨by omega, by omega⟩
  generalize hB2 : B1.sv 6 5 (B1.v 6 5 + (if how = 5 then 1 else 0)) = B2 at *
  have hC2 : wfR B2.C B2.k := by rw [← hB2]; exact hC1
  generalize hS2 : up S1 91 (b + 5) (B1.v 6 5 + (if how = 5 then 1 else 0)) = S2 at *
  have r3 := refR_v6 r2 hC2 (i := 6) (x := B2.v 6 6 + (if how = 8 then 1 else 0)) (by decide)
  have e6 : S2 91 (b + 6) = B2.v 6 6 := r2.1 6 (by decide) (by decide)
  have m3 : modG S2 (up S2 91 (b + 6) (B2.v 6 6 + (if how = 8 then 1 else 0))) b := modG_up ⟨by omega, by omega⟩
  generalize hB3 : B2.sv 6 6 (B2.v 6 6 + (if how = 8 then 1 else 0)) = B3 at *
  have hC3 : wfR B3.C B3.k := by rw [← hB3]; exact hC2
  generalize hS3 : up S2 91 (b + 6) (B2.v 6 6 + (if how = 8 then 1 else 0)) = S3 at *
  have ms : modG S S3 b := modG_tr (modG_tr m1 m2) m3
  have e4 : S3 91 (b + 208 + p) = B3.v 4 p := r3.2.2.2.2.2.1 p hp.1 hp.2
  have e5' : S3 91 (b + 256 + p) = B3.v 5 p := r3.2.2.2.2.2.2.1 p hp.1 hp.2
  have start : ∀ r, (if I how = I 3 then (((0 : Int) ≤ (b + 256) + p ∧ (b + 256) + p < 137400) ∧ (((0 : Int) ≤ (b + 256) + p ∧ (b + 256) + p < 137400) ∧ G sc MX11_scansPage 238 [some (.ref 90), some (.int (I b)), some (.int (I p)), some (.int (I how)), u] [] SH (up S3 91 ((b + 256) + p) ((S3 91 ((b + 256) + p)) - 1)) r)) else (if I how = I 7 then G sc MX11_scansPage 192 [some (.ref 90), some (.int (I b)), some (.int (I p)), some (.int (I how)), u] [.int (I ((b + 208) + p)), .ref 91] SH S3 r else (if I how = I 9 then G sc MX11_scansPage 192 [some (.ref 90), some (.int (I b)), some (.int (I p)), some (.int (I how)), u] [.int (I ((b + 208) + p)), .ref 91] SH S3 r else G sc MX11_scansPage 210 [some (.ref 90), some (.int (I b)), some (.int (I p)), some (.int (I how)), u] [.int (I 0), .int (I ((b + 208) + p)), .ref 91] SH S3 r))) → G sc MX11_scansPage 79 [some (.ref 90), some (.int (I b)), some (.int (I p)), some (.int (I how)), u] [] SH S r := fun r h => by
    have g143 : G sc MX11_scansPage 143 [some (.ref 90), some (.int (I b)), some (.int (I p)), some (.int (I how)), u] [.int (I (if how = 8 then 1 else 0)), .int (I (B2.v 6 6)), .int (I (b + 6)), .ref 91] SH S2 r := by
      refine qX11_scansPage_143 h0 ?_
      rw [hS3]
      exact ⟨⟨by omega, by omega⟩, h⟩
    have g120 : G sc MX11_scansPage 120 [some (.ref 90), some (.int (I b)), some (.int (I p)), some (.int (I how)), u] [.int (I (if how = 5 then 1 else 0)), .int (I (B1.v 6 5)), .int (I (b + 5)), .ref 91] SH S1 r := by
      refine qX11_scansPage_120 h0 ?_
      rw [hS2, e6]
      simp (disch := omega) only [iQ]
      refine ⟨⟨by omega, by omega⟩, ⟨by omega, by omega⟩, ?_⟩
      by_cases c : how = 8
      · rw [if_pos c] at g143 ⊢; exact g143
      · rw [if_neg c] at g143 ⊢; exact g143
    have g99 : G sc MX11_scansPage 99 [some (.ref 90), some (.int (I b)), some (.int (I p)), some (.int (I how)), u] [.int (I (if how = 4 then 1 else 0)), .int (I (B.v 6 7)), .int (I (b + 7)), .ref 91] SH S r := by
      refine qX11_scansPage_99 h0 ?_
      rw [hS1, e5]
      simp (disch := omega) only [iQ]
      refine ⟨⟨by omega, by omega⟩, ⟨by omega, by omega⟩, ?_⟩
      by_cases c : how = 5
      · rw [if_pos c] at g120 ⊢; exact g120
      · rw [if_neg c] at g120 ⊢; exact g120
    refine qX11_scansPage_79 h0 ?_
    rw [e7]
    simp (disch := omega) only [iQ]
    refine ⟨⟨by omega, by omega⟩, ?_⟩
    by_cases c : how = 4
    · rw [if_pos c] at g99 ⊢; exact g99
    · rw [if_neg c] at g99 ⊢; exact g99
  simp (disch := omega) only [iQ] at start
  by_cases c3 : how = 3
  · simp only [if_pos c3] at start ⊢
    have r4 := refR_v5 r3 hC3 (i := p) (x := B3.v 5 p - 1) hp
    obtain ⟨S5, g5, r5, m5⟩ := rsp238 (sc := sc) (p := p) h0 hb r4 hC3 hh (u := u)
    refine ⟨S5, start _ ⟨⟨by omega, by omega⟩, ⟨by omega, by omega⟩, ?_⟩, r5, modG_tr (modG_tr ms (modG_up ⟨by omega, by omega⟩)) m5⟩
    rw [e5']
    exact g5
  · simp only [if_neg c3] at start ⊢
    have r4 := refR_v5 (refR_v4 r3 hC3 (i := p) (x := ageA B3 p how) hp) hC3 (i := p) (x := restA (ageA B3 p how)) hp
    obtain ⟨S5, g5, r5, m5⟩ := rsp238 (sc := sc) (p := p) h0 hb r4 hC3 hh (u := u)
    have g210 : G sc MX11_scansPage 210 [some (.ref 90), some (.int (I b)), some (.int (I p)), some (.int (I how)), u] [.int (I (ageA B3 p how)), .int (I ((b + 208) + p)), .ref 91] SH S3 (rI (yldA how) SH S5) := by
      refine qX11_scansPage_210 h0 ⟨⟨by omega, by omega⟩, ⟨by omega, by omega⟩, ?_⟩
      rw [up_eq]
      exact ⟨_, _, rrest_ok, ⟨by omega, by omega⟩, g5⟩
    refine ⟨S5, start _ ?_, r5, modG_tr (modG_tr ms (modG_tr (modG_up ⟨by omega, by omega⟩) (modG_up ⟨by omega, by omega⟩))) m5⟩
    have g192 : how = 7 ∨ how = 9 → G sc MX11_scansPage 192 [some (.ref 90), some (.int (I b)), some (.int (I p)), some (.int (I how)), u] [.int (I ((b + 208) + p)), .ref 91] SH S3 (rI (yldA how) SH S5) := fun c => by
      refine qX11_scansPage_192 h0 ⟨⟨by omega, by omega⟩, ?_⟩
      rw [e4]
      have ea : ageA B3 p how = B3.v 4 p + 1 := if_pos c
      rw [ea] at g210
      exact g210
    by_cases c7 : how = 7
    · rw [if_pos c7]; exact g192 (.inl c7)
    · rw [if_neg c7]
      by_cases c9 : how = 9
      · rw [if_pos c9]; exact g192 (.inr c9)
      · rw [if_neg c9]
        have ea : ageA B3 p how = 0 := if_neg (by omega)
        rw [ea] at g210
        exact g210
end
