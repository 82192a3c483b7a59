/-! ===== the reference: a page is scanned, scans, ticks ===== -/
theorem tail_eq {D : aS} {p how : Int} (h3 : how ≠ 3) : tailR (D.sv 2 p how) p how = (scanT D p how).2 := by
  have v7 : (D.sv 2 p how).v 6 7 = D.v 6 7 := by rw [sv_ne _ _ _ (by decide)]
  have v5 : (D.sv 2 p how).v 6 5 = D.v 6 5 := by rw [sv_ne _ _ _ (by decide)]
  have v6 : (D.sv 2 p how).v 6 6 = D.v 6 6 := by rw [sv_ne _ _ _ (by decide)]
  have v10 : (D.sv 2 p how).v 6 10 = D.v 6 10 := by rw [sv_ne _ _ _ (by decide)]
  have v4 : (D.sv 2 p how).v 4 p = D.v 4 p := by rw [sv_ne _ _ _ (by decide)]
  have hm : midA D p how = ((D.sv 2 p how).sv 4 p (ageA D p how)).sv 5 p (restA (ageA D p how)) := if_neg h3
  have hage : ∀ B : aS, B.v 4 p = D.v 4 p → ageA B p how = ageA D p how := fun B h => by unfold ageA; rw [h]
  generalize D.sv 2 p how = B at *
  have fin : ∀ (X : aS) (i : Int), X.v 4 p = D.v 4 p → X.v 6 10 = D.v 6 10 → (let B4 := if how = 3 then X.sv 5 p (X.v 5 p - 1) else (X.sv 4 p (ageA X p how)).sv 5 p (restA (ageA X p how)); B4.sv 6 10 (B4.v 6 10 + yldA how)) = ((X.sv 4 p (ageA D p how)).sv 5 p (restA (ageA D p how))).sv 6 10 (D.v 6 10 + yldA how) := fun X i h4 h10 => by
    dsimp only
    rw [if_neg h3, hage X h4]
    have e : ((X.sv 4 p (ageA D p how)).sv 5 p (restA (ageA D p how))).v 6 10 = D.v 6 10 := by rw [sv_ne _ _ _ (by decide), sv_ne _ _ _ (by decide)]; exact h10
    rw [e]
  have sw : ∀ (X : aS) (i y c d : Int), ((X.sv 6 i y).sv 4 p c).sv 5 p d = ((X.sv 4 p c).sv 5 p d).sv 6 i y := fun X i y c d => by
    rw [sv_swap (a := 6) (c := 4) (by omega), sv_swap (a := 6) (c := 5) (by omega)]
  by_cases c4 : how = 4
  · have e1 : B.v 6 7 + (if how = 4 then 1 else 0) = D.v 6 7 + 1 := by rw [if_pos c4, v7]
    have e2 : ∀ X : aS, X.v 6 5 + (if how = 5 then 1 else 0) = X.v 6 5 := fun X => by rw [if_neg (by omega)]; omega
    have e3 : ∀ X : aS, X.v 6 6 + (if how = 8 then 1 else 0) = X.v 6 6 := fun X => by rw [if_neg (by omega)]; omega
    have ey : yldA how = 1 := if_pos (.inl c4)
    have hs : (scanT D p how).2 = ((midA D p how).sv 6 7 (D.v 6 7 + 1)).sv 6 10 (D.v 6 10 + 1) := by unfold scanT; rw [if_pos c4]
    unfold tailR
    rw [e1]
    dsimp only
    rw [e2, sv_same, e3, sv_same]
    refine (fin (B.sv 6 7 (D.v 6 7 + 1)) 0 (by rw [sv_ne _ _ _ (by decide)]; exact v4) (by rw [sv_at, if_neg (by decide)]; exact v10)).trans ?_
    rw [hs, hm, sw, ey]
  · have e1 : ∀ X : aS, X.v 6 7 + (if how = 4 then 1 else 0) = X.v 6 7 := fun X => by rw [if_neg c4]; omega
    by_cases c5 : how = 5
    · have e2 : B.v 6 5 + (if how = 5 then 1 else 0) = D.v 6 5 + 1 := by rw [if_pos c5, v5]
      have e3 : ∀ X : aS, X.v 6 6 + (if how = 8 then 1 else 0) = X.v 6 6 := fun X => by rw [if_neg (by omega)]; omega
      have ey : yldA how = 1 := if_pos (.inr (.inl c5))
      have hs : (scanT D p how).2 = ((midA D p how).sv 6 5 (D.v 6 5 + 1)).sv 6 10 (D.v 6 10 + 1) := by unfold scanT; rw [if_neg c4, if_pos c5]
      unfold tailR
      rw [e1, sv_same]
      dsimp only
      rw [e2, e3, sv_same]
      refine (fin (B.sv 6 5 (D.v 6 5 + 1)) 0 (by rw [sv_ne _ _ _ (by decide)]; exact v4) (by rw [sv_at, if_neg (by decide)]; exact v10)).trans ?_
      rw [hs, hm, sw, ey]
    · have e2 : ∀ X : aS, X.v 6 5 + (if how = 5 then 1 else 0) = X.v 6 5 := fun X => by rw [if_neg c5]; omega
      by_cases c8 : how = 8
      · have e3 : B.v 6 6 + (if how = 8 then 1 else 0) = D.v 6 6 + 1 := by rw [if_pos c8, v6]
        have ey : yldA how = 1 := if_pos (.inr (.inr c8))
        have hs : (scanT D p how).2 = ((midA D p how).sv 6 6 (D.v 6 6 + 1)).sv 6 10 (D.v 6 10 + 1) := by unfold scanT; rw [if_neg c4, if_neg c5, if_pos c8]
        unfold tailR
        rw [e1, sv_same]
        dsimp only
        rw [e2, sv_same, e3]
        refine (fin (B.sv 6 6 (D.v 6 6 + 1)) 0 (by rw [sv_ne _ _ _ (by decide)]; exact v4) (by rw [sv_at, if_neg (by decide)]; exact v10)).trans ?_
        rw [hs, hm, sw, ey]
      · have e3 : ∀ X : aS, X.v 6 6 + (if how = 8 then 1 else 0) = X.v 6 6 := fun X => by rw [if_neg c8]; omega
        have ey : yldA how = 0 := if_neg (by omega)
        have hs : (scanT D p how).2 = midA D p how := by unfold scanT; rw [if_neg c4, if_neg c5, if_neg c8]
        unfold tailR
        rw [e1, sv_same]
        dsimp only
        rw [e2, sv_same, e3, sv_same]
        refine (fin B 0 v4 v10).trans ?_
        rw [hs, hm, ey, Int.add_zero]
        have e : ((B.sv 4 p (ageA D p how)).sv 5 p (restA (ageA D p how))).v 6 10 = D.v 6 10 := by rw [sv_ne _ _ _ (by decide), sv_ne _ _ _ (by decide)]; exact v10
        rw [← e, sv_same]
theorem tail_eq3 {X : aS} {p : Int} : tailR (X.sv 2 p 3) p 3 = (scanT (X.sv 5 p (X.v 5 p - 1)) p 3).2 := by
  have e1 : ∀ X : aS, X.v 6 7 + (if (3 : Int) = 4 then 1 else 0) = X.v 6 7 := fun X => by rw [if_neg (by decide)]; omega
  have e2 : ∀ X : aS, X.v 6 5 + (if (3 : Int) = 5 then 1 else 0) = X.v 6 5 := fun X => by rw [if_neg (by decide)]; omega
  have e3 : ∀ X : aS, X.v 6 6 + (if (3 : Int) = 8 then 1 else 0) = X.v 6 6 := fun X => by rw [if_neg (by decide)]; omega
  have hs : (scanT (X.sv 5 p (X.v 5 p - 1)) p 3).2 = (X.sv 5 p (X.v 5 p - 1)).sv 2 p 3 := by
    unfold scanT midA; rw [if_neg (by decide), if_neg (by decide), if_neg (by decide), if_pos rfl]
  have v5 : (X.sv 2 p 3).v 5 p = X.v 5 p := by rw [sv_ne _ _ _ (by decide)]
  unfold tailR
  rw [e1, sv_same]
  dsimp only
  rw [e2, sv_same, e3, sv_same, if_pos rfl]
  rw [v5, show yldA 3 = 0 from rfl, Int.add_zero, sv_same, hs]
  exact sv_swap (by omega)
theorem yld_eq {D : aS} {p how : Int} : yldA how = (scanT D p how).1 := by
  unfold yldA scanT
  by_cases c4 : how = 4
  · rw [if_pos (.inl c4), if_pos c4]
  · rw [if_neg c4]
    by_cases c5 : how = 5
    · rw [if_pos (.inr (.inl c5)), if_pos c5]
    · rw [if_neg c5]
      by_cases c8 : how = 8
      · rw [if_pos (.inr (.inr c8)), if_pos c8]
      · rw [if_neg (by omega), if_neg c8]
theorem befA_cases (P : aP) (X : aS) (p : Int) : ((befA P X p).1 = 1 ∧ (befA P X p).2 = X.sv 3 p (-1)) ∨ ((befA P X p).1 = 2 ∧ (befA P X p).2 = X) ∨ ((befA P X p).1 = 3 ∧ (befA P X p).2 = X.sv 5 p (X.v 5 p - 1)) ∨ ((befA P X p).1 = 4 ∧ (befA P X p).2 = (unlie X p).sv 3 p (-1) ∧ X.w p ≠ -1 ∧ X.k (X.w p) = -1) ∨ 5 ≤ (befA P X p).1 := by
  unfold befA
  by_cases c1 : X.w p = -1
  · rw [if_pos c1]; exact .inl ⟨rfl, rfl⟩
  · rw [if_neg c1]
    by_cases c2 : X.k (X.w p) = -1
    · rw [if_neg (fun h => h c2)]
      split
      · exact .inr (.inr (.inl ⟨rfl, rfl⟩))
      · split
        · exact .inr (.inr (.inr (.inl ⟨rfl, rfl, c1, c2⟩)))
        · exact .inr (.inr (.inr (.inr (lookA_rg P X p).1)))
    · rw [if_pos c2]; exact .inr (.inl ⟨rfl, rfl⟩)
section
variable {sc : Nat × (Nat → Int32)} {SH : List mCell} {b N : Int} {P : aP}
theorem rsp_ok {S : mStore} {A : aS} (h0 : sMod SH) (hb : 0 ≤ b ∧ b ≤ 135000) (hN : N < 2147483648) (hm : modP S P) (hP : wfP P) {p : Int} (hpp : A.v 6 9 ≤ p ∧ p < P 0 7) (hr : refR S b (A.sv 6 9 (p + 1)) N) (hA : wfA P A) {u3 u4 : Option Value} : ∃ S', G sc MX11_scansPage 0 [some (.ref 90), some (.int (I b)), some (.int (I p)), u3, u4] [] SH S (rI (scanP P A p).1 SH S') ∧ refR S' b (scanP P A p).2 (N + 1) ∧ modF S S' b := by
  have hP7 := hP.2.2.2.2.2.1
  have h9 := hA.2.2.2.2.2.2.2.2.2.2.2.2.2
  have hp0 : 0 ≤ p ∧ p < P 0 7 := ⟨by omega, hpp.2⟩
  have hp48 : 0 ≤ p ∧ p < 48 := ⟨by omega, by omega⟩
  have e4 : S 91 (b + 4) = A.v 6 4 := by rw [hr.1 4 (by decide) (by decide), sv_at, if_neg (by decide)]
  have r1 := refR_v6 hr hA.2.1 (i := 4) (x := A.v 6 4 + 1) (by decide)
  have e11 : up S 91 (b + 4) (A.v 6 4 + 1) 91 (b + 11) = A.v 6 11 := by rw [r1.1 11 (by decide) (by decide), sv_at, if_neg (by decide), sv_at, if_neg (by decide)]
  have r2 : refR (up (up S 91 (b + 4) (A.v 6 4 + 1)) 91 (b + 11) (A.v 6 11 + 1)) b (setupA A p) N := refR_v6 r1 hA.2.1 (i := 11) (x := A.v 6 11 + 1) (by decide)
  have m2 : modF S (up (up S 91 (b + 4) (A.v 6 4 + 1)) 91 (b + 11) (A.v 6 11 + 1)) b := modF_tr (modF_up ⟨by omega, by omega⟩) (modF_up ⟨by omega, by omega⟩)
  have hX := wf_setup hP hA hpp
  have hcur : ∀ ρ, 0 ≤ ρ → ρ < 3 → p ∉ lb ((setupA A p).tw ρ) := cur_no hA hpp.1
  have hcp : p < (setupA A p).v 6 9 := by rw [setup9]; omega
  unfold scanP
  generalize setupA A p = X at *
  obtain ⟨S3, g3, r3, m3⟩ := rbef_ok (sc := sc) h0 hb hN (modP_F hm m2) hP r2 hX hp0 hcur
  have hrg := befA_rg P X p
  have hD := befA_cases P X p
  have hwD := wf_bef hP hX hp0 hcp hcur
  have e112 : ∀ {B : aS}, refR S3 b B (N + 1) → wfR B.C B.k → refR (up S3 91 (b + 112 + p) (befA P X p).1) b (B.sv 2 p (befA P X p).1) (N + 1) := fun hB hC => refR_v2 hB hC (i := p) hp48
  have start : ∀ r, (if I (befA P X p).1 = I 4 then (∃ v103 S104, G sc MX11_drops 0 [some (.ref 90), some (.int (I b)), some (.int (I p)), none] [] SH (up S3 91 ((b + 112) + p) (befA P X p).1) (rI v103 SH S104) ∧ (if I (befA P X p).1 = I 1 then (((0 : Int) ≤ (b + 160) + p ∧ (b + 160) + p < 137400) ∧ G sc MX11_scansPage 79 [some (.ref 90), some (.int (I b)), some (.int (I p)), some (.int (I (befA P X p).1)), u4] [] SH (up S104 91 ((b + 160) + p) (-1)) r) else (if I (befA P X p).1 = I 4 then (((0 : Int) ≤ (b + 160) + p ∧ (b + 160) + p < 137400) ∧ G sc MX11_scansPage 79 [some (.ref 90), some (.int (I b)), some (.int (I p)), some (.int (I (befA P X p).1)), u4] [] SH (up S104 91 ((b + 160) + p) (-1)) r) else G sc MX11_scansPage 79 [some (.ref 90), some (.int (I b)), some (.int (I p)), some (.int (I (befA P X p).1)), u4] [] SH S104 r))) else (if I (befA P X p).1 = I 1 then (((0 : Int) ≤ (b + 160) + p ∧ (b + 160) + p < 137400) ∧ G sc MX11_scansPage 79 [some (.ref 90), some (.int (I b)), some (.int (I p)), some (.int (I (befA P X p).1)), u4] [] SH (up (up S3 91 ((b + 112) + p) (befA P X p).1) 91 ((b + 160) + p) (-1)) r) else (if I (befA P X p).1 = I 4 then (((0 : Int) ≤ (b + 160) + p ∧ (b + 160) + p < 137400) ∧ G sc MX11_scansPage 79 [some (.ref 90), some (.int (I b)), some (.int (I p)), some (.int (I (befA P X p).1)), u4] [] SH (up (up S3 91 ((b + 112) + p) (befA P X p).1) 91 ((b + 160) + p) (-1)) r) else G sc MX11_scansPage 79 [some (.ref 90), some (.int (I b)), some (.int (I p)), some (.int (I (befA P X p).1)), u4] [] SH (up S3 91 ((b + 112) + p) (befA P X p).1) r))) → G sc MX11_scansPage 0 [some (.ref 90), some (.int (I b)), some (.int (I p)), u3, u4] [] SH S r := fun r h => by
    refine qX11_scansPage_0 h0 ?_
    rw [e4, e11]
    exact ⟨⟨by omega, by omega⟩, ⟨by omega, by omega⟩, ⟨by omega, by omega⟩, ⟨by omega, by omega⟩, _, _, g3, ⟨by omega, by omega⟩, h⟩
  have m4 : modF S (up S3 91 (b + 112 + p) (befA P X p).1) b := modF_tr (modF_tr m2 m3) (modF_up ⟨by omega, by omega⟩)
  simp (disch := omega) only [iQ] at start
  have hbX : (befA P X p).1 ≤ 4 → befX P X p = X := fun h => if_pos h
  rcases hD with ⟨q1, q2⟩ | ⟨q1, q2⟩ | ⟨q1, q2⟩ | ⟨q1, q2, q3, q4⟩ | q1
  · rw [hbX (by omega)] at r3
    rw [q2]
    rw [q1] at start e112 m4 ⊢
    have r4 := refR_v3 (e112 r3 hX.2.1) hX.2.1 (i := p) (x := -1) hp48
    obtain ⟨S5, g5, r5, m5⟩ := rsp79 (sc := sc) h0 hb r4 hX.2.1 hp48 (how := 1) (by decide) (u := u4)
    rw [yld_eq (D := X.sv 3 p (-1)) (p := p)] at g5
    refine ⟨S5, start _ ?_, ?_, modF_tr m4 (modG_F (modG_tr (modG_up ⟨by omega, by omega⟩) m5))⟩
    · rw [if_neg (by decide), if_pos rfl]
      exact ⟨⟨by omega, by omega⟩, g5⟩
    · rw [sv_swap (a := 2) (c := 3) (by omega), tail_eq (by decide)] at r5
      exact r5
  · rw [hbX (by omega)] at r3
    rw [q2]
    rw [q1] at start e112 m4 ⊢
    obtain ⟨S5, g5, r5, m5⟩ := rsp79 (sc := sc) h0 hb (e112 r3 hX.2.1) hX.2.1 hp48 (how := 2) (by decide) (u := u4)
    rw [yld_eq (D := X) (p := p)] at g5
    refine ⟨S5, start _ ?_, ?_, modF_tr m4 (modG_F m5)⟩
    · rw [if_neg (by decide), if_neg (by decide), if_neg (by decide)]
      exact g5
    · rw [tail_eq (by decide)] at r5
      exact r5
  · rw [hbX (by omega)] at r3
    rw [q2]
    rw [q1] at start e112 m4 ⊢
    obtain ⟨S5, g5, r5, m5⟩ := rsp79 (sc := sc) h0 hb (e112 r3 hX.2.1) hX.2.1 hp48 (how := 3) (by decide) (u := u4)
    rw [yld_eq (D := X.sv 5 p (X.v 5 p - 1)) (p := p)] at g5
    refine ⟨S5, start _ ?_, ?_, modF_tr m4 (modG_F m5)⟩
    · rw [if_neg (by decide), if_neg (by decide), if_neg (by decide)]
      exact g5
    · rw [tail_eq3] at r5
      exact r5
  · rw [hbX (by omega)] at r3
    rw [q2]
    rw [q1] at start e112 m4 ⊢
    obtain ⟨S4, g4, r4, m4'⟩ := rdrop_ok (sc := sc) h0 hb (e112 r3 hX.2.1) (wf_vj hX (by decide)) hp48 (u := none)
    have ed : (dropA (X.sv 2 p 4) p).2 = (unlie X p).sv 2 p 4 := by
      unfold dropA
      rw [if_neg q3]
      split
      · show leaveK _ _ = _
        unfold leaveK
        exact if_pos q4
      · rfl
    rw [ed] at r4
    have r5 := refR_v3 r4 hX.2.1 (i := p) (x := -1) hp48
    obtain ⟨S5, g5, r5, m5⟩ := rsp79 (sc := sc) h0 hb r5 hX.2.1 hp48 (how := 4) (by decide) (u := u4)
    rw [yld_eq (D := (unlie X p).sv 3 p (-1)) (p := p)] at g5
    refine ⟨S5, start _ ?_, ?_, modF_tr m4 (modG_F (modG_tr m4' (modG_tr (modG_up ⟨by omega, by omega⟩) m5)))⟩
    · rw [if_pos rfl]
      refine ⟨_, _, g4, ?_⟩
      rw [if_neg (by decide), if_pos rfl]
      exact ⟨⟨by omega, by omega⟩, g5⟩
    · rw [sv_swap (a := 2) (c := 3) (by omega), tail_eq (by decide)] at r5
      exact r5
  · have hb5 : befX P X p = (befA P X p).2 := if_neg (by omega)
    rw [hb5] at r3
    obtain ⟨S5, g5, r5, m5⟩ := rsp79 (sc := sc) h0 hb (e112 r3 hwD.2.1) hwD.2.1 hp48 (how := (befA P X p).1) hrg (u := u4)
    rw [yld_eq (D := (befA P X p).2) (p := p)] at g5
    refine ⟨S5, start _ ?_, ?_, modF_tr m4 (modG_F m5)⟩
    · rw [if_neg (by omega), if_neg (by omega), if_neg (by omega)]
      exact g5
    · rw [tail_eq (by omega)] at r5
      exact r5
theorem scanN_stop {A : aS} (h1 : advF P A (A.v 6 9) = -1) (h2 : advF P A 0 = -1) : ∀ n : Nat, scanN P n A = (0, A)
  | 0 => rfl
  | n + 1 => by
    have e : scanA P A = (0, A) := by unfold scanA; rw [if_neg (fun h => h h1), if_pos h2]
    show ((scanA P A).1 + (scanN P n (scanA P A).2).1, (scanN P n (scanA P A).2).2) = (0, A)
    rw [e, scanN_stop h1 h2 n]
    rfl
theorem rscans_lp (h0 : sMod SH) (hb : 0 ≤ b ∧ b ≤ 135000) (hP : wfP P) {m : Int} (hmm : m < 1000) : ∀ (n : Nat) (l i : Int) {N : Int} {S : mStore} {A : aS} {u5 : Option Value}, modP S P → refR S b A N → wfA P A → 0 ≤ i → i + n = m → N + n < 2147483648 → ∃ S', G sc MX11_scans 5 [some (.ref 90), some (.int (I b)), some (.int (I m)), some (.int (I l)), some (.int (I i)), u5] [] SH S (rI (l + (scanN P n A).1) SH S') ∧ refR S' b (scanN P n A).2 (N + n) ∧ modF S S' b
  | 0, l, i, N, S, A, u5, hm, hr, hA, hi, him, hN => by
    refine ⟨S, qX11_scans_5 h0 ?_, refR_N hr (by omega), modF_rf _ _⟩
    show if I m ≤ I i then rI (l + 0) SH S = rI l SH S else _
    rw [Int.add_zero]
    simp (disch := omega) only [iL, iE, iQ, ipos, ineg, an, if_true, if_false]
  | n + 1, l, i, N, S, A, u5, hm, hr, hA, hi, him, hN => by
    have h9 := hA.2.2.2.2.2.2.2.2.2.2.2.2.2
    have hP7 := hP.2.2.2.2.2.1
    have e9 : S 91 (b + 9) = A.v 6 9 := hr.1 9 (by decide) (by decide)
    have hrg := advF_rg (P := P) (A := A) hP h9.1
    have hrg0 := advF_rg (P := P) (A := A) (p := 0) hP (by omega)
    have ga := radvF_ok (sc := sc) h0 hb hm hP hr hA (p := A.v 6 9) h9 (u := none)
    have ga0 := radvF_ok (sc := sc) h0 hb hm hP hr hA (p := 0) (by decide) (u := none)
    by_cases c1 : advF P A (A.v 6 9) = -1
    · by_cases c2 : advF P A 0 = -1
      · rw [scanN_stop c1 c2]
        refine ⟨S, qX11_scans_5 h0 ?_, refR_N hr (by omega), modF_rf _ _⟩
        show if I m ≤ I i then _ else _
        rw [Int.add_zero]
        simp (disch := omega) only [iL, iE, iQ, ipos, ineg, an, if_true, if_false]
        rw [e9]
        refine ⟨_, _, ga, ?_⟩
        rw [c1, if_pos rfl]
        refine ⟨_, _, ga0, ?_⟩
        rw [c2, if_pos rfl]
      · have es : scanA P A = scanP P (endA P A) (advF P A 0) := by unfold scanA; rw [if_neg (fun h => h c1), if_neg c2]
        have hq : (endA P A).v 6 9 ≤ advF P A 0 ∧ advF P A 0 < P 0 7 := by rw [endA9]; omega
        obtain ⟨S2, g2, r2, m2⟩ := rend_ok (sc := sc) h0 hb hm hP hr hA (u := none)
        have hE := wf_end hP hA
        obtain ⟨S3, g3, r3, m3⟩ := rsp_ok (sc := sc) (N := N) h0 hb (by omega) (modP_F hm (modF_tr (modG_F m2) (modF_up (i := b + 9) (x := advF P A 0 + 1) ⟨by omega, by omega⟩))) hP hq (refR_v6 r2 hE.2.1 (i := 9) (by decide)) hE (u3 := none) (u4 := none)
        have m3' : modF S S3 b := modF_tr (modF_tr (modG_F m2) (modF_up ⟨by omega, by omega⟩)) m3
        obtain ⟨S4, g4, r4, m4⟩ := rscans_lp h0 hb hP hmm n (l + (scanP P (endA P A) (advF P A 0)).1) (i + 1) (u5 := some (.int (I (advF P A 0)))) (modP_F hm m3') r3 (wf_scanP hP hE hq) (by omega) (by omega) (by omega)
        refine ⟨S4, qX11_scans_5 h0 ?_, ?_, modF_tr m3' m4⟩
        · show if I m ≤ I i then _ else _
          simp (disch := omega) only [iL, iE, iQ, ipos, ineg, an, if_true, if_false]
          rw [e9]
          refine ⟨_, _, ga, ?_⟩
          rw [c1, if_pos rfl]
          refine ⟨_, _, ga0, ?_⟩
          rw [if_neg (by rw [I_eq ⟨by omega, by omega⟩ ⟨by omega, by omega⟩]; exact c2)]
          refine ⟨_, g2, _, _, g3, ?_⟩
          have ev : l + (scanN P (n + 1) A).1 = l + (scanP P (endA P A) (advF P A 0)).1 + (scanN P n (scanP P (endA P A) (advF P A 0)).2).1 := by
            show l + ((scanA P A).1 + (scanN P n (scanA P A).2).1) = _
            rw [es]; omega
          rw [ev]
          exact g4
        · show refR S4 b (scanN P n (scanA P A).2).2 (N + (n + 1 : Nat))
          rw [es]
          exact refR_N r4 (by omega)
    · have es : scanA P A = scanP P A (advF P A (A.v 6 9)) := by unfold scanA; rw [if_pos c1]
      have hq : A.v 6 9 ≤ advF P A (A.v 6 9) ∧ advF P A (A.v 6 9) < P 0 7 := by omega
      obtain ⟨S3, g3, r3, m3⟩ := rsp_ok (sc := sc) (N := N) h0 hb (by omega) (modP_F hm (modF_up (b := b) (i := b + 9) (x := advF P A (A.v 6 9) + 1) ⟨by omega, by omega⟩)) hP hq (refR_v6 hr hA.2.1 (i := 9) (by decide)) hA (u3 := none) (u4 := none)
      have m3' : modF S S3 b := modF_tr (modF_up ⟨by omega, by omega⟩) m3
      obtain ⟨S4, g4, r4, m4⟩ := rscans_lp h0 hb hP hmm n (l + (scanP P A (advF P A (A.v 6 9))).1) (i + 1) (u5 := some (.int (I (advF P A (A.v 6 9))))) (modP_F hm m3') r3 (wf_scanP hP hA hq) (by omega) (by omega) (by omega)
      refine ⟨S4, qX11_scans_5 h0 ?_, ?_, modF_tr m3' m4⟩
      · show if I m ≤ I i then _ else _
        simp (disch := omega) only [iL, iE, iQ, ipos, ineg, an, if_true, if_false]
        rw [e9]
        refine ⟨_, _, ga, ?_⟩
        rw [if_neg (by rw [I_eq ⟨by omega, by omega⟩ ⟨by omega, by omega⟩]; exact c1)]
        refine ⟨_, _, g3, ?_⟩
        have ev : l + (scanN P (n + 1) A).1 = l + (scanP P A (advF P A (A.v 6 9))).1 + (scanN P n (scanP P A (advF P A (A.v 6 9))).2).1 := by
          show l + ((scanA P A).1 + (scanN P n (scanA P A).2).1) = _
          rw [es]; omega
        rw [ev]
        exact g4
      · show refR S4 b (scanN P n (scanA P A).2).2 (N + (n + 1 : Nat))
        rw [es]
        exact refR_N r4 (by omega)
theorem rscans_ok {S : mStore} {A : aS} (h0 : sMod SH) (hb : 0 ≤ b ∧ b ≤ 135000) (hP : wfP P) (hm : modP S P) (hr : refR S b A N) (hA : wfA P A) {n : Nat} (hn : n < 1000) (hN : N + n < 2147483648) {u3 u4 u5 : Option Value} : ∃ S', G sc MX11_scans 0 [some (.ref 90), some (.int (I b)), some (.int (I n)), u3, u4, u5] [] SH S (rI (scanN P n A).1 SH S') ∧ refR S' b (scanN P n A).2 (N + n) ∧ modF S S' b := by
  obtain ⟨S1, g1, r1, m1⟩ := rscans_lp (sc := sc) h0 hb hP (m := n) (by omega) n 0 0 (u5 := u5) hm hr hA (by decide) (by omega) hN
  rw [Int.zero_add] at g1
  exact ⟨S1, qX11_scans_0 h0 g1, r1, m1⟩
theorem rticks_lp (h0 : sMod SH) (hb : 0 ≤ b ∧ b ≤ 135000) (hP : wfP P) {m : Int} (hmm : m < 1000) : ∀ (n : Nat) (l i : Int) {N : Int} {S : mStore} {A : aS}, modP S P → refR S b A N → wfA P A → 0 ≤ i → i + n = m → N + 16 * n < 2147483648 → ∃ S', G sc MX11_ticksOf 5 [some (.ref 90), some (.int (I b)), some (.int (I m)), some (.int (I l)), some (.int (I i))] [] SH S (rI (l + (tickA P n A).1) SH S') ∧ refR S' b (tickA P n A).2 (N + 16 * n) ∧ modF S S' b
  | 0, l, i, N, S, A, hm, hr, hA, hi, him, hN => by
    refine ⟨S, qX11_ticksOf_5 h0 ?_, refR_N hr (by omega), modF_rf _ _⟩
    show if I m ≤ I i then rI (l + 0) SH S = rI l SH S else _
    rw [Int.add_zero]
    simp (disch := omega) only [iL, iE, iQ, ipos, ineg, an, if_true, if_false]
  | n + 1, l, i, N, S, A, hm, hr, hA, hi, him, hN => by
    have h6 := hA.2.2.2.2.2.2.2.2.2.2.2.2.1
    have e0 : S 91 (b + 0) = ((A.v 6 0).toNat : Int) := by rw [hr.1 0 (by decide) (by decide)]; omega
    obtain ⟨S1, g1, r1, m1⟩ := rscans_ok (sc := sc) h0 hb hP hm hr hA (n := (A.v 6 0).toNat) (by omega) (by omega) (u3 := none) (u4 := none) (u5 := none)
    have hw1 := wf_scanN hP (A.v 6 0).toNat hA
    have e2 : S1 91 (b + 2) = (scanN P (A.v 6 0).toNat A).2.v 6 2 := r1.1 2 (by decide) (by decide)
    have r2 : refR (up S1 91 (b + 2) ((scanN P (A.v 6 0).toNat A).2.v 6 2 + 1)) b (tockA P A).2 (N + (A.v 6 0).toNat) := refR_v6 r1 hw1.2.1 (i := 2) (by decide)
    have m2 : modF S (up S1 91 (b + 2) ((scanN P (A.v 6 0).toNat A).2.v 6 2 + 1)) b := modF_tr m1 (modF_up ⟨by omega, by omega⟩)
    obtain ⟨S3, g3, r3, m3⟩ := rticks_lp h0 hb hP hmm n (l + (tockA P A).1) (i + 1) (modP_F hm m2) r2 (wf_tock hP hA) (by omega) (by omega) (by omega)
    refine ⟨S3, qX11_ticksOf_5 h0 ?_, refR_N r3 (by omega), modF_tr m2 m3⟩
    show if I m ≤ I i then _ else _
    simp (disch := omega) only [iL, iE, iQ, ipos, ineg, an, if_true, if_false]
    rw [e0]
    refine ⟨_, _, g1, ?_⟩
    rw [e2]
    have ev : l + (tickA P (n + 1) A).1 = l + (tockA P A).1 + (tickA P n (tockA P A).2).1 := by
      show l + ((tockA P A).1 + (tickA P n (tockA P A).2).1) = _
      omega
    rw [ev]
    exact g3
theorem rticks_ok {S : mStore} {A : aS} (h0 : sMod SH) (hb : 0 ≤ b ∧ b ≤ 135000) (hP : wfP P) (hm : modP S P) (hr : refR S b A N) (hA : wfA P A) {n : Nat} (hn : n < 1000) (hN : N + 16 * n < 2147483648) {u3 u4 : Option Value} : ∃ S', G sc MX11_ticksOf 0 [some (.ref 90), some (.int (I b)), some (.int (I n)), u3, u4] [] SH S (rI (tickA P n A).1 SH S') ∧ refR S' b (tickA P n A).2 (N + 16 * n) ∧ modF S S' b := by
  obtain ⟨S1, g1, r1, m1⟩ := rticks_lp (sc := sc) h0 hb hP (m := n) (by omega) n 0 0 hm hr hA (by decide) (by omega) hN
  rw [Int.zero_add] at g1
  exact ⟨S1, qX11_ticksOf_0 h0 g1, r1, m1⟩
end
