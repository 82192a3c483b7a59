/-! ===== the class's State: pages are advised, or no more ===== -/
def advAll : Nat → Int → aS → Int × aS
  | 0, _, A => (0, A)
  | n + 1, p, A => if A.v 1 p = 0 then ((advAll n (p + 1) (A.sv 1 p 1)).1 + 1, (advAll n (p + 1) (A.sv 1 p 1)).2) else advAll n (p + 1) A
def offA (A : aS) (p : Int) : aS := (A.stw (delT p A.tw)).sv 1 p 0
def noMore (P : aP) : Nat → Int → aS → Int × aS
  | 0, _, A => (0, A)
  | n + 1, p, A => if A.v 1 p = 0 then noMore P n (p + 1) A
    else if mrg A p = true then (if (ownA P A p).1 = -1 then (0, (ownA P A p).2) else ((noMore P n (p + 1) (offA (ownA P A p).2 p)).1 + 1, (noMore P n (p + 1) (offA (ownA P A p).2 p)).2))
    else ((noMore P n (p + 1) (offA A p)).1 + 1, (noMore P n (p + 1) (offA A p)).2)
theorem advAll_rg : ∀ (n : Nat) (p : Int) (A : aS), 0 ≤ (advAll n p A).1 ∧ (advAll n p A).1 ≤ n
  | 0, _, _ => ⟨Int.le_refl _, Int.le_refl _⟩
  | n + 1, p, A => by
    unfold advAll
    split
    · have := advAll_rg n (p + 1) (A.sv 1 p 1); dsimp only; omega
    · have := advAll_rg n (p + 1) A; omega
theorem noMore_rg {P : aP} : ∀ (n : Nat) (p : Int) (A : aS), 0 ≤ (noMore P n p A).1 ∧ (noMore P n p A).1 ≤ n
  | 0, _, _ => ⟨Int.le_refl _, Int.le_refl _⟩
  | n + 1, p, A => by
    unfold noMore
    split
    · have := noMore_rg (P := P) n (p + 1) A; omega
    · split
      · split
        · dsimp only; omega
        · have := noMore_rg (P := P) n (p + 1) (offA (ownA P A p).2 p); dsimp only; omega
      · have := noMore_rg (P := P) n (p + 1) (offA A p); dsimp only; omega
theorem wf_adv {P : aP} : ∀ (n : Nat) (p : Int) {A : aS}, wfA P A → wfA P (advAll n p A).2
  | 0, _, _, h => h
  | n + 1, p, A, h => by
    unfold advAll
    split
    · exact wf_adv n (p + 1) (wf_v1 h (.inr rfl))
    · exact wf_adv n (p + 1) h
theorem wf_off {P : aP} {A : aS} (h : wfA P A) {p : Int} : wfA P (offA A p) := wf_v1 (wf_tw h) (.inl rfl)
theorem wf_noMore {P : aP} (hP : wfP P) : ∀ (n : Nat) (p : Int) {A : aS}, wfA P A → 0 ≤ p → p + n ≤ P 0 7 → wfA P (noMore P n p A).2
  | 0, _, _, h, _, _ => h
  | n + 1, p, A, h, h0, hn => by
    unfold noMore
    split
    · exact wf_noMore hP n (p + 1) h (by omega) (by omega)
    · split
      · split
        · exact wf_own hP h ⟨h0, by omega⟩
        · exact wf_noMore hP n (p + 1) (wf_off (wf_own hP h ⟨h0, by omega⟩)) (by omega) (by omega)
      · exact wf_noMore hP n (p + 1) (wf_off h) (by omega) (by omega)
section
variable {sc : Nat × (Nat → Int32)} {SH : List mCell} {a : Nat} {P : aP}
theorem adv_lp (h0 : sState SH a) {lo hi : Int} (hhi : -1 ≤ hi ∧ hi < 48) : ∀ (n : Nat) (m p : Int) {S : mStore} {A : aS}, stateR S a A → wfA P A → 0 ≤ p → p + n = hi + 1 → 0 ≤ m → m ≤ 48 - n → ∃ S', G sc MX7_adviseAll 5 [some (.ref a), some (.int (I lo)), some (.int (I hi)), some (.int (I m)), some (.int (I p))] [] SH S (rI (m + (advAll n p A).1) SH S') ∧ stateR S' a (advAll n p A).2 ∧ (∀ j, j < a ∨ a + 20 ≤ j → S' j = S j)
  | 0, m, p, S, A, hs, hA, hp, hn, hm, hm2 => by
    refine ⟨S, qX7_adviseAll_5 h0 ?_, hs, fun _ _ => rfl⟩
    simp only [advAll, Int.add_zero]
    simp (disch := omega) only [iL, iE, iQ, ipos, ineg, an, if_true, if_false]
  | n + 1, m, p, S, A, hs, hA, hp, hn, hm, hm2 => by
    have e1 := hs.2.2.2.2.2.1 p (by omega) (by omega)
    have b1 := hA.2.2.2.2.2.2.2.2.2.2.2.1 p
    by_cases e : A.v 1 p = 0
    · obtain ⟨S', g', r', f'⟩ := adv_lp h0 (lo := lo) hhi n (m + 1) (p + 1) (stateR_v1 hs p 1) (wf_v1 hA (.inr rfl)) (by omega) (by omega) (by omega) (by omega)
      unfold advAll
      rw [if_pos e]
      refine ⟨S', qX7_adviseAll_5 h0 ?_, r', fun j hj => by rw [f' j hj, up_ne (by omega)]⟩
      rw [e1, e]
      simp (disch := omega) only [iL, iE, iQ, ipos, ineg, an, if_true, if_false]
      rw [show m + ((advAll n (p + 1) (A.sv 1 p 1)).1 + 1) = m + 1 + (advAll n (p + 1) (A.sv 1 p 1)).1 by omega]
      exact g'
    · obtain ⟨S', g', r', f'⟩ := adv_lp h0 (lo := lo) hhi n m (p + 1) hs hA (by omega) (by omega) (by omega) (by omega)
      unfold advAll
      rw [if_neg e]
      refine ⟨S', qX7_adviseAll_5 h0 ?_, r', f'⟩
      rw [e1]
      simp (disch := omega) only [iL, iE, iQ, ipos, ineg, an, if_true, if_false]
      exact g'
theorem adv_ok (h0 : sState SH a) {lo : Int} {n : Nat} {S : mStore} {A : aS} (hs : stateR S a A) (hA : wfA P A) (h1 : 0 ≤ lo) (h2 : lo + n ≤ 48) {u u' : Option Value} : ∃ S', G sc MX7_adviseAll 0 [some (.ref a), some (.int (I lo)), some (.int (I (lo + n - 1))), u, u'] [] SH S (rI (advAll n lo A).1 SH S') ∧ stateR S' a (advAll n lo A).2 ∧ (∀ j, j < a ∨ a + 20 ≤ j → S' j = S j) := by
  obtain ⟨S', g', r', f'⟩ := adv_lp (sc := sc) h0 (lo := lo) (hi := lo + n - 1) ⟨by omega, by omega⟩ n 0 lo hs hA h1 (by omega) (by omega) (by omega)
  rw [Int.zero_add] at g'
  exact ⟨S', qX7_adviseAll_0 h0 g', r', f'⟩
theorem off_ok (h0 : sState SH a) {S : mStore} {A : aS} (hs : stateR S a A) (hT : wfT A.tw) {p : Int} (hp : 0 ≤ p ∧ p < 48) : ∃ S', G sc MX9_leave 0 [some (.ref (a + 11)), some (.int (I p)), none, none, none, none, none, none] [] SH S (rV SH S') ∧ stateR (up S' (a + 14) p 0) a (offA A p) ∧ (∀ j, j < a ∨ a + 20 ≤ j → S' j = S j) := by
  obtain ⟨S1, g1, r1, f1⟩ := tleave_ok (sc := sc) (u := none) (u' := none) (u2 := none) (u3 := none) (u4 := none) (u5 := none) h0.2.2.2.2.1 hT hs.2.2.2.1 hp
  exact ⟨S1, g1, stateR_v1 (stateR_tw hs r1 f1) p 0, fun j hj => f1 j (by omega)⟩
theorem noMore_lp (h0 : sState SH a) (ha : 6 ≤ a) (hP : wfP P) {lo hi : Int} (hhi : -1 ≤ hi ∧ hi < P 0 7) : ∀ (n : Nat) (m p : Int) {S : mStore} {A : aS}, planR S 1 P → stateR S a A → wfA P A → 0 ≤ p → p + n = hi + 1 → 0 ≤ m → m ≤ 48 - n → ∃ S', G sc MX7_adviseNoMore 5 [some (.ref a), some (.int (I lo)), some (.int (I hi)), some (.int (I m)), some (.int (I p))] [] SH S (rI (m + (noMore P n p A).1) SH S') ∧ stateR S' a (noMore P n p A).2 ∧ (∀ j, j < a ∨ a + 20 ≤ j → S' j = S j)
  | 0, m, p, S, A, hp, hs, hA, h1, hn, hm, hm2 => by
    have hP7 := hP.2.2.2.2.2.1
    refine ⟨S, qX7_adviseNoMore_5 h0 ?_, hs, fun _ _ => rfl⟩
    simp only [noMore, Int.add_zero]
    simp (disch := omega) only [iL, iE, iQ, ipos, ineg, an, if_true, if_false]
  | n + 1, m, p, S, A, hp, hs, hA, h1, hn, hm, hm2 => by
    have hP7 := hP.2.2.2.2.2.1
    have e1 := hs.2.2.2.2.2.1 p (by omega) (by omega)
    have b1 := hA.2.2.2.2.2.2.2.2.2.2.2.1 p
    by_cases e : A.v 1 p = 0
    · obtain ⟨S', g', r', f'⟩ := noMore_lp h0 ha hP (lo := lo) hhi n m (p + 1) hp hs hA (by omega) (by omega) (by omega) (by omega)
      unfold noMore
      rw [if_pos e]
      refine ⟨S', qX7_adviseNoMore_5 h0 ?_, r', f'⟩
      rw [e1, e]
      simp (disch := omega) only [iL, iE, iQ, ipos, ineg, an, if_true, if_false]
      exact g'
    · by_cases em : mrg A p = true
      · obtain ⟨S1, g1, r1, f1⟩ := own_ok (sc := sc) (u := none) (u' := none) h0 ha hp hP hs hA (p := p) ⟨h1, by omega⟩
        have hr := own_rg (P := P) (A := A) (p := p)
        have gm := isM_ok (sc := sc) (u := none) h0 hs hA (p := p) ⟨h1, by omega⟩
        rw [if_pos em] at gm
        by_cases eo : (ownA P A p).1 = -1
        · unfold noMore
          rw [if_neg e, if_pos em, if_pos eo]
          refine ⟨S1, qX7_adviseNoMore_5 h0 ?_, r1, f1⟩
          rw [e1]
          simp (disch := omega) only [iL, iE, iQ, ipos, ineg, an, if_true, if_false]
          refine ⟨_, _, gm, ?_⟩
          simp (disch := omega) only [iL, iE, iQ, ipos, ineg, an, if_true, if_false]
          refine ⟨_, _, g1, ?_⟩
          simp (disch := omega) only [iL, iE, iQ, ipos, ineg, an, if_true, if_false, Int.add_zero]
        · have hA1 := wf_own hP hA (p := p) ⟨h1, by omega⟩
          obtain ⟨S2, g2, r2, f2⟩ := off_ok (sc := sc) h0 r1 hA1.2.2.2.1 (p := p) ⟨h1, by omega⟩
          have hp2 : planR (up S2 (a + 14) p 0) 1 P := planR_far hp (fun j _ hj => by rw [up_ne (by omega), f2 j (by omega), f1 j (by omega)])
          obtain ⟨S', g', r', f'⟩ := noMore_lp h0 ha hP (lo := lo) hhi n (m + 1) (p + 1) hp2 r2 (wf_off hA1) (by omega) (by omega) (by omega) (by omega)
          unfold noMore
          rw [if_neg e, if_pos em, if_neg eo]
          refine ⟨S', qX7_adviseNoMore_5 h0 ?_, r', fun j hj => by rw [f' j hj, up_ne (by omega), f2 j hj, f1 j hj]⟩
          rw [e1]
          simp (disch := omega) only [iL, iE, iQ, ipos, ineg, an, if_true, if_false]
          refine ⟨_, _, gm, ?_⟩
          simp (disch := omega) only [iL, iE, iQ, ipos, ineg, an, if_true, if_false]
          refine ⟨_, _, g1, ?_⟩
          simp (disch := omega) only [iL, iE, iQ, ipos, ineg, an, if_true, if_false]
          refine ⟨_, g2, ?_⟩
          rw [show m + ((noMore P n (p + 1) (offA (ownA P A p).2 p)).1 + 1) = m + 1 + (noMore P n (p + 1) (offA (ownA P A p).2 p)).1 by omega]
          exact g'
      · obtain ⟨S2, g2, r2, f2⟩ := off_ok (sc := sc) h0 hs hA.2.2.2.1 (p := p) ⟨h1, by omega⟩
        have gm := isM_ok (sc := sc) (u := none) h0 hs hA (p := p) ⟨h1, by omega⟩
        rw [if_neg em] at gm
        have hp2 : planR (up S2 (a + 14) p 0) 1 P := planR_far hp (fun j _ hj => by rw [up_ne (by omega), f2 j (by omega)])
        obtain ⟨S', g', r', f'⟩ := noMore_lp h0 ha hP (lo := lo) hhi n (m + 1) (p + 1) hp2 r2 (wf_off hA) (by omega) (by omega) (by omega) (by omega)
        unfold noMore
        rw [if_neg e, if_neg em]
        refine ⟨S', qX7_adviseNoMore_5 h0 ?_, r', fun j hj => by rw [f' j hj, up_ne (by omega), f2 j hj]⟩
        rw [e1]
        simp (disch := omega) only [iL, iE, iQ, ipos, ineg, an, if_true, if_false]
        refine ⟨_, _, gm, ?_⟩
        simp (disch := omega) only [iL, iE, iQ, ipos, ineg, an, if_true, if_false]
        refine ⟨_, g2, ?_⟩
        rw [show m + ((noMore P n (p + 1) (offA A p)).1 + 1) = m + 1 + (noMore P n (p + 1) (offA A p)).1 by omega]
        exact g'
theorem noMore_ok (h0 : sState SH a) (ha : 6 ≤ a) (hP : wfP P) {lo : Int} {n : Nat} {S : mStore} {A : aS} (hp : planR S 1 P) (hs : stateR S a A) (hA : wfA P A) (h1 : 0 ≤ lo) (h2 : lo + n ≤ P 0 7) {u u' : Option Value} : ∃ S', G sc MX7_adviseNoMore 0 [some (.ref a), some (.int (I lo)), some (.int (I (lo + n - 1))), u, u'] [] SH S (rI (noMore P n lo A).1 SH S') ∧ stateR S' a (noMore P n lo A).2 ∧ (∀ j, j < a ∨ a + 20 ≤ j → S' j = S j) := by
  have hP7 := hP.2.2.2.2.2.1
  obtain ⟨S', g', r', f'⟩ := noMore_lp (sc := sc) h0 ha hP (lo := lo) (hi := lo + n - 1) ⟨by omega, by omega⟩ n 0 lo hp hs hA h1 (by omega) (by omega) (by omega)
  rw [Int.zero_add] at g'
  exact ⟨S', qX7_adviseNoMore_0 h0 g', r', f'⟩
end
