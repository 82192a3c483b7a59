/-! ===== the class's State: a page is written, or dropped ===== -/
def leaveK (A : aS) (f : Int) : aS := if A.k f = -1 then A else (if remL A.C (A.k f) f (A.k f) = [] then (A.sC (remL A.C (A.k f) f) (setW A.k f (-1))).sts (delT (A.k f) A.ts) else A.sC (remL A.C (A.k f) f) (setW A.k f (-1)))
def unlie (A : aS) (p : Int) : aS := A.sL (remL A.L (A.w p) p) (setW A.w p (-1))
def lieIn (A : aS) (p f : Int) : aS := A.sL (addL A.L f p) (setW A.w p f)
def ownA (P : aP) (A : aS) (p : Int) : Int × aS :=
  if A.w p ≠ -1 ∧ A.k (A.w p) = -1 then (0, A)
  else if A.w p ≠ -1 ∧ (A.L (A.w p)).length = 1 then (3, leaveK A (A.w p))
  else if freeA P A = -1 then (-1, A)
  else if A.w p = -1 then (1, lieIn (A.sv 0 (freeA P A) (cellsA A p)) p (freeA P A))
  else (2, (lieIn (unlie (A.sv 0 (freeA P A) (cellsA A p)) p) p (freeA P A)).sv 6 8 (A.v 6 8 + 1))
def putA (P : aP) (A : aS) (p x : Int) : Int × aS := if (ownA P A p).1 = -1 then ownA P A p else ((ownA P A p).1, (ownA P A p).2.sv 0 ((ownA P A p).2.w p) x)
def pcell (v cell n : Int) : Int := iro (ian v (ixr (isl 15 (12 - (4 * cell))) (-1))) (isl n (12 - (4 * cell)))
def dropA (A : aS) (p : Int) : Int × aS := if A.w p = -1 then (-1, A) else (if (unlie A p).L (A.w p) = [] then (1, leaveK (unlie A p) (A.w p)) else (0, unlie A p))
section
variable {sc : Nat × (Nat → Int32)} {SH : List mCell} {S : mStore} {a : Nat} {P : aP} {A : aS}
theorem leaveK_ok (h0 : sState SH a) (hs : stateR S a A) (hC : wfR A.C A.k) (hT : wfT A.ts) {f : Int} (hf : 0 ≤ f ∧ f < 48) {u : Option Value} : ∃ S', G sc MX7_leaveKnot 0 [some (.ref a), some (.int (I f)), u] [] SH S (rV SH S') ∧ stateR S' a (leaveK A f) ∧ (∀ j, j < a ∨ a + 20 ≤ j → S' j = S j) := by
  have b1 := hC.2.2 f
  have e1 := hs.2.1.1 f hf.1 hf.2
  unfold leaveK
  by_cases e : A.k f = -1
  · rw [if_pos e]
    refine ⟨S, qX7_leaveKnot_0 h0 ?_, hs, fun _ _ => rfl⟩
    rw [e1, e]
    simp (disch := omega) only [iL, iE, iQ, ipos, ineg, an, if_true, if_false]
  · rw [if_neg e]
    obtain ⟨S1, g1, r1, f1⟩ := rrem_ok (sc := sc) (u := none) (u' := none) (u'' := none) (u3 := none) h0.2.2.1 ⟨by omega, by omega, by omega⟩ hC hs.2.1 hf (by omega)
    have s1 := stateR_C hs r1 f1
    have hw1 := wf_rem hC (x := f) rfl
    obtain ⟨b2, b3⟩ := wf_hd hw1 (A.k f)
    have e2 : S1 (a + 8) (A.k f) = hd (remL A.C (A.k f) f (A.k f)) := s1.2.1.2.1 (A.k f) (by omega) (by omega)
    by_cases e3 : remL A.C (A.k f) f (A.k f) = []
    · rw [if_pos e3]
      obtain ⟨S2, g2, r2, f2⟩ := tleave_ok (sc := sc) (u := none) (u' := none) (u2 := none) (u3 := none) (u4 := none) (u5 := none) h0.2.2.2.1 hT s1.2.2.1 (k := A.k f) ⟨by omega, by omega⟩
      refine ⟨S2, qX7_leaveKnot_0 h0 ?_, stateR_ts s1 r2 f2, fun j hj => ?_⟩
      · rw [e1]
        simp (disch := omega) only [iL, iE, iQ, ipos, ineg, an, if_true, if_false]
        refine ⟨S1, g1, ?_⟩
        rw [e2]
        simp (disch := omega) only [iL, iE, iQ, ipos, ineg, an, if_true, if_false]
        rw [if_pos (b3.mpr e3)]
        exact ⟨S2, g2, rfl⟩
      · rw [f2 j (by omega), f1 j (by omega) (by omega) (by omega)]
    · rw [if_neg e3]
      refine ⟨S1, qX7_leaveKnot_0 h0 ?_, s1, fun j hj => f1 j (by omega) (by omega) (by omega)⟩
      rw [e1]
      simp (disch := omega) only [iL, iE, iQ, ipos, ineg, an, if_true, if_false]
      refine ⟨S1, g1, ?_⟩
      rw [e2]
      simp (disch := omega) only [iL, iE, iQ, ipos, ineg, an, if_true, if_false]
      rw [if_neg (fun q => e3 (b3.mp q))]
      trivial
theorem unlie_ok (h0 : sState SH a) (hs : stateR S a A) (hL : wfR A.L A.w) {p : Int} (hp : 0 ≤ p ∧ p < 48) (hw : A.w p ≠ -1) : ∃ S', G sc MX6_remove 0 [some (.ref (a + 1)), some (.int (I p)), none, none, none, none] [] SH S (rV SH S') ∧ stateR S' a (unlie A p) ∧ (∀ j, j < a ∨ a + 20 ≤ j → S' j = S j) := by
  have b1 := hL.2.2 p
  obtain ⟨S1, g1, r1, f1⟩ := rrem_ok (sc := sc) (u := none) (u' := none) (u'' := none) (u3 := none) h0.2.1 ⟨by omega, by omega, by omega⟩ hL hs.1 hp (by omega)
  exact ⟨S1, g1, stateR_L hs r1 f1, fun j hj => f1 j (by omega) (by omega) (by omega)⟩
theorem lieIn_ok (h0 : sState SH a) (hs : stateR S a A) (hL : wfR A.L A.w) {p f : Int} (hp : 0 ≤ p ∧ p < 48) (hf : 0 ≤ f ∧ f < 48) (hw : A.w p = -1) : ∃ S', G sc MX6_add 0 [some (.ref (a + 1)), some (.int (I f)), some (.int (I p)), none, none, none] [] SH S (rV SH S') ∧ stateR S' a (lieIn A p f) ∧ (∀ j, j < a ∨ a + 20 ≤ j → S' j = S j) := by
  obtain ⟨S1, g1, r1, f1⟩ := radd_ok (sc := sc) (u := none) (u' := none) (u'' := none) h0.2.1 ⟨by omega, by omega, by omega⟩ hL hs.1 hf hp hw
  exact ⟨S1, g1, stateR_L hs r1 f1, fun j hj => f1 j (by omega) (by omega) (by omega)⟩
theorem freeA_rg (hP : wfP P) : freeA P A = -1 ∨ (0 ≤ freeA P A ∧ freeA P A < P 0 0 ∧ A.L (freeA P A) = []) := by
  have hf := hP.1
  rcases fnd_rg (fun f => decide (A.L f = [])) (P 0 0).toNat 0 with h | h
  · exact .inl h
  · right
    unfold freeA
    refine ⟨h.1, by omega, ?_⟩
    simpa using h.2.2
theorem own_ok (h0 : sState SH a) (ha : 6 ≤ a) (hp : planR S 1 P) (hP : wfP P) (hs : stateR S a A) (hA : wfA P A) {p : Int} (hpp : 0 ≤ p ∧ p < 48) {u u' : Option Value} : ∃ S', G sc MX7_makeOwn 0 [some (.ref a), some (.int (I p)), u, u'] [] SH S (rI (ownA P A p).1 SH S') ∧ stateR S' a (ownA P A p).2 ∧ (∀ j, j < a ∨ a + 20 ≤ j → S' j = S j) := by
  have b1 := hA.1.2.2 p
  have e1 := hs.1.1 p hpp.1 hpp.2
  have hfr := freeA_rg (A := A) hP
  have hf48 := hP.1
  unfold ownA
  by_cases e : A.w p = -1
  · rw [if_neg (fun q => q.1 e), if_neg (fun q => q.1 e)]
    by_cases e2 : freeA P A = -1
    · rw [if_pos e2]
      refine ⟨S, qX7_makeOwn_0 h0 ?_, hs, fun _ _ => rfl⟩
      rw [e1, e]
      simp (disch := omega) only [iL, iE, iQ, ipos, ineg, an, if_true, if_false]
      refine qX7_makeOwn_54 h0 ⟨_, _, free_ok h0 hp hP hs hA, ?_⟩
      rw [e2]
      simp (disch := omega) only [iL, iE, iQ, ipos, ineg, an, if_true, if_false]
    · rw [if_neg e2, if_pos e]
      have hs1 := stateR_v0 hs (freeA P A) (cellsA A p)
      obtain ⟨S2, g2, r2, f2⟩ := lieIn_ok (sc := sc) h0 hs1 hA.1 hpp (f := freeA P A) ⟨by omega, by omega⟩ e
      refine ⟨S2, qX7_makeOwn_0 h0 ?_, r2, fun j hj => by rw [f2 j hj, up_ne (by omega)]⟩
      rw [e1, e]
      simp (disch := omega) only [iL, iE, iQ, ipos, ineg, an, if_true, if_false]
      refine qX7_makeOwn_54 h0 ⟨_, _, free_ok h0 hp hP hs hA, ?_⟩
      simp (disch := omega) only [iL, iE, iQ, ipos, ineg, an, if_true, if_false]
      refine ⟨_, _, cells_ok h0 hs hA hpp, ?_⟩
      exact ⟨_, rrem_no h0.2.1 hs1.1 hpp e, _, g2, by first | rfl | trivial⟩
  · have b2 := hA.2.1.2.2 (A.w p)
    have e3 := hs.2.1.1 (A.w p) (by omega) (by omega)
    by_cases e4 : A.k (A.w p) = -1
    · rw [if_pos ⟨e, e4⟩]
      refine ⟨S, qX7_makeOwn_0 h0 ?_, hs, fun _ _ => rfl⟩
      rw [e1, e3, e4]
      simp (disch := omega) only [iL, iE, iQ, ipos, ineg, an, if_true, if_false]
    · rw [if_neg (fun q => e4 q.2)]
      have hlen := wf_len hA.1 (A.w p)
      have gs := rsize_ok (sc := sc) (u := none) (u' := none) h0.2.1 hA.1 hs.1 (row := A.w p) ⟨by omega, by omega⟩
      by_cases e5 : (A.L (A.w p)).length = 1
      · rw [if_pos ⟨e, e5⟩]
        obtain ⟨S2, g2, r2, f2⟩ := leaveK_ok (sc := sc) (u := none) h0 hs hA.2.1 hA.2.2.1 (f := A.w p) ⟨by omega, by omega⟩
        refine ⟨S2, qX7_makeOwn_0 h0 ?_, r2, f2⟩
        rw [e1, e3]
        simp (disch := omega) only [iL, iE, iQ, ipos, ineg, an, if_true, if_false]
        refine ⟨_, _, gs, ?_⟩
        simp (disch := omega) only [iL, iE, iQ, ipos, ineg, an, if_true, if_false]
        exact ⟨_, g2, by first | rfl | trivial⟩
      · rw [if_neg (fun q => e5 q.2)]
        by_cases e2 : freeA P A = -1
        · rw [if_pos e2]
          refine ⟨S, qX7_makeOwn_0 h0 ?_, hs, fun _ _ => rfl⟩
          rw [e1, e3]
          simp (disch := omega) only [iL, iE, iQ, ipos, ineg, an, if_true, if_false]
          refine ⟨_, _, gs, ?_⟩
          simp (disch := omega) only [iL, iE, iQ, ipos, ineg, an, if_true, if_false]
          refine qX7_makeOwn_54 h0 ⟨_, _, free_ok h0 hp hP hs hA, ?_⟩
          rw [e2]
          simp (disch := omega) only [iL, iE, iQ, ipos, ineg, an, if_true, if_false]
        · rw [if_neg e2, if_neg e]
          have hs1 := stateR_v0 hs (freeA P A) (cellsA A p)
          obtain ⟨S2, g2, r2, f2⟩ := unlie_ok (sc := sc) h0 hs1 hA.1 hpp e
          have hw2 : wfR (unlie (A.sv 0 (freeA P A) (cellsA A p)) p).L (unlie (A.sv 0 (freeA P A) (cellsA A p)) p).w := wf_rem hA.1 rfl
          obtain ⟨S3, g3, r3, f3⟩ := lieIn_ok (sc := sc) h0 r2 hw2 hpp (f := freeA P A) ⟨by omega, by omega⟩ (by show setW A.w p (-1) p = -1; unfold setW; rw [if_pos rfl])
          refine ⟨up S3 (a + 19) 8 (A.v 6 8 + 1), qX7_makeOwn_0 h0 ?_, stateR_v6 r3 8 _, fun j hj => by rw [up_ne (by omega), f3 j hj, f2 j hj, up_ne (by omega)]⟩
          rw [e1, e3]
          simp (disch := omega) only [iL, iE, iQ, ipos, ineg, an, if_true, if_false]
          refine ⟨_, _, gs, ?_⟩
          simp (disch := omega) only [iL, iE, iQ, ipos, ineg, an, if_true, if_false]
          refine qX7_makeOwn_54 h0 ⟨_, _, free_ok h0 hp hP hs hA, ?_⟩
          simp (disch := omega) only [iL, iE, iQ, ipos, ineg, an, if_true, if_false]
          refine ⟨_, _, cells_ok h0 hs hA hpp, ?_⟩
          refine ⟨_, g2, _, g3, ?_⟩
          have e6 : S3 (a + 19) 8 = A.v 6 8 := r3.2.2.2.2.2.2.2.2.2.2 8 (by omega) (by omega)
          rw [e6]
theorem leaveK_w (A : aS) (f : Int) : (leaveK A f).w = A.w ∧ (leaveK A f).L = A.L ∧ (leaveK A f).v = A.v ∧ (leaveK A f).tw = A.tw := by
  unfold leaveK
  split
  · exact ⟨rfl, rfl, rfl, rfl⟩
  · split <;> exact ⟨rfl, rfl, rfl, rfl⟩
theorem own_w (hP : wfP P) (hA : wfA P A) {p : Int} (hpp : 0 ≤ p ∧ p < 48) (h : (ownA P A p).1 ≠ -1) : 0 ≤ (ownA P A p).2.w p ∧ (ownA P A p).2.w p < 48 := by
  have b1 := hA.1.2.2 p
  have hfr := freeA_rg (A := A) hP
  have hf48 := hP.1
  revert h
  unfold ownA
  split
  · intro _; dsimp only; omega
  · split
    · intro _; dsimp only; rw [(leaveK_w A _).1]; omega
    · split
      · intro h; exact absurd rfl h
      · split
        · intro _
          show 0 ≤ setW A.w p (freeA P A) p ∧ setW A.w p (freeA P A) p < 48
          unfold setW; rw [if_pos rfl]; omega
        · intro _
          show 0 ≤ setW _ p (freeA P A) p ∧ setW _ p (freeA P A) p < 48
          unfold setW; rw [if_pos rfl]; omega
theorem own_rg {p : Int} : -1 ≤ (ownA P A p).1 ∧ (ownA P A p).1 ≤ 3 := by
  unfold ownA
  split
  · dsimp only; omega
  · split
    · dsimp only; omega
    · split
      · dsimp only; omega
      · split <;> (dsimp only; omega)
theorem put_ok (h0 : sState SH a) (ha : 6 ≤ a) (hp : planR S 1 P) (hP : wfP P) (hs : stateR S a A) (hA : wfA P A) {p x : Int} (hpp : 0 ≤ p ∧ p < 48) {u u' : Option Value} : ∃ S', G sc MX7_put 0 [some (.ref a), some (.int (I p)), some (.int (I x)), u, u'] [] SH S (rI (putA P A p x).1 SH S') ∧ stateR S' a (putA P A p x).2 ∧ (∀ j, j < a ∨ a + 20 ≤ j → S' j = S j) := by
  obtain ⟨S1, g1, r1, f1⟩ := own_ok (sc := sc) (u := none) (u' := none) h0 ha hp hP hs hA hpp
  have hr := own_rg (P := P) (A := A) (p := p)
  unfold putA
  by_cases e : (ownA P A p).1 = -1
  · rw [if_pos e]
    refine ⟨S1, qX7_put_0 h0 ⟨_, _, g1, ?_⟩, r1, f1⟩
    simp (disch := omega) only [iL, iE, iQ, ipos, ineg, an, if_true, if_false]
  · rw [if_neg e]
    have hw := own_w hP hA hpp e
    refine ⟨up S1 (a + 13) ((ownA P A p).2.w p) x, qX7_put_0 h0 ⟨_, _, g1, ?_⟩, stateR_v0 r1 _ _, fun j hj => by rw [up_ne (by omega), f1 j hj]⟩
    rw [r1.1.1 p hpp.1 hpp.2]
    simp (disch := omega) only [iL, iE, iQ, ipos, ineg, an, if_true, if_false]
theorem putCell_ok (h0 : sState SH a) (ha : 6 ≤ a) (hp : planR S 1 P) (hP : wfP P) (hs : stateR S a A) (hA : wfA P A) {p c x : Int} (hpp : 0 ≤ p ∧ p < 48) {u : Option Value} : ∃ S', G sc MX7_putCell 0 [some (.ref a), some (.int (I p)), some (.int (I c)), some (.int (I x)), u] [] SH S (rI (putA P A p (pcell (cellsA A p) c x)).1 SH S') ∧ stateR S' a (putA P A p (pcell (cellsA A p) c x)).2 ∧ (∀ j, j < a ∨ a + 20 ≤ j → S' j = S j) := by
  obtain ⟨S1, g1, r1, f1⟩ := put_ok (sc := sc) (u := none) (u' := none) (x := pcell (cellsA A p) c x) h0 ha hp hP hs hA hpp
  exact ⟨S1, qX7_putCell_0 h0 ⟨_, _, cells_ok h0 hs hA hpp, _, _, g1, rfl⟩, r1, f1⟩
theorem drop_ok (h0 : sState SH a) (hs : stateR S a A) (hA : wfA P A) {p : Int} (hpp : 0 ≤ p ∧ p < 48) {u : Option Value} : ∃ S', G sc MX7_dropPage 0 [some (.ref a), some (.int (I p)), u] [] SH S (rI (dropA A p).1 SH S') ∧ stateR S' a (dropA A p).2 ∧ (∀ j, j < a ∨ a + 20 ≤ j → S' j = S j) := by
  have b1 := hA.1.2.2 p
  have e1 := hs.1.1 p hpp.1 hpp.2
  unfold dropA
  by_cases e : A.w p = -1
  · rw [if_pos e]
    refine ⟨S, qX7_dropPage_0 h0 ?_, hs, fun _ _ => rfl⟩
    rw [e1, e]
    simp (disch := omega) only [iL, iE, iQ, ipos, ineg, an, if_true, if_false]
  · rw [if_neg e]
    obtain ⟨S1, g1, r1, f1⟩ := unlie_ok (sc := sc) h0 hs hA.1 hpp e
    have hw1 : wfR (unlie A p).L (unlie A p).w := wf_rem hA.1 rfl
    obtain ⟨b2, b3⟩ := wf_hd hw1 (A.w p)
    have e2 := r1.1.2.1 (A.w p) (by omega) (by omega)
    by_cases e3 : (unlie A p).L (A.w p) = []
    · rw [if_pos e3]
      obtain ⟨S2, g2, r2, f2⟩ := leaveK_ok (sc := sc) (u := none) h0 r1 hA.2.1 hA.2.2.1 (f := A.w p) ⟨by omega, by omega⟩
      refine ⟨S2, qX7_dropPage_0 h0 ?_, r2, fun j hj => by rw [f2 j hj, f1 j hj]⟩
      rw [e1]
      simp (disch := omega) only [iL, iE, iQ, ipos, ineg, an, if_true, if_false]
      refine ⟨_, g1, ?_⟩
      rw [e2]
      simp (disch := omega) only [iL, iE, iQ, ipos, ineg, an, if_true, if_false]
      rw [if_pos (b3.mpr e3)]
      exact ⟨_, g2, rfl⟩
    · rw [if_neg e3]
      refine ⟨S1, qX7_dropPage_0 h0 ?_, r1, f1⟩
      rw [e1]
      simp (disch := omega) only [iL, iE, iQ, ipos, ineg, an, if_true, if_false]
      refine ⟨_, g1, ?_⟩
      rw [e2]
      simp (disch := omega) only [iL, iE, iQ, ipos, ineg, an, if_true, if_false]
      rw [if_neg (fun q => e3 (b3.mp q))]
      trivial
end
