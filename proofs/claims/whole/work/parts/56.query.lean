/-! ===== the class's State: what it tells ===== -/
def usedA (P : aP) (A : aS) : Int := cnt (fun f => decide (A.L f ≠ [])) (P 0 0).toNat 0
def mergedFr (P : aP) (A : aS) : Int := cnt (fun f => decide (A.k f ≠ -1)) (P 0 0).toNat 0
def mrg (A : aS) (p : Int) : Bool := decide (A.w p ≠ -1 ∧ A.k (A.w p) ≠ -1)
def mergedPg (A : aS) (p : Int) (n : Nat) : Int := cnt (mrg A) n p
def absentPg (A : aS) (p : Int) (n : Nat) : Int := cnt (fun p => decide (A.w p = -1)) n p
def advisedPg (A : aS) (p : Int) (n : Nat) : Int := cnt (fun p => decide (A.v 1 p = 1)) n p
def cellsA (A : aS) (p : Int) : Int := if A.w p = -1 then 0 else A.v 0 (A.w p)
def freeA (P : aP) (A : aS) : Int := fnd (fun f => decide (A.L f = [])) (P 0 0).toNat 0
theorem wf_hd {L : Int → List Int} {w : Int → Int} (h : wfR L w) (r : Int) : (-1 ≤ hd (L r) ∧ hd (L r) < 48) ∧ (hd (L r) = -1 ↔ L r = []) := by
  cases e : L r with
  | nil => exact ⟨⟨Int.le_refl _, by decide⟩, fun _ => rfl, fun _ => rfl⟩
  | cons x t =>
    have := wf_bd h (r := r) (x := x) (by rw [e]; exact List.mem_cons_self ..)
    refine ⟨⟨by show -1 ≤ x; omega, this.2⟩, fun q => ?_, fun q => by cases q⟩
    have q : x = -1 := q
    omega
theorem cellsA_rg {P : aP} {A : aS} (hA : wfA P A) (p : Int) : 0 ≤ cellsA A p ∧ cellsA A p < 65536 := by
  unfold cellsA
  split
  · omega
  · exact hA.2.2.2.2.2.2.2.2.2.2.1 _
section
variable {sc : Nat × (Nat → Int32)} {SH : List mCell} {S : mStore} {a : Nat} {P : aP} {A : aS}
theorem used_ok (h0 : sState SH a) (hp : planR S 1 P) (hP : wfP P) (hs : stateR S a A) (hA : wfA P A) {u u' : Option Value} : G sc MX7_used 0 [some (.ref a), u, u'] [] SH S (rI (usedA P A) SH S) := by
  refine qX7_used_0 h0 ?_
  have hf := hP.1
  have e0 := hp.1 0 (by omega) (by omega)
  have q := cnt_go (q := fun f => decide (A.L f ≠ [])) (F := fun res m i => G sc MX7_used 4 [some (.ref a), some (.int (I m)), some (.int (I i))] [] SH S (rI res SH S)) (lo := 0) (hi := P 0 0)
    (fun res m i h1 h2 h3 h4 hn => by
      refine qX7_used_4 h0 ?_
      obtain ⟨b1, b2⟩ := wf_hd hA.1 i
      rw [e0, hs.1.2.1 i (by omega) (by omega)]
      simp (disch := omega) only [iL, iE, iQ, ipos, ineg, an, if_true, if_false]
      by_cases e : A.L i = []
      · rw [if_pos (b2.mpr e)]
        simpa [e] using hn
      · rw [if_neg (fun q => e (b2.mp q))]
        simpa [e] using hn)
    (fun m h1 h2 => by
      refine qX7_used_4 h0 ?_
      rw [e0]
      simp (disch := omega) only [iL, iE, iQ, ipos, ineg, an, if_true, if_false])
    (P 0 0).toNat 0 0 (by omega) (by omega) (by omega) (by omega)
  rw [Int.zero_add] at q
  exact q
theorem usedA_rg (hP : wfP P) : 0 ≤ usedA P A ∧ usedA P A ≤ P 0 0 := by
  have := cnt_rg (fun f => decide (A.L f ≠ [])) (P 0 0).toNat 0
  have := hP.1
  unfold usedA
  omega
theorem mfr_ok (h0 : sState SH a) (hp : planR S 1 P) (hP : wfP P) (hs : stateR S a A) (hA : wfA P A) {u u' : Option Value} : G sc MX7_mergedFrames 0 [some (.ref a), u, u'] [] SH S (rI (mergedFr P A) SH S) := by
  refine qX7_mergedFrames_0 h0 ?_
  have hf := hP.1
  have e0 := hp.1 0 (by omega) (by omega)
  have q := cnt_go (q := fun f => decide (A.k f ≠ -1)) (F := fun res m i => G sc MX7_mergedFrames 4 [some (.ref a), some (.int (I m)), some (.int (I i))] [] SH S (rI res SH S)) (lo := 0) (hi := P 0 0)
    (fun res m i h1 h2 h3 h4 hn => by
      refine qX7_mergedFrames_4 h0 ?_
      have b1 := hA.2.1.2.2 i
      rw [e0, hs.2.1.1 i (by omega) (by omega)]
      simp (disch := omega) only [iL, iE, iQ, ipos, ineg, an, if_true, if_false]
      by_cases e : A.k i = -1
      · rw [if_pos e]
        simpa [e] using hn
      · rw [if_neg e]
        simpa [e] using hn)
    (fun m h1 h2 => by
      refine qX7_mergedFrames_4 h0 ?_
      rw [e0]
      simp (disch := omega) only [iL, iE, iQ, ipos, ineg, an, if_true, if_false])
    (P 0 0).toNat 0 0 (by omega) (by omega) (by omega) (by omega)
  rw [Int.zero_add] at q
  exact q
theorem isM_ok (h0 : sState SH a) (hs : stateR S a A) (hA : wfA P A) {p : Int} (hpp : 0 ≤ p ∧ p < 48) {u : Option Value} : G sc MX7_isMerged 0 [some (.ref a), some (.int (I p)), u] [] SH S (rI (if mrg A p = true then 1 else 0) SH S) := by
  refine qX7_isMerged_0 h0 ?_
  have b1 := hA.1.2.2 p
  rw [hs.1.1 p hpp.1 hpp.2]
  simp (disch := omega) only [iL, iE, iQ, ipos, ineg, an, if_true, if_false]
  unfold mrg
  by_cases e : A.w p = -1
  · rw [if_pos e]
    simp [e]
  · have b2 := hA.2.1.2.2 (A.w p)
    rw [if_neg e, hs.2.1.1 (A.w p) (by omega) (by omega)]
    simp (disch := omega) only [iL, iE, iQ, ipos, ineg, an, if_true, if_false]
    by_cases e2 : A.k (A.w p) = -1
    · simp [e2]
    · simp [e, e2]
theorem mpg_ok (h0 : sState SH a) (hs : stateR S a A) (hA : wfA P A) {lo : Int} {n : Nat} (h1 : 0 ≤ lo) (h2 : lo + n ≤ 48) {u u' : Option Value} : G sc MX7_mergedPages 0 [some (.ref a), some (.int (I lo)), some (.int (I (lo + n))), u, u'] [] SH S (rI (mergedPg A lo n) SH S) := by
  refine qX7_mergedPages_0 h0 ?_
  have q := cnt_go (q := mrg A) (F := fun res m i => G sc MX7_mergedPages 5 [some (.ref a), some (.int (I lo)), some (.int (I (lo + n))), some (.int (I m)), some (.int (I i))] [] SH S (rI res SH S)) (lo := lo) (hi := lo + n)
    (fun res m i h1 h2 h3 h4 hn => by
      refine qX7_mergedPages_5 h0 ?_
      simp (disch := omega) only [iL, iE, iQ, ipos, ineg, an, if_true, if_false]
      refine ⟨_, _, isM_ok h0 hs hA ⟨by omega, by omega⟩, ?_⟩
      cases e : mrg A i
      · rw [e] at hn
        simpa using hn
      · rw [e] at hn
        simp (disch := omega) only [iL, iE, iQ, ipos, ineg, an, if_true, if_false]
        simpa using hn)
    (fun m h1 h2 => by
      refine qX7_mergedPages_5 h0 ?_
      simp (disch := omega) only [iL, iE, iQ, ipos, ineg, an, if_true, if_false])
    n 0 lo (by omega) (by omega) (by omega) (by omega)
  rw [Int.zero_add] at q
  exact q
theorem apg_ok (h0 : sState SH a) (hs : stateR S a A) (hA : wfA P A) {lo : Int} {n : Nat} (h1 : 0 ≤ lo) (h2 : lo + n ≤ 48) {u u' : Option Value} : G sc MX7_absentPages 0 [some (.ref a), some (.int (I lo)), some (.int (I (lo + n))), u, u'] [] SH S (rI (absentPg A lo n) SH S) := by
  refine qX7_absentPages_0 h0 ?_
  have q := cnt_go (q := fun p => decide (A.w p = -1)) (F := fun res m i => G sc MX7_absentPages 5 [some (.ref a), some (.int (I lo)), some (.int (I (lo + n))), some (.int (I m)), some (.int (I i))] [] SH S (rI res SH S)) (lo := lo) (hi := lo + n)
    (fun res m i h1 h2 h3 h4 hn => by
      refine qX7_absentPages_5 h0 ?_
      have b1 := hA.1.2.2 i
      rw [hs.1.1 i (by omega) (by omega)]
      simp (disch := omega) only [iL, iE, iQ, ipos, ineg, an, if_true, if_false]
      by_cases e : A.w i = -1
      · rw [if_pos e]
        simpa [e] using hn
      · rw [if_neg e]
        simpa [e] using hn)
    (fun m h1 h2 => by
      refine qX7_absentPages_5 h0 ?_
      simp (disch := omega) only [iL, iE, iQ, ipos, ineg, an, if_true, if_false])
    n 0 lo (by omega) (by omega) (by omega) (by omega)
  rw [Int.zero_add] at q
  exact q
theorem dpg_ok (h0 : sState SH a) (hs : stateR S a A) (hA : wfA P A) {lo : Int} {n : Nat} (h1 : 0 ≤ lo) (h2 : lo + n ≤ 48) {u u' : Option Value} : G sc MX7_advisedPages 0 [some (.ref a), some (.int (I lo)), some (.int (I (lo + n))), u, u'] [] SH S (rI (advisedPg A lo n) SH S) := by
  refine qX7_advisedPages_0 h0 ?_
  have q := cnt_go (q := fun p => decide (A.v 1 p = 1)) (F := fun res m i => G sc MX7_advisedPages 5 [some (.ref a), some (.int (I lo)), some (.int (I (lo + n))), some (.int (I m)), some (.int (I i))] [] SH S (rI res SH S)) (lo := lo) (hi := lo + n)
    (fun res m i h1 h2 h3 h4 hn => by
      refine qX7_advisedPages_5 h0 ?_
      have b1 := hA.2.2.2.2.2.2.2.2.2.2.2.1 i
      rw [hs.2.2.2.2.2.1 i (by omega) (by omega)]
      simp (disch := omega) only [iL, iE, iQ, ipos, ineg, an, if_true, if_false]
      by_cases e : A.v 1 i = 1
      · rw [if_pos e]
        simpa [e] using hn
      · rw [if_neg e]
        simpa [e] using hn)
    (fun m h1 h2 => by
      refine qX7_advisedPages_5 h0 ?_
      simp (disch := omega) only [iL, iE, iQ, ipos, ineg, an, if_true, if_false])
    n 0 lo (by omega) (by omega) (by omega) (by omega)
  rw [Int.zero_add] at q
  exact q
theorem cells_ok (h0 : sState SH a) (hs : stateR S a A) (hA : wfA P A) {p : Int} (hpp : 0 ≤ p ∧ p < 48) {u : Option Value} : G sc MX7_cellsAt 0 [some (.ref a), some (.int (I p)), u] [] SH S (rI (cellsA A p) SH S) := by
  refine qX7_cellsAt_0 h0 ?_
  have b1 := hA.1.2.2 p
  rw [hs.1.1 p hpp.1 hpp.2]
  simp (disch := omega) only [iL, iE, iQ, ipos, ineg, an, if_true, if_false]
  unfold cellsA
  by_cases e : A.w p = -1
  · rw [if_pos e, if_pos e]
  · rw [if_neg e, if_neg e, hs.2.2.2.2.1 _ (by omega) (by omega)]
theorem free_ok (h0 : sState SH a) (hp : planR S 1 P) (hP : wfP P) (hs : stateR S a A) (hA : wfA P A) {u : Option Value} : G sc MX7_freeFrame 0 [some (.ref a), u] [] SH S (rI (freeA P A) SH S) := by
  refine qX7_freeFrame_0 h0 ?_
  have hf := hP.1
  have e0 := hp.1 0 (by omega) (by omega)
  exact fnd_go (q := fun f => decide (A.L f = [])) (F := fun res i => G sc MX7_freeFrame 2 [some (.ref a), some (.int (I i))] [] SH S (rI res SH S)) (lo := 0) (hi := P 0 0)
    (fun i h1 h2 hq => by
      refine qX7_freeFrame_2 h0 ?_
      obtain ⟨b1, b2⟩ := wf_hd hA.1 i
      rw [e0, hs.1.2.1 i (by omega) (by omega)]
      simp (disch := omega) only [iL, iE, iQ, ipos, ineg, an, if_true, if_false]
      rw [if_pos (b2.mpr (by simpa using hq))]
      trivial)
    (fun res i h1 h2 hq hn => by
      refine qX7_freeFrame_2 h0 ?_
      obtain ⟨b1, b2⟩ := wf_hd hA.1 i
      rw [e0, hs.1.2.1 i (by omega) (by omega)]
      simp (disch := omega) only [iL, iE, iQ, ipos, ineg, an, if_true, if_false]
      rw [if_neg (fun q => by simp [b2.mp q] at hq)]
      exact hn)
    (by
      refine qX7_freeFrame_2 h0 ?_
      rw [e0]
      simp (disch := omega) only [iL, iE, iQ, ipos, ineg, an, if_true, if_false])
    (P 0 0).toNat 0 (by omega) (by omega)
end
