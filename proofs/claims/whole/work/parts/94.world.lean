/-! ===== the abstract world; what the class and what the reference hold of it ===== -/
def plc (P : aP) (g p : Int) : Int := if (0 ≤ g ∧ g < P 0 6) ∧ (0 ≤ p ∧ p < P 1 g) then P 3 g + p else -1
def lab (P : aP) (p : Int) : Int := 12 * P 4 p + p - P 3 (P 4 p)
/-- plan, book, image, and: the tape (0), what is fed and the fault's place (1) -/
abbrev aW : Type := aP × aB × Option aB × mStore
/-- a byte as the class holds it -/
def sby (x : Int) : Int := if x < 128 then x else x - 256
def okT (A : aS) : Prop := 0 ≤ A.v 6 2 ∧ A.v 6 2 ≤ 9999
def wfW (W : aW) : Prop := wfP W.1 ∧ wfB W.1 W.2.1 ∧ (okT W.2.1.1 ∧ ∀ A, A ∈ W.2.1.2.1 → okT A) ∧ (∀ B, W.2.2.1 = some B → wfB W.1 B ∧ okT B.1 ∧ ∀ A, A ∈ B.2.1 → okT A) ∧ (0 ≤ W.2.2.2 1 0 ∧ W.2.2.2 1 0 ≤ 700) ∧ (∀ i, 0 ≤ W.2.2.2 0 i ∧ W.2.2.2 0 i < 256)
def clR (SH : List mCell) (F : Nat → Nat → Option Nat) (e : Nat) (S : mStore) (W : aW) : Prop := shR SH F e ∧ planR S 1 W.1 ∧ bkR S F 13 0 W.2.1 ∧ ((W.2.2.1 = none → S 0 11 = 0) ∧ ∀ B, W.2.2.1 = some B → S 0 11 = 1 ∧ bkR S F 39 1 B) ∧ (∀ i, 0 ≤ i → i < W.2.2.2 1 0 → S 12 i = sby (W.2.2.2 0 i)) ∧ S 11 1 = W.2.2.2 1 0 ∧ S 0 12 = W.2.2.2 1 1
/-- a book in the reference: its state's row, its kept rows, where its numbers are -/
def mbR (S : mStore) (z y iA iF iN w r : Int) (N : Int) (B : aB) : Prop := refR S z B.1 N ∧ S 90 iA = B.2.1.length ∧ (0 ≤ S 90 iF ∧ S 90 iF < 40) ∧ (∀ (k : Nat) (A : aS), B.2.1[k]? = some A → refR S (y + 1654 * ((S 90 iF + k) % 40)) A N) ∧ S 90 iN = B.2.2.1 ∧ (∀ i, 0 ≤ i → i < B.2.2.1 → S 92 (w + i) = B.2.2.2 0 i ∧ S 93 (w + i) = B.2.2.2 1 i) ∧ (∀ i, 0 ≤ i → i < 3 → S 94 (r + i) = B.2.2.2 2 i)
def mdR (S : mStore) (N : Int) (W : aW) : Prop := modP S W.1 ∧ mbR S 0 3308 5 6 7 0 0 N W.2.1 ∧ ((W.2.2.1 = none → S 90 11 = 0) ∧ ∀ B, W.2.2.1 = some B → S 90 11 = 1 ∧ mbR S 69468 71122 8 9 10 8 3 N B) ∧ (∀ i, 0 ≤ i → i < W.2.2.2 1 0 → S 99 i = W.2.2.2 0 i) ∧ S 90 25 = W.2.2.2 1 0 ∧ S 90 26 = W.2.2.2 1 1
/-- what a call answers: a number, or which exception it throws -/
abbrev aO : Type := Int ⊕ Nat
def rO (o : aO) (SH : List mCell) (S : mStore) : mR × mW := match o with
  | .inl v => rI v SH S
  | .inr k => rX k SH S
/-- a call of the class -/
def CL (sc : Nat × (Nat → Int32)) (M : mM) (ls : List (Option Value)) (SH : List mCell) (F : Nat → Nat → Option Nat) (e : Nat) (S : mStore) (o : aO) (W : aW) : Prop := ∃ SH' F' e' S', G sc M 0 ls [] SH S (rO o SH' S') ∧ clR SH' F' e' S' W ∧ e' ≤ e + 1 ∧ (∀ j, 90 ≤ j → j ≤ 110 → S' j = S j)
/-- a call of the reference -/
def MD (sc : Nat × (Nat → Int32)) (M : mM) (ls : List (Option Value)) (SH : List mCell) (S : mStore) (N : Int) (x : Int) (o : aO) (W : aW) : Prop := ∃ v S', G sc M 0 ls [] SH S (rI v SH S') ∧ mdR S' N W ∧ (∀ y, o = .inl y → v = y ∧ S' 90 4 = 0) ∧ (∀ k, o = .inr k → S' 90 4 = (if k = 0 then 1 else x)) ∧ (∀ j, j < 90 ∨ 110 ≤ j → S' j = S j)
section
variable {sc : Nat × (Nat → Int32)} {SH : List mCell} {F : Nat → Nat → Option Nat} {S : mStore} {e : Nat} {P : aP} {W : aW}
theorem mustBe_no {x : Int} (hx : x = 0) : G sc MX10_mustBe 0 [some (.int (I x))] [] SH S (rX 0 (SH ++ [mO (12 + 0) []]) S) := by
  subst hx
  refine qX10_mustBe_0 ?_
  rw [if_pos rfl]
theorem mustBe_yes : G sc MX10_mustBe 0 [some (.int (I 1))] [] SH S (rV SH S) := by
  refine qX10_mustBe_0 ?_
  rw [if_neg (by decide)]
theorem mustFit_no : G sc MX10_mustFit 0 [some (.int (I 0))] [] SH S (rX 1 (SH ++ [mO (12 + 1) []]) S) := by
  refine qX10_mustFit_0 ?_
  rw [if_pos rfl]
theorem mustFit_yes : G sc MX10_mustFit 0 [some (.int (I 1))] [] SH S (rV SH S) := by
  refine qX10_mustFit_0 ?_
  rw [if_neg (by decide)]
theorem place_ok {a : Nat} (h0 : sPlan SH a) (hp : planR S a P) (hP : wfP P) {g p : Int} (hg : rg g) (hq : rg p) : G sc MX5_placeAt 0 [some (.ref a), some (.int (I g)), some (.int (I p))] [] SH S (rI (plc P g p) SH S) := by
  refine qX5_placeAt_0 h0 ?_
  have hP6 := hP.2.2.2.2.1
  obtain ⟨hg1, hg2⟩ := hg
  obtain ⟨hq1, hq2⟩ := hq
  rw [hp.1 6 (by omega) (by omega)]
  unfold plc
  by_cases h1 : g < 0
  · simp (disch := omega) only [iL, iE, iQ, ipos, ineg]
  by_cases h2 : P 0 6 ≤ g
  · simp (disch := omega) only [iL, iE, iQ, ipos, ineg]
  by_cases h3 : p < 0
  · simp (disch := omega) only [iL, iE, iQ, ipos, ineg]
  have hw := hP.2.2.2.2.2.2.1 g (by omega) (by omega)
  rw [hp.2.1 g (by omega) (by omega), hp.2.2.2.1 g (by omega) (by omega)]
  by_cases h4 : p < P 1 g
  · simp (disch := omega) only [iL, iE, iQ, ipos, ineg, an]
  · simp (disch := omega) only [iL, iE, iQ, ipos, ineg, an]
theorem plc_rg (hP : wfP P) {g p : Int} (h : plc P g p ≠ -1) : (0 ≤ g ∧ g < P 0 6) ∧ (0 ≤ p ∧ p < P 1 g) ∧ plc P g p = P 3 g + p ∧ 0 ≤ plc P g p ∧ plc P g p < P 0 7 := by
  unfold plc at *
  by_cases c : (0 ≤ g ∧ g < P 0 6) ∧ (0 ≤ p ∧ p < P 1 g)
  · rw [if_pos c]
    have := hP.2.2.2.2.2.2.1 g c.1.1 c.1.2
    exact ⟨c.1, c.2, rfl, by omega, by omega⟩
  · rw [if_neg c] at h; exact absurd rfl h
theorem label_ok {a : Nat} (h0 : sPlan SH a) (hp : planR S a P) (hP : wfP P) {p : Int} (hq : 0 ≤ p ∧ p < P 0 7) {u : Option Value} : G sc MX5_labelOf 0 [some (.ref a), some (.int (I p)), u] [] SH S (rI (lab P p) SH S) := by
  refine qX5_labelOf_0 h0 ?_
  have hP6 := hP.2.2.2.2.1
  have hP7 := hP.2.2.2.2.2.1
  have hw := hP.2.2.2.2.2.2.2 p hq.1 hq.2
  rw [hp.1 7 (by omega) (by omega), hp.2.2.2.2 p (by omega) (by omega), hp.2.2.2.1 _ hw.1 hw.2.1]
  simp (disch := omega) only [iL, iE, iQ, ipos, ineg, an]
  rfl
theorem pl_ok (h0 : sGP SH) (hp : planR S 1 P) (hP : wfP P) {g p : Int} (hg : rg g) (hq : rg p) (hne : plc P g p ≠ -1) {u : Option Value} : G sc MX10_placeOf 0 [some (.ref 0), some (.int (I g)), some (.int (I p)), u] [] SH S (rI (plc P g p) SH S) := by
  have hP7 := hP.2.2.2.2.2.1
  have hr := plc_rg hP hne
  refine qX10_placeOf_0 h0 ⟨_, _, place_ok h0.2.2.2.1.2.2.2.2.1.2.2.2.2.2.2.2.2.2.2.2.2 hp hP hg hq, ?_⟩
  rw [if_neg (by rw [I_eq ⟨by omega, by omega⟩ ⟨by omega, by omega⟩]; exact hne)]
  exact .inl ⟨_, mustBe_yes, rfl⟩
theorem pl_no (h0 : sGP SH) (hp : planR S 1 P) (hP : wfP P) {g p : Int} (hg : rg g) (hq : rg p) (hne : plc P g p = -1) {u : Option Value} : G sc MX10_placeOf 0 [some (.ref 0), some (.int (I g)), some (.int (I p)), u] [] SH S (rX 0 (SH ++ [mO (12 + 0) []]) S) := by
  refine qX10_placeOf_0 h0 ⟨_, _, place_ok h0.2.2.2.1.2.2.2.2.1.2.2.2.2.2.2.2.2.2.2.2.2 hp hP hg hq, ?_⟩
  rw [hne, if_pos rfl]
  exact .inr ⟨_, _, _, mustBe_no rfl, rfl⟩
theorem cell_ok {x c : Int} : G sc MX10_cellOf 0 [some (.int (I x)), some (.int (I c))] [] SH S (rI (ian (isr x (12 - (4 * c))) 15) SH S) := qX10_cellOf_0 rfl
theorem mbc_ok {x : Int} (hx : 0 ≤ x ∧ x < 4) : G sc MX10_mustBeCell 0 [some (.int (I x))] [] SH S (rV SH S) := by
  refine qX10_mustBeCell_0 ?_
  simp (disch := omega) only [iL, iE, iQ, ipos, ineg]
  exact .inl ⟨_, mustBe_yes, rfl⟩
theorem mbc_no {x : Int} (hr : rg x) (hx : ¬(0 ≤ x ∧ x < 4)) : G sc MX10_mustBeCell 0 [some (.int (I x))] [] SH S (rX 0 (SH ++ [mO (12 + 0) []]) S) := by
  refine qX10_mustBeCell_0 ?_
  obtain ⟨h1, h2⟩ := hr
  by_cases h : x < 0
  · simp (disch := omega) only [iL, iE, iQ, ipos, ineg]
    exact .inr ⟨_, _, _, mustBe_no rfl, rfl⟩
  · simp (disch := omega) only [iL, iE, iQ, ipos, ineg]
    exact .inr ⟨_, _, _, mustBe_no rfl, rfl⟩
/-- nothing changes but that an exception lies at the world's end -/
theorem clR_exc (h : clR SH F e S W) {k : Nat} : clR (SH ++ [mO (12 + k) []]) F (e + 1) S W := ⟨shR_exc h.1, h.2⟩
theorem CL_exc {M : mM} {ls : List (Option Value)} {k : Nat} (h : clR SH F e S W) (g : G sc M 0 ls [] SH S (rX k (SH ++ [mO (12 + k) []]) S)) : CL sc M ls SH F e S (.inr k) W :=
  ⟨_, F, e + 1, S, g, clR_exc h, Nat.le_refl _, fun _ _ _ => rfl⟩
theorem CL_val {M : mM} {ls : List (Option Value)} {v : Int} (h : clR SH F e S W) (g : G sc M 0 ls [] SH S (rI v SH S)) : CL sc M ls SH F e S (.inl v) W :=
  ⟨SH, F, e, S, g, h, Nat.le_succ _, fun _ _ _ => rfl⟩
end
