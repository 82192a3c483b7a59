/-! ===== the class's State: parts of a scan ===== -/
/-- of frames with room the fullest, of like ones the first -/
def roomL (sh : Int) (len : Int → Int) : List Int → Int → Int → Int
  | [], best, _ => best
  | f :: t, best, most => if len f < sh ∧ most < len f then roomL sh len t f (len f) else roomL sh len t best most
def roomA (P : aP) (A : aS) (k : Int) : Int := if k = -1 then -1 else roomL (P 0 1) (fun f => ((A.L f).length : Int)) (A.C k) (-1) 0
def freeKn (A : aS) : Int := if fnd (fun k => decide (A.C k = [])) 47 0 = -1 then 47 else fnd (fun k => decide (A.C k = [])) 47 0
def sumA (x : Int) : Int := (((343 * nb x 12) + (49 * nb x 8)) + (7 * nb x 4)) + nb x 0 - idv ((((343 * nb x 12) + (49 * nb x 8)) + (7 * nb x 4)) + nb x 0) 64 * 64
def advF (P : aP) (A : aS) (p : Int) : Int := fnd (fun p => decide (A.v 1 p = 1)) (P 0 7 - p).toNat p
def restA (age : Int) : Int := if I 5 ≤ I age then (if I 8 ≤ I age then 4 else 2) else (if I 3 ≤ I age then 1 else 0)
/-- the rate behind a round -/
def rateA (P : aP) (A : aS) : Int := if I (4 * A.v 6 10) < I (A.v 6 11) then (if I (A.v 6 10) = I 0 then (if A.v 6 0 / 2 ≤ P 0 2 then P 0 2 else A.v 6 0 / 2) else A.v 6 0) else (if P 0 3 ≤ 2 * A.v 6 0 then P 0 3 else 2 * A.v 6 0)
def endA (P : aP) (A : aS) : aS := (((((A.stw (fun _ => .leaf ())).sv 6 0 (rateA P A)).sv 6 10 0).sv 6 11 0).sv 6 9 0).sv 6 1 (A.v 6 1 + 1)
section
variable {sc : Nat × (Nat → Int32)} {SH : List mCell} {S : mStore} {a : Nat} {P : aP} {A : aS}
theorem realm_ok (h0 : sPlan SH a) (hp : planR S a P) (hP : wfP P) {p : Int} (hpp : 0 ≤ p ∧ p < P 0 7) : G sc MX5_realmOf 0 [some (.ref a), some (.int (I p))] [] SH S (rI (rlm P p) SH S) := by
  refine qX5_realmOf_0 h0 ?_
  have hP7 := hP.2.2.2.2.2.1
  have hP6 := hP.2.2.2.2.1
  have hg := hP.2.2.2.2.2.2.2 p hpp.1 hpp.2
  have e7 := hp.1 7 (by omega) (by omega)
  rw [e7, hp.2.2.2.2 p (by omega) (by omega)]
  simp (disch := omega) only [iL, iE, iQ, ipos, ineg, an, if_true, if_false]
  rw [hp.2.2.1 _ (by omega) (by omega)]
  rfl
theorem rlm_rg (hP : wfP P) {p : Int} (hpp : 0 ≤ p ∧ p < P 0 7) : 0 ≤ rlm P p ∧ rlm P p < 3 := by
  have hg := hP.2.2.2.2.2.2.2 p hpp.1 hpp.2
  exact (hP.2.2.2.2.2.2.1 _ hg.1 hg.2.1).2.1
theorem room_lp (h0 : sState SH a) (hp : planR S 1 P) (hP : wfP P) (hs : stateR S a A) (hA : wfA P A) {k : Int} : ∀ (t : List Int) (best most n : Int) {u : Option Value}, lk (S (a + 7)) t → (∀ f ∈ t, 0 ≤ f ∧ f < 48) → 0 ≤ n → n + t.length ≤ 48 → 0 ≤ most → most ≤ 48 → G sc MX7_roomIn 25 [some (.ref a), some (.int (I k)), some (.int (I best)), some (.int (I most)), some (.int (I (hd t))), some (.int (I n)), u] [] SH S (rI (roomL (P 0 1) (fun f => ((A.L f).length : Int)) t best most) SH S)
  | [], best, most, n, u, _, _, hn, hn2, hm, hm2 => by
    refine qX7_roomIn_25 h0 ?_
    simp only [hd, roomL]
    simp (disch := omega) only [iL, iE, iQ, ipos, ineg, an, if_true, if_false, ite_self]
  | f :: t, best, most, n, u, hl, hb, hn, hn2, hm, hm2 => by
    refine qX7_roomIn_25 h0 ?_
    have hf := hb f (List.mem_cons_self ..)
    have hlen := wf_len hA.1 f
    have e1 := hp.1 1 (by omega) (by omega)
    have hP1 := hP.2.1
    rw [List.length_cons] at hn2
    simp only [hd]
    simp (disch := omega) only [iL, iE, iQ, ipos, ineg, an, if_true, if_false]
    refine ⟨_, _, rsize_ok h0.2.1 hA.1 hs.1 (row := f) hf, ?_⟩
    rw [e1]
    simp (disch := omega) only [iL, iE, iQ, ipos, ineg, an, if_true, if_false]
    rw [hl.1]
    have hr : ∀ best most : Int, 0 ≤ most → most ≤ 48 → G sc MX7_roomIn 25 [some (.ref a), some (.int (I k)), some (.int (I best)), some (.int (I most)), some (.int (I (hd t))), some (.int (I (n + 1))), some (.int (I (A.L f).length))] [] SH S (rI (roomL (P 0 1) (fun f => ((A.L f).length : Int)) t best most) SH S) := fun best most q1 q2 => room_lp h0 hp hP hs hA t best most (n + 1) hl.2 (fun g hg => hb g (List.mem_cons_of_mem _ hg)) (by omega) (by omega) q1 q2
    unfold roomL
    by_cases c1 : P 0 1 ≤ ((A.L f).length : Int)
    · rw [if_pos c1, if_neg (by omega)]
      exact hr best most hm hm2
    · rw [if_neg c1]
      by_cases c2 : ((A.L f).length : Int) ≤ most
      · rw [if_pos c2, if_neg (by omega)]
        exact hr best most hm hm2
      · rw [if_neg c2, if_pos (by omega)]
        exact hr f _ (by omega) (by omega)
theorem room_ok (h0 : sState SH a) (hp : planR S 1 P) (hP : wfP P) (hs : stateR S a A) (hA : wfA P A) {k : Int} (hk : -1 ≤ k ∧ k < 48) {u u' u2 u3 u4 : Option Value} : G sc MX7_roomIn 0 [some (.ref a), some (.int (I k)), u, u', u2, u3, u4] [] SH S (rI (roomA P A k) SH S) := by
  refine qX7_roomIn_0 h0 ?_
  unfold roomA
  simp (disch := omega) only [iL, iE, iQ, ipos, ineg, an, if_true, if_false]
  by_cases e : k = -1
  · rw [if_pos e]
    trivial
  · rw [if_neg e, hs.2.1.2.1 k (by omega) (by omega)]
    exact room_lp h0 hp hP hs hA (A.C k) (-1) 0 0 (hs.2.1.2.2 k) (fun f hf => wf_bd hA.2.1 hf) (by omega) (by have := wf_len hA.2.1 k; omega) (by omega) (by omega)
theorem fkn_ok (h0 : sState SH a) (hs : stateR S a A) (hA : wfA P A) {u : Option Value} : G sc MX7_freeKnot 0 [some (.ref a), u] [] SH S (rI (freeKn A) SH S) := by
  refine qX7_freeKnot_0 h0 ?_
  exact fnd_go (q := fun k => decide (A.C k = [])) (F := fun res i => G sc MX7_freeKnot 2 [some (.ref a), some (.int (I i))] [] SH S (rI (if res = -1 then 47 else res) SH S)) (lo := 0) (hi := 47)
    (fun i h1 h2 hq => by
      refine qX7_freeKnot_2 h0 ?_
      obtain ⟨b1, b2⟩ := wf_hd hA.2.1 i
      rw [hs.2.1.2.1 i (by omega) (by omega), show (if i = -1 then (47 : Int) else i) = i from if_neg (by omega)]
      simp (disch := omega) only [iL, iE, iQ, ipos, ineg, an, if_true, if_false]
      rw [if_pos (b2.mpr (by simpa using hq))]
      trivial)
    (fun res i h1 h2 hq hn => by
      refine qX7_freeKnot_2 h0 ?_
      obtain ⟨b1, b2⟩ := wf_hd hA.2.1 i
      rw [hs.2.1.2.1 i (by omega) (by omega)]
      simp (disch := omega) only [iL, iE, iQ, ipos, ineg, an, if_true, if_false]
      rw [if_neg (fun q => by simp [b2.mp q] at hq)]
      exact hn)
    (by
      refine qX7_freeKnot_2 h0 ?_
      rw [if_pos rfl]
      simp (disch := omega) only [iL, iE, iQ, ipos, ineg, an, if_true, if_false])
    47 0 (by omega) (by omega)
theorem sum_ok {x : Int} : G sc MX7_sumOf 0 [some (.int (I x))] [] SH S (rI (sumA x) SH S) := by
  refine qX7_sumOf_0 ⟨_, _, qX10_cellOf_0 rfl, _, _, qX10_cellOf_0 rfl, _, _, qX10_cellOf_0 rfl, _, _, qX10_cellOf_0 rfl, ?_⟩
  rfl
theorem advF_ok (h0 : sState SH a) (hp : planR S 1 P) (hP : wfP P) (hs : stateR S a A) (hA : wfA P A) {p : Int} (hpp : 0 ≤ p ∧ p ≤ 48) {u : Option Value} : G sc MX7_advisedFrom 0 [some (.ref a), some (.int (I p)), u] [] SH S (rI (advF P A p) SH S) := by
  refine qX7_advisedFrom_0 h0 ?_
  have hP7 := hP.2.2.2.2.2.1
  have e7 := hp.1 7 (by omega) (by omega)
  unfold advF
  by_cases hlt : p < P 0 7
  · exact fnd_go (q := fun p => decide (A.v 1 p = 1)) (F := fun res i => G sc MX7_advisedFrom 2 [some (.ref a), some (.int (I p)), some (.int (I i))] [] SH S (rI res SH S)) (lo := p) (hi := P 0 7)
      (fun i h1 h2 hq => by
        refine qX7_advisedFrom_2 h0 ?_
        have b1 := hA.2.2.2.2.2.2.2.2.2.2.2.1 i
        rw [e7, hs.2.2.2.2.2.1 i (by omega) (by omega)]
        simp (disch := omega) only [iL, iE, iQ, ipos, ineg, an, if_true, if_false]
        rw [if_pos (by simpa using hq)]
        trivial)
      (fun res i h1 h2 hq hn => by
        refine qX7_advisedFrom_2 h0 ?_
        have b1 := hA.2.2.2.2.2.2.2.2.2.2.2.1 i
        rw [e7, hs.2.2.2.2.2.1 i (by omega) (by omega)]
        simp (disch := omega) only [iL, iE, iQ, ipos, ineg, an, if_true, if_false]
        rw [if_neg (by simpa using hq)]
        exact hn)
      (by
        refine qX7_advisedFrom_2 h0 ?_
        rw [e7]
        simp (disch := omega) only [iL, iE, iQ, ipos, ineg, an, if_true, if_false])
      (P 0 7 - p).toNat p (by omega) (by omega)
  · have e : (P 0 7 - p).toNat = 0 := by omega
    rw [e]
    refine qX7_advisedFrom_2 h0 ?_
    rw [e7]
    simp (disch := omega) only [iL, iE, iQ, ipos, ineg, an, if_true, if_false]
    rfl
theorem rest_ok {x : Int} : G sc MX7_restAt 0 [some (.int (I x))] [] SH S (rI (restA x) SH S) := by
  refine qX7_restAt_0 ?_
  unfold restA
  split
  · split <;> rfl
  · split <;> rfl
theorem rateA_rg (hP : wfP P) (hA : wfA P A) : 1 ≤ rateA P A ∧ rateA P A ≤ 16 := by
  have h1 := hP.2.2.1
  have h2 := hA.2.2.2.2.2.2.2.2.2.2.2.2.1
  unfold rateA
  split
  · split
    · split <;> omega
    · omega
  · split <;> omega
theorem end_ok (h0 : sState SH a) (ha : 6 ≤ a) (hp : planR S 1 P) (hP : wfP P) (hs : stateR S a A) (hA : wfA P A) {u : Option Value} : ∃ S', G sc MX7_endRound 0 [some (.ref a), u] [] SH S (rV SH S') ∧ stateR S' a (endA P A) ∧ (∀ j, j < a ∨ a + 20 ≤ j → S' j = S j) := by
  obtain ⟨S1, g1, r1, f1⟩ := tclr_ok (sc := sc) (S := S) h0.2.2.2.2.1
  have s1 := stateR_tw hs r1 f1
  have hP2 := hP.2.2.1
  have h6 := hA.2.2.2.2.2.2.2.2.2.2.2.2.1
  have e0 : S1 (a + 19) 0 = A.v 6 0 := s1.2.2.2.2.2.2.2.2.2.2 0 (by omega) (by omega)
  have e10 : S1 (a + 19) 10 = A.v 6 10 := s1.2.2.2.2.2.2.2.2.2.2 10 (by omega) (by omega)
  have e11 : S1 (a + 19) 11 = A.v 6 11 := s1.2.2.2.2.2.2.2.2.2.2 11 (by omega) (by omega)
  have e1 : S1 (a + 19) 1 = A.v 6 1 := s1.2.2.2.2.2.2.2.2.2.2 1 (by omega) (by omega)
  have p2 : S1 1 2 = P 0 2 := by rw [f1 1 (by omega)]; exact hp.1 2 (by omega) (by omega)
  have p3 : S1 1 3 = P 0 3 := by rw [f1 1 (by omega)]; exact hp.1 3 (by omega) (by omega)
  have fin := stateR_v6 (stateR_v6 (stateR_v6 (stateR_v6 (stateR_v6 s1 0 (rateA P A)) 10 0) 11 0) 9 0) 1 (A.v 6 1 + 1)
  have hend : ∀ x : Int, G sc MX7_endRound 110 [some (.ref a), some (.int (I x))] [] SH (up S1 (a + 19) 0 (rateA P A)) (rV SH (up (up (up (up (up S1 (a + 19) 0 (rateA P A)) (a + 19) 10 0) (a + 19) 11 0) (a + 19) 9 0) (a + 19) 1 (A.v 6 1 + 1))) := by
    intro x
    refine qX7_endRound_110 h0 ?_
    have e : up (up (up (up S1 (a + 19) 0 (rateA P A)) (a + 19) 10 0) (a + 19) 11 0) (a + 19) 9 0 (a + 19) 1 = A.v 6 1 := by
      rw [up_at, if_neg (by decide), up_at, if_neg (by decide), up_at, if_neg (by decide), up_at, if_neg (by decide), e1]
    rw [e]
    simp (disch := omega) only [an]
  refine ⟨_, qX7_endRound_0 h0 ⟨S1, g1, ?_⟩, fin, fun j hj => by rw [up_ne (by omega), up_ne (by omega), up_ne (by omega), up_ne (by omega), up_ne (by omega), f1 j (by omega)]⟩
  rw [e0, e10, e11, p2, p3]
  have ha0 : up S1 (a + 19) 0 (A.v 6 0) = S1 := up_self e0
  unfold rateA at hend ⊢
  by_cases c1 : I (4 * A.v 6 10) < I (A.v 6 11)
  · rw [if_pos c1] at hend ⊢
    by_cases c2 : I (A.v 6 10) = I 0
    · rw [if_pos c2] at hend ⊢
      simp (disch := omega) only [idv2, iL, iE, iQ, an, if_pos c1, if_pos c2]
      by_cases c3 : A.v 6 0 / 2 ≤ P 0 2
      · rw [if_pos c3] at hend ⊢
        rw [if_pos c3]
        exact hend _
      · rw [if_neg c3] at hend ⊢
        rw [if_neg c3]
        exact hend _
    · rw [if_neg c2] at hend ⊢
      simp (disch := omega) only [an, if_pos c1, if_neg c2]
      rw [ha0] at hend ⊢
      exact hend _
  · rw [if_neg c1] at hend ⊢
    simp (disch := omega) only [iL, iE, iQ, an, if_neg c1]
    by_cases c3 : P 0 3 ≤ 2 * A.v 6 0
    · rw [if_pos c3] at hend ⊢
      rw [if_pos c3]
      exact hend _
    · rw [if_neg c3] at hend ⊢
      rw [if_neg c3]
      exact hend _
end
