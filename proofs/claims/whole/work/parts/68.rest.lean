/-! ===== the class's State: the ideal, risk, beginning, copies ===== -/
def likeQ (P : aP) (A : aS) (p q : Int) : Bool := decide (A.v 1 q = 1 ∧ A.w q ≠ -1 ∧ rlm P q = rlm P p ∧ cellsA A q = cellsA A p)
def likeAh (P : aP) (A : aS) (p : Int) : Int := cnt (likeQ P A p) p.toNat 0
def fewQ (P : aP) (A : aS) (p : Int) : Bool := decide (A.w p ≠ -1 ∧ (A.v 1 p = 0 ∨ (¬ (P 0 4 ≠ 0 ∧ cellsA A p = 0) ∧ likeAh P A p % P 0 1 = 0)))
def fewA (P : aP) (A : aS) : Int := cnt (fewQ P A) (P 0 7).toNat 0
def riskA (P : aP) (A : aS) : Int := if P 0 7 - usedA P A ≤ P 0 0 - usedA P A then -1 else P 0 0 - usedA P A + 1
def vnew (least : Int) : mStore := fun j i => if j = 3 then -1 else if j = 6 ∧ i = 0 then least else 0
def newA (least : Int) : aS := (fun _ => [], fun _ => -1, fun _ => [], fun _ => -1, fun _ => .leaf (), fun _ => .leaf (), vnew least)
theorem wf_new {P : aP} {m : Int} (hm : 1 ≤ m ∧ m ≤ 16) (hP : wfP P) : wfA P (newA m) := by
  have hP1 := hP.2.1
  refine ⟨wf_nil, wf_nil, wfT_nil, wfT_nil, fun p h => absurd rfl h, fun f h => absurd rfl h, fun f _ => by show ([] : List Int).length ≤ 1; simp, fun f => by show ((([] : List Int).length : Nat) : Int) ≤ _; simp; omega, fun x => ⟨fun h => absurd h List.not_mem_nil, fun h => absurd rfl h⟩, fun ρ p a b h => absurd h List.not_mem_nil, fun f => by show 0 ≤ vnew m 0 f ∧ vnew m 0 f < 65536; unfold vnew; simp, fun p => by show vnew m 1 p = 0 ∨ vnew m 1 p = 1; unfold vnew; simp, by show 1 ≤ vnew m 6 0 ∧ vnew m 6 0 ≤ 16; unfold vnew; simpa using hm, by show 0 ≤ vnew m 6 9 ∧ vnew m 6 9 ≤ 48; unfold vnew; simp⟩
section
variable {sc : Nat × (Nat → Int32)} {SH : List mCell} {S : mStore} {a : Nat} {P : aP} {A : aS}
theorem likeAh_ok (h0 : sState SH a) (hp : planR S 1 P) (hP : wfP P) (hs : stateR S a A) (hA : wfA P A) {p : Int} (hpp : 0 ≤ p ∧ p < P 0 7) {u u' : Option Value} : G sc MX7_likeAhead 0 [some (.ref a), some (.int (I p)), u, u'] [] SH S (rI (likeAh P A p) SH S) := by
  refine qX7_likeAhead_0 h0 ?_
  have hP7 := hP.2.2.2.2.2.1
  have cp := cellsA_rg hA p
  have rp := rlm_rg hP hpp
  have q := cnt_go (q := likeQ P A p) (F := fun res m i => G sc MX7_likeAhead 4 [some (.ref a), some (.int (I p)), some (.int (I m)), some (.int (I i))] [] SH S (rI res SH S)) (lo := 0) (hi := p)
    (fun res m i h1 h2 h3 h4 hn => by
      refine qX7_likeAhead_4 h0 ?_
      have b1 := hA.2.2.2.2.2.2.2.2.2.2.2.1 i
      have b2 := hA.1.2.2 i
      have ci := cellsA_rg hA i
      have ri := rlm_rg hP (p := i) ⟨h1, by omega⟩
      rw [hs.2.2.2.2.2.1 i (by omega) (by omega), hs.1.1 i (by omega) (by omega)]
      simp (disch := omega) only [iL, iE, iQ, ipos, ineg, an, if_true, if_false]
      unfold likeQ at hn
      by_cases c1 : A.v 1 i = 1
      · rw [if_pos c1]
        by_cases c2 : A.w i = -1
        · rw [if_pos c2]
          simpa [c2] using hn
        · rw [if_neg c2]
          refine ⟨_, _, realm_ok h0.2.2.2.2.2.2.2.2.2.2.2.2 hp hP ⟨h1, by omega⟩, _, _, realm_ok h0.2.2.2.2.2.2.2.2.2.2.2.2 hp hP hpp, ?_⟩
          simp (disch := omega) only [iL, iE, iQ]
          by_cases c3 : rlm P i = rlm P p
          · rw [if_pos c3]
            refine ⟨_, _, cells_ok h0 hs hA ⟨h1, by omega⟩, _, _, cells_ok h0 hs hA ⟨hpp.1, by omega⟩, ?_⟩
            simp (disch := omega) only [iL, iE, iQ]
            by_cases c4 : cellsA A i = cellsA A p
            · rw [if_pos c4]
              simpa [c1, c2, c3, c4] using hn
            · rw [if_neg c4]
              simpa [c4] using hn
          · rw [if_neg c3]
            simpa [c3] using hn
      · rw [if_neg c1]
        simpa [c1] using hn)
    (fun m h1 h2 => by
      refine qX7_likeAhead_4 h0 ?_
      simp (disch := omega) only [iL, iE, iQ, ipos, ineg, an, if_true, if_false])
    p.toNat 0 0 (by omega) (by omega) (by omega) (by omega)
  rw [Int.zero_add] at q
  exact q
theorem likeAh_rg (P : aP) (A : aS) {p : Int} (h : 0 ≤ p) : 0 ≤ likeAh P A p ∧ likeAh P A p ≤ p := by
  have := cnt_rg (likeQ P A p) p.toNat 0
  unfold likeAh
  omega
theorem few_ok (h0 : sState SH a) (hp : planR S 1 P) (hP : wfP P) (hs : stateR S a A) (hA : wfA P A) {u u' : Option Value} : G sc MX7_fewest 0 [some (.ref a), u, u'] [] SH S (rI (fewA P A) SH S) := by
  refine qX7_fewest_0 h0 ?_
  have hP7 := hP.2.2.2.2.2.1
  have hP1 := hP.2.1
  have hP4 := hP.2.2.2.1.1
  have e1 := hp.1 1 (by omega) (by omega)
  have e4 := hp.1 4 (by omega) (by omega)
  have e7 := hp.1 7 (by omega) (by omega)
  have q := cnt_go (q := fewQ P A) (F := fun res m i => G sc MX7_fewest 4 [some (.ref a), some (.int (I m)), some (.int (I i))] [] SH S (rI res SH S)) (lo := 0) (hi := P 0 7)
    (fun res m i h1 h2 h3 h4 hn => by
      refine qX7_fewest_4 h0 ?_
      have b1 := hA.2.2.2.2.2.2.2.2.2.2.2.1 i
      have b2 := hA.1.2.2 i
      have ci := cellsA_rg hA i
      have li := likeAh_rg P A (p := i) h1
      have hd1 : 0 ≤ likeAh P A i / P 0 1 := Int.ediv_nonneg li.1 (by omega)
      have hm0 := Int.emod_nonneg (likeAh P A i) (b := P 0 1) (by omega)
      have hm1 := Int.emod_lt_of_pos (likeAh P A i) (b := P 0 1) (by omega)
      have hem : likeAh P A i - likeAh P A i / P 0 1 * P 0 1 = likeAh P A i % P 0 1 := by
        rw [Int.emod_def, Int.mul_comm]
      have gl := likeAh_ok (sc := sc) h0 hp hP hs hA (p := i) ⟨h1, h2⟩ (u := none) (u' := none)
      have hI1 : I (P 0 1) ≠ I 0 := by rw [Ne, I_eq ⟨by omega, by omega⟩ ⟨by omega, by omega⟩]; omega
      rw [e1, e4, e7, hs.2.2.2.2.2.1 i (by omega) (by omega), hs.1.1 i (by omega) (by omega)]
      simp (disch := omega) only [iL, iE, iQ, ipos, ineg, an, if_true, if_false]
      unfold fewQ at hn
      by_cases c1 : A.w i = -1
      · rw [if_pos c1]
        simpa [c1] using hn
      · rw [if_neg c1]
        by_cases c2 : A.v 1 i = 0
        · rw [if_pos c2]
          simpa [c1, c2] using hn
        · rw [if_neg c2]
          have hlast : (if I (likeAh P A i - idv (likeAh P A i) (P 0 1) * P 0 1) = I 0 then G sc MX7_fewest 4 [some (.ref a), some (.int (I (m + 1))), some (.int (I (i + 1)))] [] SH S (rI res SH S) else G sc MX7_fewest 4 [some (.ref a), some (.int (I m)), some (.int (I (i + 1)))] [] SH S (rI res SH S)) = (if likeAh P A i % P 0 1 = 0 then G sc MX7_fewest 4 [some (.ref a), some (.int (I (m + 1))), some (.int (I (i + 1)))] [] SH S (rI res SH S) else G sc MX7_fewest 4 [some (.ref a), some (.int (I m)), some (.int (I (i + 1)))] [] SH S (rI res SH S)) := by
            rw [idv_nn li.1 (by omega) (by omega) (by omega), hem]
            simp (disch := omega) only [iQ]
          by_cases c3 : P 0 4 = 0
          · rw [if_pos c3]
            refine ⟨_, _, gl, ?_⟩
            rw [e1]
            refine ⟨hI1, ?_⟩
            rw [hlast]
            by_cases c5 : likeAh P A i % P 0 1 = 0
            · rw [if_pos c5]; simpa [c1, c2, c3, c5] using hn
            · rw [if_neg c5]; simpa [c1, c2, c3, c5] using hn
          · rw [if_neg c3]
            refine ⟨_, _, cells_ok h0 hs hA ⟨h1, by omega⟩, ?_⟩
            rw [e1]
            simp (disch := omega) only [iL, iE, iQ, ipos, ineg, an, if_true, if_false]
            by_cases c4 : cellsA A i = 0
            · rw [if_pos c4]; simpa [c1, c2, c3, c4] using hn
            · rw [if_neg c4]
              refine ⟨_, _, gl, ?_⟩
              rw [e1]
              refine ⟨hI1, ?_⟩
              rw [hlast]
              by_cases c5 : likeAh P A i % P 0 1 = 0
              · rw [if_pos c5]; simpa [c1, c2, c3, c4, c5] using hn
              · rw [if_neg c5]; simpa [c1, c2, c3, c4, c5] using hn)
    (fun m h1 h2 => by
      refine qX7_fewest_4 h0 ?_
      rw [e7]
      simp (disch := omega) only [iL, iE, iQ, ipos, ineg, an, if_true, if_false])
    (P 0 7).toNat 0 0 (by omega) (by omega) (by omega) (by omega)
  rw [Int.zero_add] at q
  exact q
theorem risk_ok (h0 : sState SH a) (hp : planR S 1 P) (hP : wfP P) (hs : stateR S a A) (hA : wfA P A) {u u' u'' : Option Value} : G sc MX7_risk 0 [some (.ref a), u, u', u''] [] SH S (rI (riskA P A) SH S) := by
  have hP7 := hP.2.2.2.2.2.1
  have hP0 := hP.1
  have hu := usedA_rg (A := A) hP
  refine qX7_risk_0 h0 ⟨_, _, used_ok h0 hp hP hs hA, ?_⟩
  rw [hp.1 7 (by omega) (by omega), hp.1 0 (by omega) (by omega)]
  unfold riskA
  simp (disch := omega) only [iL, iE, iQ]
  split <;> rfl
theorem time_ok (h0 : sState SH a) (hs : stateR S a A) {n : Int} : G sc MX7_hasTimeFor 0 [some (.ref a), some (.int (I n))] [] SH S (rI (if I 9999 < I (A.v 6 2 + n) then 0 else 1) SH S) := by
  refine qX7_hasTimeFor_0 h0 ?_
  have e2 : S (a + 19) 2 = A.v 6 2 := hs.2.2.2.2.2.2.2.2.2.2 2 (by decide) (by decide)
  rw [e2]
  refine ⟨by decide, ?_⟩
  split
  · exact ⟨.inl rfl, rfl⟩
  · exact ⟨.inr rfl, rfl⟩
/-- a state becomes another one -/
theorem bec_ok {a1 : Nat} (h0 : sState SH a) (h1 : sState SH a1) (hd : a + 20 ≤ a1 ∨ a1 + 20 ≤ a) (hs : stateR S a1 A) (hA : wfA P A) : ∃ S', G sc MX7_become 0 [some (.ref a), some (.ref a1)] [] SH S (rV SH S') ∧ stateR S' a A ∧ (∀ j, j < a ∨ a + 20 ≤ j → S' j = S j) := by
  obtain ⟨S1, g1, r1, f1⟩ := rbec_ok (sc := sc) h0.2.1 h1.2.1 ⟨by omega, by omega, by omega⟩ ⟨by omega, by omega, by omega⟩ hA.1 hs.1
  have s1 : stateR S1 a1 A := stateR_far hs (fun j a b => f1 j (by omega) (by omega) (by omega))
  obtain ⟨S2, g2, r2, f2⟩ := rbec_ok (sc := sc) h0.2.2.1 h1.2.2.1 ⟨by omega, by omega, by omega⟩ ⟨by omega, by omega, by omega⟩ hA.2.1 s1.2.1
  have s2 : stateR S2 a1 A := stateR_far s1 (fun j a b => f2 j (by omega) (by omega) (by omega))
  obtain ⟨S3, g3, r3, f3⟩ := tbec_ok (sc := sc) h0.2.2.2.1 h1.2.2.2.1 hA.2.2.1 s2.2.2.1
  have s3 : stateR S3 a1 A := stateR_far s2 (fun j a b => f3 j (by omega))
  obtain ⟨S4, g4, r4, f4⟩ := tbec_ok (sc := sc) h0.2.2.2.2.1 h1.2.2.2.2.1 hA.2.2.2.1 s3.2.2.2.1
  have s4 : stateR S4 a1 A := stateR_far s3 (fun j a b => f4 j (by omega))
  refine ⟨_, qX7_become_0 h0 h1 ⟨_, g1, _, g2, _, g3, _, g4, rfl⟩, ⟨?_, ?_, ?_, ?_, ?_, ?_, ?_, ?_, ?_, ?_, ?_⟩, fun j hj => ?_⟩
  · refine rowsR_cong r1 ?_ ?_ ?_ <;> rw [cpy_ne (by omega), cpy_ne (by omega), cpy_ne (by omega), cpy_ne (by omega), cpy_ne (by omega), cpy_ne (by omega), cpy_ne (by omega), f4 _ (by omega), f3 _ (by omega), f2 _ (by omega) (by omega) (by omega)]
  · refine rowsR_cong r2 ?_ ?_ ?_ <;> rw [cpy_ne (by omega), cpy_ne (by omega), cpy_ne (by omega), cpy_ne (by omega), cpy_ne (by omega), cpy_ne (by omega), cpy_ne (by omega), f4 _ (by omega), f3 _ (by omega)]
  · rw [cpy_ne (by omega), cpy_ne (by omega), cpy_ne (by omega), cpy_ne (by omega), cpy_ne (by omega), cpy_ne (by omega), cpy_ne (by omega), f4 _ (by omega)]; exact r3
  · rw [cpy_ne (by omega), cpy_ne (by omega), cpy_ne (by omega), cpy_ne (by omega), cpy_ne (by omega), cpy_ne (by omega), cpy_ne (by omega)]; exact r4
  · intro i hi hi2
    rw [cpy_ne (by omega), cpy_ne (by omega), cpy_ne (by omega), cpy_ne (by omega), cpy_ne (by omega), cpy_ne (by omega), cpy_at, if_pos ⟨hi, hi2⟩]
    exact s4.2.2.2.2.1 i hi hi2
  · intro i hi hi2
    rw [cpy_ne (by omega), cpy_ne (by omega), cpy_ne (by omega), cpy_ne (by omega), cpy_ne (by omega), cpy_at, if_pos ⟨hi, hi2⟩, cpy_ne (by omega)]
    exact s4.2.2.2.2.2.1 i hi hi2
  · intro i hi hi2
    rw [cpy_ne (by omega), cpy_ne (by omega), cpy_ne (by omega), cpy_ne (by omega), cpy_at, if_pos ⟨hi, hi2⟩, cpy_ne (by omega), cpy_ne (by omega)]
    exact s4.2.2.2.2.2.2.1 i hi hi2
  · intro i hi hi2
    rw [cpy_ne (by omega), cpy_ne (by omega), cpy_ne (by omega), cpy_at, if_pos ⟨hi, hi2⟩, cpy_ne (by omega), cpy_ne (by omega), cpy_ne (by omega)]
    exact s4.2.2.2.2.2.2.2.1 i hi hi2
  · intro i hi hi2
    rw [cpy_ne (by omega), cpy_ne (by omega), cpy_at, if_pos ⟨hi, hi2⟩, cpy_ne (by omega), cpy_ne (by omega), cpy_ne (by omega), cpy_ne (by omega)]
    exact s4.2.2.2.2.2.2.2.2.1 i hi hi2
  · intro i hi hi2
    rw [cpy_ne (by omega), cpy_at, if_pos ⟨hi, hi2⟩, cpy_ne (by omega), cpy_ne (by omega), cpy_ne (by omega), cpy_ne (by omega), cpy_ne (by omega)]
    exact s4.2.2.2.2.2.2.2.2.2.1 i hi hi2
  · intro i hi hi2
    rw [cpy_at, if_pos ⟨hi, hi2⟩, cpy_ne (by omega), cpy_ne (by omega), cpy_ne (by omega), cpy_ne (by omega), cpy_ne (by omega), cpy_ne (by omega)]
    exact s4.2.2.2.2.2.2.2.2.2.2 i hi hi2
  · rw [cpy_ne (by omega), cpy_ne (by omega), cpy_ne (by omega), cpy_ne (by omega), cpy_ne (by omega), cpy_ne (by omega), cpy_ne (by omega), f4 _ (by omega), f3 _ (by omega), f2 _ (by omega) (by omega) (by omega), f1 _ (by omega) (by omega) (by omega)]
theorem clear_ok (h0 : sState SH a) (ha : 6 ≤ a) {m : Int} (hm : S 1 2 = m) : ∃ S', G sc MX7_clear 0 [some (.ref a)] [] SH S (rV SH S') ∧ stateR S' a (newA m) ∧ (∀ j, j < a ∨ a + 20 ≤ j → S' j = S j) := by
  obtain ⟨S1, g1, r1, f1⟩ := rclr_ok (sc := sc) (S := S) h0.2.1 ⟨by omega, by omega, by omega⟩
  obtain ⟨S2, g2, r2, f2⟩ := rclr_ok (sc := sc) (S := S1) h0.2.2.1 ⟨by omega, by omega, by omega⟩
  obtain ⟨S3, g3, r3, f3⟩ := tclr_ok (sc := sc) (S := S2) h0.2.2.2.1
  obtain ⟨S4, g4, r4, f4⟩ := tclr_ok (sc := sc) (S := S3) h0.2.2.2.2.1
  obtain ⟨q0, q1, q2, q3, q4, q5, q6, q7, q8, q9, q10, q11, q12⟩ := h0
  have e2 : fil (fil (fil (fil (fil (fil (fil S4 (a + 13) (48 : Nat) 0) (a + 14) (48 : Nat) 0) (a + 15) (48 : Nat) 0) (a + 16) (48 : Nat) (-1)) (a + 17) (48 : Nat) 0) (a + 18) (48 : Nat) 0) (a + 19) (12 : Nat) 0 1 2 = m := by
    rw [fil_ne (by omega), fil_ne (by omega), fil_ne (by omega), fil_ne (by omega), fil_ne (by omega), fil_ne (by omega), fil_ne (by omega), f4 _ (by omega), f3 _ (by omega), f2 _ (by omega) (by omega) (by omega), f1 _ (by omega) (by omega) (by omega)]
    exact hm
  refine ⟨_, qX7_clear_0 ⟨q0, q1, q2, q3, q4, q5, q6, q7, q8, q9, q10, q11, q12⟩ ⟨_, g1, _, g2, _, g3, _, g4, _, fill_ok q5, _, fill_ok q6, _, fill_ok q7, _, fill_ok q8, _, fill_ok q9, _, fill_ok q10, _, fill_ok q11, by decide, rfl⟩, ⟨?_, ?_, ?_, ?_, ?_, ?_, ?_, ?_, ?_, ?_, ?_⟩, fun j hj => ?_⟩
  · refine rowsR_cong r1 ?_ ?_ ?_ <;> rw [up_ne (by omega), fil_ne (by omega), fil_ne (by omega), fil_ne (by omega), fil_ne (by omega), fil_ne (by omega), fil_ne (by omega), fil_ne (by omega), f4 _ (by omega), f3 _ (by omega), f2 _ (by omega) (by omega) (by omega)]
  · refine rowsR_cong r2 ?_ ?_ ?_ <;> rw [up_ne (by omega), fil_ne (by omega), fil_ne (by omega), fil_ne (by omega), fil_ne (by omega), fil_ne (by omega), fil_ne (by omega), fil_ne (by omega), f4 _ (by omega), f3 _ (by omega)]
  · rw [up_ne (by omega), fil_ne (by omega), fil_ne (by omega), fil_ne (by omega), fil_ne (by omega), fil_ne (by omega), fil_ne (by omega), fil_ne (by omega), f4 _ (by omega)]; exact r3
  · rw [up_ne (by omega), fil_ne (by omega), fil_ne (by omega), fil_ne (by omega), fil_ne (by omega), fil_ne (by omega), fil_ne (by omega), fil_ne (by omega)]; exact r4
  · intro i hi hi2
    rw [up_ne (by omega), fil_ne (by omega), fil_ne (by omega), fil_ne (by omega), fil_ne (by omega), fil_ne (by omega), fil_ne (by omega), fil_at, if_pos ⟨hi, by omega⟩]
    show 0 = vnew m 0 i; unfold vnew; simp
  · intro i hi hi2
    rw [up_ne (by omega), fil_ne (by omega), fil_ne (by omega), fil_ne (by omega), fil_ne (by omega), fil_ne (by omega), fil_at, if_pos ⟨hi, by omega⟩]
    show 0 = vnew m 1 i; unfold vnew; simp
  · intro i hi hi2
    rw [up_ne (by omega), fil_ne (by omega), fil_ne (by omega), fil_ne (by omega), fil_ne (by omega), fil_at, if_pos ⟨hi, by omega⟩]
    show 0 = vnew m 2 i; unfold vnew; simp
  · intro i hi hi2
    rw [up_ne (by omega), fil_ne (by omega), fil_ne (by omega), fil_ne (by omega), fil_at, if_pos ⟨hi, by omega⟩]
    show -1 = vnew m 3 i; unfold vnew; simp
  · intro i hi hi2
    rw [up_ne (by omega), fil_ne (by omega), fil_ne (by omega), fil_at, if_pos ⟨hi, by omega⟩]
    show 0 = vnew m 4 i; unfold vnew; simp
  · intro i hi hi2
    rw [up_ne (by omega), fil_ne (by omega), fil_at, if_pos ⟨hi, by omega⟩]
    show 0 = vnew m 5 i; unfold vnew; simp
  · intro i hi hi2
    show up _ (a + 19) 0 _ (a + 19) i = vnew m 6 i
    rw [up_at, e2, fil_at]
    unfold vnew
    by_cases e : i = 0
    · simp [e]
    · rw [if_neg e, if_pos ⟨hi, by omega⟩]; simp [e]
  · rw [up_ne (by omega), fil_ne (by omega), fil_ne (by omega), fil_ne (by omega), fil_ne (by omega), fil_ne (by omega), fil_ne (by omega), fil_ne (by omega), f4 _ (by omega), f3 _ (by omega), f2 _ (by omega) (by omega) (by omega), f1 _ (by omega) (by omega) (by omega)]
end
