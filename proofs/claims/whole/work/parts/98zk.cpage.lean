/-! ===== the class's text: words, ends of clauses, pages ===== -/
def pgT (b : Int → Int) (n : Int) (P : aP) (T : aT) : (Int × Int × Int) × aT :=
  if (numT b n 0 3 T).2.2.1 ≠ 0 then ((0, 0, 0), (numT b n 0 3 T).2)
  else if P 0 6 ≤ (numT b n 0 3 T).1 then ((0, 0, 0), failA 3 (tkS b n T.1) (numT b n 0 3 T).2)
  else if (numT b n 0 11 (numT b n 0 3 T).2).2.2.1 ≠ 0 then ((0, 0, 0), (numT b n 0 11 (numT b n 0 3 T).2).2)
  else if P 1 (numT b n 0 3 T).1 ≤ (numT b n 0 11 (numT b n 0 3 T).2).1 then ((0, 0, 0), failA 3 (tkS b n (numT b n 0 3 T).2.1) (numT b n 0 11 (numT b n 0 3 T).2).2)
  else (((numT b n 0 3 T).1, (numT b n 0 11 (numT b n 0 3 T).2).1, (numT b n 0 3 T).2.1), (numT b n 0 11 (numT b n 0 3 T).2).2)
theorem pgT_bad {b : Int → Int} {n : Int} {P : aP} {T : aT} (h : T.2.1 ≠ 0) : pgT b n P T = ((0, 0, 0), T) := by
  have e : (numT b n 0 3 T).2 = T := by rw [numT_bad h]
  unfold pgT
  rw [if_pos (by rw [e]; exact h), e]
theorem ok_pg {b : Int → Int} {n : Int} {P : aP} {T : aT} (hn : n ≤ 700) (h : okX n T) : okX n (pgT b n P T).2 := by
  have h1 := ok_num (b := b) (lo := 0) (hi := 3) hn h
  have h2 := ok_num (b := b) (lo := 0) (hi := 11) hn h1
  have r1 := tk_rg b h.1.2
  have r2 := tk_rg b h1.1.2
  have b1 := h.1
  have b2 := h1.1
  unfold pgT
  split
  · exact h1
  · split
    · exact ok_fail h1 (by decide) (by omega)
    · split
      · exact h2
      · split
        · exact ok_fail h2 (by decide) (by omega)
        · exact h2
/-- what a page that was told well is -/
theorem pgT_ok {b : Int → Int} {n : Int} {P : aP} {T : aT} (h : (pgT b n P T).2.2.1 = 0) : T.2.1 = 0 ∧ ((0 ≤ (pgT b n P T).1.1 ∧ (pgT b n P T).1.1 < P 0 6 ∧ (pgT b n P T).1.1 ≤ 3) ∧ (0 ≤ (pgT b n P T).1.2.1 ∧ (pgT b n P T).1.2.1 < P 1 (pgT b n P T).1.1 ∧ (pgT b n P T).1.2.1 ≤ 11)) ∧ (numT b n 0 3 T).2.2.1 = 0 ∧ (numT b n 0 11 (numT b n 0 3 T).2).2.2.1 = 0 ∧ pgT b n P T = (((numT b n 0 3 T).1, (numT b n 0 11 (numT b n 0 3 T).2).1, (numT b n 0 3 T).2.1), (numT b n 0 11 (numT b n 0 3 T).2).2) := by
  unfold pgT at *
  by_cases c1 : (numT b n 0 3 T).2.2.1 ≠ 0
  · rw [if_pos c1] at h; exact absurd h c1
  rw [if_neg c1] at *
  have z1 := Decidable.not_not.mp c1
  by_cases c2 : P 0 6 ≤ (numT b n 0 3 T).1
  · rw [if_pos c2, failA_z z1] at h; exact absurd h (by dsimp only; decide)
  rw [if_neg c2] at *
  by_cases c3 : (numT b n 0 11 (numT b n 0 3 T).2).2.2.1 ≠ 0
  · rw [if_pos c3] at h; exact absurd h c3
  rw [if_neg c3] at *
  have z3 := Decidable.not_not.mp c3
  by_cases c4 : P 1 (numT b n 0 3 T).1 ≤ (numT b n 0 11 (numT b n 0 3 T).2).1
  · rw [if_pos c4, failA_z z3] at h; exact absurd h (by dsimp only; decide)
  rw [if_neg c4] at *
  have n1 := num_rg z1
  have n3 := num_rg z3
  exact ⟨(numT_ok z1).1, ⟨⟨n1.1, by dsimp only; omega, n1.2⟩, n3.1, by dsimp only; omega, n3.2⟩, z1, z3, rfl⟩
section
variable {sc : Nat × (Nat → Int32)} {SH : List mCell} {S : mStore} {b : Int → Int} {n : Int} {T : aT} {P : aP}
theorem isW_lp (h0 : sText SH) (hn : 0 ≤ n ∧ n ≤ 700) (hb : ∀ i, 0 ≤ b i ∧ b i < 256) (ht : tapR S b n) {s e : Int} (h3 : S 11 3 = s) (hs : 0 ≤ s ∧ e ≤ n) {k : Nat} {t : List Int32} (hk : mstrs k = some t) (hl : t.length ≤ 6 ∧ e - s = t.length) (hc : ∀ x ∈ t, 0 ≤ x.toInt ∧ x.toInt < 128) : ∀ (w : List Int32) (j : Nat), t.drop j = w → j ≤ t.length → G sc MX8_isWord 28 [some (.ref 11), some (.retAddr k), some (.int (I j))] [] SH S (rI (if isW b (w.map (·.toInt)) (s + j) e = true then 1 else 0) SH S)
  | [], j, hw, hj => by
    have hjl : t.length ≤ j := List.drop_eq_nil_iff.mp hw
    refine qX8_isWord_28 h0 ⟨t, hk, ?_⟩
    rw [if_pos (by rw [I_le ⟨by omega, by omega⟩ ⟨by omega, by omega⟩]; omega), if_pos (show isW b (([] : List Int32).map (·.toInt)) (s + j) e = true from decide_eq_true (by omega))]
    exact ⟨.inr rfl, rfl⟩
  | x :: w, j, hw, hj => by
    have hjl : j < t.length := by
      rcases Nat.lt_or_ge j t.length with q | q
      · exact q
      · rw [List.drop_eq_nil_iff.mpr q] at hw; exact absurd hw (List.cons_ne_nil x w).symm
    have hx : t.getD j 0 = x ∧ t.drop (j + 1) = w := by
      have e1 := List.drop_eq_getElem_cons hjl
      rw [hw] at e1
      injection e1 with e2 e3
      refine ⟨?_, e3.symm⟩
      rw [e2]
      simp [List.getD, hjl]
    have hxm : x ∈ t := List.mem_of_mem_drop (by rw [hw]; exact List.mem_cons_self)
    have hxr := hc x hxm
    have hbs := hb (s + j)
    refine qX8_isWord_28 h0 ⟨t, hk, ?_⟩
    rw [if_neg (by rw [I_le ⟨by omega, by omega⟩ ⟨by omega, by omega⟩]; omega), h3]
    refine ⟨⟨by omega, by omega⟩, t, hk, ⟨by omega, by omega, by omega⟩, ?_⟩
    rw [Int.toNat_natCast, hx.1, ht _ (by omega) (by omega)]
    have hi : isW b ((x :: w).map (·.toInt)) (s + j) e = (decide (s + j < e) && (decide (b (s + j) = x.toInt) && isW b (w.map (·.toInt)) (s + j + 1) e)) := rfl
    rw [hi, decide_eq_true (show s + (j : Int) < e by omega), Bool.true_and]
    have hsb : I (sby (b (s + j))) = I x.toInt ↔ b (s + j) = x.toInt := by
      unfold sby
      by_cases q : b (s + j) < 128
      · rw [if_pos q, I_eq ⟨by omega, by omega⟩ ⟨by omega, by omega⟩]
      · rw [if_neg q, I_eq ⟨by omega, by omega⟩ ⟨by omega, by omega⟩]; omega
    by_cases c : b (s + j) = x.toInt
    · rw [if_pos (hsb.mpr c), decide_eq_true c, Bool.true_and]
      have nx := isW_lp h0 hn hb ht h3 hs hk hl hc w (j + 1) hx.2 (by omega)
      rw [show s + ((j + 1 : Nat) : Int) = s + j + 1 by omega] at nx
      exact nx
    · rw [if_neg (fun q => c (hsb.mp q)), decide_eq_false c, Bool.false_and, if_neg (by decide)]
      exact ⟨.inl rfl, rfl⟩
theorem isW_ok (h0 : sText SH) (hn : 0 ≤ n ∧ n ≤ 700) (hb : ∀ i, 0 ≤ b i ∧ b i < 256) (ht : tapR S b n) {i : Int} (hi : 0 ≤ i ∧ i ≤ n) (h3 : S 11 3 = tkS b n i) (h5 : S 11 5 = tkK b n i) (h4 : S 11 4 = tkE b n i) {k : Nat} {t : List Int32} (hk : mstrs k = some t) (hq : ∃ q : Nat, q < 13 ∧ k = q + 2 ∧ t.map (·.toInt) = wls.getD q []) (hl : t.length ≤ 6) (hc : ∀ x ∈ t, 0 ≤ x.toInt ∧ x.toInt < 128) {u : Option Value} : G sc MX8_isWord 0 [some (.ref 11), some (.retAddr k), u] [] SH S (rI (if tkW b n i = k - 2 then 1 else 0) SH S) := by
  obtain ⟨q, hq1, hq2, hq3⟩ := hq
  have hr := tk_rg b (n := n) (i := i) hi.2
  have wd := wd_iff (b := b) (s := tkS b n i) (e := tkE b n i) q hq1
  rw [← hq3] at wd
  refine qX8_isWord_0 h0 ?_
  rw [h5, h4, h3]
  by_cases c1 : tkK b n i = 1
  · have ew : tkW b n i = wdA b (tkS b n i) (tkE b n i) := by unfold tkW; rw [if_pos c1]
    rw [ew, show ((k : Int) - 2) = q by omega]
    rw [if_pos (by rw [c1])]
    refine ⟨t, hk, ?_⟩
    by_cases c2 : tkE b n i - tkS b n i = t.length
    · rw [if_pos (by rw [c2])]
      have := isW_lp (sc := sc) h0 hn hb ht h3 ⟨by omega, by omega⟩ hk ⟨hl, c2⟩ hc t 0 rfl (Nat.zero_le _)
      rw [show tkS b n i + ((0 : Nat) : Int) = tkS b n i by omega] at this
      by_cases c3 : wdA b (tkS b n i) (tkE b n i) = q
      · rw [if_pos c3]; rw [if_pos (wd.mp c3)] at this; exact this
      · rw [if_neg c3]; rw [if_neg (fun z => c3 (wd.mpr z))] at this; exact this
    · rw [if_neg (by rw [I_eq ⟨by omega, by omega⟩ ⟨by omega, by omega⟩]; exact c2), if_neg (fun z => c2 (by
        have := isW_len _ _ _ (wd.mp z)
        rw [List.length_map] at this
        exact this))]
      exact ⟨.inl rfl, rfl⟩
  · have ew : tkW b n i = -1 := by unfold tkW; rw [if_neg c1]
    rw [if_neg (by rw [I_eq ⟨by omega, by omega⟩ ⟨by decide, by decide⟩]; exact c1), ew, if_neg (by omega)]
    exact ⟨.inl rfl, rfl⟩
theorem isNum_ok (h0 : sText SH) (hn : 0 ≤ n ∧ n ≤ 700) (hb : ∀ i, 0 ≤ b i ∧ b i < 256) (h : clT S b n T) {u : Option Value} : ∃ S', G sc MX8_numberIsNext 0 [some (.ref 11), u] [] SH S (rI (if T.2.1 = 0 ∧ tkK b n T.1 = 2 then 1 else 0) SH S') ∧ clT S' b n T ∧ txF S S' := by
  have hT := h.2.2.2.2.1
  have hr := tk_rg b (n := n) hT.1.2
  have hf5 := hT.2.1
  by_cases hf : T.2.1 = 0
  · obtain ⟨S', g, hc, e3, e5, e4, fr⟩ := step_to (sc := sc) h0 hn hb h hf
    refine ⟨up S' 11 4 (S 11 4), qX8_numberIsNext_0 h0 ?_, ⟨by rw [up_at, if_neg (by decide)]; exact hc.1, fun i p q => by rw [up_ne (by decide)]; exact hc.2.1 i p q, by rw [up_at, if_neg (by decide)]; exact hc.2.2.1, by rw [up_at, if_neg (by decide)]; exact hc.2.2.2.1, hT, fun _ => by rw [up_eq]; exact h.2.2.2.2.2 hf⟩, fun j hj => by rw [up_ne hj]; exact fr.1 j hj, by rw [up_at, if_neg (by decide)]; exact fr.2⟩
    rw [h.2.2.1, hf, if_pos rfl]
    refine ⟨_, g, ?_⟩
    rw [show up S' 11 4 (S 11 4) 11 5 = tkK b n T.1 by rw [up_at, if_neg (by decide)]; exact e5]
    by_cases c : tkK b n T.1 = 2
    · rw [if_pos (by rw [c]), if_pos ⟨rfl, c⟩]; exact ⟨.inr rfl, rfl⟩
    · rw [if_neg (by rw [I_eq ⟨by omega, by omega⟩ ⟨by decide, by decide⟩]; exact c), if_neg (fun q => c q.2)]; exact ⟨.inl rfl, rfl⟩
  · refine ⟨S, qX8_numberIsNext_0 h0 ?_, h, txF_rf S⟩
    rw [h.2.2.1, if_neg (by rw [I_eq ⟨by omega, by omega⟩ ⟨by decide, by decide⟩]; exact hf), if_neg (fun q => hf q.1)]
    exact ⟨.inl rfl, rfl⟩
theorem ends_ok (h0 : sText SH) (hn : 0 ≤ n ∧ n ≤ 700) (hb : ∀ i, 0 ≤ b i ∧ b i < 256) (h : clT S b n T) : ∃ S', G sc MX8_clauseEnds 0 [some (.ref 11)] [] SH S (rV SH S') ∧ clT S' b n (endT b n T) ∧ txF S S' := by
  have hT := h.2.2.2.2.1
  have hT1 := hT.1
  have hr := tk_rg b (n := n) hT.1.2
  have hf5 := hT.2.1
  unfold endT
  by_cases hf : T.2.1 = 0
  · obtain ⟨S', g, hc, e3, e5, e4, fr⟩ := step_to (sc := sc) h0 hn hb h hf
    rw [if_neg (fun q => q hf)]
    by_cases c : tkK b n T.1 = 3
    · rw [if_pos c]
      refine ⟨S', qX8_clauseEnds_0 h0 ?_, hc, fr⟩
      rw [h.2.2.1, hf, if_pos rfl]
      refine ⟨_, g, ?_⟩
      rw [e5, if_pos (by rw [c])]
    · rw [if_neg c]
      obtain ⟨S2, g2, c2, f2⟩ := fail_ok (sc := sc) h0 hc (k := 1) (by decide) (a := tkS b n T.1) (by omega) e3
      have hf' : (goT b n T).2.1 = 0 := hf
      rw [failA_z hf'] at c2
      refine ⟨S2, qX8_clauseEnds_0 h0 ?_, ?_, txF_tr fr f2⟩
      · rw [h.2.2.1, hf, if_pos rfl]
        refine ⟨_, g, ?_⟩
        rw [e5, if_neg (by rw [I_eq ⟨by omega, by omega⟩ ⟨by decide, by decide⟩]; exact c)]
        exact ⟨_, g2, rfl⟩
      · rw [failA_z hf]
        exact ⟨c2.1, c2.2.1, c2.2.2.1, c2.2.2.2.1, ⟨hT.1, c2.2.2.2.2.1.2⟩, fun q => absurd q (by dsimp only; decide)⟩
  · rw [if_pos hf]
    refine ⟨S, qX8_clauseEnds_0 h0 ?_, h, txF_rf S⟩
    rw [h.2.2.1, if_neg (by rw [I_eq ⟨by omega, by omega⟩ ⟨by decide, by decide⟩]; exact hf)]
theorem pg_bad (h0 : sText SH) (h : clT S b n T) (hf : T.2.1 ≠ 0) {a : Nat} (h1 : sPlan SH a) (hp : planR S a P) (hP : wfP P) {u2 u3 u4 : Option Value} : G sc MX8_pageIn 0 [some (.ref 11), some (.ref a), u2, u3, u4] [] SH S (rI (-1) SH S) := by
  have hr := h.2.2.2.2.1.2.1
  have hz : I (S 11 6) ≠ I 0 := by rw [h.2.2.1, Ne, I_eq ⟨by omega, by omega⟩ ⟨by decide, by decide⟩]; exact hf
  have pl := place_ok (sc := sc) h1 hp hP (g := 0) (p := 0) ⟨by decide, by decide⟩ ⟨by decide, by decide⟩
  refine qX8_pageIn_0 h0 h1 ⟨_, _, num_bad h0 h hf, ?_⟩
  by_cases c : I 0 < I (S a 6)
  · rw [if_pos c]
    refine ⟨_, _, num_bad h0 h hf, _, _, pl, ?_⟩
    by_cases d : I (plc P 0 0) = I (-1)
    · rw [if_pos d]
      refine ⟨_, fail_bad h0 h hf, ?_⟩
      rw [if_neg hz]
    · rw [if_neg d, if_neg hz]
  · rw [if_neg c]
    refine ⟨_, fail_bad h0 h hf, _, _, num_bad h0 h hf, _, _, pl, ?_⟩
    by_cases d : I (plc P 0 0) = I (-1)
    · rw [if_pos d]
      refine ⟨_, fail_bad h0 h hf, ?_⟩
      rw [if_neg hz]
    · rw [if_neg d, if_neg hz]
theorem pgIn_ok (h0 : sText SH) (hn : 0 ≤ n ∧ n ≤ 700) (hb : ∀ i, 0 ≤ b i ∧ b i < 256) (h : clT S b n T) {a : Nat} (ha : a + 5 ≤ 11) (h1 : sPlan SH a) (hp : planR S a P) (hP : wfP P) {u2 u3 u4 : Option Value} : ∃ S', G sc MX8_pageIn 0 [some (.ref 11), some (.ref a), u2, u3, u4] [] SH S (rI (if (pgT b n P T).2.2.1 = 0 then plc P (pgT b n P T).1.1 (pgT b n P T).1.2.1 else -1) SH S') ∧ clT S' b n (pgT b n P T).2 ∧ txF S S' ∧ ((pgT b n P T).2.2.1 = 0 → S' 11 3 = tkS b n (pgT b n P T).1.2.2) := by
  by_cases hf : T.2.1 = 0
  case neg =>
    rw [pgT_bad hf]
    refine ⟨S, ?_, h, txF_rf S, fun q => absurd q hf⟩
    rw [if_neg (by exact hf)]
    exact pg_bad h0 h hf h1 hp hP
  have hP6 := hP.2.2.2.2.1
  have hT := h.2.2.2.2.1
  have hT1 := hT.1
  have hr := tk_rg b (n := n) hT.1.2
  obtain ⟨S1, g1, c1, f1, p1⟩ := numIn_ok (sc := sc) h0 hn hb h (lo := 0) (hi := 3) (by decide) (by decide) (u := none) (u' := none)
  have hp1 : planR S1 a P := planR_far hp (fun j q1 q2 => f1.1 j (by omega))
  have e6 : S1 a 6 = P 0 6 := hp1.1 6 (by decide) (by decide)
  unfold pgT
  by_cases z1 : (numT b n 0 3 T).2.2.1 ≠ 0
  · have v0 := num_z z1
    have hz : I (S1 11 6) ≠ I 0 := by
      have := c1.2.2.2.2.1.2.1
      rw [c1.2.2.1, Ne, I_eq ⟨by omega, by omega⟩ ⟨by decide, by decide⟩]; exact z1
    have pl := place_ok (sc := sc) h1 hp1 hP (g := 0) (p := 0) ⟨by decide, by decide⟩ ⟨by decide, by decide⟩
    rw [if_pos z1]
    refine ⟨S1, ?_, c1, f1, fun q => absurd q z1⟩
    rw [if_neg (by exact z1)]
    rw [v0] at g1
    refine qX8_pageIn_0 h0 h1 ⟨_, _, g1, ?_⟩
    by_cases c : I 0 < I (S1 a 6)
    · rw [if_pos c]
      refine ⟨_, _, num_bad h0 c1 z1, _, _, pl, ?_⟩
      by_cases d : I (plc P 0 0) = I (-1)
      · rw [if_pos d]
        refine ⟨_, fail_bad h0 c1 z1, ?_⟩
        rw [if_neg hz]
      · rw [if_neg d, if_neg hz]
    · rw [if_neg c]
      refine ⟨_, fail_bad h0 c1 z1, _, _, num_bad h0 c1 z1, _, _, pl, ?_⟩
      by_cases d : I (plc P 0 0) = I (-1)
      · rw [if_pos d]
        refine ⟨_, fail_bad h0 c1 z1, ?_⟩
        rw [if_neg hz]
      · rw [if_neg d, if_neg hz]
  rw [if_neg z1]
  have z1' := Decidable.not_not.mp z1
  have nr := num_rg z1'
  have hT2 := c1.2.2.2.2.1.1
  have hr2 := tk_rg b (n := n) hT2.2
  generalize hv : (numT b n 0 3 T).1 = v at *
  generalize hU : (numT b n 0 3 T).2 = U at *
  by_cases d1 : P 0 6 ≤ v
  · rw [if_pos d1]
    obtain ⟨S2, g2, c2, f2⟩ := fail_ok (sc := sc) h0 c1 (k := 3) (by decide) (a := tkS b n T.1) (by omega) (p1 z1')
    have z2 : (failA 3 (tkS b n T.1) U).2.1 ≠ 0 := by rw [failA_z z1']; dsimp only; decide
    have hz : I (S2 11 6) ≠ I 0 := by
      have := c2.2.2.2.2.1.2.1
      rw [c2.2.2.1, Ne, I_eq ⟨by omega, by omega⟩ ⟨by decide, by decide⟩]; exact z2
    have hp2 : planR S2 a P := planR_far hp1 (fun j q1 q2 => f2.1 j (by omega))
    have pl := place_ok (sc := sc) h1 hp2 hP (g := v) (p := 0) ⟨by omega, by omega⟩ ⟨by decide, by decide⟩
    refine ⟨S2, ?_, c2, txF_tr f1 f2, fun q => absurd q z2⟩
    rw [if_neg (by exact z2)]
    refine qX8_pageIn_0 h0 h1 ⟨_, _, g1, ?_⟩
    rw [e6, if_neg (by rw [I_lt ⟨by omega, by omega⟩ ⟨by omega, by omega⟩]; omega)]
    refine ⟨_, g2, _, _, num_bad h0 c2 z2, _, _, pl, ?_⟩
    by_cases d : I (plc P v 0) = I (-1)
    · rw [if_pos d]
      refine ⟨_, fail_bad h0 c2 z2, ?_⟩
      rw [if_neg hz]
    · rw [if_neg d, if_neg hz]
  rw [if_neg d1]
  obtain ⟨S2, g2, c2, f2, p2⟩ := numIn_ok (sc := sc) h0 hn hb c1 (lo := 0) (hi := 11) (by decide) (by decide) (u := none) (u' := none)
  have hp2 : planR S2 a P := planR_far hp1 (fun j q1 q2 => f2.1 j (by omega))
  have st : ∀ r w, G sc MX5_placeAt 0 [some (.ref a), some (.int (I v)), some (.int (I (numT b n 0 11 U).1))] [] SH S2 (rI w SH S2) → (if I w = I (-1) then (∃ S107, G sc MX8_fail 0 [some (.ref 11), some (.int (I 3))] [] SH S2 (rV SH S107) ∧ (if I (S107 11 6) = I 0 then r = rI w SH S107 else r = rI (-1) SH S107)) else (if I (S2 11 6) = I 0 then r = rI w SH S2 else r = rI (-1) SH S2)) → G sc MX8_pageIn 0 [some (.ref 11), some (.ref a), u2, u3, u4] [] SH S r := fun r w q1 q2 => by
    refine qX8_pageIn_0 h0 h1 ⟨_, _, g1, ?_⟩
    rw [e6, if_pos (by rw [I_lt ⟨by omega, by omega⟩ ⟨by omega, by omega⟩]; omega)]
    exact ⟨_, _, g2, _, _, q1, q2⟩
  by_cases z3 : (numT b n 0 11 U).2.2.1 ≠ 0
  · have v0 := num_z z3
    have hz : I (S2 11 6) ≠ I 0 := by
      have := c2.2.2.2.2.1.2.1
      rw [c2.2.2.1, Ne, I_eq ⟨by omega, by omega⟩ ⟨by decide, by decide⟩]; exact z3
    rw [if_pos z3]
    refine ⟨S2, ?_, c2, txF_tr f1 f2, fun q => absurd q z3⟩
    rw [if_neg (by exact z3)]
    refine st _ _ (place_ok h1 hp2 hP ⟨by omega, by omega⟩ ⟨by omega, by omega⟩) ?_
    by_cases d : I (plc P v (numT b n 0 11 U).1) = I (-1)
    · rw [if_pos d]
      refine ⟨_, fail_bad h0 c2 z3, ?_⟩
      rw [if_neg hz]
    · rw [if_neg d, if_neg hz]
  rw [if_neg z3]
  have z3' := Decidable.not_not.mp z3
  have nr3 := num_rg z3'
  have hw := hP.2.2.2.2.2.2.1 v (by omega) (by omega)
  have hP7 := hP.2.2.2.2.2.1
  by_cases d2 : P 1 v ≤ (numT b n 0 11 U).1
  · rw [if_pos d2]
    have e : plc P v (numT b n 0 11 U).1 = -1 := by unfold plc; rw [if_neg (by omega)]
    obtain ⟨S3, g3, c3, f3⟩ := fail_ok (sc := sc) h0 c2 (k := 3) (by decide) (a := tkS b n U.1) (by omega) (p2 z3')
    have z4 : (failA 3 (tkS b n U.1) (numT b n 0 11 U).2).2.1 ≠ 0 := by rw [failA_z z3']; dsimp only; decide
    have hz : I (S3 11 6) ≠ I 0 := by
      have := c3.2.2.2.2.1.2.1
      rw [c3.2.2.1, Ne, I_eq ⟨by omega, by omega⟩ ⟨by decide, by decide⟩]; exact z4
    refine ⟨S3, ?_, c3, txF_tr f1 (txF_tr f2 f3), fun q => absurd q z4⟩
    rw [if_neg (by exact z4)]
    refine st _ _ (place_ok h1 hp2 hP ⟨by omega, by omega⟩ ⟨by omega, by omega⟩) ?_
    rw [e, if_pos rfl]
    refine ⟨_, g3, ?_⟩
    rw [if_neg hz]
  · rw [if_neg d2]
    have e : plc P v (numT b n 0 11 U).1 = P 3 v + (numT b n 0 11 U).1 := by unfold plc; rw [if_pos (by omega)]
    refine ⟨S2, ?_, c2, txF_tr f1 f2, fun q => p2 z3'⟩
    rw [if_pos (by exact z3')]
    refine st _ _ (place_ok h1 hp2 hP ⟨by omega, by omega⟩ ⟨by omega, by omega⟩) ?_
    dsimp only
    rw [e, if_neg (by rw [I_eq ⟨by omega, by omega⟩ ⟨by decide, by decide⟩]; omega), c2.2.2.1, z3', if_pos rfl]
end
