/-! ===== the class makes a clause, and all of them ===== -/
theorem planR_up {S : mStore} {P : aP} (h : planR S 6 P) {i : Int} (h6 : i ≠ 6) (h7 : i ≠ 7) (x : Int) : planR (up S 6 i x) 6 (up P 0 i x) := by
  obtain ⟨p0, p1, p2, p3, p4⟩ := h
  have e6 : up P 0 i x 0 6 = P 0 6 := by rw [up_at, if_neg (fun q => h6 q.symm)]
  have e7 : up P 0 i x 0 7 = P 0 7 := by rw [up_at, if_neg (fun q => h7 q.symm)]
  refine ⟨fun j j0 j8 => ?_, ?_, ?_, ?_, ?_⟩
  · rw [up_at, up_at, p0 j j0 j8]
  · rw [e6, up_ne (by decide), up_ne (by decide)]; exact p1
  · rw [e6, up_ne (by decide), up_ne (by decide)]; exact p2
  · rw [e6, up_ne (by decide), up_ne (by decide)]; exact p3
  · rw [e7, up_ne (by decide), up_ne (by decide)]; exact p4
theorem dcR_85 {S : mStore} {D : aD} (h : dcR S D) (x : Int) : dcR (up S 85 3 x) (D.1, x, D.2.2) := ⟨planR_far h.1 (fun j _ _ => up_ne (by omega)), stateR_far h.2.1 (fun j _ _ => up_ne (by omega)), by rw [up_eq], by rw [up_at, if_neg (by decide)]; exact h.2.2.2⟩
theorem dcR_6 {S : mStore} {D : aD} (h : dcR S D) {i : Int} (h6 : i ≠ 6) (h7 : i ≠ 7) (x : Int) : dcR (up S 6 i x) (up D.1 0 i x, D.2) := ⟨planR_up h.1 h6 h7 x, stateR_far h.2.1 (fun j _ _ => up_ne (by omega)), by rw [up_ne (by decide)]; exact h.2.2.1, by rw [up_ne (by decide)]; exact h.2.2.2⟩
section
variable {sc : Nat × (Nat → Int32)} {SH : List mCell} {S : mStore} {b : Int → Int} {n : Int} {T U : aT} {D : aD}
theorem clT_6 (h : clT S b n T) (i x : Int) : clT (up S 6 i x) b n T := clT_far h (up_ne (by decide)) (up_ne (by decide))
theorem mkClause_ok (h0 : sText SH) (h1 : sPlan SH 6) (h2 : sState SH 65) (h3 : sMaker SH) (hn : 0 ≤ n ∧ n ≤ 700) (hb : ∀ i, 0 ≤ b i ∧ b i < 256) (c : clT S b n (goT b n T)) (hf : T.2.1 = 0) (e3 : S 11 3 = tkS b n T.1) (e5 : S 11 5 = tkK b n T.1) (e4 : S 11 4 = tkE b n T.1) (hT : okX n T) (hD : dcR S D) (oD : okE D) : ∃ S', G sc MX3_makeClause 0 [some (.ref 85)] [] SH S (rV SH S') ∧ clT S' b n (clD b n D T).2 ∧ dxF S S' ∧ ((clD b n D T).2.2.1 = 0 → dcR S' (clD b n D T).1) := by
  have w := fun (q : Nat) (hq : q < 13) => isW_all (sc := sc) h0 hn hb c.2.1 hT.1 e3 e5 e4 q hq (u := none)
  have w0 := w 0 (by decide)
  have w1 := w 1 (by decide)
  have w2 := w 2 (by decide)
  have w3 := w 3 (by decide)
  have w4 := w 4 (by decide)
  have w5 := w 5 (by decide)
  have w6 := w 6 (by decide)
  have w7 := w 7 (by decide)
  clear w
  have hwr := tkW_rg b n T.1
  have oL := oD.2.2.2.1
  have oP0 := oD.1.1
  suffices key : ∃ S1, (∀ r, G sc MX3_makeClause 272 [some (.ref 85)] [] SH S1 r → G sc MX3_makeClause 0 [some (.ref 85)] [] SH S r) ∧ clT S1 b n (clB b n D T).2 ∧ dxF S S1 ∧ ((clB b n D T).2.2.1 = 0 → dcR S1 (clB b n D T).1) by
    obtain ⟨S1, st, t1, f1, d1⟩ := key
    obtain ⟨S2, g2, t2, f2⟩ := ends_ok (sc := sc) h0 hn hb t1
    exact ⟨S2, st _ (qX3_makeClause_272 h0 h1 h2 h3 ⟨_, g2, rfl⟩), t2, dxF_tr f1 (dxF_tx f2), fun q => dcR_tx (d1 (endT_ok q).1) f2⟩
  have f5 : (failA 5 (tkS b n T.1) T).2.1 ≠ 0 := by rw [failA_z hf]; show (5 : Int) ≠ 0; decide
  have f4 : (failA 4 (tkS b n T.1) T).2.1 ≠ 0 := by rw [failA_z hf]; show (4 : Int) ≠ 0; decide
  have et := hD.2.2.1
  unfold clB
  by_cases d : tkW b n T.1 = 0
  · rw [if_pos d]
    rw [if_pos (by exact d)] at w0
    have st : ∀ r, (if I (S 85 4) ≤ I 0 then (∃ S131, G sc MX3_tellOnce 0 [some (.ref 85), some (.int (I 1))] [] SH S (rV SH S131) ∧ (∃ v132 S133, G sc MX8_numberIn 0 [some (.ref 11), some (.int (I 1)), some (.int (I 48)), none, none] [] SH S131 (rI v132 SH S133) ∧ G sc MX3_makeClause 272 [some (.ref 85)] [] SH (up S133 6 0 v132) r)) else (∃ S134, G sc MX8_fail 0 [some (.ref 11), some (.int (I 4))] [] SH S (rV SH S134) ∧ (∃ S135, G sc MX3_tellOnce 0 [some (.ref 85), some (.int (I 1))] [] SH S134 (rV SH S135) ∧ (∃ v136 S137, G sc MX8_numberIn 0 [some (.ref 11), some (.int (I 1)), some (.int (I 48)), none, none] [] SH S135 (rI v136 SH S137) ∧ G sc MX3_makeClause 272 [some (.ref 85)] [] SH (up S137 6 0 v136) r)))) → G sc MX3_makeClause 0 [some (.ref 85)] [] SH S r := fun r q => by
      refine qX3_makeClause_0 h0 h1 h2 h3 ⟨_, _, w0, ?_⟩
      rw [if_neg (by decide)]
      exact q
    rw [hD.2.2.2] at st
    by_cases k : 0 < D.2.2.1
    · rw [if_pos k]
      obtain ⟨S1, g1, t1, x1⟩ := clT_go (sc := sc) c hf e3 hT h0 hn.2 (k := 4) (by decide)
      obtain ⟨S2, g2, t2, x2⟩ := tell_bad (sc := sc) h0 h1 h2 h3 t1 f4 (m := 1)
      refine ⟨up S2 6 0 0, fun r q => st r ?_, clT_6 t2 _ _, dxF_tr (dxF_tx x1) (dxF_tr x2 (dxF_up (.inl (by decide)))), fun q => absurd q f4⟩
      rw [if_neg (by rw [I_le ⟨by omega, by omega⟩ ⟨by decide, by decide⟩]; omega)]
      exact ⟨_, g1, _, g2, _, _, num_bad h0 t2 f4, q⟩
    · rw [if_neg k]
      have st : ∀ r, (∃ S131, G sc MX3_tellOnce 0 [some (.ref 85), some (.int (I 1))] [] SH S (rV SH S131) ∧ (∃ v132 S133, G sc MX8_numberIn 0 [some (.ref 11), some (.int (I 1)), some (.int (I 48)), none, none] [] SH S131 (rI v132 SH S133) ∧ G sc MX3_makeClause 272 [some (.ref 85)] [] SH (up S133 6 0 v132) r)) → G sc MX3_makeClause 0 [some (.ref 85)] [] SH S r := fun r q => st r (by rw [if_pos (by rw [I_le ⟨by omega, by omega⟩ ⟨by decide, by decide⟩]; omega)]; exact q)
      by_cases m : ian D.2.1 1 ≠ 0
      · rw [if_pos m]
        obtain ⟨S2, g2, t2, x2⟩ := tell_no (sc := sc) h0 h1 h2 h3 hn.2 c hf e3 hT (m := 1) (by rw [et]; exact m)
        exact ⟨up S2 6 0 0, fun r q => st r ⟨_, g2, _, _, num_bad h0 t2 f5, q⟩, clT_6 t2 _ _, dxF_tr x2 (dxF_up (.inl (by decide))), fun q => absurd q f5⟩
      · rw [if_neg m]
        have g2 := tell_yes (sc := sc) (S := S) h0 h1 h2 h3 (m := 1) (by rw [et]; exact Decidable.not_not.mp m)
        rw [et] at g2
        obtain ⟨S3, g3, t3, x3, -⟩ := numIn_ok (sc := sc) (S := up S 85 3 (iro D.2.1 1)) h0 hn hb (clT_far c (up_ne (by decide)) (up_ne (by decide))) (lo := 1) (hi := 48) (by decide) (by decide) (u := none) (u' := none)
        exact ⟨up S3 6 0 (numT b n 1 48 (goT b n T)).1, fun r q => st r ⟨_, g2, _, _, g3, q⟩, clT_6 t3 _ _, dxF_tr (dxF_up (.inr (by decide))) (dxF_tr (dxF_tx x3) (dxF_up (.inl (by decide)))), fun q => dcR_6 (dcR_tx (dcR_85 hD _) x3) (by decide) (by decide) _⟩
  rw [if_neg d]
  rw [if_neg (by exact d)] at w0
  by_cases d : tkW b n T.1 = 1
  · rw [if_pos d]
    rw [if_pos (by exact d)] at w1
    have st : ∀ r, (∃ S128, G sc MX3_tellOnce 0 [some (.ref 85), some (.int (I 2))] [] SH S (rV SH S128) ∧ (∃ v129 S130, G sc MX8_numberIn 0 [some (.ref 11), some (.int (I 2)), some (.int (I 8)), none, none] [] SH S128 (rI v129 SH S130) ∧ G sc MX3_makeClause 272 [some (.ref 85)] [] SH (up S130 6 1 v129) r)) → G sc MX3_makeClause 0 [some (.ref 85)] [] SH S r := fun r q => by
      refine qX3_makeClause_0 h0 h1 h2 h3 ⟨_, _, w0, ?_⟩
      rw [if_pos rfl]
      refine ⟨_, _, w1, ?_⟩
      rw [if_neg (by decide)]
      exact q
    by_cases m : ian D.2.1 2 ≠ 0
    · rw [if_pos m]
      obtain ⟨S2, g2, t2, x2⟩ := tell_no (sc := sc) h0 h1 h2 h3 hn.2 c hf e3 hT (m := 2) (by rw [et]; exact m)
      exact ⟨up S2 6 1 0, fun r q => st r ⟨_, g2, _, _, num_bad h0 t2 f5, q⟩, clT_6 t2 _ _, dxF_tr x2 (dxF_up (.inl (by decide))), fun q => absurd q f5⟩
    · rw [if_neg m]
      have g2 := tell_yes (sc := sc) (S := S) h0 h1 h2 h3 (m := 2) (by rw [et]; exact Decidable.not_not.mp m)
      rw [et] at g2
      obtain ⟨S3, g3, t3, x3, -⟩ := numIn_ok (sc := sc) (S := up S 85 3 (iro D.2.1 2)) h0 hn hb (clT_far c (up_ne (by decide)) (up_ne (by decide))) (lo := 2) (hi := 8) (by decide) (by decide) (u := none) (u' := none)
      exact ⟨up S3 6 1 (numT b n 2 8 (goT b n T)).1, fun r q => st r ⟨_, g2, _, _, g3, q⟩, clT_6 t3 _ _, dxF_tr (dxF_up (.inr (by decide))) (dxF_tr (dxF_tx x3) (dxF_up (.inl (by decide)))), fun q => dcR_6 (dcR_tx (dcR_85 hD _) x3) (by decide) (by decide) _⟩
  rw [if_neg d]
  rw [if_neg (by exact d)] at w1
  by_cases d : tkW b n T.1 = 2
  · rw [if_pos d]
    rw [if_pos (by exact d)] at w2
    have st : ∀ r, (∃ S123, G sc MX3_tellOnce 0 [some (.ref 85), some (.int (I 4))] [] SH S (rV SH S123) ∧ (∃ v124 S125, G sc MX8_numberIn 0 [some (.ref 11), some (.int (I 1)), some (.int (I 16)), none, none] [] SH S123 (rI v124 SH S125) ∧ (∃ v126 S127, G sc MX8_numberIn 0 [some (.ref 11), some (.int (I v124)), some (.int (I 16)), none, none] [] SH (up S125 6 2 v124) (rI v126 SH S127) ∧ G sc MX3_makeClause 272 [some (.ref 85)] [] SH (up S127 6 3 v126) r))) → G sc MX3_makeClause 0 [some (.ref 85)] [] SH S r := fun r q => by
      obtain ⟨A1, B1, A2, A3, B2, A4, A5, B3, B4⟩ := q
      refine qX3_makeClause_0 h0 h1 h2 h3 ⟨_, _, w0, ?_⟩
      rw [if_pos rfl]
      refine ⟨_, _, w1, ?_⟩
      rw [if_pos rfl]
      refine ⟨_, _, w2, ?_⟩
      rw [if_neg (by decide)]
      exact ⟨_, B1, _, _, B2, A4, A5, by rw [up_eq]; exact B3, B4⟩
    by_cases m : ian D.2.1 4 ≠ 0
    · rw [if_pos m]
      obtain ⟨S2, g2, t2, x2⟩ := tell_no (sc := sc) h0 h1 h2 h3 hn.2 c hf e3 hT (m := 4) (by rw [et]; exact m)
      exact ⟨up (up S2 6 2 0) 6 3 0, fun r q => st r ⟨_, g2, _, _, num_bad h0 t2 f5, _, _, num_bad h0 (clT_6 t2 _ _) f5, q⟩, clT_6 (clT_6 t2 _ _) _ _, dxF_tr x2 (dxF_tr (dxF_up (.inl (by decide))) (dxF_up (.inl (by decide)))), fun q => absurd q f5⟩
    · rw [if_neg m]
      have g2 := tell_yes (sc := sc) (S := S) h0 h1 h2 h3 (m := 4) (by rw [et]; exact Decidable.not_not.mp m)
      rw [et] at g2
      obtain ⟨S3, g3, t3, x3, -⟩ := numIn_ok (sc := sc) (S := up S 85 3 (iro D.2.1 4)) h0 hn hb (clT_far c (up_ne (by decide)) (up_ne (by decide))) (lo := 1) (hi := 16) (by decide) (by decide) (u := none) (u' := none)
      have lr : 0 ≤ (numT b n 1 16 (goT b n T)).1 ∧ (numT b n 1 16 (goT b n T)).1 ≤ 16 := by
        by_cases z : (numT b n 1 16 (goT b n T)).2.2.1 = 0
        · have := num_rg z; omega
        · rw [num_z z]; decide
      obtain ⟨S4, g4, t4, x4, -⟩ := numIn_ok (sc := sc) (S := up S3 6 2 (numT b n 1 16 (goT b n T)).1) h0 hn hb (clT_6 t3 _ _) (lo := (numT b n 1 16 (goT b n T)).1) (hi := 16) (by omega) (by decide) (u := none) (u' := none)
      exact ⟨up S4 6 3 (numT b n (numT b n 1 16 (goT b n T)).1 16 (numT b n 1 16 (goT b n T)).2).1, fun r q => st r ⟨_, g2, _, _, g3, _, _, g4, q⟩, clT_6 t4 _ _, dxF_tr (dxF_up (.inr (by decide))) (dxF_tr (dxF_tx x3) (dxF_tr (dxF_up (.inl (by decide))) (dxF_tr (dxF_tx x4) (dxF_up (.inl (by decide)))))), fun q => dcR_6 (dcR_tx (dcR_6 (dcR_tx (dcR_85 hD _) x3) (by decide) (by decide) _) x4) (by decide) (by decide) _⟩
  rw [if_neg d]
  rw [if_neg (by exact d)] at w2
  have tell0 : ∀ (k : Int) (i : Int), (i = 4 ∨ i = 5) → (∀ r, (∃ S121, G sc MX3_tellOnce 0 [some (.ref 85), some (.int (I k))] [] SH S (rV SH S121) ∧ G sc MX3_makeClause 272 [some (.ref 85)] [] SH (up S121 6 i 1) r) → G sc MX3_makeClause 0 [some (.ref 85)] [] SH S r) → ∃ S1, (∀ r, G sc MX3_makeClause 272 [some (.ref 85)] [] SH S1 r → G sc MX3_makeClause 0 [some (.ref 85)] [] SH S r) ∧ clT S1 b n (if ian D.2.1 k ≠ 0 then (D, failA 5 (tkS b n T.1) T) else ((up D.1 0 i 1, iro D.2.1 k, D.2.2), goT b n T)).2 ∧ dxF S S1 ∧ ((if ian D.2.1 k ≠ 0 then (D, failA 5 (tkS b n T.1) T) else ((up D.1 0 i 1, iro D.2.1 k, D.2.2), goT b n T)).2.2.1 = 0 → dcR S1 (if ian D.2.1 k ≠ 0 then (D, failA 5 (tkS b n T.1) T) else ((up D.1 0 i 1, iro D.2.1 k, D.2.2), goT b n T)).1) := fun k i hi st => by
    by_cases m : ian D.2.1 k ≠ 0
    · rw [if_pos m]
      obtain ⟨S2, g2, t2, x2⟩ := tell_no (sc := sc) h0 h1 h2 h3 hn.2 c hf e3 hT (m := k) (by rw [et]; exact m)
      exact ⟨up S2 6 i 1, fun r q => st r ⟨_, g2, q⟩, clT_6 t2 _ _, dxF_tr x2 (dxF_up (.inl (by decide))), fun q => absurd q f5⟩
    · rw [if_neg m]
      have g2 := tell_yes (sc := sc) (S := S) h0 h1 h2 h3 (m := k) (by rw [et]; exact Decidable.not_not.mp m)
      rw [et] at g2
      exact ⟨up (up S 85 3 (iro D.2.1 k)) 6 i 1, fun r q => st r ⟨_, g2, q⟩, clT_6 (clT_far c (up_ne (by decide)) (up_ne (by decide))) _ _, dxF_tr (dxF_up (.inr (by decide))) (dxF_up (.inl (by decide))), fun q => dcR_6 (dcR_85 hD _) (by omega) (by omega) _⟩
  by_cases d : tkW b n T.1 = 3
  · rw [if_pos d]
    rw [if_pos (by exact d)] at w3
    refine tell0 8 4 (.inl rfl) (fun r q => ?_)
    obtain ⟨A1, B1, B2⟩ := q
    refine qX3_makeClause_0 h0 h1 h2 h3 ⟨_, _, w0, ?_⟩
    rw [if_pos rfl]
    refine ⟨_, _, w1, ?_⟩
    rw [if_pos rfl]
    refine ⟨_, _, w2, ?_⟩
    rw [if_pos rfl]
    refine ⟨_, _, w3, ?_⟩
    rw [if_neg (by decide)]
    exact ⟨_, B1, .inr rfl, B2⟩
  rw [if_neg d]
  rw [if_neg (by exact d)] at w3
  by_cases d : tkW b n T.1 = 4
  · rw [if_pos d]
    rw [if_pos (by exact d)] at w4
    refine tell0 16 5 (.inr rfl) (fun r q => ?_)
    obtain ⟨A1, B1, B2⟩ := q
    refine qX3_makeClause_0 h0 h1 h2 h3 ⟨_, _, w0, ?_⟩
    rw [if_pos rfl]
    refine ⟨_, _, w1, ?_⟩
    rw [if_pos rfl]
    refine ⟨_, _, w2, ?_⟩
    rw [if_pos rfl]
    refine ⟨_, _, w3, ?_⟩
    rw [if_pos rfl]
    refine ⟨_, _, w4, ?_⟩
    rw [if_neg (by decide)]
    exact ⟨_, B1, .inr rfl, B2⟩
  rw [if_neg d]
  rw [if_neg (by exact d)] at w4
  by_cases d : tkW b n T.1 = 5
  · rw [if_pos d]
    rw [if_pos (by exact d)] at w5
    obtain ⟨S1, g1, t1, x1, q1⟩ := mkG_ok (sc := sc) (u1 := none) (u2 := none) h0 h1 h2 h3 hn hb c hf e3 hT hD oD rfl
    refine ⟨S1, fun r q => ?_, t1, x1, q1⟩
    refine qX3_makeClause_0 h0 h1 h2 h3 ⟨_, _, w0, ?_⟩
    rw [if_pos rfl]
    refine ⟨_, _, w1, ?_⟩
    rw [if_pos rfl]
    refine ⟨_, _, w2, ?_⟩
    rw [if_pos rfl]
    refine ⟨_, _, w3, ?_⟩
    rw [if_pos rfl]
    refine ⟨_, _, w4, ?_⟩
    rw [if_pos rfl]
    refine ⟨_, _, w5, ?_⟩
    rw [if_neg (by decide)]
    exact ⟨_, g1, q⟩
  rw [if_neg d]
  rw [if_neg (by exact d)] at w5
  by_cases d : tkW b n T.1 = 6
  · rw [if_pos d]
    rw [if_pos (by exact d)] at w6
    obtain ⟨S1, g1, t1, x1, q1⟩ := mkP_ok (sc := sc) (u1 := none) (u2 := none) (u3 := none) h0 h1 h2 h3 hn hb c hf e3 hT hD oD rfl
    refine ⟨S1, fun r q => ?_, t1, x1, q1⟩
    refine qX3_makeClause_0 h0 h1 h2 h3 ⟨_, _, w0, ?_⟩
    rw [if_pos rfl]
    refine ⟨_, _, w1, ?_⟩
    rw [if_pos rfl]
    refine ⟨_, _, w2, ?_⟩
    rw [if_pos rfl]
    refine ⟨_, _, w3, ?_⟩
    rw [if_pos rfl]
    refine ⟨_, _, w4, ?_⟩
    rw [if_pos rfl]
    refine ⟨_, _, w5, ?_⟩
    rw [if_pos rfl]
    refine ⟨_, _, w6, ?_⟩
    rw [if_neg (by decide)]
    exact ⟨_, g1, q⟩
  rw [if_neg d]
  rw [if_neg (by exact d)] at w6
  have to7 : ∀ r, (∃ v115 S116, G sc MX8_isWord 0 [some (.ref 11), some (.retAddr 9), none] [] SH S (rI v115 SH S116) ∧ (if I v115 = I 0 then (∃ S117, G sc MX8_fail 0 [some (.ref 11), some (.int (I 1))] [] SH S116 (rV SH S117) ∧ G sc MX3_makeClause 272 [some (.ref 85)] [] SH S117 r) else (∃ S118, G sc MX3_makeAdvised 0 [some (.ref 85), none, none, none] [] SH S116 (rV SH S118) ∧ G sc MX3_makeClause 272 [some (.ref 85)] [] SH S118 r))) → G sc MX3_makeClause 0 [some (.ref 85)] [] SH S r := fun r q => by
    refine qX3_makeClause_0 h0 h1 h2 h3 ⟨_, _, w0, ?_⟩
    rw [if_pos rfl]
    refine ⟨_, _, w1, ?_⟩
    rw [if_pos rfl]
    refine ⟨_, _, w2, ?_⟩
    rw [if_pos rfl]
    refine ⟨_, _, w3, ?_⟩
    rw [if_pos rfl]
    refine ⟨_, _, w4, ?_⟩
    rw [if_pos rfl]
    refine ⟨_, _, w5, ?_⟩
    rw [if_pos rfl]
    refine ⟨_, _, w6, ?_⟩
    rw [if_pos rfl]
    exact q
  by_cases d : tkW b n T.1 = 7
  · rw [if_pos d]
    rw [if_pos (by exact d)] at w7
    obtain ⟨S1, g1, t1, x1, q1⟩ := mkA_ok (sc := sc) (u1 := none) (u2 := none) (u3 := none) h0 h1 h2 h3 hn hb c hf hD oD
    refine ⟨S1, fun r q => to7 r ⟨_, _, w7, ?_⟩, t1, x1, q1⟩
    rw [if_neg (by decide)]
    exact ⟨_, g1, q⟩
  rw [if_neg d]
  rw [if_neg (by exact d)] at w7
  obtain ⟨S1, g1, t1, x1⟩ := clT_go (sc := sc) c hf e3 hT h0 hn.2 (k := 1) (by decide)
  refine ⟨S1, fun r q => to7 r ⟨_, _, w7, ?_⟩, t1, dxF_tx x1, fun q => ?_⟩
  · rw [if_pos rfl]
    exact ⟨_, g1, q⟩
  · rw [failA_z hf] at q
    exact absurd q (by dsimp only; decide)
end
