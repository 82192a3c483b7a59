/-! ===== the class makes all clauses ===== -/
def mksT (b : Int → Int) (n : Int) : Nat → aD → aT → aD × aT
  | 0, D, T => (D, T)
  | k + 1, D, T => if T.2.1 ≠ 0 ∨ tkK b n T.1 = 0 then (D, T) else mksT b n k (clD b n D T).1 (clD b n D T).2
theorem mksT_no {b : Int → Int} {n : Int} {D : aD} {T : aT} (c : T.2.1 ≠ 0 ∨ tkK b n T.1 = 0) (k : Nat) : mksT b n k D T = (D, T) := by
  match k with
  | 0 => rfl
  | k + 1 => show (if T.2.1 ≠ 0 ∨ tkK b n T.1 = 0 then (D, T) else _) = _; rw [if_pos c]
theorem mksT_yes {b : Int → Int} {n : Int} {D : aD} {T : aT} (c : ¬(T.2.1 ≠ 0 ∨ tkK b n T.1 = 0)) (k : Nat) : mksT b n (k + 1) D T = mksT b n k (clD b n D T).1 (clD b n D T).2 := by
  show (if T.2.1 ≠ 0 ∨ tkK b n T.1 = 0 then (D, T) else _) = _
  rw [if_neg c]
theorem nq_mv {b : Int → Int} {n : Int} (hn : n ≤ 700) : ∀ (k : Nat) (x : Int) {U : aT}, okX n U → U.1 ≤ (nqT b n k x U).2.1 ∧ okX n (nqT b n k x U).2
  | 0, x, U, h => ⟨Int.le_refl _, h⟩
  | k + 1, x, U, h => by
    have a := num_mv (b := b) (lo := 0) (hi := 15) h
    have q := nq_mv (b := b) hn k (16 * x + (numT b n 0 15 U).1) (ok_num (b := b) (lo := 0) (hi := 15) hn h)
    exact ⟨by show U.1 ≤ (nqT b n k (16 * x + (numT b n 0 15 U).1) (numT b n 0 15 U).2).2.1; omega, q.2⟩
theorem cl_mv {b : Int → Int} {n : Int} {D : aD} {T : aT} (hn : n ≤ 700) (hT : okX n T) (hf : T.2.1 = 0) (hz : (clB b n D T).2.2.1 = 0) : T.1 ≤ (clB b n D T).2.1 ∧ okX n (clB b n D T).2 := by
  have r0 := tk_rg b (n := n) hT.1.2
  have hg := ok_go (b := b) hT
  have eg : (goT b n T).1 = tkE b n T.1 := rfl
  have nof : ∀ k s, (failA k s T).2.1 = 0 → k = 0 := fun k s q => by rw [failA_z hf] at q; exact q
  unfold clB at *
  by_cases d : tkW b n T.1 = 0
  · rw [if_pos d] at *
    by_cases k : 0 < D.2.2.1
    · rw [if_pos k] at hz; exact absurd (nof _ _ hz) (by decide)
    rw [if_neg k] at *
    by_cases k2 : ian D.2.1 1 ≠ 0
    · rw [if_pos k2] at hz; exact absurd (nof _ _ hz) (by decide)
    rw [if_neg k2] at *
    have := num_mv (b := b) (lo := 1) (hi := 48) hg
    exact ⟨by dsimp only; omega, ok_num hn hg⟩
  rw [if_neg d] at *
  by_cases d : tkW b n T.1 = 1
  · rw [if_pos d] at *
    by_cases k2 : ian D.2.1 2 ≠ 0
    · rw [if_pos k2] at hz; exact absurd (nof _ _ hz) (by decide)
    rw [if_neg k2] at *
    have := num_mv (b := b) (lo := 2) (hi := 8) hg
    exact ⟨by dsimp only; omega, ok_num hn hg⟩
  rw [if_neg d] at *
  by_cases d : tkW b n T.1 = 2
  · rw [if_pos d] at *
    by_cases k2 : ian D.2.1 4 ≠ 0
    · rw [if_pos k2] at hz; exact absurd (nof _ _ hz) (by decide)
    rw [if_neg k2] at *
    have a1 := num_mv (b := b) (lo := 1) (hi := 16) hg
    have o1 := ok_num (b := b) (lo := 1) (hi := 16) hn hg
    have a2 := num_mv (b := b) (lo := (numT b n 1 16 (goT b n T)).1) (hi := 16) o1
    exact ⟨by dsimp only; omega, ok_num hn o1⟩
  rw [if_neg d] at *
  by_cases d : tkW b n T.1 = 3
  · rw [if_pos d] at *
    by_cases k2 : ian D.2.1 8 ≠ 0
    · rw [if_pos k2] at hz; exact absurd (nof _ _ hz) (by decide)
    rw [if_neg k2] at *
    exact ⟨by dsimp only; omega, hg⟩
  rw [if_neg d] at *
  by_cases d : tkW b n T.1 = 4
  · rw [if_pos d] at *
    by_cases k2 : ian D.2.1 16 ≠ 0
    · rw [if_pos k2] at hz; exact absurd (nof _ _ hz) (by decide)
    rw [if_neg k2] at *
    exact ⟨by dsimp only; omega, hg⟩
  rw [if_neg d] at *
  by_cases d : tkW b n T.1 = 5
  · rw [if_pos d] at *
    by_cases k : 4 ≤ D.1 0 6
    · rw [if_pos k] at hz; exact absurd (nof _ _ hz) (by decide)
    rw [if_neg k] at *
    have a1 := num_mv (b := b) (lo := 1) (hi := 12) hg
    have o1 := ok_num (b := b) (lo := 1) (hi := 12) hn hg
    have a2 := num_mv (b := b) (lo := 0) (hi := 2) o1
    dsimp only
    unfold gsT
    split
    · exact ⟨by dsimp only; omega, ok_num hn o1⟩
    · exact ⟨by dsimp only; omega, o1⟩
  rw [if_neg d] at *
  by_cases d : tkW b n T.1 = 6
  · rw [if_pos d] at *
    by_cases k : D.1 0 0 ≤ D.2.2.1
    · rw [if_pos k] at hz; exact absurd (nof _ _ hz) (by decide)
    rw [if_neg k] at *
    unfold pg1 at *
    by_cases y : (pgT b n D.1 (goT b n T)).2.2.1 ≠ 0
    · rw [if_pos y] at hz; exact absurd hz y
    rw [if_neg y] at *
    have y' : (pgT b n D.1 (goT b n T)).2.2.1 = 0 := Decidable.not_not.mp y
    by_cases l : D.2.2.2.w (pgV D.1 (pgT b n D.1 (goT b n T))) ≠ -1
    · rw [if_pos l, failA_z y'] at hz; exact absurd hz (by dsimp only; decide)
    rw [if_neg l] at *
    have a1 := pg_mv hn hg y'
    have a2 := nq_mv (b := b) hn 4 0 (ok_pg (b := b) (P := D.1) hn hg)
    exact ⟨by dsimp only; omega, a2.2⟩
  rw [if_neg d] at *
  by_cases d : tkW b n T.1 = 7
  · rw [if_pos d] at *
    unfold ad1 at *
    by_cases y : (numT b n 0 11 (pgT b n D.1 (goT b n T)).2).2.2.1 ≠ 0
    · rw [if_pos y] at hz; exact absurd hz y
    rw [if_neg y] at *
    have y' : (numT b n 0 11 (pgT b n D.1 (goT b n T)).2).2.2.1 = 0 := Decidable.not_not.mp y
    have y2 := (numT_ok y').1
    by_cases l : plc D.1 (pgT b n D.1 (goT b n T)).1.1 (numT b n 0 11 (pgT b n D.1 (goT b n T)).2).1 = -1 ∨ plc D.1 (pgT b n D.1 (goT b n T)).1.1 (numT b n 0 11 (pgT b n D.1 (goT b n T)).2).1 < pgV D.1 (pgT b n D.1 (goT b n T))
    · rw [if_pos l, failA_z y'] at hz; exact absurd hz (by dsimp only; decide)
    rw [if_neg l] at *
    have a1 := pg_mv hn hg y2
    have o1 := ok_pg (b := b) (P := D.1) hn hg
    have a2 := num_mv (b := b) (lo := 0) (hi := 11) o1
    exact ⟨by dsimp only; omega, ok_num hn o1⟩
  rw [if_neg d] at *
  exact absurd (nof _ _ hz) (by decide)
theorem clD_mv {b : Int → Int} {n : Int} {D : aD} {T : aT} (hn : n ≤ 700) (hT : okX n T) (hf : T.2.1 = 0) (hz : (clD b n D T).2.2.1 = 0) : T.1 + 1 ≤ (clD b n D T).2.1 := by
  have e := endT_ok hz
  have q := cl_mv hn hT hf e.1
  have r1 := tk_rg b (n := n) q.2.1.2
  show T.1 + 1 ≤ (endT b n (clB b n D T).2).1
  rw [e.2.2]
  show T.1 + 1 ≤ tkE b n (clB b n D T).2.1
  have := r1.2.2.2.2 (by rw [e.2.1]; decide)
  omega
section
variable {sc : Nat × (Nat → Int32)} {SH : List mCell} {b : Int → Int} {n : Int} {μ : Int}
theorem mk_lp (h0 : sText SH) (h1 : sPlan SH 6) (h2 : sState SH 65) (h3 : sMaker SH) (hn : 0 ≤ n ∧ n ≤ 700) (hb : ∀ i, 0 ≤ b i ∧ b i < 256) (hμ : 1 ≤ μ ∧ μ ≤ 16) : ∀ (k m : Nat) (D : aD) (T : aT) (S : mStore), clT S b n T → (T.2.1 = 0 → (dcR S D ∧ okE D ∧ gh μ D) ∧ n < T.1 + k ∧ (m : Int) ≤ T.1) → m ≤ 700 → ∃ S' U, G sc MX3_makeAll 26 [some (.ref 85), some (.int (I m))] [] SH S (rV SH S') ∧ clT S' b n U ∧ U.2 = (mksT b n k D T).2.2 ∧ dxF S S' ∧ (U.2.1 = 0 → dcR S' (mksT b n k D T).1 ∧ okE (mksT b n k D T).1 ∧ gh μ (mksT b n k D T).1) := by
  intro k
  induction k with
  | zero =>
    intro m D T S h hT hm
    have hx := h.2.2.2.2.1
    have hf : T.2.1 ≠ 0 := fun q => by have := (hT q).2.1; have := hx.1; omega
    refine ⟨S, T, qX3_makeAll_26 h0 h1 h2 h3 ?_, h, rfl, dxF_rf S, fun q => absurd q hf⟩
    by_cases c : (700 : Int) ≤ m
    · rw [if_pos (by rw [I_le ⟨by decide, by decide⟩ ⟨by omega, by omega⟩]; exact c)]
    · rw [if_neg (by rw [I_le ⟨by decide, by decide⟩ ⟨by omega, by omega⟩]; exact c)]
      refine ⟨_, _, atCl_bad h0 h hf, ?_⟩
      rw [if_pos rfl]
  | succ k ih =>
    intro m D T S h hT hm
    have hx := h.2.2.2.2.1
    by_cases c : T.2.1 ≠ 0 ∨ tkK b n T.1 = 0
    · rw [mksT_no c]
      by_cases c7 : (700 : Int) ≤ m
      · refine ⟨S, T, qX3_makeAll_26 h0 h1 h2 h3 ?_, h, rfl, dxF_rf S, fun q => (hT q).1⟩
        rw [if_pos (by rw [I_le ⟨by decide, by decide⟩ ⟨by omega, by omega⟩]; exact c7)]
      · by_cases hf : T.2.1 = 0
        · have hk : tkK b n T.1 = 0 := c.elim (fun q => absurd hf q) id
          obtain ⟨S1, g1, t1, e3, e5, e4, f1⟩ := atCl_ok (sc := sc) h0 hn hb h hf
          rw [if_pos hk] at g1
          refine ⟨S1, goT b n T, qX3_makeAll_26 h0 h1 h2 h3 ?_, t1, rfl, dxF_tx f1, fun q => ⟨dcR_tx (hT hf).1.1 f1, (hT hf).1.2⟩⟩
          rw [if_neg (by rw [I_le ⟨by decide, by decide⟩ ⟨by omega, by omega⟩]; exact c7)]
          refine ⟨_, _, g1, ?_⟩
          rw [if_pos rfl]
        · refine ⟨S, T, qX3_makeAll_26 h0 h1 h2 h3 ?_, h, rfl, dxF_rf S, fun q => absurd q hf⟩
          rw [if_neg (by rw [I_le ⟨by decide, by decide⟩ ⟨by omega, by omega⟩]; exact c7)]
          refine ⟨_, _, atCl_bad h0 h hf, ?_⟩
          rw [if_pos rfl]
    · have hf : T.2.1 = 0 := Decidable.not_not.mp (fun q => c (.inl q))
      have hk : tkK b n T.1 ≠ 0 := fun q => c (.inr q)
      obtain ⟨⟨dc, oD, hg⟩, fu, mT⟩ := hT hf
      have hr := tk_rg b (n := n) hx.1.2
      have hlt : T.1 < n := by
        have : ¬ n ≤ tkS b n T.1 := fun q => hk (hr.2.2.2.1.mpr q)
        omega
      rw [mksT_yes c]
      obtain ⟨S1, g1, t1, e3, e5, e4, f1⟩ := atCl_ok (sc := sc) h0 hn hb h hf
      rw [if_neg hk] at g1
      obtain ⟨S2, g2, t2, f2, d2⟩ := mkClause_ok (sc := sc) h0 h1 h2 h3 hn hb t1 hf e3 e5 e4 hx (dcR_tx dc f1) oD
      obtain ⟨S3, U, g3, t3, hU, f3, d3⟩ := ih (m + 1) (clD b n D T).1 (clD b n D T).2 S2 t2 (fun q => by
        have mv := clD_mv hn.2 hx hf q
        have ok := ok_clB hμ hf oD hg (endT_ok q).1
        exact ⟨⟨d2 q, ok⟩, by omega, by omega⟩) (by omega)
      refine ⟨S3, U, qX3_makeAll_26 h0 h1 h2 h3 ?_, t3, hU, dxF_tr (dxF_tx f1) (dxF_tr f2 f3), d3⟩
      rw [if_neg (by rw [I_le ⟨by decide, by decide⟩ ⟨by omega, by omega⟩]; omega)]
      refine ⟨_, _, g1, ?_⟩
      rw [if_neg (by decide)]
      rw [show ((m + 1 : Nat) : Int) = (m : Int) + 1 by omega] at g3
      exact ⟨_, g2, g3⟩
end
