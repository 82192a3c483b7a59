/-! ===== the orders of a text, as the class reads them ===== -/
/-- an order: its word, and three numbers -/
abbrev aR : Type := Int × Int × Int × Int
def pgV (P : aP) (x : (Int × Int × Int) × aT) : Int := if x.2.2.1 = 0 then plc P x.1.1 x.1.2.1 else -1
def ordB (b : Int → Int) (n : Int) (P : aP) (T : aT) : aR × aT :=
  if tkW b n T.1 = 8 then ((8, pgV P (pgT b n P (goT b n T)), (numT b n 0 3 (pgT b n P (goT b n T)).2).1, (numT b n 0 15 (numT b n 0 3 (pgT b n P (goT b n T)).2).2).1), (numT b n 0 15 (numT b n 0 3 (pgT b n P (goT b n T)).2).2).2)
  else if tkW b n T.1 = 9 then ((9, pgV P (pgT b n P (goT b n T)), pgV P (pgT b n P (pgT b n P (goT b n T)).2), 0), (pgT b n P (pgT b n P (goT b n T)).2).2)
  else if tkW b n T.1 = 10 then ((10, pgV P (pgT b n P (goT b n T)), 0, 0), (pgT b n P (goT b n T)).2)
  else if tkW b n T.1 = 11 then ((11, (numT b n 1 100 (goT b n T)).1, 0, 0), (numT b n 1 100 (goT b n T)).2)
  else if tkW b n T.1 = 12 then ((12, (numT b n 1 20 (goT b n T)).1, 0, 0), (numT b n 1 20 (goT b n T)).2)
  else ((0, 0, 0, 0), failA 1 (tkS b n T.1) T)
def ordT (b : Int → Int) (n : Int) (P : aP) (T : aT) : aR × aT := ((ordB b n P T).1, endT b n (ordB b n P T).2)
/-- the class's order is that one -/
def ordR (S : mStore) (o : aR) : Prop := (o.1 = 8 ∧ S 86 2 = 0 ∧ S 86 3 = o.2.1 ∧ S 86 5 = o.2.2.1 ∧ S 86 6 = o.2.2.2) ∨ (o.1 = 9 ∧ S 86 2 = 1 ∧ S 86 3 = o.2.1 ∧ S 86 4 = o.2.2.1) ∨ (o.1 = 10 ∧ S 86 2 = 2 ∧ S 86 3 = o.2.1) ∨ (o.1 = 11 ∧ S 86 2 = 3 ∧ S 86 5 = o.2.1) ∨ (o.1 = 12 ∧ S 86 2 = 4 ∧ S 86 5 = o.2.1)
abbrev cxF (S S' : mStore) : Prop := (∀ j, j ≠ 11 → j ≠ 86 → S' j = S j) ∧ S' 11 1 = S 11 1
theorem cxF_tx {S S1 S2 : mStore} (h : cxF S S1) (h2 : txF S1 S2) : cxF S S2 := ⟨fun j h1 h3 => (h2.1 j h1).trans (h.1 j h1 h3), h2.2.trans h.2⟩
theorem cxF_up {S S1 : mStore} {i x : Int} (h : cxF S S1) : cxF S (up S1 86 i x) := ⟨fun j h1 h3 => (up_ne h3).trans (h.1 j h1 h3), by rw [up_ne (by decide)]; exact h.2⟩
theorem ok_ordB {b : Int → Int} {n : Int} {P : aP} {T : aT} (hn : n ≤ 700) (h : okX n T) : okX n (ordB b n P T).2 := by
  have hg := ok_go (b := b) h
  have r1 := tk_rg b h.1.2
  have b1 := h.1
  unfold ordB
  split
  · exact ok_num hn (ok_num hn (ok_pg hn hg))
  · split
    · exact ok_pg hn (ok_pg hn hg)
    · split
      · exact ok_pg hn hg
      · split
        · exact ok_num hn hg
        · split
          · exact ok_num hn hg
          · exact ok_fail h (by decide) (by omega)
section
variable {sc : Nat × (Nat → Int32)} {SH : List mCell} {S : mStore} {b : Int → Int} {n : Int} {T : aT} {P : aP}
theorem isW_all (h0 : sText SH) (hn : 0 ≤ n ∧ n ≤ 700) (hb : ∀ i, 0 ≤ b i ∧ b i < 256) (ht : tapR S b n) {i : Int} (hi : 0 ≤ i ∧ i ≤ n) (h3 : S 11 3 = tkS b n i) (h5 : S 11 5 = tkK b n i) (h4 : S 11 4 = tkE b n i) (q : Nat) (hq : q < 13) {u : Option Value} : G sc MX8_isWord 0 [some (.ref 11), some (.retAddr (q + 2)), u] [] SH S (rI (if tkW b n i = q then 1 else 0) SH S) := by
  have key : ∀ {t : List Int32} (_ : mstrs (q + 2) = some t), t.map (·.toInt) = wls.getD q [] → t.length ≤ 6 → (∀ x ∈ t, 0 ≤ x.toInt ∧ x.toInt < 128) → G sc MX8_isWord 0 [some (.ref 11), some (.retAddr (q + 2)), u] [] SH S (rI (if tkW b n i = q then 1 else 0) SH S) := fun {t} h1 h2 h3' h4' => by
    have := isW_ok (sc := sc) h0 hn hb ht hi h3 h5 h4 h1 ⟨q, hq, rfl, h2⟩ h3' h4' (u := u)
    rw [show (((q + 2 : Nat) : Int) - 2) = q by omega] at this
    exact this
  rcases (show q = 0 ∨ q = 1 ∨ q = 2 ∨ q = 3 ∨ q = 4 ∨ q = 5 ∨ q = 6 ∨ q = 7 ∨ q = 8 ∨ q = 9 ∨ q = 10 ∨ q = 11 ∨ q = 12 by omega) with rfl | rfl | rfl | rfl | rfl | rfl | rfl | rfl | rfl | rfl | rfl | rfl | rfl <;> exact key rfl (by decide) (by decide) (by decide)
theorem clT_go (h : clT S b n (goT b n T)) (hf : T.2.1 = 0) (h3 : S 11 3 = tkS b n T.1) (hT : okX n T) (h0 : sText SH) (hn : n ≤ 700) {k : Int} (hk : 1 ≤ k ∧ k ≤ 5) : ∃ S', G sc MX8_fail 0 [some (.ref 11), some (.int (I k))] [] SH S (rV SH S') ∧ clT S' b n (failA k (tkS b n T.1) T) ∧ txF S S' := by
  have hr := tk_rg b (n := n) hT.1.2
  have hT1 := hT.1
  obtain ⟨S2, g2, c2, f2⟩ := fail_ok (sc := sc) h0 h hk (a := tkS b n T.1) (by omega) h3
  have hf' : (goT b n T).2.1 = 0 := hf
  rw [failA_z hf'] at c2
  refine ⟨S2, g2, ?_, f2⟩
  rw [failA_z hf]
  exact ⟨c2.1, c2.2.1, c2.2.2.1, c2.2.2.2.1, ⟨hT.1, c2.2.2.2.2.1.2⟩, fun q => absurd q (by show ¬ k = 0; omega)⟩
theorem isNext_end (h0 : sText SH) (h1 : sPlan SH 1) (h2 : sOrder SH) (hn : 0 ≤ n ∧ n ≤ 700) (hb : ∀ i, 0 ≤ b i ∧ b i < 256) (h : clT S b n T) : ∃ S', G sc MX4_isNext 235 [some (.ref 86)] [] SH S (rI (if (endT b n T).2.1 = 0 then 1 else 0) SH S') ∧ clT S' b n (endT b n T) ∧ txF S S' := by
  obtain ⟨S', g, c, f⟩ := ends_ok (sc := sc) h0 hn hb h
  have hr := c.2.2.2.2.1.2.1
  refine ⟨S', qX4_isNext_235 h0 h1 h2 ⟨_, g, ?_⟩, c, f⟩
  rw [c.2.2.1]
  by_cases z : (endT b n T).2.1 = 0
  · rw [z, if_pos rfl, if_pos rfl]
    exact qX4_isNext_257 h0 h1 h2 ⟨.inr rfl, rfl⟩
  · rw [if_neg (by rw [I_eq ⟨by omega, by omega⟩ ⟨by decide, by decide⟩]; exact z), if_neg z]
    exact qX4_isNext_257 h0 h1 h2 ⟨.inl rfl, rfl⟩
theorem isNext_no (h0 : sText SH) (h1 : sPlan SH 1) (h2 : sOrder SH) (hn : 0 ≤ n ∧ n ≤ 700) (hb : ∀ i, 0 ≤ b i ∧ b i < 256) (h : clT S b n T) (hz : T.2.1 ≠ 0 ∨ tkK b n T.1 = 0) : ∃ S' U, G sc MX4_isNext 0 [some (.ref 86)] [] SH S (rI 0 SH S') ∧ clT S' b n U ∧ U.2 = T.2 ∧ txF S S' := by
  by_cases hf : T.2.1 = 0
  · obtain ⟨S', g, c, e3, e5, e4, f⟩ := atCl_ok (sc := sc) h0 hn hb h hf
    have hk : tkK b n T.1 = 0 := hz.elim (fun q => absurd hf q) id
    rw [if_pos hk] at g
    refine ⟨S', goT b n T, qX4_isNext_0 h0 h1 h2 ⟨_, _, g, ?_⟩, c, rfl, f⟩
    rw [if_pos rfl]
    exact ⟨.inl rfl, rfl⟩
  · refine ⟨S, T, qX4_isNext_0 h0 h1 h2 ⟨_, _, atCl_bad h0 h hf, ?_⟩, h, rfl, txF_rf S⟩
    rw [if_pos rfl]
    exact ⟨.inl rfl, rfl⟩
theorem isNext_ok (h0 : sText SH) (h1 : sPlan SH 1) (h2 : sOrder SH) (hn : 0 ≤ n ∧ n ≤ 700) (hb : ∀ i, 0 ≤ b i ∧ b i < 256) (h : clT S b n T) (hp : planR S 1 P) (hP : wfP P) (hf : T.2.1 = 0) (hk : tkK b n T.1 ≠ 0) : ∃ S', G sc MX4_isNext 0 [some (.ref 86)] [] SH S (rI (if (ordT b n P T).2.2.1 = 0 then 1 else 0) SH S') ∧ clT S' b n (ordT b n P T).2 ∧ cxF S S' ∧ ((ordT b n P T).2.2.1 = 0 → ordR S' (ordT b n P T).1) := by
  obtain ⟨S1, g1, c1, e3, e5, e4, f1⟩ := atCl_ok (sc := sc) h0 hn hb h hf
  have hT := h.2.2.2.2.1
  have hp1 : planR S1 1 P := planR_far hp (fun j q1 q2 => f1.1 j (by omega))
  have w := fun (q : Nat) (hq : q < 13) => isW_all (sc := sc) h0 hn hb c1.2.1 hT.1 e3 e5 e4 q hq (u := none)
  have w8 := w 8 (by decide)
  have w9 := w 9 (by decide)
  have w10 := w 10 (by decide)
  have w11 := w 11 (by decide)
  have w12 := w 12 (by decide)
  clear w
  have hwr := tkW_rg b n T.1
  rw [if_neg hk] at g1
  have f1' : cxF S S1 := ⟨fun j q1 _ => f1.1 j q1, f1.2⟩
  unfold ordT ordB
  by_cases d8 : tkW b n T.1 = 8
  · rw [if_pos d8]
    rw [if_pos (by exact d8)] at w8
    obtain ⟨S2, g2, c2, f2, _⟩ := pgIn_ok (sc := sc) (S := up S1 86 2 0) h0 hn hb (clT_far c1 (up_ne (by decide)) (up_ne (by decide))) (a := 1) (by decide) h1 (planR_far hp1 (fun j q1 q2 => up_ne (by omega))) hP (u2 := none) (u3 := none) (u4 := none)
    obtain ⟨S3, g3, c3, f3, _⟩ := numIn_ok (sc := sc) (S := up S2 86 3 (pgV P (pgT b n P (goT b n T)))) h0 hn hb (clT_far c2 (up_ne (by decide)) (up_ne (by decide))) (lo := 0) (hi := 3) (by decide) (by decide) (u := none) (u' := none)
    obtain ⟨S4, g4, c4, f4, _⟩ := numIn_ok (sc := sc) (S := up S3 86 5 (numT b n 0 3 (pgT b n P (goT b n T)).2).1) h0 hn hb (clT_far c3 (up_ne (by decide)) (up_ne (by decide))) (lo := 0) (hi := 15) (by decide) (by decide) (u := none) (u' := none)
    obtain ⟨S5, g5, c5, f5⟩ := isNext_end (sc := sc) (S := up S4 86 6 (numT b n 0 15 (numT b n 0 3 (pgT b n P (goT b n T)).2).2).1) h0 h1 h2 hn hb (clT_far c4 (up_ne (by decide)) (up_ne (by decide)))
    refine ⟨S5, qX4_isNext_0 h0 h1 h2 ⟨_, _, g1, ?_⟩, c5, cxF_tx (cxF_up (cxF_tx (cxF_up (cxF_tx (cxF_up (cxF_tx (cxF_up f1') f2)) f3)) f4)) f5, fun _ => .inl ⟨rfl, ?_, ?_, ?_, ?_⟩⟩
    · rw [if_neg (by decide)]
      refine ⟨_, _, w8, ?_⟩
      rw [if_neg (by decide)]
      exact ⟨_, _, g2, _, _, g3, _, _, g4, g5⟩
    · rw [f5.1 86 (by decide), up_at, if_neg (by decide), f4.1 86 (by decide), up_at, if_neg (by decide), f3.1 86 (by decide), up_at, if_neg (by decide), f2.1 86 (by decide), up_eq]
    · rw [f5.1 86 (by decide), up_at, if_neg (by decide), f4.1 86 (by decide), up_at, if_neg (by decide), f3.1 86 (by decide), up_eq]
    · rw [f5.1 86 (by decide), up_at, if_neg (by decide), f4.1 86 (by decide), up_eq]
    · rw [f5.1 86 (by decide), up_eq]
  rw [if_neg d8]
  rw [if_neg (by exact d8)] at w8
  by_cases d9 : tkW b n T.1 = 9
  · rw [if_pos d9]
    rw [if_pos (by exact d9)] at w9
    obtain ⟨S2, g2, c2, f2, _⟩ := pgIn_ok (sc := sc) (S := up S1 86 2 1) h0 hn hb (clT_far c1 (up_ne (by decide)) (up_ne (by decide))) (a := 1) (by decide) h1 (planR_far hp1 (fun j q1 q2 => up_ne (by omega))) hP (u2 := none) (u3 := none) (u4 := none)
    have hp2 : planR (up S2 86 3 (pgV P (pgT b n P (goT b n T)))) 1 P := planR_far hp1 (fun j q1 q2 => by rw [up_ne (by omega), f2.1 j (by omega), up_ne (by omega)])
    obtain ⟨S3, g3, c3, f3, _⟩ := pgIn_ok (sc := sc) (S := up S2 86 3 (pgV P (pgT b n P (goT b n T)))) h0 hn hb (clT_far c2 (up_ne (by decide)) (up_ne (by decide))) (a := 1) (by decide) h1 hp2 hP (u2 := none) (u3 := none) (u4 := none)
    obtain ⟨S5, g5, c5, f5⟩ := isNext_end (sc := sc) (S := up S3 86 4 (pgV P (pgT b n P (pgT b n P (goT b n T)).2))) h0 h1 h2 hn hb (clT_far c3 (up_ne (by decide)) (up_ne (by decide)))
    refine ⟨S5, qX4_isNext_0 h0 h1 h2 ⟨_, _, g1, ?_⟩, c5, cxF_tx (cxF_up (cxF_tx (cxF_up (cxF_tx (cxF_up f1') f2)) f3)) f5, fun _ => .inr (.inl ⟨rfl, ?_, ?_, ?_⟩)⟩
    · rw [if_neg (by decide)]
      refine ⟨_, _, w8, ?_⟩
      rw [if_pos rfl]
      refine ⟨_, _, w9, ?_⟩
      rw [if_neg (by decide)]
      exact ⟨_, _, g2, _, _, g3, g5⟩
    · rw [f5.1 86 (by decide), up_at, if_neg (by decide), f3.1 86 (by decide), up_at, if_neg (by decide), f2.1 86 (by decide), up_eq]
    · rw [f5.1 86 (by decide), up_at, if_neg (by decide), f3.1 86 (by decide), up_eq]
    · rw [f5.1 86 (by decide), up_eq]
  rw [if_neg d9]
  rw [if_neg (by exact d9)] at w9
  by_cases d10 : tkW b n T.1 = 10
  · rw [if_pos d10]
    rw [if_pos (by exact d10)] at w10
    obtain ⟨S2, g2, c2, f2, _⟩ := pgIn_ok (sc := sc) (S := up S1 86 2 2) h0 hn hb (clT_far c1 (up_ne (by decide)) (up_ne (by decide))) (a := 1) (by decide) h1 (planR_far hp1 (fun j q1 q2 => up_ne (by omega))) hP (u2 := none) (u3 := none) (u4 := none)
    obtain ⟨S5, g5, c5, f5⟩ := isNext_end (sc := sc) (S := up S2 86 3 (pgV P (pgT b n P (goT b n T)))) h0 h1 h2 hn hb (clT_far c2 (up_ne (by decide)) (up_ne (by decide)))
    refine ⟨S5, qX4_isNext_0 h0 h1 h2 ⟨_, _, g1, ?_⟩, c5, cxF_tx (cxF_up (cxF_tx (cxF_up f1') f2)) f5, fun _ => .inr (.inr (.inl ⟨rfl, ?_, ?_⟩))⟩
    · rw [if_neg (by decide)]
      refine ⟨_, _, w8, ?_⟩
      rw [if_pos rfl]
      refine ⟨_, _, w9, ?_⟩
      rw [if_pos rfl]
      refine ⟨_, _, w10, ?_⟩
      rw [if_neg (by decide)]
      exact ⟨_, _, g2, g5⟩
    · rw [f5.1 86 (by decide), up_at, if_neg (by decide), f2.1 86 (by decide), up_eq]
    · rw [f5.1 86 (by decide), up_eq]
  rw [if_neg d10]
  rw [if_neg (by exact d10)] at w10
  by_cases d11 : tkW b n T.1 = 11
  · rw [if_pos d11]
    rw [if_pos (by exact d11)] at w11
    obtain ⟨S2, g2, c2, f2, _⟩ := numIn_ok (sc := sc) (S := up S1 86 2 3) h0 hn hb (clT_far c1 (up_ne (by decide)) (up_ne (by decide))) (lo := 1) (hi := 100) (by decide) (by decide) (u := none) (u' := none)
    obtain ⟨S5, g5, c5, f5⟩ := isNext_end (sc := sc) (S := up S2 86 5 (numT b n 1 100 (goT b n T)).1) h0 h1 h2 hn hb (clT_far c2 (up_ne (by decide)) (up_ne (by decide)))
    refine ⟨S5, qX4_isNext_0 h0 h1 h2 ⟨_, _, g1, ?_⟩, c5, cxF_tx (cxF_up (cxF_tx (cxF_up f1') f2)) f5, fun _ => .inr (.inr (.inr (.inl ⟨rfl, ?_, ?_⟩)))⟩
    · rw [if_neg (by decide)]
      refine ⟨_, _, w8, ?_⟩
      rw [if_pos rfl]
      refine ⟨_, _, w9, ?_⟩
      rw [if_pos rfl]
      refine ⟨_, _, w10, ?_⟩
      rw [if_pos rfl]
      refine ⟨_, _, w11, ?_⟩
      rw [if_neg (by decide)]
      exact ⟨_, _, g2, g5⟩
    · rw [f5.1 86 (by decide), up_at, if_neg (by decide), f2.1 86 (by decide), up_eq]
    · rw [f5.1 86 (by decide), up_eq]
  rw [if_neg d11]
  rw [if_neg (by exact d11)] at w11
  by_cases d12 : tkW b n T.1 = 12
  · rw [if_pos d12]
    rw [if_pos (by exact d12)] at w12
    obtain ⟨S2, g2, c2, f2, _⟩ := numIn_ok (sc := sc) (S := up S1 86 2 4) h0 hn hb (clT_far c1 (up_ne (by decide)) (up_ne (by decide))) (lo := 1) (hi := 20) (by decide) (by decide) (u := none) (u' := none)
    obtain ⟨S5, g5, c5, f5⟩ := isNext_end (sc := sc) (S := up S2 86 5 (numT b n 1 20 (goT b n T)).1) h0 h1 h2 hn hb (clT_far c2 (up_ne (by decide)) (up_ne (by decide)))
    refine ⟨S5, qX4_isNext_0 h0 h1 h2 ⟨_, _, g1, ?_⟩, c5, cxF_tx (cxF_up (cxF_tx (cxF_up f1') f2)) f5, fun _ => .inr (.inr (.inr (.inr ⟨rfl, ?_, ?_⟩)))⟩
    · rw [if_neg (by decide)]
      refine ⟨_, _, w8, ?_⟩
      rw [if_pos rfl]
      refine ⟨_, _, w9, ?_⟩
      rw [if_pos rfl]
      refine ⟨_, _, w10, ?_⟩
      rw [if_pos rfl]
      refine ⟨_, _, w11, ?_⟩
      rw [if_pos rfl]
      refine ⟨_, _, w12, ?_⟩
      rw [if_neg (by decide)]
      exact ⟨_, _, g2, g5⟩
    · rw [f5.1 86 (by decide), up_at, if_neg (by decide), f2.1 86 (by decide), up_eq]
    · rw [f5.1 86 (by decide), up_eq]
  rw [if_neg d12]
  rw [if_neg (by exact d12)] at w12
  obtain ⟨S2, g2, c2, f2⟩ := clT_go (sc := sc) c1 hf e3 hT h0 hn.2 (k := 1) (by decide)
  obtain ⟨S5, g5, c5, f5⟩ := isNext_end (sc := sc) h0 h1 h2 hn hb c2
  refine ⟨S5, qX4_isNext_0 h0 h1 h2 ⟨_, _, g1, ?_⟩, c5, cxF_tx (cxF_tx f1' f2) f5, fun q => ?_⟩
  · rw [if_neg (by decide)]
    refine ⟨_, _, w8, ?_⟩
    rw [if_pos rfl]
    refine ⟨_, _, w9, ?_⟩
    rw [if_pos rfl]
    refine ⟨_, _, w10, ?_⟩
    rw [if_pos rfl]
    refine ⟨_, _, w11, ?_⟩
    rw [if_pos rfl]
    refine ⟨_, _, w12, ?_⟩
    rw [if_pos rfl]
    exact ⟨_, g2, g5⟩
  · rw [failA_z hf] at q
    exact absurd q (by unfold endT; rw [if_pos (by dsimp only; decide)]; dsimp only; decide)
end
