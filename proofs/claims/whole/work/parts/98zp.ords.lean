/-! ===== all orders of a text ===== -/
def ords (b : Int → Int) (n : Int) (P : aP) : Nat → aT → List aR × aT
  | 0, T => ([], T)
  | k + 1, T => if T.2.1 ≠ 0 ∨ tkK b n T.1 = 0 then ([], T) else if (ordT b n P T).2.2.1 = 0 then ((ordT b n P T).1 :: (ords b n P k (ordT b n P T).2).1, (ords b n P k (ordT b n P T).2).2) else ([], (ordT b n P T).2)
theorem ords_no {b : Int → Int} {n : Int} {P : aP} {T : aT} (c : T.2.1 ≠ 0 ∨ tkK b n T.1 = 0) (k : Nat) : ords b n P k T = ([], T) := by
  match k with
  | 0 => rfl
  | k + 1 => show (if T.2.1 ≠ 0 ∨ tkK b n T.1 = 0 then ([], T) else _) = _; rw [if_pos c]
theorem ords_yes {b : Int → Int} {n : Int} {P : aP} {T : aT} (c : ¬(T.2.1 ≠ 0 ∨ tkK b n T.1 = 0)) (h : (ordT b n P T).2.2.1 = 0) (k : Nat) : ords b n P (k + 1) T = ((ordT b n P T).1 :: (ords b n P k (ordT b n P T).2).1, (ords b n P k (ordT b n P T).2).2) := by
  show (if T.2.1 ≠ 0 ∨ tkK b n T.1 = 0 then ([], T) else if (ordT b n P T).2.2.1 = 0 then _ else _) = _
  rw [if_neg c, if_pos h]
theorem ords_bad {b : Int → Int} {n : Int} {P : aP} {T : aT} (c : ¬(T.2.1 ≠ 0 ∨ tkK b n T.1 = 0)) (h : ¬ (ordT b n P T).2.2.1 = 0) (k : Nat) : ords b n P (k + 1) T = ([], (ordT b n P T).2) := by
  show (if T.2.1 ≠ 0 ∨ tkK b n T.1 = 0 then ([], T) else if (ordT b n P T).2.2.1 = 0 then _ else _) = _
  rw [if_neg c, if_neg h]
theorem failA_1 (k a : Int) (T : aT) : (failA k a T).1 = T.1 := by
  unfold failA
  split
  · rfl
  · rfl
theorem num_mv {b : Int → Int} {n lo hi : Int} {T : aT} (h : okX n T) : T.1 ≤ (numT b n lo hi T).2.1 := by
  have := tk_rg b (n := n) h.1.2
  unfold numT
  split
  · exact Int.le_refl _
  · split
    · dsimp only; rw [failA_1]; exact Int.le_refl _
    · split
      · show T.1 ≤ tkE b n T.1; omega
      · dsimp only; rw [failA_1]; exact Int.le_refl _
theorem pg_mv {b : Int → Int} {n : Int} {P : aP} {T : aT} (hn : n ≤ 700) (h : okX n T) (hz : (pgT b n P T).2.2.1 = 0) : T.1 ≤ (pgT b n P T).2.1 := by
  have q := (pgT_ok hz).2.2.2.2
  have a1 := num_mv (b := b) (lo := 0) (hi := 3) h
  have a2 := num_mv (b := b) (lo := 0) (hi := 11) (ok_num (b := b) (lo := 0) (hi := 3) hn h)
  rw [q]
  show T.1 ≤ (numT b n 0 11 (numT b n 0 3 T).2).2.1
  omega
theorem endT_ok {b : Int → Int} {n : Int} {T : aT} (h : (endT b n T).2.1 = 0) : T.2.1 = 0 ∧ tkK b n T.1 = 3 ∧ endT b n T = goT b n T := by
  unfold endT at *
  by_cases c : T.2.1 ≠ 0
  · rw [if_pos c] at h; exact absurd h c
  rw [if_neg c] at *
  have c' : T.2.1 = 0 := Decidable.not_not.mp c
  by_cases d : tkK b n T.1 = 3
  · rw [if_pos d]; exact ⟨c', d, rfl⟩
  · rw [if_neg d, failA_z c'] at h; exact absurd h (by dsimp only; decide)
theorem tkW_len {b : Int → Int} {n i : Int} (q : Nat) (hq : q < 13) (h : tkW b n i = q) : tkE b n i - tkS b n i = ((wls.getD q []).length : Int) := by
  unfold tkW at h
  by_cases c : tkK b n i = 1
  · rw [if_pos c] at h
    exact isW_len _ _ _ ((wd_iff q hq).mp h)
  · rw [if_neg c] at h; omega
theorem ord_mv {b : Int → Int} {n : Int} {P : aP} {T : aT} (hn : n ≤ 700) (hT : okX n T) (h : (ordT b n P T).2.2.1 = 0) : T.1 + 5 ≤ (ordT b n P T).2.1 := by
  have e := endT_ok h
  have hB := ok_ordB (b := b) (P := P) hn hT
  have r1 := tk_rg b (n := n) hB.1.2
  have r0 := tk_rg b (n := n) hT.1.2
  have hg := ok_go (b := b) hT
  have key : T.1 + 4 ≤ (ordB b n P T).2.1 := by
    have hz := e.1
    have eg : (goT b n T).1 = tkE b n T.1 := rfl
    unfold ordB at hz ⊢
    by_cases d : tkW b n T.1 = 8
    · rw [if_pos d] at hz ⊢
      have l := tkW_len 8 (by decide) d
      rw [show ((wls.getD 8 []).length : Int) = 5 from rfl] at l
      have z1 := (numT_ok hz).1
      have z2 := (numT_ok z1).1
      have m1 := pg_mv hn hg z2
      have k1 := ok_pg (b := b) (P := P) hn hg
      have m2 := num_mv (b := b) (lo := 0) (hi := 3) k1
      have m3 := num_mv (b := b) (lo := 0) (hi := 15) (ok_num (b := b) (lo := 0) (hi := 3) hn k1)
      dsimp only
      omega
    rw [if_neg d] at hz ⊢
    by_cases d : tkW b n T.1 = 9
    · rw [if_pos d] at hz ⊢
      have l := tkW_len 9 (by decide) d
      rw [show ((wls.getD 9 []).length : Int) = 4 from rfl] at l
      have z2 := (pgT_ok hz).1
      have m1 := pg_mv hn hg z2
      have m2 := pg_mv hn (ok_pg (b := b) (P := P) hn hg) hz
      dsimp only
      omega
    rw [if_neg d] at hz ⊢
    by_cases d : tkW b n T.1 = 10
    · rw [if_pos d] at hz ⊢
      have l := tkW_len 10 (by decide) d
      rw [show ((wls.getD 10 []).length : Int) = 4 from rfl] at l
      have m1 := pg_mv hn hg hz
      dsimp only
      omega
    rw [if_neg d] at hz ⊢
    by_cases d : tkW b n T.1 = 11
    · rw [if_pos d] at hz ⊢
      have l := tkW_len 11 (by decide) d
      rw [show ((wls.getD 11 []).length : Int) = 4 from rfl] at l
      have m2 := num_mv (b := b) (lo := 1) (hi := 100) hg
      dsimp only
      omega
    rw [if_neg d] at hz ⊢
    by_cases d : tkW b n T.1 = 12
    · rw [if_pos d] at hz ⊢
      have l := tkW_len 12 (by decide) d
      rw [show ((wls.getD 12 []).length : Int) = 4 from rfl] at l
      have m2 := num_mv (b := b) (lo := 1) (hi := 20) hg
      dsimp only
      omega
    rw [if_neg d] at hz
    by_cases f : T.2.1 = 0
    · rw [failA_z f] at hz; exact absurd hz (by dsimp only; decide)
    · rw [failA_n f] at hz; exact absurd hz f
  show T.1 + 5 ≤ (endT b n (ordB b n P T).2).1
  rw [e.2.2]
  show T.1 + 5 ≤ tkE b n (ordB b n P T).2.1
  have := r1.2.2.2.2 (by rw [e.2.1]; decide)
  omega
theorem cxF_tr {S S1 S2 : mStore} (h : cxF S S1) (h2 : cxF S1 S2) : cxF S S2 := ⟨fun j a c => (h2.1 j a c).trans (h.1 j a c), h2.2.trans h.2⟩
section
variable {sc : Nat × (Nat → Int32)} {SH : List mCell} {b : Int → Int} {n : Int} {P : aP}
theorem count_lp (h0 : sText SH) (h1 : sPlan SH 1) (h2 : sOrder SH) (hn : 0 ≤ n ∧ n ≤ 700) (hb : ∀ i, 0 ≤ b i ∧ b i < 256) (hP : wfP P) : ∀ (k m : Nat) (T : aT) (S : mStore), clT S b n T → planR S 1 P → n < T.1 + 5 * k → m + k ≤ 300 → ∃ S' U, G sc MX4_countAll 2 [some (.ref 86), some (.int (I m))] [] SH S (rI (m + ((ords b n P k T).1.length : Int)) SH S') ∧ clT S' b n U ∧ U.2 = (ords b n P k T).2.2 ∧ cxF S S'
  | 0, m, T, S, h, hp, hk, hm => by
    have := h.2.2.2.2.1.1
    omega
  | k + 1, m, T, S, h, hp, hk, hm => by
    by_cases c : T.2.1 ≠ 0 ∨ tkK b n T.1 = 0
    · obtain ⟨S', U, g, c', hu, f⟩ := isNext_no (sc := sc) h0 h1 h2 hn hb h c
      rw [ords_no c]
      refine ⟨S', U, qX4_countAll_2 h0 h1 h2 ?_, c', hu, fun j q1 _ => f.1 j q1, f.2⟩
      rw [if_neg (by rw [I_le ⟨by decide, by decide⟩ ⟨by omega, by omega⟩]; omega)]
      refine ⟨_, _, g, ?_⟩
      rw [if_pos rfl]
      show rI (m : Int) SH S' = rI ((m : Int) + 0) SH S'
      rw [Int.add_zero]
    · have c1 : T.2.1 = 0 := Decidable.not_not.mp (fun q => c (.inl q))
      have c2 : tkK b n T.1 ≠ 0 := fun q => c (.inr q)
      obtain ⟨S1, g, c', f, -⟩ := isNext_ok (sc := sc) h0 h1 h2 hn hb h hp hP c1 c2
      by_cases z : (ordT b n P T).2.2.1 = 0
      · rw [if_pos z] at g
        have mv := ord_mv hn.2 h.2.2.2.2.1 z
        obtain ⟨S2, U, g2, cU, hU, f2⟩ := count_lp h0 h1 h2 hn hb hP k (m + 1) (ordT b n P T).2 S1 c' (planR_far hp (fun j q1 q2 => f.1 j (by omega) (by omega))) (by omega) (by omega)
        rw [ords_yes c z]
        refine ⟨S2, U, qX4_countAll_2 h0 h1 h2 ?_, cU, hU, cxF_tr f f2⟩
        rw [if_neg (by rw [I_le ⟨by decide, by decide⟩ ⟨by omega, by omega⟩]; omega)]
        refine ⟨_, _, g, ?_⟩
        rw [if_neg (by decide)]
        rw [show ((m + 1 : Nat) : Int) = (m : Int) + 1 by omega] at g2
        dsimp only
        rw [List.length_cons, show (m : Int) + ((((ords b n P k (ordT b n P T).2).1.length + 1 : Nat)) : Int) = (m : Int) + 1 + ((ords b n P k (ordT b n P T).2).1.length : Int) by omega]
        exact g2
      · rw [if_neg z] at g
        rw [ords_bad c z]
        refine ⟨S1, _, qX4_countAll_2 h0 h1 h2 ?_, c', rfl, f⟩
        rw [if_neg (by rw [I_le ⟨by decide, by decide⟩ ⟨by omega, by omega⟩]; omega)]
        refine ⟨_, _, g, ?_⟩
        rw [if_pos rfl]
        show rI (m : Int) SH S1 = rI ((m : Int) + 0) SH S1
        rw [Int.add_zero]
theorem oxF_tr {S S1 S2 : mStore} {k : Int} (h : oxF S S1 k) (h2 : oxF S1 S2 (k + 1)) : oxF S S2 k := ⟨fun j a c => (h2.1 j a c).trans (h.1 j a c), fun f a1 a2 a3 a4 a5 a6 a7 a8 => (h2.2.1 f a1 a2 a3 a4 a5 a6 a7 a8).trans (h.2.1 f a1 a2 a3 a4 a5 a6 a7 a8), fun i hi => (h2.2.2 i (by omega)).trans (h.2.2 i hi)⟩
theorem ordsM (h0 : sMod SH) (hn : 0 ≤ n ∧ n ≤ 700) (hb : ∀ i, 0 ≤ b i ∧ b i < 256) (hP : wfP P) {l : Int} {u : Option Value} : ∀ (k m : Nat) (T : aT) (S : mStore), mdT S b n T → modP S P → S 90 55 = m → (T.2.1 = 0 → 5 * (m : Int) ≤ T.1) → n < T.1 + 5 * k → ∃ S', mdT S' b n (ords b n P k T).2 ∧ oxF S S' m ∧ ((ords b n P k T).2.2.1 = 0 → S' 90 55 = m + ((ords b n P k T).1.length : Int) ∧ ∀ (i : Nat) (o : aR), (ords b n P k T).1[i]? = some o → ordA S' ((m : Int) + i) o) ∧ ∀ r, G sc MX11_orders 40 [some (.ref 90), some (.int (I l)), u] [] SH S' r → G sc MX11_orders 15 [some (.ref 90), some (.int (I l)), u] [] SH S r
  | 0, m, T, S, h, hp, h5, hm, hk => by
    have := h.2.2.2.2.1.1
    omega
  | k + 1, m, T, S, h, hp, h5, hm, hk => by
    have hT := h.2.2.2.2.1
    have hT1 := hT.1
    have hT2 := hT.2.1
    by_cases c : T.2.1 ≠ 0 ∨ tkK b n T.1 = 0
    · rw [ords_no c]
      refine ⟨S, h, oxF_rf S m, fun _ => ⟨by rw [h5]; show (m : Int) = m + 0; omega, fun i o q => by cases q⟩, fun r q => qX11_orders_15 h0 ?_⟩
      rw [h.2.2.1]
      by_cases z : T.2.1 = 0
      · have c2 : tkK b n T.1 = 0 := c.elim (fun q => absurd z q) id
        rw [if_pos (by rw [z]), (h.2.2.2.2.2 z).2.2.1, if_pos (by rw [c2])]
        exact q
      · rw [if_neg (by rw [I_eq ⟨by omega, by omega⟩ ⟨by decide, by decide⟩]; exact z)]
        exact q
    · have c1 : T.2.1 = 0 := Decidable.not_not.mp (fun q => c (.inl q))
      have c2 : tkK b n T.1 ≠ 0 := fun q => c (.inr q)
      have hm1 := hm c1
      have hr := tk_rg b (n := n) hT.1.2
      obtain ⟨S1, g1, t1, x1, a1⟩ := orderM (sc := sc) h0 hn hb h hp hP c1 h5 ⟨by omega, by omega⟩ (u := none)
      obtain ⟨S2, g2, t2, x2⟩ := endM (sc := sc) h0 hn hb t1
      have t2' : mdT S2 b n (ordT b n P T).2 := t2
      have x3 := oxF_mx x1 x2
      have st : ∀ r, G sc MX11_orders 15 [some (.ref 90), some (.int (I l)), u] [] SH S2 r → G sc MX11_orders 15 [some (.ref 90), some (.int (I l)), u] [] SH S r := fun r q => by
        refine qX11_orders_15 h0 ?_
        rw [h.2.2.1, if_pos (by rw [c1]), (h.2.2.2.2.2 c1).2.2.1, if_neg (by rw [I_eq ⟨by omega, by omega⟩ ⟨by decide, by decide⟩]; exact c2)]
        exact ⟨_, g1, _, g2, q⟩
      by_cases z : (ordT b n P T).2.2.1 = 0
      · have mv := ord_mv hn.2 hT z
        have hz := (endT_ok z).1
        obtain ⟨e5, ea⟩ := a1 hz
        have e5' : S2 90 55 = ((m + 1 : Nat) : Int) := by rw [x2.2 55 (by decide) (by decide) (by decide) (by decide) (by decide) (by decide) (by decide), e5]; omega
        obtain ⟨S3, t3, x4, a3, st3⟩ := ordsM h0 hn hb hP (l := l) (u := u) k (m + 1) (ordT b n P T).2 S2 t2' (oxF_P x3 hp) e5' (fun _ => by omega) (by omega)
        rw [show ((m + 1 : Nat) : Int) = (m : Int) + 1 by omega] at x4 a3
        rw [ords_yes c z]
        refine ⟨S3, t3, oxF_tr x3 x4, fun q => ?_, fun r q => st r (st3 r q)⟩
        obtain ⟨b1, b2⟩ := a3 q
        refine ⟨by rw [b1]; show _ = (m : Int) + (((ords b n P k (ordT b n P T).2).1.length + 1 : Nat) : Int); omega, fun i o hi => ?_⟩
        match i, hi with
        | 0, hi =>
          cases hi
          have e : ∀ y, y < 4 * ((m : Int) + 1) → S3 107 y = S1 107 y := fun y hy => by rw [x4.2.2 y hy, x2.1 107 (by decide)]
          unfold ordA
          rw [show (m : Int) + ((0 : Nat) : Int) = m by omega, e _ (by omega), e _ (by omega), e _ (by omega), e _ (by omega)]
          exact ea
        | i + 1, hi =>
          rw [show (m : Int) + ((i + 1 : Nat) : Int) = (m : Int) + 1 + i by omega]
          exact b2 i o hi
      · rw [ords_bad c z]
        refine ⟨S2, t2', x3, fun q => absurd q z, fun r q => st r (qX11_orders_15 h0 ?_)⟩
        have hz := t2'.2.2.2.2.1.2.1
        rw [t2'.2.2.1, if_neg (by rw [I_eq ⟨by omega, by omega⟩ ⟨by decide, by decide⟩]; exact z)]
        exact q
end
