/-! ===== the class makes guests, pages, what is advised ===== -/
theorem p16 : ∀ k : Nat, (1 : Int) ≤ 16 ^ k
  | 0 => by decide
  | k + 1 => by have := p16 k; rw [Int.pow_succ]; omega
theorem pgT_fault {b : Int → Int} {n : Int} {P : aP} {U : aT} (h : U.2.1 ≠ 0) : (pgT b n P U).2 = U := by rw [pgT_bad h]
section
variable {sc : Nat × (Nat → Int32)} {SH : List mCell} {S : mStore} {b : Int → Int} {n : Int} {T U : aT} {D : aD}
theorem mkG_ok (h0 : sText SH) (h1 : sPlan SH 6) (h2 : sState SH 65) (h3 : sMaker SH) (hn : 0 ≤ n ∧ n ≤ 700) (hb : ∀ i, 0 ≤ b i ∧ b i < 256) (c : clT S b n (goT b n T)) (hf : T.2.1 = 0) (e3 : S 11 3 = tkS b n T.1) (hT : okX n T) (hD : dcR S D) (oD : okE D) {X : aD × aT} (hX : X = if 4 ≤ D.1 0 6 then (D, failA 2 (tkS b n T.1) T) else ((addG D.1 (gsT b n (goT b n T)).1.1 (gsT b n (goT b n T)).1.2, D.2), (gsT b n (goT b n T)).2)) {u1 u2 : Option Value} : ∃ S', G sc MX3_makeGuest 0 [some (.ref 85), u1, u2] [] SH S (rV SH S') ∧ clT S' b n X.2 ∧ dxF S S' ∧ (X.2.2.1 = 0 → dcR S' X.1) := by
  obtain ⟨oP, oA, oT, oL, o7⟩ := oD
  have hP6 := oP.2.2.2.2.1
  have hP7 := oP.2.2.2.2.2.1
  have e6 : S 6 6 = D.1 0 6 := hD.1.1 6 (by decide) (by decide)
  by_cases c4 : 4 ≤ D.1 0 6
  · rw [if_pos c4] at hX
    subst hX
    obtain ⟨S1, g1, t1, f1⟩ := clT_go (sc := sc) c hf e3 hT h0 hn.2 (k := 2) (by decide)
    have hb' : (failA 2 (tkS b n T.1) T).2.1 ≠ 0 := by rw [failA_z hf]; show (2 : Int) ≠ 0; decide
    obtain ⟨S2, g2, t2, f2⟩ := isNum_ok (sc := sc) h0 hn hb t1 (u := none)
    rw [if_neg (fun q => hb' q.1)] at g2
    refine ⟨S2, qX3_makeGuest_0 h0 h1 h2 h3 ?_, t2, dxF_tx (txF_tr f1 f2), fun q => absurd q hb'⟩
    have tz := t2.2.2.2.2.1.2.1
    rw [e6, if_neg (by rw [I_lt ⟨by omega, by omega⟩ ⟨by decide, by decide⟩]; omega)]
    refine ⟨_, g1, _, _, num_bad h0 t1 hb', _, _, g2, ?_⟩
    rw [if_pos rfl, t2.2.2.1, if_neg (by rw [I_eq ⟨by omega, by omega⟩ ⟨by decide, by decide⟩]; exact hb')]
  · rw [if_neg c4] at hX
    obtain ⟨S2, g2, t2, f2, -⟩ := numIn_ok (sc := sc) h0 hn hb c (lo := 1) (hi := 12) (by decide) (by decide) (u := none) (u' := none)
    obtain ⟨S3, g3, t3, f3⟩ := isNum_ok (sc := sc) h0 hn hb t2 (u := none)
    have tz3 := t3.2.2.2.2.1.2.1
    have st : ∀ r, (if I (if (numT b n 1 12 (goT b n T)).2.2.1 = 0 ∧ tkK b n (numT b n 1 12 (goT b n T)).2.1 = 2 then 1 else 0) = I 0 then (if I (S3 11 6) = I 0 then (∃ S105, G sc MX5_addGuest 0 [some (.ref 6), some (.int (I (numT b n 1 12 (goT b n T)).1)), some (.int (I 0)), none] [] SH S3 (rV SH S105) ∧ r = rV SH S105) else r = rV SH S3) else (∃ v106 S107, G sc MX8_numberIn 0 [some (.ref 11), some (.int (I 0)), some (.int (I 2)), none, none] [] SH S3 (rI v106 SH S107) ∧ (if I (S107 11 6) = I 0 then (∃ S108, G sc MX5_addGuest 0 [some (.ref 6), some (.int (I (numT b n 1 12 (goT b n T)).1)), some (.int (I v106)), none] [] SH S107 (rV SH S108) ∧ r = rV SH S108) else r = rV SH S107))) → G sc MX3_makeGuest 0 [some (.ref 85), u1, u2] [] SH S r := fun r q => by
      refine qX3_makeGuest_0 h0 h1 h2 h3 ?_
      rw [e6, if_pos (by rw [I_lt ⟨by omega, by omega⟩ ⟨by decide, by decide⟩]; omega)]
      exact ⟨_, _, g2, _, _, g3, q⟩
    have f23 := txF_tr f2 f3
    by_cases k : (numT b n 1 12 (goT b n T)).2.2.1 = 0 ∧ tkK b n (numT b n 1 12 (goT b n T)).2.1 = 2
    · have eX : X = ((addG D.1 (numT b n 1 12 (goT b n T)).1 (numT b n 0 2 (numT b n 1 12 (goT b n T)).2).1, D.2), (numT b n 0 2 (numT b n 1 12 (goT b n T)).2).2) := by rw [hX]; unfold gsT; rw [if_pos k]
      subst eX
      have mr := num_rg k.1
      obtain ⟨S4, g4, t4, f4, -⟩ := numIn_ok (sc := sc) h0 hn hb t3 (lo := 0) (hi := 2) (by decide) (by decide) (u := none) (u' := none)
      have tz4 := t4.2.2.2.2.1.2.1
      have D4 := dcR_tx hD (txF_tr f23 f4)
      by_cases z : (numT b n 0 2 (numT b n 1 12 (goT b n T)).2).2.2.1 = 0
      · obtain ⟨S5, g5, p5, f5⟩ := addG_ok (sc := sc) (ρ := (numT b n 0 2 (numT b n 1 12 (goT b n T)).2).1) (u := none) h1 D4.1 oP (m := (numT b n 1 12 (goT b n T)).1) mr (by omega) (by omega)
        refine ⟨S5, st _ ?_, clT_far t4 (f5 11 (by omega)) (f5 12 (by omega)), dxF_tr (dxF_tx (txF_tr f23 f4)) ⟨fun j hj => f5 j (by omega), by rw [f5 11 (by omega)]⟩, fun _ => ⟨p5, stateR_far D4.2.1 (fun j _ _ => f5 j (by omega)), by rw [f5 85 (by omega)]; exact D4.2.2.1, by rw [f5 85 (by omega)]; exact D4.2.2.2⟩⟩
        rw [if_pos k, if_neg (by decide)]
        refine ⟨_, _, g4, ?_⟩
        rw [t4.2.2.1, z, if_pos rfl]
        exact ⟨_, g5, rfl⟩
      · refine ⟨S4, st _ ?_, t4, dxF_tx (txF_tr f23 f4), fun q => absurd q z⟩
        rw [if_pos k, if_neg (by decide)]
        refine ⟨_, _, g4, ?_⟩
        rw [t4.2.2.1, if_neg (by rw [I_eq ⟨by omega, by omega⟩ ⟨by decide, by decide⟩]; exact z)]
    · have eX : X = ((addG D.1 (numT b n 1 12 (goT b n T)).1 0, D.2), (numT b n 1 12 (goT b n T)).2) := by rw [hX]; unfold gsT; rw [if_neg k]
      subst eX
      have D3 := dcR_tx hD f23
      by_cases z : (numT b n 1 12 (goT b n T)).2.2.1 = 0
      · have mr := num_rg z
        obtain ⟨S5, g5, p5, f5⟩ := addG_ok (sc := sc) (ρ := 0) (u := none) h1 D3.1 oP (m := (numT b n 1 12 (goT b n T)).1) mr (by omega) (by omega)
        refine ⟨S5, st _ ?_, clT_far t3 (f5 11 (by omega)) (f5 12 (by omega)), dxF_tr (dxF_tx f23) ⟨fun j hj => f5 j (by omega), by rw [f5 11 (by omega)]⟩, fun _ => ⟨p5, stateR_far D3.2.1 (fun j _ _ => f5 j (by omega)), by rw [f5 85 (by omega)]; exact D3.2.2.1, by rw [f5 85 (by omega)]; exact D3.2.2.2⟩⟩
        rw [if_neg k, if_pos rfl, t3.2.2.1, z, if_pos rfl]
        exact ⟨_, g5, rfl⟩
      · refine ⟨S3, st _ ?_, t3, dxF_tx f23, fun q => absurd q z⟩
        rw [if_neg k, if_pos rfl, t3.2.2.1, if_neg (by rw [I_eq ⟨by omega, by omega⟩ ⟨by decide, by decide⟩]; exact z)]
theorem nq_bad : ∀ (k : Nat) (x : Int) {U : aT}, U.2.1 ≠ 0 → (nqT b n k x U).2 = U
  | 0, x, U, h => rfl
  | k + 1, x, U, h => by
    show (nqT b n k (16 * x + (numT b n 0 15 U).1) (numT b n 0 15 U).2).2 = U
    rw [numT_bad h]
    exact nq_bad k _ h
theorem num15 (U : aT) : 0 ≤ (numT b n 0 15 U).1 ∧ (numT b n 0 15 U).1 < 16 := by
  by_cases z : (numT b n 0 15 U).2.2.1 = 0
  · have := num_rg z; omega
  · rw [num_z z]; decide
theorem mp_lp (h0 : sText SH) (h1 : sPlan SH 6) (h2 : sState SH 65) (h3 : sMaker SH) (hn : 0 ≤ n ∧ n ≤ 700) (hb : ∀ i, 0 ≤ b i ∧ b i < 256) {p : Int} : ∀ (k : Nat) (l x : Int) (U : aT) (S : mStore), clT S b n U → l + k = 4 → 0 ≤ l → 0 ≤ x → x * 16 ^ k + 16 ^ k ≤ 65536 → ∃ S', clT S' b n (nqT b n k x U).2 ∧ txF S S' ∧ (0 ≤ (nqT b n k x U).1 ∧ (nqT b n k x U).1 < 65536) ∧ ∀ r, G sc MX3_makePage 67 [some (.ref 85), some (.int (I p)), some (.int (I (nqT b n k x U).1)), some (.int (I 4))] [] SH S' r → G sc MX3_makePage 67 [some (.ref 85), some (.int (I p)), some (.int (I x)), some (.int (I l))] [] SH S r
  | 0, l, x, U, S, h, hl, l0, x0, hx => by
    rw [show l = 4 by omega]
    exact ⟨S, h, txF_rf S, ⟨x0, by show x < 65536; omega⟩, fun r q => q⟩
  | k + 1, l, x, U, S, h, hl, l0, x0, hx => by
    have n15 := num15 (b := b) (n := n) U
    have e16 : (16 : Int) ^ (k + 1) = 16 * 16 ^ k := by rw [Int.pow_succ]; omega
    have hp1 : (1 : Int) ≤ 16 ^ k := p16 k
    obtain ⟨S1, g1, t1, f1, -⟩ := numIn_ok (sc := sc) h0 hn hb h (lo := 0) (hi := 15) (by decide) (by decide) (u := none) (u' := none)
    have hx2 : (16 * x + (numT b n 0 15 U).1) * 16 ^ k + 16 ^ k ≤ 65536 := by
      rw [e16] at hx
      have a1 : (16 * x + (numT b n 0 15 U).1 + 1) * 16 ^ k ≤ (16 * x + 16) * 16 ^ k := Int.mul_le_mul_of_nonneg_right (by omega) (by omega)
      have a2 : (16 * x + 16) * 16 ^ k = x * (16 * 16 ^ k) + 16 * 16 ^ k := by rw [Int.add_mul, Int.mul_comm 16 x, Int.mul_assoc]
      have a3 : (16 * x + (numT b n 0 15 U).1 + 1) * 16 ^ k = (16 * x + (numT b n 0 15 U).1) * 16 ^ k + 16 ^ k := by rw [Int.add_mul (16 * x + (numT b n 0 15 U).1) 1, Int.one_mul]
      omega
    have hx3 : x < 4096 := by
      rw [e16] at hx
      have a1 : x * 16 ≤ x * (16 * 16 ^ k) := Int.mul_le_mul_of_nonneg_left (by omega) x0
      omega
    obtain ⟨S2, t2, f2, r2, st2⟩ := mp_lp h0 h1 h2 h3 hn hb (p := p) k (l + 1) (16 * x + (numT b n 0 15 U).1) (numT b n 0 15 U).2 S1 t1 (by omega) (by omega) (by omega) hx2
    refine ⟨S2, t2, txF_tr f1 f2, r2, fun r q => ?_⟩
    refine qX3_makePage_67 h0 h1 h2 h3 ?_
    rw [if_neg (by rw [I_le ⟨by decide, by decide⟩ ⟨by omega, by omega⟩]; omega)]
    refine ⟨_, _, g1, ?_⟩
    rw [iro4 ⟨x0, hx3⟩ n15]
    exact st2 r q
theorem mkP_ok (h0 : sText SH) (h1 : sPlan SH 6) (h2 : sState SH 65) (h3 : sMaker SH) (hn : 0 ≤ n ∧ n ≤ 700) (hb : ∀ i, 0 ≤ b i ∧ b i < 256) (c : clT S b n (goT b n T)) (hf : T.2.1 = 0) (e3 : S 11 3 = tkS b n T.1) (hT : okX n T) (hD : dcR S D) (oD : okE D) {X : aD × aT} (hX : X = if D.1 0 0 ≤ D.2.2.1 then (D, failA 2 (tkS b n T.1) T) else pg1 b n D (goT b n T)) {u1 u2 u3 : Option Value} : ∃ S', G sc MX3_makePage 0 [some (.ref 85), u1, u2, u3] [] SH S (rV SH S') ∧ clT S' b n X.2 ∧ dxF S S' ∧ (X.2.2.1 = 0 → dcR S' X.1) := by
  obtain ⟨oP, oA, oT, oL, o7⟩ := oD
  have hP0 := oP.1
  have hP7 := oP.2.2.2.2.2.1
  have e0 : S 6 0 = D.1 0 0 := hD.1.1 0 (by decide) (by decide)
  have e4 : S 85 4 = D.2.2.1 := hD.2.2.2
  -- a fault ahead of the numbers: they are passed over
  have bad : ∀ (S1 : mStore) (V : aT) (v : Int), clT S1 b n V → V.2.1 ≠ 0 → ∃ S2, G sc MX3_makePage 67 [some (.ref 85), some (.int (I v)), some (.int (I 0)), some (.int (I 0))] [] SH S1 (rV SH S2) ∧ clT S2 b n V ∧ txF S1 S2 := fun S1 V v t1 hz => by
    obtain ⟨S2, t2, f2, -, st2⟩ := mp_lp (sc := sc) h0 h1 h2 h3 hn hb (p := v) 4 0 0 V S1 t1 (by decide) (by decide) (by decide) (by decide)
    rw [nq_bad 4 0 hz] at t2
    have tz := t2.2.2.2.2.1.2.1
    refine ⟨S2, st2 _ (qX3_makePage_67 h0 h1 h2 h3 ?_), t2, f2⟩
    rw [if_pos (by decide), t2.2.2.1, if_neg (by rw [I_eq ⟨by omega, by omega⟩ ⟨by decide, by decide⟩]; exact hz)]
  by_cases c4 : D.1 0 0 ≤ D.2.2.1
  · rw [if_pos c4] at hX
    subst hX
    obtain ⟨S1, g1, t1, f1⟩ := clT_go (sc := sc) c hf e3 hT h0 hn.2 (k := 2) (by decide)
    have hb' : (failA 2 (tkS b n T.1) T).2.1 ≠ 0 := by rw [failA_z hf]; show (2 : Int) ≠ 0; decide
    have D1 := dcR_tx hD f1
    have g2 := pg_bad (sc := sc) h0 t1 hb' h1 D1.1 oP (u2 := none) (u3 := none) (u4 := none)
    obtain ⟨S3, g3, t3, f3⟩ := bad S1 _ (-1) t1 hb'
    refine ⟨S3, qX3_makePage_0 h0 h1 h2 h3 ?_, t3, dxF_tx (txF_tr f1 f3), fun q => absurd q hb'⟩
    rw [e0, e4, if_neg (by rw [I_lt ⟨by omega, by omega⟩ ⟨by omega, by omega⟩]; omega)]
    refine ⟨_, g1, _, _, g2, ?_⟩
    rw [if_pos rfl]
    exact g3
  · rw [if_neg c4] at hX
    obtain ⟨S1, g1, t1, f1, s1⟩ := pgIn_ok (sc := sc) h0 hn hb c (a := 6) (by decide) h1 hD.1 oP (u2 := none) (u3 := none) (u4 := none)
    have D1 := dcR_tx hD f1
    have st : ∀ r, (if I (if (pgT b n D.1 (goT b n T)).2.2.1 = 0 then plc D.1 (pgT b n D.1 (goT b n T)).1.1 (pgT b n D.1 (goT b n T)).1.2.1 else -1) = I (-1) then G sc MX3_makePage 67 [some (.ref 85), some (.int (I (if (pgT b n D.1 (goT b n T)).2.2.1 = 0 then plc D.1 (pgT b n D.1 (goT b n T)).1.1 (pgT b n D.1 (goT b n T)).1.2.1 else -1))), some (.int (I 0)), some (.int (I 0))] [] SH S1 r else (((0 : Int) ≤ (if (pgT b n D.1 (goT b n T)).2.2.1 = 0 then plc D.1 (pgT b n D.1 (goT b n T)).1.1 (pgT b n D.1 (goT b n T)).1.2.1 else -1) ∧ (if (pgT b n D.1 (goT b n T)).2.2.1 = 0 then plc D.1 (pgT b n D.1 (goT b n T)).1.1 (pgT b n D.1 (goT b n T)).1.2.1 else -1) < 48) ∧ (if I (S1 (65 + 2) (if (pgT b n D.1 (goT b n T)).2.2.1 = 0 then plc D.1 (pgT b n D.1 (goT b n T)).1.1 (pgT b n D.1 (goT b n T)).1.2.1 else -1)) = I (-1) then G sc MX3_makePage 67 [some (.ref 85), some (.int (I (if (pgT b n D.1 (goT b n T)).2.2.1 = 0 then plc D.1 (pgT b n D.1 (goT b n T)).1.1 (pgT b n D.1 (goT b n T)).1.2.1 else -1))), some (.int (I 0)), some (.int (I 0))] [] SH S1 r else (∃ S103, G sc MX8_fail 0 [some (.ref 11), some (.int (I 4))] [] SH S1 (rV SH S103) ∧ G sc MX3_makePage 67 [some (.ref 85), some (.int (I (if (pgT b n D.1 (goT b n T)).2.2.1 = 0 then plc D.1 (pgT b n D.1 (goT b n T)).1.1 (pgT b n D.1 (goT b n T)).1.2.1 else -1))), some (.int (I 0)), some (.int (I 0))] [] SH S103 r)))) → G sc MX3_makePage 0 [some (.ref 85), u1, u2, u3] [] SH S r := fun r q => by
      refine qX3_makePage_0 h0 h1 h2 h3 ?_
      rw [e0, e4, if_pos (by rw [I_lt ⟨by omega, by omega⟩ ⟨by omega, by omega⟩]; omega)]
      exact ⟨_, _, g1, q⟩
    unfold pg1 at hX
    by_cases z : (pgT b n D.1 (goT b n T)).2.2.1 ≠ 0
    · rw [if_pos z] at hX
      subst hX
      obtain ⟨S3, g3, t3, f3⟩ := bad S1 _ (-1) t1 z
      refine ⟨S3, st _ ?_, t3, dxF_tx (txF_tr f1 f3), fun q => absurd q z⟩
      rw [if_neg z, if_pos rfl]
      exact g3
    rw [if_neg z] at hX
    have z' : (pgT b n D.1 (goT b n T)).2.2.1 = 0 := Decidable.not_not.mp z
    have pr := pgV_ok oP z'
    have ev : (if (pgT b n D.1 (goT b n T)).2.2.1 = 0 then plc D.1 (pgT b n D.1 (goT b n T)).1.1 (pgT b n D.1 (goT b n T)).1.2.1 else -1) = pgV D.1 (pgT b n D.1 (goT b n T)) := rfl
    rw [ev] at st
    generalize hp : pgV D.1 (pgT b n D.1 (goT b n T)) = p at *
    have ew : S1 (65 + 2) p = D.2.2.2.w p := D1.2.1.1.1 p pr.1 (by omega)
    have hwr := oA.1.2.2 p
    by_cases k : D.2.2.2.w p ≠ -1
    · rw [if_pos k] at hX
      subst hX
      have hq := pgT_ok z'
      have hr := tk_rg b (n := n) (i := (pgT b n D.1 (goT b n T)).1.2.2) (by rw [hq.2.2.2.2]; exact (ok_num (b := b) (lo := 0) (hi := 3) hn.2 (ok_go hT)).1.2)
      have hr0 : 0 ≤ (pgT b n D.1 (goT b n T)).1.2.2 := by rw [hq.2.2.2.2]; exact (ok_num (b := b) (lo := 0) (hi := 3) hn.2 (ok_go hT)).1.1
      obtain ⟨S2, g2, t2, f2⟩ := fail_ok (sc := sc) h0 t1 (k := 4) (a := tkS b n (pgT b n D.1 (goT b n T)).1.2.2) (by decide) (by omega) (s1 z')
      have hz2 : (failA 4 (tkS b n (pgT b n D.1 (goT b n T)).1.2.2) (pgT b n D.1 (goT b n T)).2).2.1 ≠ 0 := by rw [failA_z z']; show (4 : Int) ≠ 0; decide
      obtain ⟨S3, g3, t3, f3⟩ := bad S2 _ p t2 hz2
      refine ⟨S3, st _ ?_, t3, dxF_tx (txF_tr f1 (txF_tr f2 f3)), fun q => absurd q hz2⟩
      rw [if_neg (by rw [I_eq ⟨by omega, by omega⟩ ⟨by decide, by decide⟩]; omega)]
      refine ⟨⟨pr.1, by omega⟩, ?_⟩
      rw [ew, if_neg (by rw [I_eq ⟨by omega, by omega⟩ ⟨by decide, by decide⟩]; exact k)]
      exact ⟨_, g2, g3⟩
    · rw [if_neg k] at hX
      have k' : D.2.2.2.w p = -1 := Decidable.not_not.mp k
      obtain ⟨S2, t2, f2, r2, st2⟩ := mp_lp (sc := sc) h0 h1 h2 h3 hn hb (p := p) 4 0 0 _ S1 t1 (by decide) (by decide) (by decide) (by decide)
      have D2 := dcR_tx D1 f2
      have tz := t2.2.2.2.2.1.2.1
      have st3 : ∀ r, G sc MX3_makePage 67 [some (.ref 85), some (.int (I p)), some (.int (I (nqT b n 4 0 (pgT b n D.1 (goT b n T)).2).1)), some (.int (I 4))] [] SH S2 r → G sc MX3_makePage 0 [some (.ref 85), u1, u2, u3] [] SH S r := fun r q => by
        refine st r ?_
        rw [if_neg (by rw [I_eq ⟨by omega, by omega⟩ ⟨by decide, by decide⟩]; omega)]
        refine ⟨⟨pr.1, by omega⟩, ?_⟩
        rw [ew, if_pos (by rw [k'])]
        exact st2 r q
      by_cases y : (nqT b n 4 0 (pgT b n D.1 (goT b n T)).2).2.2.1 = 0
      · obtain ⟨S3, g3, r3, f3⟩ := lieIn_ok (sc := sc) h2 D2.2.1 oA.1 (p := p) (f := D.2.2.1) ⟨pr.1, by omega⟩ ⟨oL.1, by omega⟩ k'
        have e854 : S3 85 4 = D.2.2.1 := by rw [f3 85 (by decide)]; exact D2.2.2.2
        subst hX
        refine ⟨up (up S3 78 D.2.2.1 (nqT b n 4 0 (pgT b n D.1 (goT b n T)).2).1) 85 4 (D.2.2.1 + 1), st3 _ (qX3_makePage_67 h0 h1 h2 h3 ?_), clT_far t2 (by rw [up_ne (by decide), up_ne (by decide), f3 11 (by decide)]) (by rw [up_ne (by decide), up_ne (by decide), f3 12 (by decide)]), dxF_tr (dxF_tx (txF_tr f1 f2)) (dxF_tr (S1 := S3) ⟨fun j hj => f3 j (by omega), by rw [f3 11 (by decide)]⟩ (dxF_tr (dxF_up (.inr (by decide))) (dxF_up (.inr (by decide))))), fun _ => ⟨planR_far D2.1 (fun j _ _ => by rw [up_ne (by omega), up_ne (by omega), f3 j (by omega)]), ?_, by rw [up_at, if_neg (by decide), up_ne (by decide), f3 85 (by decide)]; exact D2.2.2.1, by rw [up_eq]⟩⟩
        · rw [if_pos (by decide), t2.2.2.1, y, if_pos rfl, if_neg (by rw [I_eq ⟨by omega, by omega⟩ ⟨by decide, by decide⟩]; omega), D2.2.2.2, if_neg (by rw [I_le ⟨by decide, by decide⟩ ⟨by omega, by omega⟩]; omega)]
          refine ⟨_, g3, ?_⟩
          rw [e854, show up S3 (65 + 13) D.2.2.1 (nqT b n 4 0 (pgT b n D.1 (goT b n T)).2).1 85 4 = D.2.2.1 by rw [up_ne (by decide)]; exact e854]
          exact ⟨⟨by omega, by omega⟩, rfl⟩
        · have q := stateR_far (S' := up (up S3 78 D.2.2.1 (nqT b n 4 0 (pgT b n D.1 (goT b n T)).2).1) 85 4 (D.2.2.1 + 1)) (a := 65) (stateR_v0 (S := S3) (a := 65) r3 D.2.2.1 (nqT b n 4 0 (pgT b n D.1 (goT b n T)).2).1) (fun j _ _ => up_ne (by omega))
          exact q
      · subst hX
        refine ⟨S2, st3 _ (qX3_makePage_67 h0 h1 h2 h3 ?_), t2, dxF_tx (txF_tr f1 f2), fun q => absurd q y⟩
        rw [if_pos (by decide), t2.2.2.1, if_neg (by rw [I_eq ⟨by omega, by omega⟩ ⟨by decide, by decide⟩]; exact y)]
end
