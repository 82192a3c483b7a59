/-! ===== the class makes clauses ===== -/
section
variable {sc : Nat × (Nat → Int32)} {SH : List mCell} {S : mStore} {b : Int → Int} {n : Int} {T U : aT} {D : aD}
theorem plc_pg {P : aP} (hP : wfP P) (z : (pgT b n P U).2.2.1 = 0) : P 4 (pgV P (pgT b n P U)) = (pgT b n P U).1.1 := by
  have q := (pgT_ok z).2.1
  have hh := hP.2.2.2.2.2.2.1 (pgT b n P U).1.1 q.1.1 q.1.2.1
  have e : pgV P (pgT b n P U) = P 3 (pgT b n P U).1.1 + (pgT b n P U).1.2.1 := by
    unfold pgV
    rw [if_pos z]
    unfold plc
    rw [if_pos ⟨⟨q.1.1, q.1.2.1⟩, q.2.1, q.2.2.1⟩]
  rw [e]
  exact hh.2.2.2.2 _ q.2.1 q.2.2.1
theorem mkA_ok (h0 : sText SH) (h1 : sPlan SH 6) (h2 : sState SH 65) (h3 : sMaker SH) (hn : 0 ≤ n ∧ n ≤ 700) (hb : ∀ i, 0 ≤ b i ∧ b i < 256) (c : clT S b n U) (hf : U.2.1 = 0) (hD : dcR S D) (oD : okE D) {u1 u2 u3 : Option Value} : ∃ S', G sc MX3_makeAdvised 0 [some (.ref 85), u1, u2, u3] [] SH S (rV SH S') ∧ clT S' b n (ad1 b n D U).2 ∧ dxF S S' ∧ ((ad1 b n D U).2.2.1 = 0 → dcR S' (ad1 b n D U).1) := by
  obtain ⟨oP, oA, oT, oL, o7⟩ := oD
  have hP6 := oP.2.2.2.2.1
  have hP7 := oP.2.2.2.2.2.1
  obtain ⟨S1, g1, t1, f1, -⟩ := pgIn_ok (sc := sc) h0 hn hb c (a := 6) (by decide) h1 hD.1 oP (u2 := none) (u3 := none) (u4 := none)
  obtain ⟨S2, g2, t2, f2, s2⟩ := numIn_ok (sc := sc) h0 hn hb t1 (lo := 0) (hi := 11) (by decide) (by decide) (u := none) (u' := none)
  have f12 := txF_tr f1 f2
  have D2 := dcR_tx hD f12
  have tz := t2.2.2.2.2.1.2.1
  unfold ad1
  by_cases z : (numT b n 0 11 (pgT b n D.1 U).2).2.2.1 ≠ 0
  · rw [if_pos z]
    refine ⟨S2, qX3_makeAdvised_0 h0 h1 h2 h3 ⟨_, _, g1, _, _, g2, ?_⟩, t2, dxF_tx f12, fun q => absurd q z⟩
    by_cases y : (pgT b n D.1 U).2.2.1 = 0
    · have pr := pgV_ok oP y
      have ev : (if (pgT b n D.1 U).2.2.1 = 0 then plc D.1 (pgT b n D.1 U).1.1 (pgT b n D.1 U).1.2.1 else -1) = pgV D.1 (pgT b n D.1 U) := rfl
      rw [ev, if_neg (by rw [I_eq ⟨by omega, by omega⟩ ⟨by decide, by decide⟩]; omega), t2.2.2.1, if_neg (by rw [I_eq ⟨by omega, by omega⟩ ⟨by decide, by decide⟩]; exact z)]
    · rw [if_neg y, if_pos rfl]
  rw [if_neg z]
  have z' : (numT b n 0 11 (pgT b n D.1 U).2).2.2.1 = 0 := Decidable.not_not.mp z
  have y : (pgT b n D.1 U).2.2.1 = 0 := (numT_ok z').1
  have pr := pgV_ok oP y
  have mr := num_rg z'
  have q := (pgT_ok y).2.1
  have e4 : S2 (6 + 4) (pgV D.1 (pgT b n D.1 U)) = (pgT b n D.1 U).1.1 := by
    rw [D2.1.2.2.2.2 _ pr.1 pr.2]
    exact plc_pg oP y
  have gp := place_ok (sc := sc) h1 D2.1 oP (g := (pgT b n D.1 U).1.1) (p := (numT b n 0 11 (pgT b n D.1 U).2).1) ⟨by omega, by omega⟩ ⟨by omega, by omega⟩
  have hT2 := t1.2.2.2.2.1
  have hr := tk_rg b (n := n) hT2.1.2
  have hT20 := hT2.1.1
  obtain ⟨S3, g3, t3, f3⟩ := fail_ok (sc := sc) h0 t2 (k := 3) (a := tkS b n (pgT b n D.1 U).2.1) (by decide) (by omega) (s2 z')
  have st : ∀ r, (if I (plc D.1 (pgT b n D.1 U).1.1 (numT b n 0 11 (pgT b n D.1 U).2).1) = I (-1) then (∃ S107, G sc MX8_fail 0 [some (.ref 11), some (.int (I 3))] [] SH S2 (rV SH S107) ∧ r = rV SH S107) else (if I (pgV D.1 (pgT b n D.1 U)) ≤ I (plc D.1 (pgT b n D.1 U).1.1 (numT b n 0 11 (pgT b n D.1 U).2).1) then (∃ v108 S109, G sc MX7_adviseAll 0 [some (.ref 65), some (.int (I (pgV D.1 (pgT b n D.1 U)))), some (.int (I (plc D.1 (pgT b n D.1 U).1.1 (numT b n 0 11 (pgT b n D.1 U).2).1))), none, none] [] SH S2 (rI v108 SH S109) ∧ r = rV SH S109) else (∃ S110, G sc MX8_fail 0 [some (.ref 11), some (.int (I 3))] [] SH S2 (rV SH S110) ∧ r = rV SH S110))) → G sc MX3_makeAdvised 0 [some (.ref 85), u1, u2, u3] [] SH S r := fun r k => by
    refine qX3_makeAdvised_0 h0 h1 h2 h3 ⟨_, _, g1, _, _, g2, ?_⟩
    have ev : (if (pgT b n D.1 U).2.2.1 = 0 then plc D.1 (pgT b n D.1 U).1.1 (pgT b n D.1 U).1.2.1 else -1) = pgV D.1 (pgT b n D.1 U) := rfl
    rw [ev, if_neg (by rw [I_eq ⟨by omega, by omega⟩ ⟨by decide, by decide⟩]; omega), t2.2.2.1, z', if_pos rfl, e4]
    exact ⟨⟨pr.1, by omega⟩, _, _, gp, k⟩
  have hbad : (failA 3 (tkS b n (pgT b n D.1 U).2.1) (numT b n 0 11 (pgT b n D.1 U).2).2).2.1 ≠ 0 := by rw [failA_z z']; show (3 : Int) ≠ 0; decide
  by_cases k : plc D.1 (pgT b n D.1 U).1.1 (numT b n 0 11 (pgT b n D.1 U).2).1 = -1
  · rw [if_pos (.inl k)]
    refine ⟨S3, st _ ?_, t3, dxF_tx (txF_tr f12 f3), fun w => absurd w hbad⟩
    rw [if_pos (by rw [k])]
    exact ⟨_, g3, rfl⟩
  have lr := plc_rg oP k
  by_cases l : plc D.1 (pgT b n D.1 U).1.1 (numT b n 0 11 (pgT b n D.1 U).2).1 < pgV D.1 (pgT b n D.1 U)
  · rw [if_pos (.inr l)]
    refine ⟨S3, st _ ?_, t3, dxF_tx (txF_tr f12 f3), fun w => absurd w hbad⟩
    rw [if_neg (by rw [I_eq ⟨by omega, by omega⟩ ⟨by decide, by decide⟩]; exact k), if_neg (by rw [I_le ⟨by omega, by omega⟩ ⟨by omega, by omega⟩]; omega)]
    exact ⟨_, g3, rfl⟩
  · rw [if_neg (fun w => w.elim k l)]
    obtain ⟨S4, g4, r4, f4⟩ := adv_ok (sc := sc) (u := none) (u' := none) h2 D2.2.1 oA (lo := pgV D.1 (pgT b n D.1 U)) (n := (plc D.1 (pgT b n D.1 U).1.1 (numT b n 0 11 (pgT b n D.1 U).2).1 - pgV D.1 (pgT b n D.1 U) + 1).toNat) pr.1 (by omega)
    rw [show pgV D.1 (pgT b n D.1 U) + (((plc D.1 (pgT b n D.1 U).1.1 (numT b n 0 11 (pgT b n D.1 U).2).1 - pgV D.1 (pgT b n D.1 U) + 1).toNat : Nat) : Int) - 1 = plc D.1 (pgT b n D.1 U).1.1 (numT b n 0 11 (pgT b n D.1 U).2).1 by omega] at g4
    refine ⟨S4, st _ ?_, clT_far t2 (f4 11 (by decide)) (f4 12 (by decide)), dxF_tr (dxF_tx f12) ⟨fun j hj => f4 j (by omega), by rw [f4 11 (by decide)]⟩, fun _ => ⟨planR_far D2.1 (fun j _ _ => f4 j (by omega)), r4, by rw [f4 85 (by decide)]; exact D2.2.2.1, by rw [f4 85 (by decide)]; exact D2.2.2.2⟩⟩
    rw [if_neg (by rw [I_eq ⟨by omega, by omega⟩ ⟨by decide, by decide⟩]; exact k), if_pos (by rw [I_le ⟨by omega, by omega⟩ ⟨by omega, by omega⟩]; omega)]
    exact ⟨_, _, g4, rfl⟩
end
