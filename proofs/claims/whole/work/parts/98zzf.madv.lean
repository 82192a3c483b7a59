/-! ===== the reference reads what is advised; a clause; all clauses ===== -/
section
variable {sc : Nat × (Nat → Int32)} {SH : List mCell} {S : mStore} {b : Int → Int} {n : Int} {T U V : aT} {D : aD} {μ : Int}
theorem adv1_lp (h0 : sMod SH) {p q : Int} (hq : q < 48) : ∀ (k : Nat) (y : Int) (S : mStore), y + k = q + 1 → 0 ≤ y → ∃ S', G sc MX11_advise1 66 [some (.ref 90), some (.int (I p)), some (.int (I q)), some (.int (I y))] [] SH S (rV SH S') ∧ (∀ i, S' 106 i = if y ≤ i ∧ i ≤ q then 1 else S 106 i) ∧ (∀ j, j ≠ 106 → S' j = S j)
  | 0, y, S, hy, y0 => by
    refine ⟨S, qX11_advise1_66 h0 ?_, fun i => by rw [if_neg (by omega)], fun _ _ => rfl⟩
    rw [if_pos (by rw [I_lt ⟨by omega, by omega⟩ ⟨by omega, by omega⟩]; omega)]
  | k + 1, y, S, hy, y0 => by
    obtain ⟨S', g, e, f⟩ := adv1_lp h0 (p := p) hq k (y + 1) (up S 106 y 1) (by omega) (by omega)
    refine ⟨S', qX11_advise1_66 h0 ?_, fun i => ?_, fun j hj => by rw [f j hj, up_ne hj]⟩
    · rw [if_neg (by rw [I_lt ⟨by omega, by omega⟩ ⟨by omega, by omega⟩]; omega)]
      exact ⟨⟨y0, by omega⟩, g⟩
    · rw [e i, up_at]
      by_cases c : y + 1 ≤ i ∧ i ≤ q
      · rw [if_pos c, if_pos ⟨by omega, c.2⟩]
      · rw [if_neg c]
        by_cases d : i = y
        · rw [if_pos d, if_pos ⟨by omega, by omega⟩]
        · rw [if_neg d, if_neg (by omega)]
theorem adviseM (h0 : sMod SH) (hn : 0 ≤ n ∧ n ≤ 700) (hb : ∀ i, 0 ≤ b i ∧ b i < 256) (c : mdT S b n T) (hf : T.2.1 = 0) (hD : drR S D) (oD : okE D) {u1 u2 u3 : Option Value} : ∃ S', G sc MX11_advise1 0 [some (.ref 90), u1, u2, u3] [] SH S (rV SH S') ∧ mdT S' b n (ad1 b n D (goT b n T)).2 ∧ drF S S' ∧ ((ad1 b n D (goT b n T)).2.2.1 = 0 → drR S' (ad1 b n D (goT b n T)).1) := by
  obtain ⟨oP, oA, oT, oL, o7⟩ := oD
  have p6 := oP.2.2.2.2.1
  have p7 := oP.2.2.2.2.2.1
  obtain ⟨S1, g1, t1, f1⟩ := goM (sc := sc) h0 hn hb c hf (u := none)
  have D1 := drR_mx hD f1
  have e46 : S1 90 46 = D.1 0 6 := D1.1 6 (by decide) (by decide)
  obtain ⟨v, S2, g2, f2, bad2, ok2⟩ := pgHereM (sc := sc) (P := D.1) (u := none) h0 hn hb t1 hf (m := D.1 0 6) rfl p6 (fun g a1 a2 => ⟨(D1.2.2.2.1 g a1 a2).1, by have := (oP.2.2.2.2.2.2.1 g a1 a2).1; omega, (oP.2.2.2.2.2.2.1 g a1 a2).1.2⟩)
  have D2 := drR_mx D1 f2
  have st : ∀ r, (if I (S2 90 39) = I 0 then (∃ S104, G sc MX11_go 0 [some (.ref 90), none] [] SH S2 (rV SH S104) ∧ (∃ v105 S106, G sc MX11_pageOf 0 [some (.ref 90), some (.int (I (idv v 12)))] [] SH S104 (rI v105 SH S106) ∧ (if I (S106 90 39) = I 0 then (if I v105 < I v then (∃ v107 S108, G sc MX11_wants 0 [some (.ref 90), some (.int (I 0)), some (.int (I 3))] [] SH S106 (rI v107 SH S108) ∧ (if I v107 = I 0 then r = rV SH S108 else (∃ S109, G sc MX11_go 0 [some (.ref 90), none] [] SH S108 (rV SH S109) ∧ G sc MX11_advise1 66 [some (.ref 90), some (.int (I v)), some (.int (I v105)), some (.int (I v))] [] SH S109 r))) else (∃ v110 S111, G sc MX11_wants 0 [some (.ref 90), some (.int (I 1)), some (.int (I 3))] [] SH S106 (rI v110 SH S111) ∧ (if I v110 = I 0 then r = rV SH S111 else (∃ S112, G sc MX11_go 0 [some (.ref 90), none] [] SH S111 (rV SH S112) ∧ G sc MX11_advise1 66 [some (.ref 90), some (.int (I v)), some (.int (I v105)), some (.int (I v))] [] SH S112 r)))) else r = rV SH S106))) else r = rV SH S2) → G sc MX11_advise1 0 [some (.ref 90), u1, u2, u3] [] SH S r := fun r q => by
    refine qX11_advise1_0 h0 ⟨_, g1, ?_⟩
    rw [e46]
    exact ⟨_, _, g2, q⟩
  unfold ad1
  by_cases z : (pgT b n D.1 (goT b n T)).2.2.1 ≠ 0
  · have zn : (numT b n 0 11 (pgT b n D.1 (goT b n T)).2).2 = (pgT b n D.1 (goT b n T)).2 := by rw [numT_bad z]
    rw [zn, if_pos z]
    obtain ⟨-, t2⟩ := bad2 z
    have tz := t2.2.2.2.2.1.2.1
    refine ⟨S2, st _ ?_, t2, drF_tr (drF_mx f1) (drF_mx f2), fun q => absurd q z⟩
    rw [t2.2.2.1, if_neg (by rw [I_eq ⟨by omega, by omega⟩ ⟨by decide, by decide⟩]; exact z)]
  have z' : (pgT b n D.1 (goT b n T)).2.2.1 = 0 := Decidable.not_not.mp z
  obtain ⟨ev, t2, zn, egt⟩ := ok2 z'
  have pq := pgT_ok z'
  have pr := pgV_ok oP z'
  have rr := pq.2.1
  have pe : plc D.1 (pgT b n D.1 (goT b n T)).1.1 (pgT b n D.1 (goT b n T)).1.2.1 = pgV D.1 (pgT b n D.1 (goT b n T)) := by unfold pgV; rw [if_pos z']
  have pe3 : pgV D.1 (pgT b n D.1 (goT b n T)) = D.1 3 (pgT b n D.1 (goT b n T)).1.1 + (pgT b n D.1 (goT b n T)).1.2.1 := by
    rw [← pe]; unfold plc; rw [if_pos ⟨⟨rr.1.1, rr.1.2.1⟩, rr.2.1, rr.2.2.1⟩]
  have hgg := oP.2.2.2.2.2.2.1 _ rr.1.1 rr.1.2.1
  obtain ⟨S3, g3, t3, f3⟩ := goM (sc := sc) h0 hn hb t2 zn (u := none)
  rw [egt] at t3
  have D3 := drR_mx D2 f3
  have ed : idv v 12 = (pgT b n D.1 (goT b n T)).1.1 := by
    rw [ev, idv_nn (by omega) (by omega) (by decide) (by decide)]; omega
  obtain ⟨w, S4, g4, f4, bad4, ok4⟩ := pageOfM (sc := sc) h0 hn t3 z' (g := (pgT b n D.1 (goT b n T)).1.1) ⟨rr.1.1, by omega⟩ (D3.2.2.2.1 _ rr.1.1 rr.1.2.1).1 ⟨by omega, by omega⟩
  have st2 : ∀ r, (if I (S4 90 39) = I 0 then (if I w < I v then (∃ v107 S108, G sc MX11_wants 0 [some (.ref 90), some (.int (I 0)), some (.int (I 3))] [] SH S4 (rI v107 SH S108) ∧ (if I v107 = I 0 then r = rV SH S108 else (∃ S109, G sc MX11_go 0 [some (.ref 90), none] [] SH S108 (rV SH S109) ∧ G sc MX11_advise1 66 [some (.ref 90), some (.int (I v)), some (.int (I w)), some (.int (I v))] [] SH S109 r))) else (∃ v110 S111, G sc MX11_wants 0 [some (.ref 90), some (.int (I 1)), some (.int (I 3))] [] SH S4 (rI v110 SH S111) ∧ (if I v110 = I 0 then r = rV SH S111 else (∃ S112, G sc MX11_go 0 [some (.ref 90), none] [] SH S111 (rV SH S112) ∧ G sc MX11_advise1 66 [some (.ref 90), some (.int (I v)), some (.int (I w)), some (.int (I v))] [] SH S112 r)))) else r = rV SH S4) → G sc MX11_advise1 0 [some (.ref 90), u1, u2, u3] [] SH S r := fun r q => by
    refine st r ?_
    rw [t2.2.2.1, zn, if_pos rfl]
    refine ⟨_, g3, ?_⟩
    rw [ed]
    exact ⟨_, _, g4, q⟩
  have frA : drF S S4 := drF_tr (drF_mx f1) (drF_tr (drF_mx f2) (drF_tr (drF_mx f3) (drF_mx f4)))
  have D4 := drR_mx D3 f4
  by_cases y : (numT b n 0 11 (pgT b n D.1 (goT b n T)).2).2.2.1 ≠ 0
  · rw [if_pos y]
    have ep : poT b n (D.1 1 (pgT b n D.1 (goT b n T)).1.1) (pgT b n D.1 (goT b n T)).2 = (numT b n 0 11 (pgT b n D.1 (goT b n T)).2).2 := by unfold poT; rw [if_pos y]
    obtain ⟨-, t4⟩ := bad4 (by rw [ep]; exact y)
    rw [ep] at t4
    have tz := t4.2.2.2.2.1.2.1
    refine ⟨S4, st2 _ ?_, t4, frA, fun q => absurd q y⟩
    rw [t4.2.2.1, if_neg (by rw [I_eq ⟨by omega, by omega⟩ ⟨by decide, by decide⟩]; exact y)]
  rw [if_neg y]
  have y' : (numT b n 0 11 (pgT b n D.1 (goT b n T)).2).2.2.1 = 0 := Decidable.not_not.mp y
  have mr := num_rg y'
  have hbad : (failA 3 (tkS b n (pgT b n D.1 (goT b n T)).2.1) (numT b n 0 11 (pgT b n D.1 (goT b n T)).2).2).2.1 ≠ 0 := by rw [failA_z y']; show (3 : Int) ≠ 0; decide
  by_cases l : D.1 1 (pgT b n D.1 (goT b n T)).1.1 ≤ (numT b n 0 11 (pgT b n D.1 (goT b n T)).2).1
  · have e1 : plc D.1 (pgT b n D.1 (goT b n T)).1.1 (numT b n 0 11 (pgT b n D.1 (goT b n T)).2).1 = -1 := by unfold plc; rw [if_neg (fun q => by have := q.2.2; omega)]
    rw [if_pos (.inl e1)]
    have ep : poT b n (D.1 1 (pgT b n D.1 (goT b n T)).1.1) (pgT b n D.1 (goT b n T)).2 = failA 3 (tkS b n (pgT b n D.1 (goT b n T)).2.1) (numT b n 0 11 (pgT b n D.1 (goT b n T)).2).2 := by unfold poT; rw [if_neg y, if_pos l]
    obtain ⟨-, t4⟩ := bad4 (by rw [ep]; exact hbad)
    rw [ep] at t4
    have tz := t4.2.2.2.2.1.2.1
    refine ⟨S4, st2 _ ?_, t4, frA, fun q => absurd q hbad⟩
    rw [t4.2.2.1, if_neg (by rw [I_eq ⟨by omega, by omega⟩ ⟨by decide, by decide⟩]; exact hbad)]
  have e1 : plc D.1 (pgT b n D.1 (goT b n T)).1.1 (numT b n 0 11 (pgT b n D.1 (goT b n T)).2).1 = D.1 3 (pgT b n D.1 (goT b n T)).1.1 + (numT b n 0 11 (pgT b n D.1 (goT b n T)).2).1 := by unfold plc; rw [if_pos ⟨⟨rr.1.1, rr.1.2.1⟩, mr.1, by omega⟩]
  have ep : poT b n (D.1 1 (pgT b n D.1 (goT b n T)).1.1) (pgT b n D.1 (goT b n T)).2 = (numT b n 0 11 (pgT b n D.1 (goT b n T)).2).2 := by unfold poT; rw [if_neg y, if_neg l]
  obtain ⟨ew, t4, -, -, -⟩ := ok4 (by rw [ep]; exact y')
  by_cases m : plc D.1 (pgT b n D.1 (goT b n T)).1.1 (numT b n 0 11 (pgT b n D.1 (goT b n T)).2).1 < pgV D.1 (pgT b n D.1 (goT b n T))
  · rw [if_pos (.inr m)]
    obtain ⟨S5, g5, t5, f5⟩ := wants_no (sc := sc) h0 hn.2 t4 z' (k := 3) (by decide)
    refine ⟨S5, st2 _ ?_, ?_, drF_tr frA (drF_mx f5), fun q => absurd q hbad⟩
    · rw [t4.2.2.1, z', if_pos rfl, if_pos (by rw [I_lt ⟨by omega, by omega⟩ ⟨by omega, by omega⟩]; omega)]
      refine ⟨_, _, g5, ?_⟩
      rw [if_pos rfl]
    · refine mdT_pos t5 (by rw [failA_z z']; show (3 : Int) ≠ 0; decide) ?_ ?_
      · dsimp only
        rw [failA_z y', failA_z z']
      · dsimp only
        rw [failA_1]
        exact (ok_num (b := b) (lo := 0) (hi := 11) hn.2 t4.2.2.2.2.1).1
  · rw [if_neg (fun q => q.elim (fun k => by omega) m)]
    obtain ⟨S5, g5, t5, f5⟩ := goM (sc := sc) h0 hn hb t4 z' (u := none)
    have e5 : goT b n (pgT b n D.1 (goT b n T)).2 = (numT b n 0 11 (pgT b n D.1 (goT b n T)).2).2 := by rw [(numT_ok y').2.2.2]
    rw [e5] at t5
    obtain ⟨S6, g6, s6, f6⟩ := adv1_lp (sc := sc) h0 (p := v) (q := w) (by omega) (w - v + 1).toNat v S5 (by omega) (by omega)
    refine ⟨S6, st2 _ ?_, mdT_far t5 (fun f _ => by rw [f6 90 (by decide)]) (f6 99 (by decide)), drF_tr frA (drF_tr (drF_mx f5) ⟨fun j a1 a2 a3 a4 a5 a6 => f6 j a6, fun f _ => by rw [f6 90 (by decide)]⟩), fun _ => ?_⟩
    · rw [t4.2.2.1, z', if_pos rfl, if_neg (by rw [I_lt ⟨by omega, by omega⟩ ⟨by omega, by omega⟩]; omega)]
      refine ⟨_, _, wants_yes h0 t4 z', ?_⟩
      rw [if_neg (by decide)]
      exact ⟨_, g5, g6⟩
    · have av := adv_v (plc D.1 (pgT b n D.1 (goT b n T)).1.1 (numT b n 0 11 (pgT b n D.1 (goT b n T)).2).1 - pgV D.1 (pgT b n D.1 (goT b n T)) + 1).toNat (pgV D.1 (pgT b n D.1 (goT b n T))) D.2.2.2 oA.2.2.2.2.2.2.2.2.2.2.2.1
      obtain ⟨a1, a2, a3, a4, a5, a6⟩ := drR_mx D4 f5
      refine ⟨by rw [f6 90 (by decide)]; exact a1, by rw [f6 90 (by decide)]; exact a2, by rw [f6 90 (by decide)]; exact a3, by rw [f6 102 (by decide), f6 103 (by decide)]; exact a4, fun g i h1 h2 h3 h4 => ?_, fun f c h1 h2 h3 h4 => ?_⟩
      · have q := a5 g i h1 h2 h3 h4
        dsimp only
        rw [f6 104 (by decide), q.1, s6, q.2]
        unfold drW drV
        rw [av.2.1]
        refine ⟨rfl, ?_⟩
        by_cases k : plc D.1 g i = -1
        · rw [if_pos k, if_pos k, if_neg]
          intro hv
          have : plc D.1 g i ≠ -1 := by
            have hge : g = (pgT b n D.1 (goT b n T)).1.1 := by rw [ev, ew] at hv; omega
            unfold plc
            rw [if_pos ⟨⟨h1, by omega⟩, h3, by rw [hge]; rw [ev, ew, hge] at hv; omega⟩]
            have := oP.2.2.2.2.2.2.1 g h1 (by omega)
            omega
          exact this k
        · rw [if_neg k, if_neg k, av.1]
          have kr := plc_rg oP k
          by_cases hv : v ≤ 12 * g + i ∧ 12 * g + i ≤ w
          · have hge : g = (pgT b n D.1 (goT b n T)).1.1 := by rw [ev, ew] at hv; omega
            rw [if_pos hv, if_pos]
            rw [kr.2.2.1, hge]
            rw [ev, ew, hge] at hv
            omega
          · rw [if_neg hv, if_neg]
            intro hx
            have hge : g = (pgT b n D.1 (goT b n T)).1.1 := by
              have q4 := hgg.2.2.2.2 (plc D.1 g i - D.1 3 (pgT b n D.1 (goT b n T)).1.1) (by omega) (by omega)
              have q5 := (oP.2.2.2.2.2.2.1 g kr.1.1 kr.1.2).2.2.2.2 i kr.2.1.1 kr.2.1.2
              rw [show D.1 3 (pgT b n D.1 (goT b n T)).1.1 + (plc D.1 g i - D.1 3 (pgT b n D.1 (goT b n T)).1.1) = plc D.1 g i by omega] at q4
              rw [← kr.2.2.1, q4] at q5
              exact q5.symm
            apply hv
            rw [ev, ew, hge]
            rw [kr.2.2.1, hge] at hx
            omega
      · show S6 105 (4 * f + c) = nb ((advAll _ _ D.2.2.2).2.v 0 f) (12 - 4 * c)
        rw [av.2.2, f6 105 (by decide)]
        exact a6 f c h1 h2 h3 h4
end
