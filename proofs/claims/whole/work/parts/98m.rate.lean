/-! ===== toRate ===== -/
section
variable {sc : Nat × (Nat → Int32)} {SH : List mCell} {F : Nat → Nat → Option Nat} {S S' : mStore} {e : Nat} {W : aW} {N : Int}
theorem I_nle {x y : Int} : ¬(I x ≤ I y) ↔ I y < I x := by
  rw [Int32.le_iff_toInt_le, Int32.lt_iff_toInt_lt]; omega
theorem tr_lp (g0 : sGP SH) (hW : wfW W) {t x : Int} (ht : 0 ≤ t ∧ t ≤ 60) (hx : x = 0 ∨ x = 1) : ∀ (n : Nat) (r b f w : Int) {S : mStore} {u u' : Option Value}, clR SH F e S W → r + n = W.1 0 3 + 1 → W.1 0 2 ≤ r → (-1 ≤ b ∧ b < r) → (-1 ≤ f ∧ f ≤ 48) → ∃ S', G sc MX10_toRate 53 [some (.ref 0), some (.int (I t)), some (.int (I x)), some (.int (I b)), some (.int (I f)), some (.int (I w)), some (.int (I r)), u, u'] [] SH S (rI (if x = 0 then (trA W.1 W.2.1.1 t.toNat n r b f w).1 else (trA W.1 W.2.1.1 t.toNat n r b f w).2) SH S') ∧ (∀ j, j < 65 ∨ 85 ≤ j → S' j = S j)
  | 0, r, b, f, w, S, u, u', h, hg, h0, hb, hf => by
    have hP2 := hW.1.2.2.1
    refine ⟨S, qX10_toRate_53 g0 ?_, fun _ _ => rfl⟩
    rw [show S 1 3 = W.1 0 3 from h.2.1.1 3 (by decide) (by decide), if_pos (by rw [I_lt ⟨by omega, by omega⟩ ⟨by omega, by omega⟩]; omega)]
    rcases hx with rfl | rfl
    · rw [if_pos rfl, if_pos rfl]; rfl
    · rw [if_neg (by decide), if_neg (by decide)]; rfl
  | n + 1, r, b, f, w, S, u, u', h, hg, h0, hb, hf => by
    have hP := hW.1
    have hP2 := hP.2.2.1
    have hp := h.2.1
    obtain ⟨S1, q1, r1, f1⟩ := try_cl (sc := sc) h hW
    have hp1 : planR (up S1 (65 + 19) 0 r) 1 W.1 := planR_far hp (fun j _ _ => by rw [up_ne (by omega), f1 j (by omega)])
    have hw1 : wfA W.1 (W.2.1.1.sv 6 0 r) := wf_v6 hW.2.1.1 (fun _ => ⟨by omega, by omega⟩) (fun q => absurd q (by decide)) (fun q => absurd q (by decide))
    obtain ⟨S3, q3, r3, f3⟩ := tick_ok (sc := sc) (S := up S1 (65 + 19) 0 r) (a := 65) (u1 := none) (u2 := none) (u3 := none) (u4 := none) g0.2.2.2.2.2.1 (by decide) hp1 hP (stateR_v6 r1 0 r) hw1 (n := t.toNat) (by omega)
    rw [show ((t.toNat : Nat) : Int) = t by omega] at q3
    have hw3 := wf_tick hP t.toNat hw1
    have hp3 : planR S3 1 W.1 := planR_far hp1 (fun j _ _ => f3 j (by omega))
    have q4 := used_ok (sc := sc) (u := none) (u' := none) g0.2.2.2.2.2.1 hp3 hP r3 hw3
    have ev : S3 (65 + 19) 3 = (tkR W.1 W.2.1.1 t.toNat r).v 6 3 := r3.2.2.2.2.2.2.2.2.2.2 3 (by decide) (by decide)
    have fr : ∀ j, j < 65 ∨ 85 ≤ j → S3 j = S j := fun j hj => by rw [f3 j (by omega), up_ne (by omega), f1 j (by omega)]
    have h3 : clR SH F e S3 W := clR_tr h (fun j hj => fr j (by omega))
    have ur := used_rg W.1 hP (tkR W.1 W.2.1.1 t.toNat r)
    have eu : usedA W.1 (tickA W.1 t.toNat (W.2.1.1.sv 6 0 r)).2 = usedA W.1 (tkR W.1 W.2.1.1 t.toNat r) := rfl
    rw [eu] at q4
    generalize hu : usedA W.1 (tkR W.1 W.2.1.1 t.toNat r) = uu at *
    generalize hk : (tkR W.1 W.2.1.1 t.toNat r).v 6 3 = kk at *
    have st : ∀ v, (if I b = I (-1) then G sc MX10_toRate 53 [some (.ref 0), some (.int (I t)), some (.int (I x)), some (.int (I r)), some (.int (I uu)), some (.int (I kk)), some (.int (I (r + 1))), some (.int (I uu)), some (.int (I kk))] [] SH S3 v else (if I uu < I f then G sc MX10_toRate 53 [some (.ref 0), some (.int (I t)), some (.int (I x)), some (.int (I r)), some (.int (I uu)), some (.int (I kk)), some (.int (I (r + 1))), some (.int (I uu)), some (.int (I kk))] [] SH S3 v else (if I uu = I f then (if I w ≤ I kk then G sc MX10_toRate 53 [some (.ref 0), some (.int (I t)), some (.int (I x)), some (.int (I b)), some (.int (I f)), some (.int (I w)), some (.int (I (r + 1))), some (.int (I uu)), some (.int (I kk))] [] SH S3 v else G sc MX10_toRate 53 [some (.ref 0), some (.int (I t)), some (.int (I x)), some (.int (I r)), some (.int (I uu)), some (.int (I kk)), some (.int (I (r + 1))), some (.int (I uu)), some (.int (I kk))] [] SH S3 v) else G sc MX10_toRate 53 [some (.ref 0), some (.int (I t)), some (.int (I x)), some (.int (I b)), some (.int (I f)), some (.int (I w)), some (.int (I (r + 1))), some (.int (I uu)), some (.int (I kk))] [] SH S3 v))) → G sc MX10_toRate 53 [some (.ref 0), some (.int (I t)), some (.int (I x)), some (.int (I b)), some (.int (I f)), some (.int (I w)), some (.int (I r)), u, u'] [] SH S v := by
      intro v q
      refine qX10_toRate_53 g0 ?_
      rw [show S 1 3 = W.1 0 3 from hp.1 3 (by decide) (by decide), if_neg (by rw [I_lt ⟨by omega, by omega⟩ ⟨by omega, by omega⟩]; omega)]
      refine ⟨_, q1, by decide, _, _, q3, _, _, q4, by decide, ?_⟩
      rw [ev]
      exact q
    by_cases c : b = -1 ∨ uu < f ∨ (uu = f ∧ ¬(I w ≤ I kk))
    · obtain ⟨S4, q5, f5⟩ := tr_lp g0 hW ht hx n (r + 1) r uu kk (u := some (.int (I uu))) (u' := some (.int (I kk))) h3 (by omega) (by omega) ⟨by omega, by omega⟩ ⟨by omega, by omega⟩
      refine ⟨S4, st _ ?_, fun j hj => by rw [f5 j hj, fr j hj]⟩
      unfold trA
      rw [hu, hk, if_pos c]
      by_cases c1 : b = -1
      · rw [if_pos (by rw [c1])]; exact q5
      · rw [if_neg (by rw [I_eq ⟨by omega, by omega⟩ ⟨by decide, by decide⟩]; exact c1)]
        by_cases c2 : uu < f
        · rw [if_pos (by rw [I_lt ⟨by omega, by omega⟩ ⟨by omega, by omega⟩]; omega)]; exact q5
        · rw [if_neg (by rw [I_lt ⟨by omega, by omega⟩ ⟨by omega, by omega⟩]; omega)]
          have c3 : uu = f ∧ ¬(I w ≤ I kk) := by
            rcases c with c | c | c
            · exact absurd c c1
            · exact absurd c c2
            · exact c
          rw [if_pos (by rw [c3.1]), if_neg c3.2]; exact q5
    · obtain ⟨S4, q5, f5⟩ := tr_lp g0 hW ht hx n (r + 1) b f w (u := some (.int (I uu))) (u' := some (.int (I kk))) h3 (by omega) (by omega) ⟨by omega, by omega⟩ ⟨by omega, by omega⟩
      refine ⟨S4, st _ ?_, fun j hj => by rw [f5 j hj, fr j hj]⟩
      have c1 : ¬(b = -1) := fun q => c (.inl q)
      have c2 : ¬(uu < f) := fun q => c (.inr (.inl q))
      unfold trA
      rw [hu, hk, if_neg c, if_neg (by rw [I_eq ⟨by omega, by omega⟩ ⟨by decide, by decide⟩]; exact c1), if_neg (by rw [I_lt ⟨by omega, by omega⟩ ⟨by omega, by omega⟩]; exact c2)]
      by_cases c3 : uu = f
      · rw [if_pos (by rw [c3]), if_pos (Decidable.byContradiction (fun q => c (.inr (.inr ⟨c3, q⟩))))]; exact q5
      · rw [if_neg (by rw [I_eq ⟨by omega, by omega⟩ ⟨by omega, by omega⟩]; exact c3)]; exact q5
theorem toRate_cl (h : clR SH F e S W) (hW : wfW W) {t x : Int} (ht : rg t) (hx : rg x) {u3 u4 u5 u6 u7 u8 : Option Value} : CL sc MX10_toRate [some (.ref 0), some (.int (I t)), some (.int (I x)), u3, u4, u5, u6, u7, u8] SH F e S (toRateF W t x) W := by
  obtain ⟨g0, g1, g2, hp, hs⟩ := clS h
  have hP2 := hW.1.2.2.1
  have ht1 := ht.1
  have hx1 := hx.1
  unfold toRateF
  by_cases c1 : x = 0 ∨ x = 1
  · rw [if_neg (fun q => q c1)]
    have st : ∀ (s : Int) r, (s = if 1 ≤ t ∧ t ≤ 20 then 1 else 0) → G sc MX10_toRate 33 [some (.ref 0), some (.int (I t)), some (.int (I x)), u3, u4, u5, u6, u7, u8] [.int (I s)] SH S r → G sc MX10_toRate 0 [some (.ref 0), some (.int (I t)), some (.int (I x)), u3, u4, u5, u6, u7, u8] [] SH S r := by
      intro s r es q
      have go : ((∃ S101, G sc MX10_mustBe 0 [some (.int (I 1))] [] SH S (rV SH S101) ∧ (if I t < I 1 then G sc MX10_toRate 33 [some (.ref 0), some (.int (I t)), some (.int (I x)), u3, u4, u5, u6, u7, u8] [.int (I 0)] SH S101 r else (if I 20 < I t then G sc MX10_toRate 33 [some (.ref 0), some (.int (I t)), some (.int (I x)), u3, u4, u5, u6, u7, u8] [.int (I 0)] SH S101 r else G sc MX10_toRate 33 [some (.ref 0), some (.int (I t)), some (.int (I x)), u3, u4, u5, u6, u7, u8] [.int (I 1)] SH S101 r))) ∨ (∃ e SH1 S1, G sc MX10_mustBe 0 [some (.int (I 1))] [] SH S (rX e SH1 S1) ∧ r = rX e SH1 S1)) := by
        refine .inl ⟨_, mustBe_yes, ?_⟩
        by_cases d1 : t < 1
        · rw [if_neg (by omega)] at es; subst es
          rw [if_pos (by rw [I_lt ht ⟨by decide, by decide⟩]; omega)]; exact q
        · rw [if_neg (by rw [I_lt ht ⟨by decide, by decide⟩]; omega)]
          by_cases d2 : 20 < t
          · rw [if_neg (by omega)] at es; subst es
            rw [if_pos (by rw [I_lt ⟨by decide, by decide⟩ ht]; omega)]; exact q
          · rw [if_pos (by omega)] at es; subst es
            rw [if_neg (by rw [I_lt ⟨by decide, by decide⟩ ht]; omega)]; exact q
      refine qX10_toRate_0 g0 ?_
      rcases c1 with rfl | rfl
      · rw [if_pos rfl]; exact go
      · rw [if_neg (by decide), if_pos rfl]; exact go
    by_cases c2 : 1 ≤ t ∧ t ≤ 20
    · rw [if_neg (fun q => q c2)]
      obtain ⟨S1, q1, f1⟩ := tr_lp (sc := sc) g0 hW (t := t) (x := x) ⟨by omega, by omega⟩ c1 (W.1 0 3 - W.1 0 2 + 1).toNat (W.1 0 2) (-1) (-1) (-1) (u := u7) (u' := u8) h (by omega) (by omega) ⟨by omega, by omega⟩ ⟨by omega, by omega⟩
      refine CL_tr h (st 1 _ (by rw [if_pos c2]) (qX10_toRate_33 g0 (.inl ⟨_, mustFit_yes, ?_⟩))) (fun j hj => f1 j (by omega))
      rw [show S 1 2 = W.1 0 2 from hp.1 2 (by decide) (by decide)]
      exact q1
    · rw [if_pos c2]
      exact CL_exc h (st 0 _ (by rw [if_neg c2]) (qX10_toRate_33 g0 (.inr ⟨_, _, _, mustFit_no, rfl⟩)))
  · rw [if_pos c1]
    refine CL_exc h (qX10_toRate_0 g0 ?_)
    rw [if_neg (by rw [I_eq hx ⟨by decide, by decide⟩]; omega), if_neg (by rw [I_eq hx ⟨by decide, by decide⟩]; omega)]
    exact .inr ⟨_, _, _, mustBe_no rfl, rfl⟩
theorem rtr_lp (h0 : sMod SH) (hW : wfW W) (hN : N < 2000000000) {t x : Int} (ht : 0 ≤ t ∧ t ≤ 60) (hx : x = 0 ∨ x = 1) : ∀ (n : Nat) (r b f w : Int) {S : mStore} {u : Option Value}, mdR S N W → r + n = W.1 0 3 + 1 → W.1 0 2 ≤ r → (-1 ≤ b ∧ b < r) → (-1 ≤ f ∧ f ≤ 48) → ∃ S', G sc MX11_toRate 50 [some (.ref 90), some (.int (I t)), some (.int (I x)), some (.int (I b)), some (.int (I f)), some (.int (I w)), some (.int (I r)), u] [] SH S (rI (if x = 0 then (trA W.1 W.2.1.1 t.toNat n r b f w).1 else (trA W.1 W.2.1.1 t.toNat n r b f w).2) SH S') ∧ trF S S'
  | 0, r, b, f, w, S, u, h, hg, h0', hb, hf => by
    have hP2 := hW.1.2.2.1
    refine ⟨S, qX11_toRate_50 h0 ?_, trF.rf S⟩
    rw [show S 90 15 = W.1 0 3 from h.1.1 3 (by decide) (by decide), if_pos (by rw [I_lt ⟨by omega, by omega⟩ ⟨by omega, by omega⟩]; omega)]
    rcases hx with rfl | rfl
    · rw [if_pos rfl, if_pos rfl]; rfl
    · rw [if_neg (by decide), if_neg (by decide)]; rfl
  | n + 1, r, b, f, w, S, u, h, hg, h0', hb, hf => by
    have hP := hW.1
    have hP2 := hP.2.2.1
    obtain ⟨S1, q1, r1, m1, f1⟩ := tr_md (sc := sc) h0 hW h
    have hw1 : wfA W.1 (W.2.1.1.sv 6 0 r) := wf_v6 hW.2.1.1 (fun _ => ⟨by omega, by omega⟩) (fun q => absurd q (by decide)) (fun q => absurd q (by decide))
    have r2 : refR (up S1 91 1654 r) 1654 (W.2.1.1.sv 6 0 r) N := refR_v6 (i := 0) r1 hW.2.1.1.2.1 ⟨by decide, by decide⟩
    have m2 : modP (up S1 91 1654 r) W.1 := ⟨by rw [up_ne (by decide)]; exact m1.1, by rw [up_ne (by decide)]; exact m1.2.1, by rw [up_ne (by decide)]; exact m1.2.2.1, by rw [up_ne (by decide)]; exact m1.2.2.2.1, by rw [up_ne (by decide)]; exact m1.2.2.2.2⟩
    have f2 : trF S1 (up S1 91 1654 r) := ⟨fun i hi => by rw [up_at, if_neg (by omega)], fun i _ _ => by rw [up_ne (by decide)], fun j hj => up_ne (by omega)⟩
    obtain ⟨S3, q3, r3, f3⟩ := rticks_ok (sc := sc) (S := up S1 91 1654 r) (u3 := none) (u4 := none) h0 (b := 1654) ⟨by decide, by decide⟩ hP m2 r2 hw1 (n := t.toNat) (by omega) (by omega)
    rw [show ((t.toNat : Nat) : Int) = t by omega] at q3
    have m3 := modP_F m2 f3
    have q4 := rused_ok (sc := sc) (u := none) (u' := none) h0 (b := 1654) ⟨by decide, by decide⟩ m3 hP r3
    have ev : S3 91 1657 = (tkR W.1 W.2.1.1 t.toNat r).v 6 3 := r3.1 3 (by decide) (by decide)
    have fr : trF S S3 := f1.tr (f2.tr (modF.trF f3))
    have h3 : mdR S3 N W := fr.md hW h
    have ur := used_rg W.1 hP (tkR W.1 W.2.1.1 t.toNat r)
    have eu : usedA W.1 (tickA W.1 t.toNat (W.2.1.1.sv 6 0 r)).2 = usedA W.1 (tkR W.1 W.2.1.1 t.toNat r) := rfl
    rw [eu] at q4
    generalize hu : usedA W.1 (tkR W.1 W.2.1.1 t.toNat r) = uu at *
    generalize hk : (tkR W.1 W.2.1.1 t.toNat r).v 6 3 = kk at *
    have st : ∀ v, (if I b = I (-1) then G sc MX11_toRate 50 [some (.ref 90), some (.int (I t)), some (.int (I x)), some (.int (I r)), some (.int (I uu)), some (.int (I kk)), some (.int (I (r + 1))), some (.int (I uu))] [] SH S3 v else (if I f < I uu then G sc MX11_toRate 50 [some (.ref 90), some (.int (I t)), some (.int (I x)), some (.int (I b)), some (.int (I f)), some (.int (I w)), some (.int (I (r + 1))), some (.int (I uu))] [] SH S3 v else (if I uu = I f then (if I kk < I w then G sc MX11_toRate 50 [some (.ref 90), some (.int (I t)), some (.int (I x)), some (.int (I r)), some (.int (I uu)), some (.int (I kk)), some (.int (I (r + 1))), some (.int (I uu))] [] SH S3 v else G sc MX11_toRate 50 [some (.ref 90), some (.int (I t)), some (.int (I x)), some (.int (I b)), some (.int (I f)), some (.int (I w)), some (.int (I (r + 1))), some (.int (I uu))] [] SH S3 v) else G sc MX11_toRate 50 [some (.ref 90), some (.int (I t)), some (.int (I x)), some (.int (I r)), some (.int (I uu)), some (.int (I kk)), some (.int (I (r + 1))), some (.int (I uu))] [] SH S3 v))) → G sc MX11_toRate 50 [some (.ref 90), some (.int (I t)), some (.int (I x)), some (.int (I b)), some (.int (I f)), some (.int (I w)), some (.int (I r)), u] [] SH S v := by
      intro v q
      refine qX11_toRate_50 h0 ?_
      rw [show S 90 15 = W.1 0 3 from h.1.1 3 (by decide) (by decide), if_neg (by rw [I_lt ⟨by omega, by omega⟩ ⟨by omega, by omega⟩]; omega)]
      refine ⟨_, q1, by decide, _, _, q3, _, _, q4, ?_⟩
      rw [ev]
      by_cases d1 : I b = I (-1)
      · rw [if_pos d1] at q ⊢; exact ⟨by decide, q⟩
      · rw [if_neg d1] at q ⊢
        by_cases d2 : I f < I uu
        · rw [if_pos d2] at q ⊢; exact q
        · rw [if_neg d2] at q ⊢
          by_cases d3 : I uu = I f
          · rw [if_pos d3] at q ⊢
            refine ⟨by decide, ?_⟩
            by_cases d4 : I kk < I w
            · rw [if_pos d4] at q ⊢; exact ⟨by decide, q⟩
            · rw [if_neg d4] at q ⊢; exact q
          · rw [if_neg d3] at q ⊢; exact ⟨by decide, q⟩
    by_cases c : b = -1 ∨ uu < f ∨ (uu = f ∧ ¬(I w ≤ I kk))
    · obtain ⟨S4, q5, f5⟩ := rtr_lp h0 hW hN ht hx n (r + 1) r uu kk (u := some (.int (I uu))) h3 (by omega) (by omega) ⟨by omega, by omega⟩ ⟨by omega, by omega⟩
      refine ⟨S4, st _ ?_, fr.tr f5⟩
      unfold trA
      rw [hu, hk, if_pos c]
      by_cases c1 : b = -1
      · rw [if_pos (by rw [c1])]; exact q5
      · rw [if_neg (by rw [I_eq ⟨by omega, by omega⟩ ⟨by decide, by decide⟩]; exact c1)]
        by_cases c2 : uu < f
        · rw [if_neg (by rw [I_lt ⟨by omega, by omega⟩ ⟨by omega, by omega⟩]; omega), if_neg (by rw [I_eq ⟨by omega, by omega⟩ ⟨by omega, by omega⟩]; omega)]; exact q5
        · have c3 : uu = f ∧ ¬(I w ≤ I kk) := by
            rcases c with c | c | c
            · exact absurd c c1
            · exact absurd c c2
            · exact c
          rw [if_neg (by rw [I_lt ⟨by omega, by omega⟩ ⟨by omega, by omega⟩]; omega), if_pos (by rw [c3.1]), if_pos (I_nle.mp c3.2)]; exact q5
    · obtain ⟨S4, q5, f5⟩ := rtr_lp h0 hW hN ht hx n (r + 1) b f w (u := some (.int (I uu))) h3 (by omega) (by omega) ⟨by omega, by omega⟩ ⟨by omega, by omega⟩
      refine ⟨S4, st _ ?_, fr.tr f5⟩
      have c1 : ¬(b = -1) := fun q => c (.inl q)
      have c2 : ¬(uu < f) := fun q => c (.inr (.inl q))
      unfold trA
      rw [hu, hk, if_neg c, if_neg (by rw [I_eq ⟨by omega, by omega⟩ ⟨by decide, by decide⟩]; exact c1)]
      by_cases c3 : uu = f
      · rw [if_neg (by rw [I_lt ⟨by omega, by omega⟩ ⟨by omega, by omega⟩]; omega), if_pos (by rw [c3]), if_neg (fun q => c (.inr (.inr ⟨c3, I_nle.mpr q⟩)))]; exact q5
      · rw [if_pos (by rw [I_lt ⟨by omega, by omega⟩ ⟨by omega, by omega⟩]; omega)]; exact q5
theorem toRate_md (h0 : sMod SH) (hW : wfW W) (h : mdR S N W) (hN : N < 2000000000) {t x : Int} (ht' : rg t) (hx : rg x) {u3 u4 u5 u6 u7 : Option Value} : MD sc MX11_toRate [some (.ref 90), some (.int (I t)), some (.int (I x)), u3, u4, u5, u6, u7] SH S N 2 (toRateF W t x) W := by
  have ht : up S 90 4 0 90 4 = 0 := up_eq _ _ _ _
  have hP2 := hW.1.2.2.1
  obtain ⟨hm, hr⟩ := mdS (x := 0) hW h
  unfold toRateF
  by_cases c1 : x = 0 ∨ x = 1
  · rw [if_neg (fun q => q c1)]
    by_cases c2 : 1 ≤ t ∧ t ≤ 20
    · rw [if_neg (fun q => q c2)]
      obtain ⟨k, hk⟩ : ∃ k, (W.1 0 3 - W.1 0 2 + 1).toNat = k + 1 := ⟨(W.1 0 3 - W.1 0 2).toNat, by omega⟩
      obtain ⟨S1, q1, f1⟩ := rtr_lp (sc := sc) h0 hW hN (t := t) (x := x) ⟨by omega, by omega⟩ c1 (W.1 0 3 - W.1 0 2 + 1).toNat (W.1 0 2) (-1) 0 0 (u := u7) (mdR_thr (x := 0) hW h) (by omega) (by omega) ⟨by omega, by omega⟩ ⟨by omega, by omega⟩
      rw [hk, trA_ini _ _ _ _ _ 0 0 (-1) (-1), ← hk] at q1
      refine MD_tr hW h (qX11_toRate_0 h0 (wr_yes h0 ht hx ⟨by decide, by decide⟩ ⟨by decide, by decide⟩ (by omega) (fun w hw => ?_))) f1
      subst hw
      rw [if_neg (by decide)]
      refine wr_yes h0 ht ht' ⟨by decide, by decide⟩ ⟨by decide, by decide⟩ c2 (fun w hw => ?_)
      subst hw
      rw [if_neg (by decide), show up S 90 4 0 90 14 = W.1 0 2 from hm.1 2 (by decide) (by decide)]
      exact q1
    · rw [if_pos c2]
      refine MD_arg (v := 0) hW h (qX11_toRate_0 h0 (wr_yes h0 ht hx ⟨by decide, by decide⟩ ⟨by decide, by decide⟩ (by omega) (fun w hw => ?_)))
      subst hw
      rw [if_neg (by decide)]
      refine wr_no h0 ht (.inr rfl) ht' ⟨by decide, by decide⟩ ⟨by decide, by decide⟩ c2 (fun w hw => ?_)
      subst hw
      rw [if_pos rfl]
  · rw [if_pos c1]
    refine MD_exc (v := 0) hW h (qX11_toRate_0 h0 (wr_no h0 ht (.inl rfl) hx ⟨by decide, by decide⟩ ⟨by decide, by decide⟩ (by omega) (fun w hw => ?_)))
    subst hw
    rw [if_pos rfl]
end
