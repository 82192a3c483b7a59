/-! ===== toAdvise, toRate ===== -/
def taA (P : aP) (A : aS) (t : Nat) : Nat → Int → Int → Int → Int × Int
  | 0, _, b, f => (b, f)
  | n + 1, g, b, f => if b = -1 ∨ usedA P (tickA P t (advAll (P 1 g).toNat (P 3 g) A).2).2 < f then taA P A t n (g + 1) g (usedA P (tickA P t (advAll (P 1 g).toNat (P 3 g) A).2).2) else taA P A t n (g + 1) b f
def toAdviseF (W : aW) (t x : Int) : aO := if ¬(x = 0 ∨ x = 1) then .inr 0 else if ¬(0 ≤ t ∧ t ≤ 40) then .inr 1 else .inl (if x = 0 then (taA W.1 W.2.1.1 t.toNat (W.1 0 6).toNat 0 (-1) (-1)).1 else (taA W.1 W.2.1.1 t.toNat (W.1 0 6).toNat 0 (-1) (-1)).2)
def tkR (P : aP) (A : aS) (t : Nat) (r : Int) : aS := (tickA P t (A.sv 6 0 r)).2
def trA (P : aP) (A : aS) (t : Nat) : Nat → Int → Int → Int → Int → Int × Int
  | 0, _, b, f, _ => (b, f)
  | n + 1, r, b, f, w => if b = -1 ∨ usedA P (tkR P A t r) < f ∨ (usedA P (tkR P A t r) = f ∧ ¬ (I w ≤ I ((tkR P A t r).v 6 3))) then trA P A t n (r + 1) r (usedA P (tkR P A t r)) ((tkR P A t r).v 6 3) else trA P A t n (r + 1) b f w
def toRateF (W : aW) (t x : Int) : aO := if ¬(x = 0 ∨ x = 1) then .inr 0 else if ¬(1 ≤ t ∧ t ≤ 20) then .inr 1 else .inl (if x = 0 then (trA W.1 W.2.1.1 t.toNat (W.1 0 3 - W.1 0 2 + 1).toNat (W.1 0 2) (-1) (-1) (-1)).1 else (trA W.1 W.2.1.1 t.toNat (W.1 0 3 - W.1 0 2 + 1).toNat (W.1 0 2) (-1) (-1) (-1)).2)
theorem trA_ini (P : aP) (A : aS) (t n : Nat) (r f w f' w' : Int) : trA P A t (n + 1) r (-1) f w = trA P A t (n + 1) r (-1) f' w' := by
  unfold trA
  rw [if_pos (.inl rfl), if_pos (.inl rfl)]
theorem used_rg (P : aP) (hP : wfP P) (A : aS) : 0 ≤ usedA P A ∧ usedA P A ≤ 48 := by
  have := cnt_rg (fun f => decide (A.L f ≠ [])) (P 0 0).toNat 0
  have h0 := hP.1
  unfold usedA
  omega
section
variable {sc : Nat × (Nat → Int32)} {SH : List mCell} {F : Nat → Nat → Option Nat} {S S' : mStore} {e : Nat} {W : aW} {N : Int}
theorem ta_lp (g0 : sGP SH) (hW : wfW W) {t x : Int} (ht : 0 ≤ t ∧ t ≤ 60) (hx : x = 0 ∨ x = 1) : ∀ (n : Nat) (g b f : Int) {S : mStore} {u : Option Value}, clR SH F e S W → g + n = W.1 0 6 → 0 ≤ g → (-1 ≤ b ∧ b < g) → (-1 ≤ f ∧ f ≤ 48) → ∃ S', G sc MX10_toAdvise 43 [some (.ref 0), some (.int (I t)), some (.int (I x)), some (.int (I b)), some (.int (I f)), some (.int (I g)), u] [] SH S (rI (if x = 0 then (taA W.1 W.2.1.1 t.toNat n g b f).1 else (taA W.1 W.2.1.1 t.toNat n g b f).2) SH S') ∧ (∀ j, j < 65 ∨ 85 ≤ j → S' j = S j)
  | 0, g, b, f, S, u, h, hg, h0, hb, hf => by
    have hP6 := hW.1.2.2.2.2.1
    refine ⟨S, qX10_toAdvise_43 g0 ?_, fun _ _ => rfl⟩
    rw [show S 1 6 = W.1 0 6 from h.2.1.1 6 (by decide) (by decide), if_pos (by rw [I_le ⟨by omega, by omega⟩ ⟨by omega, by omega⟩]; omega)]
    rcases hx with rfl | rfl
    · rw [if_pos rfl, if_pos rfl]; rfl
    · rw [if_neg (by decide), if_neg (by decide)]; rfl
  | n + 1, g, b, f, S, u, h, hg, h0, hb, hf => by
    have hP := hW.1
    have hP6 := hP.2.2.2.2.1
    have hP7 := hP.2.2.2.2.2.1
    have hw := hP.2.2.2.2.2.2.1 g h0 (by omega)
    have hp := h.2.1
    obtain ⟨S1, q1, r1, f1⟩ := try_cl (sc := sc) h hW
    have hp1 : planR S1 1 W.1 := planR_far hp (fun j _ _ => f1 j (by omega))
    obtain ⟨S2, q2, r2, f2⟩ := adv_ok (sc := sc) (S := S1) (a := 65) (u := none) (u' := none) g0.2.2.2.2.2.1 r1 hW.2.1.1 (lo := W.1 3 g) (n := (W.1 1 g).toNat) (by omega) (by omega)
    rw [show W.1 3 g + (((W.1 1 g).toNat : Nat) : Int) - 1 = W.1 3 g + W.1 1 g - 1 by omega] at q2
    have hp2 : planR S2 1 W.1 := planR_far hp1 (fun j _ _ => f2 j (by omega))
    have hw2 := wf_adv (P := W.1) (W.1 1 g).toNat (W.1 3 g) hW.2.1.1
    obtain ⟨S3, q3, r3, f3⟩ := tick_ok (sc := sc) (S := S2) (a := 65) (u1 := none) (u2 := none) (u3 := none) (u4 := none) g0.2.2.2.2.2.1 (by decide) hp2 hP r2 hw2 (n := t.toNat) (by omega)
    rw [show ((t.toNat : Nat) : Int) = t by omega] at q3
    have hw3 := wf_tick hP t.toNat hw2
    have hp3 : planR S3 1 W.1 := planR_far hp2 (fun j _ _ => f3 j (by omega))
    have q4 := used_ok (sc := sc) (u := none) (u' := none) g0.2.2.2.2.2.1 hp3 hP r3 hw3
    have fr : ∀ j, j < 65 ∨ 85 ≤ j → S3 j = S j := fun j hj => by rw [f3 j (by omega), f2 j (by omega), f1 j (by omega)]
    have h3 : clR SH F e S3 W := clR_tr h (fun j hj => fr j (by omega))
    have ur := used_rg W.1 hP (tickA W.1 t.toNat (advAll (W.1 1 g).toNat (W.1 3 g) W.2.1.1).2).2
    have st : ∀ r, (if I b = I (-1) then G sc MX10_toAdvise 43 [some (.ref 0), some (.int (I t)), some (.int (I x)), some (.int (I g)), some (.int (I (usedA W.1 (tickA W.1 t.toNat (advAll (W.1 1 g).toNat (W.1 3 g) W.2.1.1).2).2))), some (.int (I (g + 1))), some (.int (I (usedA W.1 (tickA W.1 t.toNat (advAll (W.1 1 g).toNat (W.1 3 g) W.2.1.1).2).2)))] [] SH S3 r else (if I f ≤ I (usedA W.1 (tickA W.1 t.toNat (advAll (W.1 1 g).toNat (W.1 3 g) W.2.1.1).2).2) then G sc MX10_toAdvise 43 [some (.ref 0), some (.int (I t)), some (.int (I x)), some (.int (I b)), some (.int (I f)), some (.int (I (g + 1))), some (.int (I (usedA W.1 (tickA W.1 t.toNat (advAll (W.1 1 g).toNat (W.1 3 g) W.2.1.1).2).2)))] [] SH S3 r else G sc MX10_toAdvise 43 [some (.ref 0), some (.int (I t)), some (.int (I x)), some (.int (I g)), some (.int (I (usedA W.1 (tickA W.1 t.toNat (advAll (W.1 1 g).toNat (W.1 3 g) W.2.1.1).2).2))), some (.int (I (g + 1))), some (.int (I (usedA W.1 (tickA W.1 t.toNat (advAll (W.1 1 g).toNat (W.1 3 g) W.2.1.1).2).2)))] [] SH S3 r)) → G sc MX10_toAdvise 43 [some (.ref 0), some (.int (I t)), some (.int (I x)), some (.int (I b)), some (.int (I f)), some (.int (I g)), u] [] SH S r := by
      intro r q
      refine qX10_toAdvise_43 g0 ?_
      rw [show S 1 6 = W.1 0 6 from hp.1 6 (by decide) (by decide), if_neg (by rw [I_le ⟨by omega, by omega⟩ ⟨by omega, by omega⟩]; omega)]
      refine ⟨_, q1, ⟨by omega, by omega⟩, ⟨by omega, by omega⟩, ⟨by omega, by omega⟩, ?_⟩
      rw [hp1.2.2.2.1 g h0 (by omega), hp1.2.1 g h0 (by omega)]
      exact ⟨_, _, q2, _, _, q3, _, _, q4, q⟩
    generalize hu : usedA W.1 (tickA W.1 t.toNat (advAll (W.1 1 g).toNat (W.1 3 g) W.2.1.1).2).2 = uu at *
    by_cases c : b = -1 ∨ uu < f
    · obtain ⟨S4, q5, f5⟩ := ta_lp g0 hW ht hx n (g + 1) g uu (u := some (.int (I uu))) h3 (by omega) (by omega) ⟨by omega, by omega⟩ ⟨by omega, by omega⟩
      refine ⟨S4, st _ ?_, fun j hj => by rw [f5 j hj, fr j hj]⟩
      unfold taA
      rw [hu, if_pos c]
      by_cases c1 : b = -1
      · rw [if_pos (by rw [c1])]; exact q5
      · rw [if_neg (by rw [I_eq ⟨by omega, by omega⟩ ⟨by decide, by decide⟩]; exact c1), if_neg (by rw [I_le ⟨by omega, by omega⟩ ⟨by omega, by omega⟩]; omega)]; exact q5
    · obtain ⟨S4, q5, f5⟩ := ta_lp g0 hW ht hx n (g + 1) b f (u := some (.int (I uu))) h3 (by omega) (by omega) ⟨by omega, by omega⟩ ⟨by omega, by omega⟩
      refine ⟨S4, st _ ?_, fun j hj => by rw [f5 j hj, fr j hj]⟩
      unfold taA
      rw [hu, if_neg c, if_neg (by rw [I_eq ⟨by omega, by omega⟩ ⟨by decide, by decide⟩]; omega), if_pos (by rw [I_le ⟨by omega, by omega⟩ ⟨by omega, by omega⟩]; omega)]
      exact q5
theorem toAdvise_cl (h : clR SH F e S W) (hW : wfW W) {t x : Int} (ht : rg t) (hx : rg x) {u3 u4 u5 u6 : Option Value} : CL sc MX10_toAdvise [some (.ref 0), some (.int (I t)), some (.int (I x)), u3, u4, u5, u6] SH F e S (toAdviseF W t x) W := by
  obtain ⟨g0, g1, g2, hp, hs⟩ := clS h
  have hP6 := hW.1.2.2.2.2.1
  have ht1 := ht.1
  have hx1 := hx.1
  unfold toAdviseF
  by_cases c1 : x = 0 ∨ x = 1
  · rw [if_neg (fun q => q c1)]
    by_cases c2 : 0 ≤ t ∧ t ≤ 40
    · rw [if_neg (fun q => q c2)]
      obtain ⟨S1, q1, f1⟩ := ta_lp (sc := sc) g0 hW (t := t) (x := x) ⟨by omega, by omega⟩ c1 (W.1 0 6).toNat 0 (-1) (-1) (u := u6) h (by omega) (by omega) ⟨by omega, by omega⟩ ⟨by omega, by omega⟩
      refine CL_tr h (qX10_toAdvise_0 g0 ?_) (fun j hj => f1 j (by omega))
      have go : ((∃ S101, G sc MX10_mustBe 0 [some (.int (I 1))] [] SH S (rV SH S101) ∧ (if I t < I 0 then ((∃ S102, G sc MX10_mustFit 0 [some (.int (I 0))] [] SH S101 (rV SH S102) ∧ G sc MX10_toAdvise 43 [some (.ref 0), some (.int (I t)), some (.int (I x)), some (.int (I (-1))), some (.int (I (-1))), some (.int (I 0)), u6] [] SH S102 (rI (if x = 0 then (taA W.1 W.2.1.1 t.toNat (W.1 0 6).toNat 0 (-1) (-1)).1 else (taA W.1 W.2.1.1 t.toNat (W.1 0 6).toNat 0 (-1) (-1)).2) SH S1)) ∨ (∃ e SH1 S2, G sc MX10_mustFit 0 [some (.int (I 0))] [] SH S101 (rX e SH1 S2) ∧ (rI (if x = 0 then (taA W.1 W.2.1.1 t.toNat (W.1 0 6).toNat 0 (-1) (-1)).1 else (taA W.1 W.2.1.1 t.toNat (W.1 0 6).toNat 0 (-1) (-1)).2) SH S1) = rX e SH1 S2)) else (if I 40 < I t then ((∃ S103, G sc MX10_mustFit 0 [some (.int (I 0))] [] SH S101 (rV SH S103) ∧ G sc MX10_toAdvise 43 [some (.ref 0), some (.int (I t)), some (.int (I x)), some (.int (I (-1))), some (.int (I (-1))), some (.int (I 0)), u6] [] SH S103 (rI (if x = 0 then (taA W.1 W.2.1.1 t.toNat (W.1 0 6).toNat 0 (-1) (-1)).1 else (taA W.1 W.2.1.1 t.toNat (W.1 0 6).toNat 0 (-1) (-1)).2) SH S1)) ∨ (∃ e SH1 S2, G sc MX10_mustFit 0 [some (.int (I 0))] [] SH S101 (rX e SH1 S2) ∧ (rI (if x = 0 then (taA W.1 W.2.1.1 t.toNat (W.1 0 6).toNat 0 (-1) (-1)).1 else (taA W.1 W.2.1.1 t.toNat (W.1 0 6).toNat 0 (-1) (-1)).2) SH S1) = rX e SH1 S2)) else ((∃ S104, G sc MX10_mustFit 0 [some (.int (I 1))] [] SH S101 (rV SH S104) ∧ G sc MX10_toAdvise 43 [some (.ref 0), some (.int (I t)), some (.int (I x)), some (.int (I (-1))), some (.int (I (-1))), some (.int (I 0)), u6] [] SH S104 (rI (if x = 0 then (taA W.1 W.2.1.1 t.toNat (W.1 0 6).toNat 0 (-1) (-1)).1 else (taA W.1 W.2.1.1 t.toNat (W.1 0 6).toNat 0 (-1) (-1)).2) SH S1)) ∨ (∃ e SH1 S2, G sc MX10_mustFit 0 [some (.int (I 1))] [] SH S101 (rX e SH1 S2) ∧ (rI (if x = 0 then (taA W.1 W.2.1.1 t.toNat (W.1 0 6).toNat 0 (-1) (-1)).1 else (taA W.1 W.2.1.1 t.toNat (W.1 0 6).toNat 0 (-1) (-1)).2) SH S1) = rX e SH1 S2))))) ∨ (∃ e SH1 S2, G sc MX10_mustBe 0 [some (.int (I 1))] [] SH S (rX e SH1 S2) ∧ (rI (if x = 0 then (taA W.1 W.2.1.1 t.toNat (W.1 0 6).toNat 0 (-1) (-1)).1 else (taA W.1 W.2.1.1 t.toNat (W.1 0 6).toNat 0 (-1) (-1)).2) SH S1) = rX e SH1 S2)) := by
        refine .inl ⟨_, mustBe_yes, ?_⟩
        rw [if_neg (by rw [I_lt ht ⟨by decide, by decide⟩]; omega), if_neg (by rw [I_lt ⟨by decide, by decide⟩ ht]; omega)]
        exact .inl ⟨_, mustFit_yes, q1⟩
      rcases c1 with rfl | rfl
      · rw [if_pos rfl]; exact go
      · rw [if_neg (by decide), if_pos rfl]; exact go
    · rw [if_pos c2]
      refine CL_exc h (qX10_toAdvise_0 g0 ?_)
      rcases c1 with rfl | rfl
      · rw [if_pos rfl]
        refine .inl ⟨_, mustBe_yes, ?_⟩
        by_cases d : t < 0
        · rw [if_pos (by rw [I_lt ht ⟨by decide, by decide⟩]; omega)]; exact .inr ⟨_, _, _, mustFit_no, rfl⟩
        · rw [if_neg (by rw [I_lt ht ⟨by decide, by decide⟩]; omega), if_pos (by rw [I_lt ⟨by decide, by decide⟩ ht]; omega)]; exact .inr ⟨_, _, _, mustFit_no, rfl⟩
      · rw [if_neg (by decide), if_pos rfl]
        refine .inl ⟨_, mustBe_yes, ?_⟩
        by_cases d : t < 0
        · rw [if_pos (by rw [I_lt ht ⟨by decide, by decide⟩]; omega)]; exact .inr ⟨_, _, _, mustFit_no, rfl⟩
        · rw [if_neg (by rw [I_lt ht ⟨by decide, by decide⟩]; omega), if_pos (by rw [I_lt ⟨by decide, by decide⟩ ht]; omega)]; exact .inr ⟨_, _, _, mustFit_no, rfl⟩
  · rw [if_pos c1]
    refine CL_exc h (qX10_toAdvise_0 g0 ?_)
    rw [if_neg (by rw [I_eq hx ⟨by decide, by decide⟩]; omega), if_neg (by rw [I_eq hx ⟨by decide, by decide⟩]; omega)]
    exact .inr ⟨_, _, _, mustBe_no rfl, rfl⟩
theorem rta_lp (h0 : sMod SH) (hW : wfW W) (hN : N < 2000000000) {t x : Int} (ht : 0 ≤ t ∧ t ≤ 60) (hx : x = 0 ∨ x = 1) : ∀ (n : Nat) (g b f : Int) {S : mStore} {u : Option Value}, mdR S N W → g + n = W.1 0 6 → 0 ≤ g → (-1 ≤ b ∧ b < g) → (-1 ≤ f ∧ f ≤ 48) → ∃ S', G sc MX11_toAdvise 44 [some (.ref 90), some (.int (I t)), some (.int (I x)), some (.int (I b)), some (.int (I f)), some (.int (I g)), u] [] SH S (rI (if x = 0 then (taA W.1 W.2.1.1 t.toNat n g b f).1 else (taA W.1 W.2.1.1 t.toNat n g b f).2) SH S') ∧ trF S S'
  | 0, g, b, f, S, u, h, hg, h0', hb, hf => by
    have hP6 := hW.1.2.2.2.2.1
    refine ⟨S, qX11_toAdvise_44 h0 ?_, trF.rf S⟩
    rw [show S 90 18 = W.1 0 6 from h.1.1 6 (by decide) (by decide), if_pos (by rw [I_le ⟨by omega, by omega⟩ ⟨by omega, by omega⟩]; omega)]
    rcases hx with rfl | rfl
    · rw [if_pos rfl, if_pos rfl]; rfl
    · rw [if_neg (by decide), if_neg (by decide)]; rfl
  | n + 1, g, b, f, S, u, h, hg, h0', hb, hf => by
    have hP := hW.1
    have hP6 := hP.2.2.2.2.1
    have hP7 := hP.2.2.2.2.2.1
    have hw := hP.2.2.2.2.2.2.1 g h0' (by omega)
    obtain ⟨S1, q1, r1, m1, f1⟩ := tr_md (sc := sc) h0 hW h
    obtain ⟨⟨S2, q2, r2, f2⟩, -⟩ := radvX_ok (sc := sc) (S := S1) (u := none) (u' := none) h0 m1 hP (b := 1654) ⟨by decide, by decide⟩ r1 hW.2.1.1 (lo := W.1 3 g) (hi := W.1 3 g + W.1 1 g - 1) ⟨by omega, by omega⟩ ⟨by omega, by omega⟩
    rw [show (W.1 3 g + W.1 1 g - 1 - W.1 3 g + 1).toNat = (W.1 1 g).toNat by omega] at q2 r2
    have m2 := modP_F m1 f2
    have hw2 := wf_adv (P := W.1) (W.1 1 g).toNat (W.1 3 g) hW.2.1.1
    obtain ⟨S3, q3, r3, f3⟩ := rticks_ok (sc := sc) (S := S2) (u3 := none) (u4 := none) h0 (b := 1654) ⟨by decide, by decide⟩ hP m2 r2 hw2 (n := t.toNat) (by omega) (by omega)
    rw [show ((t.toNat : Nat) : Int) = t by omega] at q3
    have m3 := modP_F m2 f3
    have q4 := rused_ok (sc := sc) (u := none) (u' := none) h0 (b := 1654) ⟨by decide, by decide⟩ m3 hP r3
    have fr : trF S S3 := f1.tr ((modF.trF f2).tr (modF.trF f3))
    have h3 : mdR S3 N W := fr.md hW h
    have ur := used_rg W.1 hP (tickA W.1 t.toNat (advAll (W.1 1 g).toNat (W.1 3 g) W.2.1.1).2).2
    have st : ∀ r, (if I b = I (-1) then G sc MX11_toAdvise 44 [some (.ref 90), some (.int (I t)), some (.int (I x)), some (.int (I g)), some (.int (I (usedA W.1 (tickA W.1 t.toNat (advAll (W.1 1 g).toNat (W.1 3 g) W.2.1.1).2).2))), some (.int (I (g + 1))), some (.int (I (usedA W.1 (tickA W.1 t.toNat (advAll (W.1 1 g).toNat (W.1 3 g) W.2.1.1).2).2)))] [] SH S3 r else (if I (usedA W.1 (tickA W.1 t.toNat (advAll (W.1 1 g).toNat (W.1 3 g) W.2.1.1).2).2) < I f then G sc MX11_toAdvise 44 [some (.ref 90), some (.int (I t)), some (.int (I x)), some (.int (I g)), some (.int (I (usedA W.1 (tickA W.1 t.toNat (advAll (W.1 1 g).toNat (W.1 3 g) W.2.1.1).2).2))), some (.int (I (g + 1))), some (.int (I (usedA W.1 (tickA W.1 t.toNat (advAll (W.1 1 g).toNat (W.1 3 g) W.2.1.1).2).2)))] [] SH S3 r else G sc MX11_toAdvise 44 [some (.ref 90), some (.int (I t)), some (.int (I x)), some (.int (I b)), some (.int (I f)), some (.int (I (g + 1))), some (.int (I (usedA W.1 (tickA W.1 t.toNat (advAll (W.1 1 g).toNat (W.1 3 g) W.2.1.1).2).2)))] [] SH S3 r)) → G sc MX11_toAdvise 44 [some (.ref 90), some (.int (I t)), some (.int (I x)), some (.int (I b)), some (.int (I f)), some (.int (I g)), u] [] SH S r := by
      intro r q
      refine qX11_toAdvise_44 h0 ?_
      rw [show S 90 18 = W.1 0 6 from h.1.1 6 (by decide) (by decide), if_neg (by rw [I_le ⟨by omega, by omega⟩ ⟨by omega, by omega⟩]; omega)]
      refine ⟨_, q1, ⟨by omega, by omega⟩, ⟨by omega, by omega⟩, ⟨by omega, by omega⟩, ?_⟩
      rw [m1.2.2.2.1 g h0' (by omega), m1.2.1 g h0' (by omega)]
      exact ⟨_, _, q2, _, _, q3, _, _, q4, q⟩
    generalize hu : usedA W.1 (tickA W.1 t.toNat (advAll (W.1 1 g).toNat (W.1 3 g) W.2.1.1).2).2 = uu at *
    by_cases c : b = -1 ∨ uu < f
    · obtain ⟨S4, q5, f5⟩ := rta_lp h0 hW hN ht hx n (g + 1) g uu (u := some (.int (I uu))) h3 (by omega) (by omega) ⟨by omega, by omega⟩ ⟨by omega, by omega⟩
      refine ⟨S4, st _ ?_, fr.tr f5⟩
      unfold taA
      rw [hu, if_pos c]
      by_cases c1 : b = -1
      · rw [if_pos (by rw [c1])]; exact q5
      · rw [if_neg (by rw [I_eq ⟨by omega, by omega⟩ ⟨by decide, by decide⟩]; exact c1), if_pos (by rw [I_lt ⟨by omega, by omega⟩ ⟨by omega, by omega⟩]; omega)]; exact q5
    · obtain ⟨S4, q5, f5⟩ := rta_lp h0 hW hN ht hx n (g + 1) b f (u := some (.int (I uu))) h3 (by omega) (by omega) ⟨by omega, by omega⟩ ⟨by omega, by omega⟩
      refine ⟨S4, st _ ?_, fr.tr f5⟩
      unfold taA
      rw [hu, if_neg c, if_neg (by rw [I_eq ⟨by omega, by omega⟩ ⟨by decide, by decide⟩]; omega), if_neg (by rw [I_lt ⟨by omega, by omega⟩ ⟨by omega, by omega⟩]; omega)]
      exact q5
theorem toAdvise_md (h0 : sMod SH) (hW : wfW W) (h : mdR S N W) (hN : N < 2000000000) {t x : Int} (ht' : rg t) (hx : rg x) {u3 u4 u5 u6 : Option Value} : MD sc MX11_toAdvise [some (.ref 90), some (.int (I t)), some (.int (I x)), u3, u4, u5, u6] SH S N 2 (toAdviseF W t x) W := by
  have ht : up S 90 4 0 90 4 = 0 := up_eq _ _ _ _
  have hP6 := hW.1.2.2.2.2.1
  unfold toAdviseF
  by_cases c1 : x = 0 ∨ x = 1
  · rw [if_neg (fun q => q c1)]
    by_cases c2 : 0 ≤ t ∧ t ≤ 40
    · rw [if_neg (fun q => q c2)]
      obtain ⟨S1, q1, f1⟩ := rta_lp (sc := sc) h0 hW hN (t := t) (x := x) ⟨by omega, by omega⟩ c1 (W.1 0 6).toNat 0 (-1) (-1) (u := u6) (mdR_thr (x := 0) hW h) (by omega) (by omega) ⟨by omega, by omega⟩ ⟨by omega, by omega⟩
      refine MD_tr hW h (qX11_toAdvise_0 h0 (wr_yes h0 ht hx ⟨by decide, by decide⟩ ⟨by decide, by decide⟩ (by omega) (fun w hw => ?_))) f1
      subst hw
      rw [if_neg (by decide)]
      refine wr_yes h0 ht ht' ⟨by decide, by decide⟩ ⟨by decide, by decide⟩ c2 (fun w hw => ?_)
      subst hw
      rw [if_neg (by decide)]
      exact q1
    · rw [if_pos c2]
      refine MD_arg (v := 0) hW h (qX11_toAdvise_0 h0 (wr_yes h0 ht hx ⟨by decide, by decide⟩ ⟨by decide, by decide⟩ (by omega) (fun w hw => ?_)))
      subst hw
      rw [if_neg (by decide)]
      refine wr_no h0 ht (.inr rfl) ht' ⟨by decide, by decide⟩ ⟨by decide, by decide⟩ c2 (fun w hw => ?_)
      subst hw
      rw [if_pos rfl]
  · rw [if_pos c1]
    refine MD_exc (v := 0) hW h (qX11_toAdvise_0 h0 (wr_no h0 ht (.inl rfl) hx ⟨by decide, by decide⟩ ⟨by decide, by decide⟩ (by omega) (fun w hw => ?_)))
    subst hw
    rw [if_pos rfl]
end
