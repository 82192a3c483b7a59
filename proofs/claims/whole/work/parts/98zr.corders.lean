/-! ===== orders of the class ===== -/
def doA (P : aP) : List aR → aS → Int → Option Int × aS
  | [], A, _ => (none, A)
  | o :: os, A, i => if (obA P o A).1 = -1 then (some i, A) else doA P os (obA P o A).2 (i + 1)
def txW (W : aW) : aW := (W.1, W.2.1, W.2.2.1, up (up W.2.2.2 1 0 0) 1 1 (-1))
def badW (W : aW) (T : aT) : aW := (W.1, (W.2.1.1, W.2.1.2.1, W.2.1.2.2.1, up W.2.1.2.2.2 2 0 (W.2.1.2.2.2 2 0 + 1)), W.2.2.1, up (up W.2.2.2 1 0 0) 1 1 T.2.2)
def resD (W : aW) (m : Nat) (x : Option Int × aS) : Int × aW := match x.1 with
  | some i => (-100 - i, refW W)
  | none => (m, if m = 0 then W else actW W x.2)
def ordX (W : aW) (n : Int) : List aR × aT := ords (W.2.2.2 0) n W.1 141 (0, 0, -1)
def ordF (W : aW) (n : Int) : aO × aW :=
  if ¬(0 ≤ n ∧ n ≤ W.2.2.2 1 0) then (.inr 1, W)
  else if (ordX W n).2.2.1 ≠ 0 then (.inl (-10 - (ordX W n).2.2.1), badW W (ordX W n).2)
  else (.inl (resD (txW W) (ordX W n).1.length (doA W.1 (ordX W n).1 W.2.1.1 0)).1, (resD (txW W) (ordX W n).1.length (doA W.1 (ordX W n).1 W.2.1.1 0)).2)
theorem wf_tx {W : aW} (hW : wfW W) : wfW (txW W) := by
  obtain ⟨hP, bb, tt, i, f, t⟩ := hW
  refine ⟨hP, bb, tt, i, ?_, fun j => ?_⟩
  · show 0 ≤ up (up W.2.2.2 1 0 0) 1 1 (-1) 1 0 ∧ up (up W.2.2.2 1 0 0) 1 1 (-1) 1 0 ≤ 700
    rw [up_at, if_neg (by decide), up_eq]; decide
  · show 0 ≤ up (up W.2.2.2 1 0 0) 1 1 (-1) 0 j ∧ up (up W.2.2.2 1 0 0) 1 1 (-1) 0 j < 256
    rw [up_ne (by decide), up_ne (by decide)]; exact t j
theorem wf_bad {W : aW} {T : aT} (hW : wfW W) : wfW (badW W T) := by
  obtain ⟨hP, ⟨b1, b2, b3, b4, b5⟩, tt, i, f, t⟩ := hW
  refine ⟨hP, ⟨b1, b2, b3, b4, fun i h1 h2 => b5 i h1 h2⟩, tt, i, ?_, fun j => ?_⟩
  · show 0 ≤ up (up W.2.2.2 1 0 0) 1 1 T.2.2 1 0 ∧ up (up W.2.2.2 1 0 0) 1 1 T.2.2 1 0 ≤ 700
    rw [up_at, if_neg (by decide), up_eq]; decide
  · show 0 ≤ up (up W.2.2.2 1 0 0) 1 1 T.2.2 0 j ∧ up (up W.2.2.2 1 0 0) 1 1 T.2.2 0 j < 256
    rw [up_ne (by decide), up_ne (by decide)]; exact t j
theorem wf_do {P : aP} (hP : wfP P) : ∀ (L : List aR) (A : aS) (i : Int), wfA P A → okT A → (∀ o, o ∈ L → okO P o) → wfA P (doA P L A i).2 ∧ okT (doA P L A i).2
  | [], A, i, h, t, _ => ⟨h, t⟩
  | o :: L, A, i, h, t, q => by
    show wfA P (if (obA P o A).1 = -1 then (some i, A) else doA P L (obA P o A).2 (i + 1)).2 ∧ okT (if (obA P o A).1 = -1 then (some i, A) else doA P L (obA P o A).2 (i + 1)).2
    by_cases c : (obA P o A).1 = -1
    · rw [if_pos c]; exact ⟨h, t⟩
    · rw [if_neg c]
      have w := wf_ob hP h t (q o (List.mem_cons_self))
      exact wf_do hP L _ _ w.1 w.2 (fun o' h' => q o' (List.mem_cons_of_mem _ h'))
theorem wf_ordF {W : aW} (hW : wfW W) (n : Int) : wfW (ordF W n).2 := by
  unfold ordF
  by_cases c : 0 ≤ n ∧ n ≤ W.2.2.2 1 0
  · rw [if_neg (fun q => q c)]
    by_cases d : (ordX W n).2.2.1 ≠ 0
    · rw [if_pos d]; exact wf_bad hW
    · rw [if_neg d]
      have w := wf_do hW.1 (ordX W n).1 W.2.1.1 0 hW.2.1.1 hW.2.2.1.1 (fun o ho => ok_ords hW.1 _ _ o ho)
      unfold resD
      cases hq : (doA W.1 (ordX W n).1 W.2.1.1 0).1 with
      | some i => exact wf_ref (wf_tx hW)
      | none =>
        show wfW (if (ordX W n).1.length = 0 then txW W else actW (txW W) (doA W.1 (ordX W n).1 W.2.1.1 0).2)
        split
        · exact wf_tx hW
        · exact wf_act (wf_tx hW) w.1 w.2
  · rw [if_pos c]; exact hW
section
variable {sc : Nat × (Nat → Int32)} {SH : List mCell} {F : Nat → Nat → Option Nat} {S S' : mStore} {e : Nat} {W : aW} {A : aS}
theorem clR_tx (h : clR SH F e S W) (hf : ∀ j, j ≠ 0 → j ≠ 11 → j ≠ 16 → j ≠ 86 → S' j = S j) (h0 : S' 0 11 = S 0 11) {D M : mStore} (hD0 : D 0 = W.2.1.2.2.2 0) (hD1 : D 1 = W.2.1.2.2.2 1) (h16 : ∀ i, 0 ≤ i → i < 3 → S' 16 i = D 2 i) (hM0 : M 0 = W.2.2.2 0) (hM1 : M 1 0 ≤ W.2.2.2 1 0) (h11 : S' 11 1 = M 1 0) (h12 : S' 0 12 = M 1 1) : clR SH F e S' (W.1, (W.2.1.1, W.2.1.2.1, W.2.1.2.2.1, D), W.2.2.1, M) := by
  obtain ⟨h1, h2, ⟨r1, r2, r3, r4, r5, r6, r7⟩, h4, h5, h6, h7⟩ := h
  refine ⟨h1, planR_far h2 (fun j _ _ => hf j (by omega) (by omega) (by omega) (by omega)), ⟨stateR_far r1 (fun j _ _ => hf j (by omega) (by omega) (by omega) (by omega)), by rw [hf (13 + 24) (by decide) (by decide) (by decide) (by decide)]; exact r2, by rw [hf (13 + 24) (by decide) (by decide) (by decide) (by decide)]; exact r3, ?_, by rw [hf 13 (by decide) (by decide) (by decide) (by decide)]; exact r5, ?_, h16⟩, ⟨fun hn => by rw [h0]; exact h4.1 hn, fun B' hB' => ⟨by rw [h0]; exact (h4.2 B' hB').1, ?_⟩⟩, ?_, h11, h12⟩
  · rw [hf (13 + 24) (by decide) (by decide) (by decide) (by decide)]
    exact hist_same r4 (fun _ _ _ h => h) h1 (by decide) (fun j hj _ => hf j (by omega) (by omega) (by omega) (by omega))
  · show ∀ i, 0 ≤ i → i < W.2.1.2.2.1 → S' (13 + 1) i = D 0 i ∧ S' (13 + 2) i = D 1 i
    rw [hf (13 + 1) (by decide) (by decide) (by decide) (by decide), hf (13 + 2) (by decide) (by decide) (by decide) (by decide), hD0, hD1]; exact r6
  · have q := (h4.2 B' hB').2
    exact bkR_far h1 (by decide) q (by decide) (fun _ _ _ h => h) (fun j _ _ => hf j (by omega) (by omega) (by omega) (by omega)) (hist_same q.2.2.2.1 (fun _ _ _ h => h) h1 (by decide) (fun j hj hl => hf j (by omega) (by omega) (by omega) (by omega)))
  · show ∀ i, 0 ≤ i → i < M 1 0 → S' 12 i = sby (M 0 i)
    rw [hf 12 (by decide) (by decide) (by decide) (by decide), hM0]
    exact fun i a c => h5 i a (by omega)
theorem clR_cx (h : clR SH F e S W) (hf : cxF S S') : clR SH F e S' W := by
  have q := clR_tx (S' := S') h (fun j a1 a2 a3 a4 => hf.1 j a2 a4) (by rw [hf.1 0 (by decide) (by decide)]) (D := W.2.1.2.2.2) (M := W.2.2.2) rfl rfl (by rw [hf.1 16 (by decide) (by decide)]; exact h.2.2.1.2.2.2.2.2.2) rfl (Int.le_refl _) (by rw [hf.2]; exact h.2.2.2.2.2.1) (by rw [hf.1 0 (by decide) (by decide)]; exact h.2.2.2.2.2.2)
  exact q
theorem spare_cx (h : shR SH F e) (hs : spare S F A) (hf : cxF S S') : spare S' F A := by
  obtain ⟨x, hx, hr⟩ := hs
  have := h.2.2.1 0 _ x (by decide) (by omega) hx
  exact ⟨x, by rw [hf.1 37 (by decide) (by decide)]; exact hx, stateR_far hr (fun j h1 h2 => hf.1 j (by omega) (by omega))⟩
theorem giveUp_cl (h : clR SH F e S (setA W A)) (hW : wfW W) (hs : spare S F W.2.1.1) : ∃ SH' F' S', G sc MX0_giveUp 0 [some (.ref 37), some (.ref 17)] [] SH S (rV SH' S') ∧ clR SH' F' e S' W ∧ (∀ j, 90 ≤ j → j ≤ 110 → S' j = S j) := by
  obtain ⟨h1, h2, ⟨r1, r2, r3, r4, r5, r6, r7⟩, h4, h5, h6, h7⟩ := h
  have hH := hW.2.1.2.2.1
  have hl := h1.2.2.2.2.1
  have e3 : S 37 3 = W.2.1.2.1.length := r3
  have e2 : 0 ≤ S 37 2 ∧ S 37 2 < 41 := r2
  obtain ⟨x, hx, hr⟩ := hs
  obtain ⟨SH1, F1, S1, g1, k1, t1, hF, f1⟩ := giveUp_ok (sc := sc) h1 (.inl ⟨rfl, rfl, rfl⟩) e2 (by omega) hx hr hW.2.1.1
  have hh : ∀ c, c < 2 → ∀ (o : Int) (L : List aS), histR S F c o L → histR S1 F1 c o L := fun c hc o L q => hist_same q hF h1 hc (fun j a1 a2 => f1 j a2 (by omega))
  refine ⟨SH1, F1, S1, g1, ⟨k1, planR_far h2 (fun j _ _ => f1 j (by omega) (by omega)), ⟨t1, ?_, ?_, ?_, ?_, ?_, ?_⟩, ⟨fun hn => by rw [f1 0 (by omega) (by omega)]; exact h4.1 hn, fun B hB => ⟨by rw [f1 0 (by omega) (by omega)]; exact (h4.2 B hB).1, ?_⟩⟩, ?_, ?_, ?_⟩, fun j a1 a2 => f1 j (by omega) (by omega)⟩
  · rw [f1 (13 + 24) (by omega) (by omega)]; exact r2
  · rw [f1 (13 + 24) (by omega) (by omega)]; exact r3
  · rw [f1 (13 + 24) (by omega) (by omega)]; exact hh 0 (by decide) _ _ r4
  · rw [f1 13 (by omega) (by omega)]; exact r5
  · rw [f1 (13 + 1) (by omega) (by omega), f1 (13 + 2) (by omega) (by omega)]; exact r6
  · rw [f1 (13 + 3) (by omega) (by omega)]; exact r7
  · have q := (h4.2 B hB).2
    exact bkR_far h1 (by decide) q (by decide) hF (fun j _ _ => f1 j (by omega) (by omega)) (hh 1 (by decide) _ _ q.2.2.2.1)
  · rw [f1 12 (by omega) (by omega)]; exact h5
  · rw [f1 11 (by omega) (by omega)]; exact h6
  · rw [f1 0 (by omega) (by omega)]; exact h7
theorem doA_yes {P : aP} {o : aR} {L : List aR} {i : Int} (c : ¬ (obA P o A).1 = -1) : doA P (o :: L) A i = doA P L (obA P o A).2 (i + 1) := by
  show (if (obA P o A).1 = -1 then (some i, A) else doA P L (obA P o A).2 (i + 1)) = _
  rw [if_neg c]
theorem doA_no {P : aP} {o : aR} {L : List aR} {i : Int} (c : (obA P o A).1 = -1) : doA P (o :: L) A i = (some i, A) := by
  show (if (obA P o A).1 = -1 then (some i, A) else doA P L (obA P o A).2 (i + 1)) = _
  rw [if_pos c]
theorem do_cl {b : Int → Int} {n l : Int} (hn : 0 ≤ n ∧ n ≤ 700) (hb : ∀ i, 0 ≤ b i ∧ b i < 256) (hW : wfW W) {m : Nat} (hm : m ≤ 200) : ∀ (k i : Nat) (T : aT) (S : mStore) (A : aS), clR SH F e S (setA W A) → spare S F W.2.1.1 → clT S b n T → wfA W.1 A → okT A → n < T.1 + 5 * k → (ords b n W.1 k T).2.2.1 = 0 → i + (ords b n W.1 k T).1.length = m → (m = 0 → A = W.2.1.1) → ∃ SH' F' S', G sc MX10_orders 65 [some (.ref 0), some (.int (I l)), some (.int (I m)), some (.int (I i))] [] SH S (rI (resD W m (doA W.1 (ords b n W.1 k T).1 A i)).1 SH' S') ∧ clR SH' F' e S' (resD W m (doA W.1 (ords b n W.1 k T).1 A i)).2 ∧ (∀ j, 90 ≤ j → j ≤ 110 → S' j = S j)
  | 0, i, T, S, A, h, hs, ht, hA, hk, hf, hz, hi, h0 => by
    have := ht.2.2.2.2.1.1
    omega
  | k + 1, i, T, S, A, h, hs, ht, hA, hk, hf, hz, hi, h0 => by
    obtain ⟨g0, g1, g2, hp, hst⟩ := clS h
    have hP := hW.1
    have s1 : sText SH := g0.2.2.1
    have s2 : sOrder SH := g0.2.2.2.2.2.2.2.1
    have hp : planR S 1 W.1 := hp
    by_cases c : T.2.1 ≠ 0 ∨ tkK b n T.1 = 0
    · rw [ords_no c] at hi ⊢
      have hi' : i = m := hi
      subst hi'
      show ∃ SH' F' S', G sc MX10_orders 65 _ [] SH S (rI (i : Int) SH' S') ∧ clR SH' F' e S' (if i = 0 then W else actW W A) ∧ _
      by_cases d : i = 0
      · rw [if_pos d]
        rw [h0 d] at h
        refine ⟨SH, F, S, qX10_orders_65 g0 ?_, h, fun _ _ _ => rfl⟩
        rw [if_pos (by rw [I_le ⟨by omega, by omega⟩ ⟨by omega, by omega⟩]; omega)]
        refine qX10_orders_129 g0 ?_
        rw [if_pos (by rw [I_le ⟨by omega, by omega⟩ ⟨by decide, by decide⟩]; omega)]
      · rw [if_neg d]
        obtain ⟨S2, gs, k2, f2⟩ := stand_cl (sc := sc) h hW hs
        refine ⟨SH, F, S2, qX10_orders_65 g0 ?_, k2, fun j a1 a2 => f2 j (by omega)⟩
        rw [if_pos (by rw [I_le ⟨by omega, by omega⟩ ⟨by omega, by omega⟩]; omega)]
        refine qX10_orders_129 g0 ?_
        rw [if_neg (by rw [I_le ⟨by omega, by omega⟩ ⟨by decide, by decide⟩]; omega)]
        exact ⟨_, gs, rfl⟩
    · have c1 : T.2.1 = 0 := Decidable.not_not.mp (fun q => c (.inl q))
      have c2 : tkK b n T.1 ≠ 0 := fun q => c (.inr q)
      by_cases z : (ordT b n W.1 T).2.2.1 = 0
      · obtain ⟨S1, gn, t1, f1, o1⟩ := isNext_ok (sc := sc) s1 g2 s2 hn hb ht hp hP c1 c2
        rw [if_pos z] at gn
        have mv := ord_mv hn.2 ht.2.2.2.2.1 z
        have oo := ok_ord hP z
        have r1 := clR_cx h f1
        obtain ⟨-, -, -, hp1, hst1⟩ := clS r1
        have hp1 : planR S1 1 W.1 := hp1
        have hst1' : stateR S1 17 A := hst1
        obtain ⟨S2, go, st2, f2⟩ := obey_ok (sc := sc) (u := none) g0 g1 hp1 hP hst1' hA hk (o1 z) oo
        have rgo := ob_rg (o := (ordT b n W.1 T).1) hP hA oo
        have sp1 := spare_cx h.1 hs f1
        have r2 : clR SH F e S2 (setA W (obA W.1 (ordT b n W.1 T).1 A).2) := by
          have q := clR_set (W := setA W A) r1 st2 f2
          exact q
        have sp2 := spare_set (W := setA W A) r1 sp1 f2
        rw [ords_yes c z] at hz hi ⊢
        dsimp only at hz hi ⊢
        rw [List.length_cons] at hi
        have st : ∀ r, (if I (obA W.1 (ordT b n W.1 T).1 A).1 = I (-1) then (∃ SH106 S105, sGP SH106 ∧ G sc MX0_giveUp 0 [some (.ref 37), some (.ref 17)] [] SH S2 (rV SH106 S105) ∧ (((0 : Int) ≤ 1 ∧ (1 : Int) < 3) ∧ (((0 : Int) ≤ 1 ∧ (1 : Int) < 3) ∧ r = rI ((-100) - i) SH106 (up S105 16 1 ((S105 16 1) + 1))))) else G sc MX10_orders 65 [some (.ref 0), some (.int (I l)), some (.int (I m)), some (.int (I ((i : Int) + 1)))] [] SH S2 r) → G sc MX10_orders 65 [some (.ref 0), some (.int (I l)), some (.int (I m)), some (.int (I i))] [] SH S r := fun r q => by
          refine qX10_orders_65 g0 ?_
          rw [if_neg (by rw [I_le ⟨by omega, by omega⟩ ⟨by omega, by omega⟩]; omega)]
          refine ⟨_, _, gn, ?_⟩
          rw [if_neg (by decide)]
          exact ⟨_, _, go, q⟩
        by_cases d : (obA W.1 (ordT b n W.1 T).1 A).1 = -1
        · rw [doA_no d]
          obtain ⟨SH3, F3, S3, gg, r3, f3⟩ := giveUp_cl (sc := sc) r2 hW sp2
          have r4 := (refused_cl (sc := sc) r3).2
          refine ⟨SH3, F3, _, st _ ?_, r4, fun j a1 a2 => by rw [up_ne (by omega), f3 j a1 a2, f2 j (by omega), f1.1 j (by omega) (by omega)]⟩
          rw [if_pos (by rw [d])]
          exact ⟨_, _, r3.1.1.1, gg, by decide, by decide, rfl⟩
        · rw [doA_yes d]
          have w := wf_ob hP hA hk oo
          obtain ⟨SH3, F3, S3, gg, r3, f3⟩ := do_cl (l := l) hn hb hW hm k (i + 1) (ordT b n W.1 T).2 S2 _ r2 sp2 (clT_far t1 (f2 11 (by omega)) (f2 12 (by omega))) w.1 w.2 (by omega) hz (by omega) (fun q => by omega)
          rw [show (((i + 1 : Nat)) : Int) = (i : Int) + 1 by omega] at gg r3
          refine ⟨SH3, F3, S3, st _ ?_, r3, fun j a1 a2 => by rw [f3 j a1 a2, f2 j (by omega), f1.1 j (by omega) (by omega)]⟩
          rw [if_neg (by rw [I_eq rgo ⟨by decide, by decide⟩]; exact d)]
          exact gg
      · rw [ords_bad c z] at hz
        exact absurd hz z
end
