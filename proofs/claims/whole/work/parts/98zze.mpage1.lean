/-! ===== the reference reads pages and what is advised ===== -/
abbrev cF (S S' : mStore) : Prop := (∀ j, j ≠ 90 → j ≠ 105 → S' j = S j) ∧ (∀ f, f ≠ 26 → f ≠ 33 → f ≠ 34 → f ≠ 36 → f ≠ 37 → f ≠ 38 → f ≠ 39 → S' 90 f = S 90 f)
theorem cF_tr {S S1 S2 : mStore} (h : cF S S1) (h2 : cF S1 S2) : cF S S2 := ⟨fun j a c => (h2.1 j a c).trans (h.1 j a c), fun f a1 a2 a3 a4 a5 a6 a7 => (h2.2 f a1 a2 a3 a4 a5 a6 a7).trans (h.2 f a1 a2 a3 a4 a5 a6 a7)⟩
theorem cF_rf (S : mStore) : cF S S := ⟨fun _ _ _ => rfl, fun _ _ _ _ _ _ _ _ => rfl⟩
section
variable {sc : Nat × (Nat → Int32)} {SH : List mCell} {S : mStore} {b : Int → Int} {n : Int} {T U V : aT} {D : aD} {μ : Int}
theorem stepC (h0 : sMod SH) (hn : 0 ≤ n ∧ n ≤ 700) (hb : ∀ i, 0 ≤ b i ∧ b i < 256) (h : mdT S b n U) (hf : U.2.1 = 0) {f l p : Int} (h48 : S 90 48 = f) (hf2 : 0 ≤ f ∧ f < 48) (hl : 0 ≤ l ∧ l < 4) : ∃ S1, mdT S1 b n (numT b n 0 15 U).2 ∧ cF S S1 ∧ (∀ y, y ≠ 4 * f + l → S1 105 y = S 105 y) ∧ S1 105 (4 * f + l) = (numT b n 0 15 U).1 ∧ ∀ r, G sc MX11_page1 75 [some (.ref 90), some (.int (I p)), some (.int (I (l + 1)))] [] SH S1 r → G sc MX11_page1 75 [some (.ref 90), some (.int (I p)), some (.int (I l))] [] SH S r := by
  obtain ⟨S2, g2, t2, f2⟩ := numM (sc := sc) h0 hn hb h (lo := 0) (hi := 15) (by decide) (by decide) (u := none)
  refine ⟨up S2 105 (4 * f + l) (numT b n 0 15 U).1, mdT_up t2 (by decide), ⟨fun j a c => by rw [up_ne c, f2.1 j a], fun f a1 a2 a3 a4 a5 a6 a7 => by rw [up_ne (by decide), f2.2 f a1 a2 a3 a4 a5 a6 a7]⟩, fun y hy => by rw [up_at, if_neg hy, f2.1 105 (by decide)], up_eq _ _ _ _, fun r q => ?_⟩
  refine qX11_page1_75 h0 ?_
  rw [if_neg (by rw [I_le ⟨by decide, by decide⟩ ⟨by omega, by omega⟩]; omega), h.2.2.1, hf, if_pos rfl, h48]
  exact ⟨_, _, g2, ⟨by omega, by omega⟩, q⟩
theorem stepB (h0 : sMod SH) (h : mdT S b n U) {f l p : Int} (hf : U.2.1 ≠ 0 ∨ l = 4) (h48 : S 90 48 = f) (hl : 0 ≤ l ∧ l ≤ 4) (hp : 0 ≤ p ∧ p < 48) : G sc MX11_page1 75 [some (.ref 90), some (.int (I p)), some (.int (I l))] [] SH S (rV SH (up (up S 104 p f) 90 48 (f + 1))) := by
  have tz := h.2.2.2.2.1.2.1
  have k : G sc MX11_page1 113 [some (.ref 90), some (.int (I p)), some (.int (I l))] [] SH S (rV SH (up (up S 104 p f) 90 48 (f + 1))) := by
    refine qX11_page1_113 h0 ⟨hp, ?_⟩
    rw [h48, show up S 104 p f 90 48 = f by rw [up_ne (by decide)]; exact h48]
  refine qX11_page1_75 h0 ?_
  by_cases c : 4 ≤ l
  · rw [if_pos (by rw [I_le ⟨by decide, by decide⟩ ⟨by omega, by omega⟩]; exact c)]; exact k
  · rw [if_neg (by rw [I_le ⟨by decide, by decide⟩ ⟨by omega, by omega⟩]; exact c), h.2.2.1, if_neg (by rw [I_eq ⟨by omega, by omega⟩ ⟨by decide, by decide⟩]; exact hf.elim id (fun q => by omega))]
    exact k
theorem cellsM (h0 : sMod SH) (hn : 0 ≤ n ∧ n ≤ 700) (hb : ∀ i, 0 ≤ b i ∧ b i < 256) (h : mdT S b n V) {f p : Int} (h48 : S 90 48 = f) (hf2 : 0 ≤ f ∧ f < 48) (hp : 0 ≤ p ∧ p < 48) : ∃ S', G sc MX11_page1 75 [some (.ref 90), some (.int (I p)), some (.int (I 0))] [] SH S (rV SH (up (up S' 104 p f) 90 48 (f + 1))) ∧ mdT S' b n (nqT b n 4 0 V).2 ∧ cF S S' ∧ (∀ y, y < 4 * f ∨ 4 * f + 4 ≤ y → S' 105 y = S 105 y) ∧ ((nqT b n 4 0 V).2.2.1 = 0 → ∀ c, 0 ≤ c → c < 4 → S' 105 (4 * f + c) = nb (nqT b n 4 0 V).1 (12 - 4 * c)) := by
  have k48 : ∀ {Y Z : mStore}, cF Y Z → Y 90 48 = f → Z 90 48 = f := fun q e => by rw [q.2 48 (by decide) (by decide) (by decide) (by decide) (by decide) (by decide) (by decide)]; exact e
  by_cases z0 : V.2.1 ≠ 0
  · have e : (nqT b n 4 0 V).2 = V := nq_bad 4 0 z0
    rw [e]
    exact ⟨S, stepB h0 h (.inl z0) h48 (by decide) hp, h, cF_rf S, fun _ _ => rfl, fun q => absurd q z0⟩
  obtain ⟨S1, t1, f1, y1, d1, st1⟩ := stepC (sc := sc) (p := p) h0 hn hb h (Decidable.not_not.mp z0) h48 hf2 (l := 0) (by decide)
  have e1 := k48 f1 h48
  have n0 := num15 (b := b) (n := n) V
  have en1 : nqT b n 4 0 V = nqT b n 3 (16 * 0 + (numT b n 0 15 V).1) (numT b n 0 15 V).2 := rfl
  generalize hV1 : (numT b n 0 15 V).2 = V1 at *
  generalize (numT b n 0 15 V).1 = v0 at *
  by_cases z1 : V1.2.1 ≠ 0
  · have e : (nqT b n 4 0 V).2 = V1 := by rw [en1]; exact nq_bad 3 _ z1
    rw [e]
    exact ⟨S1, st1 _ (stepB h0 t1 (.inl z1) e1 (by decide) hp), t1, f1, fun y hy => y1 y (by omega), fun q => absurd q z1⟩
  obtain ⟨S2, t2, f2, y2, d2, st2⟩ := stepC (sc := sc) (p := p) h0 hn hb t1 (Decidable.not_not.mp z1) e1 hf2 (l := 0 + 1) (by decide)
  have e2 := k48 f2 e1
  have n1 := num15 (b := b) (n := n) V1
  have en2 : nqT b n 3 (16 * 0 + v0) V1 = nqT b n 2 (16 * (16 * 0 + v0) + (numT b n 0 15 V1).1) (numT b n 0 15 V1).2 := rfl
  generalize hV2 : (numT b n 0 15 V1).2 = V2 at *
  generalize (numT b n 0 15 V1).1 = v1 at *
  by_cases z2 : V2.2.1 ≠ 0
  · have e : (nqT b n 4 0 V).2 = V2 := by rw [en1, en2]; exact nq_bad 2 _ z2
    rw [e]
    exact ⟨S2, st1 _ (st2 _ (stepB h0 t2 (.inl z2) e2 (by decide) hp)), t2, cF_tr f1 f2, fun y hy => by rw [y2 y (by omega), y1 y (by omega)], fun q => absurd q z2⟩
  obtain ⟨S3, t3, f3, y3, d3, st3⟩ := stepC (sc := sc) (p := p) h0 hn hb t2 (Decidable.not_not.mp z2) e2 hf2 (l := 0 + 1 + 1) (by decide)
  have e3 := k48 f3 e2
  have n2 := num15 (b := b) (n := n) V2
  have en3 : nqT b n 2 (16 * (16 * 0 + v0) + v1) V2 = nqT b n 1 (16 * (16 * (16 * 0 + v0) + v1) + (numT b n 0 15 V2).1) (numT b n 0 15 V2).2 := rfl
  generalize hV3 : (numT b n 0 15 V2).2 = V3 at *
  generalize (numT b n 0 15 V2).1 = v2 at *
  by_cases z3 : V3.2.1 ≠ 0
  · have e : (nqT b n 4 0 V).2 = V3 := by rw [en1, en2, en3]; exact nq_bad 1 _ z3
    rw [e]
    exact ⟨S3, st1 _ (st2 _ (st3 _ (stepB h0 t3 (.inl z3) e3 (by decide) hp))), t3, cF_tr f1 (cF_tr f2 f3), fun y hy => by rw [y3 y (by omega), y2 y (by omega), y1 y (by omega)], fun q => absurd q z3⟩
  obtain ⟨S4, t4, f4, y4, d4, st4⟩ := stepC (sc := sc) (p := p) h0 hn hb t3 (Decidable.not_not.mp z3) e3 hf2 (l := 0 + 1 + 1 + 1) (by decide)
  have e4 := k48 f4 e3
  have n3 := num15 (b := b) (n := n) V3
  have en4 : nqT b n 1 (16 * (16 * (16 * 0 + v0) + v1) + v2) V3 = (16 * (16 * (16 * (16 * 0 + v0) + v1) + v2) + (numT b n 0 15 V3).1, (numT b n 0 15 V3).2) := rfl
  rw [en1, en2, en3, en4]
  refine ⟨S4, st1 _ (st2 _ (st3 _ (st4 _ (stepB h0 t4 (.inr (by decide)) e4 (by decide) hp)))), t4, cF_tr f1 (cF_tr f2 (cF_tr f3 f4)), fun y hy => by rw [y4 y (by omega), y3 y (by omega), y2 y (by omega), y1 y (by omega)], fun _ c c0 c4 => ?_⟩
  dsimp only
  rw [nb_c ⟨by omega, by omega⟩ ⟨c0, c4⟩]
  have nn := nibs (A := v0) (B := v1) (C := v2) (D := (numT b n 0 15 V3).1) n0 n1 n2 n3 (x := 16 * (16 * (16 * (16 * 0 + v0) + v1) + v2) + (numT b n 0 15 V3).1) (by omega)
  rcases (show c = 0 ∨ c = 1 ∨ c = 2 ∨ c = 3 by omega) with rfl | rfl | rfl | rfl
  · rw [if_pos rfl, nn.1, y4 _ (by omega), y3 _ (by omega), y2 _ (by omega)]; exact d1
  · rw [if_neg (by decide), if_pos rfl, nn.2.1, y4 _ (by omega), y3 _ (by omega)]; exact d2
  · rw [if_neg (by decide), if_neg (by decide), if_pos rfl, nn.2.2.1, y4 _ (by omega)]; exact d3
  · rw [if_neg (by decide), if_neg (by decide), if_neg (by decide), nn.2.2.2]; exact d4
theorem pageM (h0 : sMod SH) (hn : 0 ≤ n ∧ n ≤ 700) (hb : ∀ i, 0 ≤ b i ∧ b i < 256) (c : mdT S b n T) (hf : T.2.1 = 0) (hD : drR S D) (oD : okE D) {X : aD × aT} (hX : X = if D.1 0 0 ≤ D.2.2.1 then (D, failA 2 (tkS b n T.1) T) else pg1 b n D (goT b n T)) {u1 u2 : Option Value} : ∃ S', G sc MX11_page1 0 [some (.ref 90), u1, u2] [] SH S (rV SH S') ∧ mdT S' b n X.2 ∧ drF S S' ∧ (X.2.2.1 = 0 → drR S' X.1) := by
  obtain ⟨oP, oA, oT, oL, o7⟩ := oD
  have p6 := oP.2.2.2.2.1
  have p7 := oP.2.2.2.2.2.1
  have p0 := oP.1
  have e40 : S 90 40 = D.1 0 0 := hD.1 0 (by decide) (by decide)
  have e48 : S 90 48 = D.2.2.1 := hD.2.2.1
  by_cases c4 : D.1 0 0 ≤ D.2.2.1
  · rw [if_pos c4] at hX
    subst hX
    obtain ⟨S1, g1, t1, f1⟩ := wants_no (sc := sc) h0 hn.2 c hf (k := 2) (by decide)
    refine ⟨S1, qX11_page1_0 h0 ?_, t1, drF_mx f1, fun q => absurd q (by rw [failA_z hf]; show ¬((2 : Int) = 0); decide)⟩
    rw [e40, e48, if_pos (by rw [I_le ⟨by omega, by omega⟩ ⟨by omega, by omega⟩]; exact c4)]
    refine ⟨_, _, g1, ?_⟩
    rw [if_pos rfl]
  rw [if_neg c4] at hX
  obtain ⟨S1, g1, t1, f1⟩ := goM (sc := sc) h0 hn hb c hf (u := none)
  have D1 := drR_mx hD f1
  have e46 : S1 90 46 = D.1 0 6 := D1.1 6 (by decide) (by decide)
  obtain ⟨v, S2, g2, f2, bad2, ok2⟩ := pgHereM (sc := sc) (P := D.1) (u := none) h0 hn hb t1 hf (m := D.1 0 6) rfl p6 (fun g a1 a2 => ⟨(D1.2.2.2.1 g a1 a2).1, by have := (oP.2.2.2.2.2.2.1 g a1 a2).1; omega, (oP.2.2.2.2.2.2.1 g a1 a2).1.2⟩)
  have st : ∀ r, (if I (S2 90 39) = I 0 then (((0 : Int) ≤ v ∧ v < 48) ∧ (if I (S2 104 v) = I (-1) then (∃ v120 S121, G sc MX11_wants 0 [some (.ref 90), some (.int (I 1)), some (.int (I 4))] [] SH S2 (rI v120 SH S121) ∧ (if I v120 = I 0 then r = rV SH S121 else (∃ S122, G sc MX11_go 0 [some (.ref 90), none] [] SH S121 (rV SH S122) ∧ G sc MX11_page1 75 [some (.ref 90), some (.int (I v)), some (.int (I 0))] [] SH S122 r))) else (∃ v117 S118, G sc MX11_wants 0 [some (.ref 90), some (.int (I 0)), some (.int (I 4))] [] SH S2 (rI v117 SH S118) ∧ (if I v117 = I 0 then r = rV SH S118 else (∃ S119, G sc MX11_go 0 [some (.ref 90), none] [] SH S118 (rV SH S119) ∧ G sc MX11_page1 75 [some (.ref 90), some (.int (I v)), some (.int (I 0))] [] SH S119 r))))) else r = rV SH S2) → G sc MX11_page1 0 [some (.ref 90), u1, u2] [] SH S r := fun r q => by
    refine qX11_page1_0 h0 ?_
    rw [e40, e48, if_neg (by rw [I_le ⟨by omega, by omega⟩ ⟨by omega, by omega⟩]; exact c4)]
    refine ⟨_, _, wants_yes h0 c hf, ?_⟩
    rw [if_neg (by decide)]
    refine ⟨_, g1, ?_⟩
    rw [e46]
    exact ⟨_, _, g2, q⟩
  have D2 := drR_mx D1 f2
  unfold pg1 at hX
  by_cases z : (pgT b n D.1 (goT b n T)).2.2.1 ≠ 0
  · rw [if_pos z] at hX
    subst hX
    obtain ⟨-, t2⟩ := bad2 z
    have tz := t2.2.2.2.2.1.2.1
    refine ⟨S2, st _ ?_, t2, drF_tr (drF_mx f1) (drF_mx f2), fun q => absurd q z⟩
    rw [t2.2.2.1, if_neg (by rw [I_eq ⟨by omega, by omega⟩ ⟨by decide, by decide⟩]; exact z)]
  rw [if_neg z] at hX
  have z' : (pgT b n D.1 (goT b n T)).2.2.1 = 0 := Decidable.not_not.mp z
  obtain ⟨ev, t2, zn, egt⟩ := ok2 z'
  have pq := pgT_ok z'
  have pr := pgV_ok oP z'
  have pe : plc D.1 (pgT b n D.1 (goT b n T)).1.1 (pgT b n D.1 (goT b n T)).1.2.1 = pgV D.1 (pgT b n D.1 (goT b n T)) := by unfold pgV; rw [if_pos z']
  have rr := pq.2.1
  have lb : 0 ≤ v ∧ v < 48 := by rw [ev]; omega
  have e12 : S2 104 v = D.2.2.2.w (pgV D.1 (pgT b n D.1 (goT b n T))) := by
    rw [ev, (D2.2.2.2.2.1 _ _ rr.1.1 (by omega) rr.2.1 (by omega)).1]
    unfold drW
    rw [pe, if_neg (by omega)]
  have hwr := oA.1.2.2 (pgV D.1 (pgT b n D.1 (goT b n T)))
  by_cases k : D.2.2.2.w (pgV D.1 (pgT b n D.1 (goT b n T))) ≠ -1
  · rw [if_pos k] at hX
    subst hX
    obtain ⟨S3, g3, t3, f3⟩ := wants_no (sc := sc) h0 hn.2 t2 zn (k := 4) (by decide)
    have e122 : (pgT b n D.1 (goT b n T)).1.2.2 = (numT b n 0 3 (goT b n T)).2.1 := by rw [pq.2.2.2.2]
    have hp2 : (pgT b n D.1 (goT b n T)).2.2.2 = (numT b n 0 3 (goT b n T)).2.2.2 := by rw [← egt]; rfl
    refine ⟨S3, st _ ?_, ?_, drF_tr (drF_mx f1) (drF_tr (drF_mx f2) (drF_mx f3)), fun q => absurd q (by rw [failA_z z']; show ¬((4 : Int) = 0); decide)⟩
    · rw [t2.2.2.1, zn, if_pos rfl]
      refine ⟨lb, ?_⟩
      rw [e12, if_neg (by rw [I_eq ⟨by omega, by omega⟩ ⟨by decide, by decide⟩]; exact k)]
      refine ⟨_, _, g3, ?_⟩
      rw [if_pos rfl]
    · refine mdT_pos t3 (by rw [failA_z zn]; show (4 : Int) ≠ 0; decide) ?_ ?_
      · dsimp only
        rw [failA_z z', failA_z zn, e122]
      · dsimp only
        rw [failA_1]
        exact (ok_pg (b := b) (P := D.1) hn.2 t1.2.2.2.2.1).1
  · rw [if_neg k] at hX
    have k' := Decidable.not_not.mp k
    obtain ⟨S3, g3, t3, f3⟩ := goM (sc := sc) h0 hn hb t2 zn (u := none)
    rw [egt] at t3
    have D3 := drR_mx D2 f3
    obtain ⟨S4, g4, t4, f4, y4, d4⟩ := cellsM (sc := sc) h0 hn hb t3 (f := D.2.2.1) (p := v) D3.2.2.1 ⟨oL.1, by omega⟩ lb
    subst hX
    refine ⟨up (up S4 104 v D.2.2.1) 90 48 (D.2.2.1 + 1), st _ ?_, mdT_90 (mdT_up t4 (by decide)) (by decide), drF_tr (drF_mx f1) (drF_tr (drF_mx f2) (drF_tr (drF_mx f3) (drF_tr (S1 := S4) ⟨fun j a1 a2 a3 a4 a5 a6 => f4.1 j a1 a5, fun f hf => f4.2 f (by omega) (by omega) (by omega) (by omega) (by omega) (by omega) (by omega)⟩ (drF_tr (drF_up (by decide)) (drF_90 (by decide)))))), fun y => ?_⟩
    · rw [t2.2.2.1, zn, if_pos rfl]
      refine ⟨lb, ?_⟩
      rw [e12, if_pos (by rw [k'])]
      refine ⟨_, _, wants_yes h0 t2 zn, ?_⟩
      rw [if_neg (by decide)]
      exact ⟨_, g3, g4⟩
    · obtain ⟨a1, a2, a3, a4, a5, a6⟩ := D3
      have i90 : ∀ i, 40 ≤ i → i ≠ 48 → up (up S4 104 v D.2.2.1) 90 48 (D.2.2.1 + 1) 90 i = S3 90 i := fun i i1 i2 => by rw [up_at, if_neg i2, up_ne (by decide), f4.2 i (by omega) (by omega) (by omega) (by omega) (by omega) (by omega) (by omega)]
      refine ⟨fun i i0 i7 => by rw [i90 _ (by omega) (by omega)]; exact a1 i i0 i7, by rw [i90 _ (by decide) (by decide)]; exact a2, up_eq _ _ _ _, ?_, fun g i h1 h2 h3 h4 => ?_, fun f c h1 h2 h3 h4 => ?_⟩
      · rw [up_ne (by decide), up_ne (by decide), up_ne (by decide), up_ne (by decide), f4.1 102 (by decide) (by decide), f4.1 103 (by decide) (by decide)]; exact a4
      · have q := a5 g i h1 h2 h3 h4
        show up (up S4 104 v D.2.2.1) 90 48 (D.2.2.1 + 1) 104 (12 * g + i) = drW D.1 ((lieIn D.2.2.2 (pgV D.1 (pgT b n D.1 (goT b n T))) D.2.2.1).sv 0 D.2.2.1 (nqT b n 4 0 (pgT b n D.1 (goT b n T)).2).1) g i ∧ up (up S4 104 v D.2.2.1) 90 48 (D.2.2.1 + 1) 106 (12 * g + i) = drV D.1 ((lieIn D.2.2.2 (pgV D.1 (pgT b n D.1 (goT b n T))) D.2.2.1).sv 0 D.2.2.1 (nqT b n 4 0 (pgT b n D.1 (goT b n T)).2).1) g i
        rw [up_ne (by decide), up_ne (show (106 : Nat) ≠ 90 by decide), up_ne (show (106 : Nat) ≠ 104 by decide), up_at, f4.1 106 (by decide) (by decide), f4.1 104 (by decide) (by decide), q.1, q.2]
        unfold drW drV
        constructor
        · by_cases w : plc D.1 g i = -1
          · rw [if_pos w, if_pos w]
            rw [if_neg]
            intro hv
            have hgi : g = (pgT b n D.1 (goT b n T)).1.1 ∧ i = (pgT b n D.1 (goT b n T)).1.2.1 := by rw [ev] at hv; omega
            rw [hgi.1, hgi.2, pe] at w
            omega
          · rw [if_neg w, if_neg w]
            show _ = (if plc D.1 g i = pgV D.1 (pgT b n D.1 (goT b n T)) then D.2.2.1 else D.2.2.2.w (plc D.1 g i))
            by_cases hv : 12 * g + i = v
            · have hgi : g = (pgT b n D.1 (goT b n T)).1.1 ∧ i = (pgT b n D.1 (goT b n T)).1.2.1 := by rw [ev] at hv; omega
              rw [if_pos hv, if_pos (by rw [hgi.1, hgi.2]; exact pe)]
            · rw [if_neg hv, if_neg]
              intro hx
              have hi := plc_inj oP w (g' := (pgT b n D.1 (goT b n T)).1.1) (i' := (pgT b n D.1 (goT b n T)).1.2.1) (by rw [pe, hx])
              apply hv
              rw [ev, hi.1, hi.2]
        · rfl
      · have h2' : f < D.2.2.1 + 1 := h2
        show up (up S4 104 v D.2.2.1) 90 48 (D.2.2.1 + 1) 105 (4 * f + c) = nb (up D.2.2.2.v 0 D.2.2.1 (nqT b n 4 0 (pgT b n D.1 (goT b n T)).2).1 0 f) (12 - 4 * c)
        rw [up_ne (by decide), up_ne (by decide), up_at]
        by_cases w : f = D.2.2.1
        · rw [if_pos w, w]; exact d4 y c h3 h4
        · rw [if_neg w, y4 _ (by omega)]; exact a6 f c h1 (by omega) h3 h4
end
