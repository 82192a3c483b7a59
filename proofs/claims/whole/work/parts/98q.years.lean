/-! ===== years ===== -/
theorem pl_rg2 {P : aP} {B : aS} {p x : Int} : rg (putA P B p x).1 := put_rg P B p x
section
variable {sc : Nat × (Nat → Int32)} {SH : List mCell} {F : Nat → Nat → Option Nat} {e : Nat} {W : aW} {N : Int} {P : aP}
theorem fall_cl (g0 : sGP SH) (hP : wfP P) {S : mStore} {B : aS} {s : Int} (hp : planR S 1 P) (hr : stateR S 65 B) (hB : wfA P B) (hs : S 87 0 = s) {u1 u2 u3 : Option Value} : ∃ v S', G sc MX10_befallsByChance 0 [some (.ref 0), u1, u2, u3] [] SH S (rI v SH S') ∧ (I v = I (-1) ↔ (fallA P B s).1 = true) ∧ planR S' 1 P ∧ stateR S' 65 (fallA P B s).2.1 ∧ S' 87 0 = (fallA P B s).2.2 ∧ (∀ j, j < 65 ∨ (85 ≤ j ∧ j ≠ 87) → S' j = S j) := by
  have hP7 := hP.2.2.2.2.2.1
  have gd : sDraws SH := g0.2.2.2.2.2.2.2.2.1
  have g1 := g0.2.2.2.2.2.1
  have d1 := draw_cl (sc := sc) (S := S) gd (n := 4) (s := s) ⟨by decide, by decide⟩ hs
  have r4 := drA_rg (sdA s) (n := 4) (by decide)
  have u7 : up S 87 0 (sdA s) 1 7 = P 0 7 := by rw [up_ne (by decide)]; exact hp.1 7 (by decide) (by decide)
  unfold fallA
  by_cases c : drA (sdA s) 4 = 3 ∨ P 0 7 = 0
  · rw [if_pos c]
    refine ⟨0, up S 87 0 (sdA s), qX10_befallsByChance_0 g0 ⟨_, _, d1, ?_⟩, ⟨fun q => absurd q (by decide), fun q => by cases q⟩, planR_far hp (fun j _ _ => up_ne (by omega)), stateR_far hr (fun j _ _ => up_ne (by omega)), up_eq _ _ _ _, fun j hj => up_ne (by omega)⟩
    rw [u7]
    by_cases c1 : drA (sdA s) 4 = 3
    · rw [if_pos (by rw [c1])]
    · rw [if_neg (by rw [I_eq ⟨by omega, by omega⟩ ⟨by decide, by decide⟩]; exact c1), if_pos (by rw [c.resolve_left c1])]
  rw [if_neg c]
  have h7 : 0 < P 0 7 := by omega
  have d2 := draw_cl (sc := sc) (S := up S 87 0 (sdA s)) gd (n := P 0 7) (s := sdA s) ⟨h7, by omega⟩ (up_eq _ _ _ _)
  have rp := drA_rg (sdA (sdA s)) h7
  generalize hS2 : up (up S 87 0 (sdA s)) 87 0 (sdA (sdA s)) = S2 at *
  have f2 : ∀ j, j ≠ 87 → S2 j = S j := fun j hj => by rw [← hS2, up_ne hj, up_ne hj]
  have s2 : S2 87 0 = sdA (sdA s) := by rw [← hS2, up_eq]
  have v7 : S2 1 7 = P 0 7 := by rw [f2 1 (by decide)]; exact hp.1 7 (by decide) (by decide)
  have st : ∀ r, (if I (drA (sdA s) 4) = I 0 then (∃ v113 S114, G sc MX2_drawOf 0 [some (.ref 87), some (.int (I 4))] [] SH S2 (rI v113 SH S114) ∧ (∃ v115 S116, G sc MX2_drawOf 0 [some (.ref 87), some (.int (I 4))] [] SH S114 (rI v115 SH S116) ∧ (∃ v117 S118, G sc MX7_putCell 0 [some (.ref 65), some (.int (I (drA (sdA (sdA s)) (P 0 7)))), some (.int (I v113)), some (.int (I v115)), none] [] SH S116 (rI v117 SH S118) ∧ r = rI v117 SH S118))) else (if I (drA (sdA s) 4) = I 1 then (∃ v107 S108, G sc MX2_drawOf 0 [some (.ref 87), some (.int (I (S2 1 7)))] [] SH S2 (rI v107 SH S108) ∧ (∃ v109 S110, G sc MX7_cellsAt 0 [some (.ref 65), some (.int (I v107)), none] [] SH S108 (rI v109 SH S110) ∧ (∃ v111 S112, G sc MX7_put 0 [some (.ref 65), some (.int (I (drA (sdA (sdA s)) (P 0 7)))), some (.int (I v109)), none, none] [] SH S110 (rI v111 SH S112) ∧ r = rI v111 SH S112))) else (∃ v105 S106, G sc MX7_dropPage 0 [some (.ref 65), some (.int (I (drA (sdA (sdA s)) (P 0 7)))), none] [] SH S2 (rI v105 SH S106) ∧ r = rI 0 SH S106))) → G sc MX10_befallsByChance 0 [some (.ref 0), u1, u2, u3] [] SH S r := by
    intro r q
    refine qX10_befallsByChance_0 g0 ⟨_, _, d1, ?_⟩
    rw [u7, if_neg (by rw [I_eq ⟨by omega, by omega⟩ ⟨by decide, by decide⟩]; omega), if_neg (by rw [I_eq ⟨by omega, by omega⟩ ⟨by decide, by decide⟩]; omega)]
    exact ⟨_, _, d2, q⟩
  by_cases c2 : drA (sdA s) 4 = 0
  · rw [if_pos c2]
    have d3 := draw_cl (sc := sc) (S := S2) gd (n := 4) (s := sdA (sdA s)) ⟨by decide, by decide⟩ s2
    have d4 := draw_cl (sc := sc) (S := up S2 87 0 (sdA (sdA (sdA s)))) gd (n := 4) (s := sdA (sdA (sdA s))) ⟨by decide, by decide⟩ (up_eq _ _ _ _)
    generalize hS4 : up (up S2 87 0 (sdA (sdA (sdA s)))) 87 0 (sdA (sdA (sdA (sdA s)))) = S4 at *
    have f4 : ∀ j, j ≠ 87 → S4 j = S j := fun j hj => by rw [← hS4, up_ne hj, up_ne hj, f2 j hj]
    have s4 : S4 87 0 = sdA (sdA (sdA (sdA s))) := by rw [← hS4, up_eq]
    have hp4 : planR S4 1 P := planR_far hp (fun j _ _ => f4 j (by omega))
    obtain ⟨S5, q5, r5, f5⟩ := putCell_ok (sc := sc) (S := S4) (a := 65) (u := none) g1 (by decide) hp4 hP (stateR_far hr (fun j _ _ => f4 j (by omega))) hB (p := drA (sdA (sdA s)) (P 0 7)) (c := drA (sdA (sdA (sdA s))) 4) (x := drA (sdA (sdA (sdA (sdA s)))) 4) ⟨by omega, by omega⟩
    refine ⟨(putA P B (drA (sdA (sdA s)) (P 0 7)) (pcell (cellsA B (drA (sdA (sdA s)) (P 0 7))) (drA (sdA (sdA (sdA s))) 4) (drA (sdA (sdA (sdA (sdA s)))) 4))).1, S5, st _ ?_, ?_, planR_far hp4 (fun j _ _ => f5 j (by omega)), r5, by rw [f5 87 (by decide)]; exact s4, fun j hj => by rw [f5 j (by omega), f4 j (by omega)]⟩
    · rw [if_pos (by rw [c2])]
      exact ⟨_, _, d3, _, _, d4, _, _, q5, rfl⟩
    · rw [I_eq pl_rg2 ⟨by decide, by decide⟩]
      exact ⟨fun q => decide_eq_true q, fun q => of_decide_eq_true q⟩
  rw [if_neg c2]
  by_cases c3 : drA (sdA s) 4 = 1
  · rw [if_pos c3]
    have d3 := draw_cl (sc := sc) (S := S2) gd (n := P 0 7) (s := sdA (sdA s)) ⟨h7, by omega⟩ s2
    have rq := drA_rg (sdA (sdA (sdA s))) h7
    have f3 : ∀ j, j ≠ 87 → up S2 87 0 (sdA (sdA (sdA s))) j = S j := fun j hj => by rw [up_ne hj, f2 j hj]
    have hp3 : planR (up S2 87 0 (sdA (sdA (sdA s)))) 1 P := planR_far hp (fun j _ _ => f3 j (by omega))
    have hr3 : stateR (up S2 87 0 (sdA (sdA (sdA s)))) 65 B := stateR_far hr (fun j _ _ => f3 j (by omega))
    obtain ⟨S5, q5, r5, f5⟩ := put_ok (sc := sc) (S := up S2 87 0 (sdA (sdA (sdA s)))) (a := 65) (u := none) (u' := none) g1 (by decide) hp3 hP hr3 hB (p := drA (sdA (sdA s)) (P 0 7)) (x := cellsA B (drA (sdA (sdA (sdA s))) (P 0 7))) ⟨by omega, by omega⟩
    refine ⟨(putA P B (drA (sdA (sdA s)) (P 0 7)) (cellsA B (drA (sdA (sdA (sdA s))) (P 0 7)))).1, S5, st _ ?_, ?_, planR_far hp3 (fun j _ _ => f5 j (by omega)), r5, by rw [f5 87 (by decide), up_eq], fun j hj => by rw [f5 j (by omega), f3 j (by omega)]⟩
    · rw [if_neg (by rw [I_eq ⟨by omega, by omega⟩ ⟨by decide, by decide⟩]; exact c2), if_pos (by rw [c3]), v7]
      exact ⟨_, _, d3, _, _, cells_ok g1 hr3 hB ⟨by omega, by omega⟩, _, _, q5, rfl⟩
    · rw [I_eq pl_rg2 ⟨by decide, by decide⟩]
      exact ⟨fun q => decide_eq_true q, fun q => of_decide_eq_true q⟩
  · rw [if_neg c3]
    obtain ⟨S5, q5, r5, f5⟩ := drop_ok (sc := sc) (S := S2) (a := 65) (u := none) g1 (stateR_far hr (fun j _ _ => f2 j (by omega))) hB (p := drA (sdA (sdA s)) (P 0 7)) ⟨by omega, by omega⟩
    refine ⟨0, S5, st _ ?_, ⟨fun q => absurd q (by decide), fun q => by cases q⟩, planR_far hp (fun j _ _ => by rw [f5 j (by omega), f2 j (by omega)]), r5, by rw [f5 87 (by decide)]; exact s2, fun j hj => by rw [f5 j (by omega), f2 j (by omega)]⟩
    rw [if_neg (by rw [I_eq ⟨by omega, by omega⟩ ⟨by decide, by decide⟩]; exact c2), if_neg (by rw [I_eq ⟨by omega, by omega⟩ ⟨by decide, by decide⟩]; exact c3)]
    exact ⟨_, _, q5, rfl⟩
theorem years_lp (g0 : sGP SH) (hP : wfP P) {l1 n x : Int} (hn : 0 ≤ n ∧ n ≤ 60) (hx : 0 ≤ x ∧ x ≤ 2) : ∀ (k : Nat) (t l f : Int) {S : mStore} {B : aS} {s : Int}, t + k = n → 0 ≤ t → planR S 1 P → stateR S 65 B → wfA P B → S 87 0 = s → ∃ S', G sc MX10_years 66 [some (.ref 0), some (.int (I l1)), some (.int (I n)), some (.int (I x)), some (.int (I l)), some (.int (I f)), some (.int (I t))] [] SH S (rI (yrT P (yrA P k l f B s) x) SH S') ∧ (∀ j, j < 65 ∨ 90 ≤ j → S' j = S j)
  | 0, t, l, f, S, B, s, ht, h0, hp, hr, hB, hs => by
    refine ⟨S, qX10_years_66 g0 ?_, fun _ _ => rfl⟩
    rw [if_pos (by rw [I_le ⟨by omega, by omega⟩ ⟨by omega, by omega⟩]; omega)]
    unfold yrT yrA
    by_cases c1 : x = 1
    · rw [if_pos c1, if_pos (by rw [c1])]
      exact ⟨_, _, used_ok g0.2.2.2.2.2.1 hp hP hr hB, rfl⟩
    · rw [if_neg c1, if_neg (by rw [I_eq ⟨by omega, by omega⟩ ⟨by decide, by decide⟩]; exact c1)]
      by_cases c2 : x = 0
      · rw [if_pos c2, if_pos (by rw [c2])]
      · rw [if_neg c2, if_neg (by rw [I_eq ⟨by omega, by omega⟩ ⟨by decide, by decide⟩]; exact c2)]
  | k + 1, t, l, f, S, B, s, ht, h0, hp, hr, hB, hs => by
    obtain ⟨v, S1, q1, ev, p1, r1, s1, f1⟩ := fall_cl (sc := sc) (u1 := none) (u2 := none) (u3 := none) g0 hP hp hr hB hs
    have w1 := wf_fall hP hB s
    obtain ⟨S2, q2, r2, f2⟩ := tick_ok (sc := sc) (S := S1) (a := 65) (u1 := none) (u2 := none) (u3 := none) (u4 := none) g0.2.2.2.2.2.1 (by decide) p1 hP r1 w1 (n := 1) (by decide)
    obtain ⟨S3, q3, f3⟩ := years_lp (S := S2) g0 hP hn hx k (t + 1) (l + (tickA P 1 (fallA P B s).2.1).1) (f + if (fallA P B s).1 = true then 1 else 0) (s := (fallA P B s).2.2) (by omega) (by omega) (planR_far p1 (fun j _ _ => f2 j (by omega))) r2 (wf_tick hP 1 w1) (by rw [f2 87 (by decide)]; exact s1)
    refine ⟨S3, qX10_years_66 g0 ?_, fun j hj => by rw [f3 j hj, f2 j (by omega), f1 j (by omega)]⟩
    rw [if_neg (by rw [I_le ⟨by omega, by omega⟩ ⟨by omega, by omega⟩]; omega)]
    refine ⟨_, _, q1, ?_⟩
    by_cases c : (fallA P B s).1 = true
    · rw [if_pos c] at q3
      rw [if_pos (ev.mpr c)]
      show ∃ v107 S108, _ ∧ G sc MX10_years 66 _ [] SH S108 (rI (yrT P (yrA P k (l + (tickA P 1 (fallA P B s).2.1).1) (f + if (fallA P B s).1 = true then 1 else 0) (tickA P 1 (fallA P B s).2.1).2 (fallA P B s).2.2) x) SH S3)
      rw [if_pos c]
      exact ⟨_, _, q2, q3⟩
    · rw [if_neg c, Int.add_zero] at q3
      rw [if_neg (fun q => c (ev.mp q))]
      show ∃ v107 S108, _ ∧ G sc MX10_years 66 _ [] SH S108 (rI (yrT P (yrA P k (l + (tickA P 1 (fallA P B s).2.1).1) (f + if (fallA P B s).1 = true then 1 else 0) (tickA P 1 (fallA P B s).2.1).2 (fallA P B s).2.2) x) SH S3)
      rw [if_neg c, Int.add_zero]
      exact ⟨_, _, q2, q3⟩
theorem years_cl {S : mStore} (h : clR SH F e S W) (hW : wfW W) {s n x : Int} (hs : rg s) (hn : rg n) (hx : rg x) {u4 u5 u6 : Option Value} : CL sc MX10_years [some (.ref 0), some (.int (I s)), some (.int (I n)), some (.int (I x)), u4, u5, u6] SH F e S (yearsF W s n x) W := by
  obtain ⟨g0, g1, g2, hp, hst⟩ := clS h
  have hP := hW.1
  have hn1 := hn.1
  unfold yearsF
  by_cases c1 : 0 ≤ x ∧ x ≤ 2
  · rw [if_neg (fun q => q c1)]
    have st : ∀ (z : Int) r, (z = if 0 ≤ n ∧ n ≤ 60 then 1 else 0) → G sc MX10_years 32 [some (.ref 0), some (.int (I s)), some (.int (I n)), some (.int (I x)), u4, u5, u6] [.int (I z)] SH S r → G sc MX10_years 0 [some (.ref 0), some (.int (I s)), some (.int (I n)), some (.int (I x)), u4, u5, u6] [] SH S r := by
      intro z r es q
      refine qX10_years_0 g0 ?_
      rw [if_neg (by rw [I_lt hx ⟨by decide, by decide⟩]; omega), if_neg (by rw [I_lt ⟨by decide, by decide⟩ hx]; omega)]
      refine .inl ⟨_, mustBe_yes, ?_⟩
      by_cases d1 : n < 0
      · rw [if_neg (by omega)] at es; subst es
        rw [if_pos (by rw [I_lt hn ⟨by decide, by decide⟩]; omega)]; exact q
      · rw [if_neg (by rw [I_lt hn ⟨by decide, by decide⟩]; omega)]
        by_cases d2 : 60 < n
        · rw [if_neg (by omega)] at es; subst es
          rw [if_pos (by rw [I_lt ⟨by decide, by decide⟩ hn]; omega)]; exact q
        · rw [if_pos (by omega)] at es; subst es
          rw [if_neg (by rw [I_lt ⟨by decide, by decide⟩ hn]; omega)]; exact q
    by_cases c2 : 0 ≤ n ∧ n ≤ 60
    · rw [if_neg (fun q => q c2)]
      obtain ⟨S1, q1, r1, f1⟩ := try_cl (sc := sc) h hW
      obtain ⟨S2, q2, f2⟩ := years_lp (sc := sc) (S := up S1 87 0 s) (l1 := s) g0 hP c2 c1 n.toNat 0 0 0 (by omega) (by omega) (planR_far hp (fun j _ _ => by rw [up_ne (by omega), f1 j (by omega)])) (stateR_far r1 (fun j _ _ => up_ne (by omega))) hW.2.1.1 (up_eq _ _ _ _)
      exact CL_tr h (st 1 _ (by rw [if_pos c2]) (qX10_years_32 g0 (.inl ⟨_, mustFit_yes, _, q1, q2⟩))) (fun j hj => by rw [f2 j hj, up_ne (by omega), f1 j (by omega)])
    · rw [if_pos c2]
      exact CL_exc h (st 0 _ (by rw [if_neg c2]) (qX10_years_32 g0 (.inr ⟨_, _, _, mustFit_no, rfl⟩)))
  · rw [if_pos c1]
    refine CL_exc h (qX10_years_0 g0 ?_)
    have := hx.1
    by_cases d1 : x < 0
    · rw [if_pos (by rw [I_lt hx ⟨by decide, by decide⟩]; omega)]; exact .inr ⟨_, _, _, mustBe_no rfl, rfl⟩
    · rw [if_neg (by rw [I_lt hx ⟨by decide, by decide⟩]; omega), if_pos (by rw [I_lt ⟨by decide, by decide⟩ hx]; omega)]; exact .inr ⟨_, _, _, mustBe_no rfl, rfl⟩
theorem fall_md (h0 : sMod SH) (hP : wfP P) {S : mStore} {B : aS} {s : Int} (hm : modP S P) (hr : refR S 1654 B N) (hB : wfA P B) (hs : S 90 58 = s) {u1 u2 u3 : Option Value} : ∃ S', G sc MX11_fails 0 [some (.ref 90), u1, u2, u3] [] SH S (rI (if (fallA P B s).1 = true then 1 else 0) SH S') ∧ modP S' P ∧ refR S' 1654 (fallA P B s).2.1 N ∧ S' 90 58 = (fallA P B s).2.2 ∧ trF S S' := by
  have hP7 := hP.2.2.2.2.2.1
  have d1 := draw_md (sc := sc) (S := S) h0 (n := 4) (s := s) ⟨by decide, by decide⟩ hs
  have r4 := drA_rg (sdA s) (n := 4) (by decide)
  have mk : ∀ (S' : mStore) (z : Int), S' = up S 90 58 z → modP S' P ∧ refR S' 1654 B N ∧ trF S S' := by
    rintro S' z rfl
    exact ⟨⟨fun i h1 h2 => by rw [up_at, if_neg (by omega)]; exact hm.1 i h1 h2, by rw [up_ne (by decide)]; exact hm.2.1, by rw [up_ne (by decide)]; exact hm.2.2.1, by rw [up_ne (by decide)]; exact hm.2.2.2.1, by rw [up_ne (by decide)]; exact hm.2.2.2.2⟩, refR_far hr (up_ne (by decide)), ⟨fun i _ => by rw [up_ne (by decide)], fun i h1 h2 => by rw [up_at, if_neg (by omega)], fun j hj => up_ne (by omega)⟩⟩
  have uu : ∀ (y z : Int), up (up S 90 58 y) 90 58 z = up S 90 58 z := fun y z => by
    funext j i
    unfold up
    by_cases q : j = 90 ∧ i = 58
    · rw [if_pos q, if_pos q]
    · rw [if_neg q, if_neg q, if_neg q]
  have u7 : ∀ z, up S 90 58 z 90 19 = P 0 7 := fun z => by rw [up_at, if_neg (by decide)]; exact hm.1 7 (by decide) (by decide)
  unfold fallA
  by_cases c : drA (sdA s) 4 = 3 ∨ P 0 7 = 0
  · rw [if_pos c]
    obtain ⟨m1, r1, t1⟩ := mk _ _ (Eq.refl (up S 90 58 (sdA s)))
    refine ⟨up S 90 58 (sdA s), qX11_fails_0 h0 ⟨_, _, d1, ?_⟩, m1, r1, up_eq _ _ _ _, t1⟩
    rw [u7]
    by_cases c1 : drA (sdA s) 4 = 3
    · rw [if_pos (by rw [c1])]; exact ⟨.inl rfl, rfl⟩
    · rw [if_neg (by rw [I_eq ⟨by omega, by omega⟩ ⟨by decide, by decide⟩]; exact c1), if_pos (by rw [c.resolve_left c1])]; exact ⟨.inl rfl, rfl⟩
  rw [if_neg c]
  have h7 : 0 < P 0 7 := by omega
  have d2 := draw_md (sc := sc) (S := up S 90 58 (sdA s)) h0 (n := P 0 7) (s := sdA s) ⟨h7, by omega⟩ (up_eq _ _ _ _)
  rw [uu] at d2
  have rp := drA_rg (sdA (sdA s)) h7
  have st : ∀ r, (if I (drA (sdA s) 4) = I 0 then (∃ v112 S113, G sc MX11_draw 0 [some (.ref 90), some (.int (I 4))] [] SH (up S 90 58 (sdA (sdA s))) (rI v112 SH S113) ∧ (∃ v114 S115, G sc MX11_draw 0 [some (.ref 90), some (.int (I 4))] [] SH S113 (rI v114 SH S115) ∧ (∃ v116 S117, G sc MX11_writesCell 0 [some (.ref 90), some (.int (I 1654)), some (.int (I (drA (sdA (sdA s)) (P 0 7)))), some (.int (I v112)), some (.int (I v114))] [] SH S115 (rI v116 SH S117) ∧ (if I v116 = I (-1) then ((I 1 = I 0 ∨ I 1 = I 1) ∧ r = rI 1 SH S117) else ((I 0 = I 0 ∨ I 0 = I 1) ∧ r = rI 0 SH S117))))) else (if I (drA (sdA s) 4) = I 1 then (∃ v107 S108, G sc MX11_draw 0 [some (.ref 90), some (.int (I (up S 90 58 (sdA (sdA s)) 90 19)))] [] SH (up S 90 58 (sdA (sdA s))) (rI v107 SH S108) ∧ (∃ S109, G sc MX11_saysAs 0 [some (.ref 90), some (.int (I 1654)), some (.int (I v107)), none] [] SH S108 (rV SH S109) ∧ (∃ v110 S111, G sc MX11_writes 0 [some (.ref 90), some (.int (I 1654)), some (.int (I (drA (sdA (sdA s)) (P 0 7)))), none, none, none, none] [] SH S109 (rI v110 SH S111) ∧ (if I v110 = I (-1) then ((I 1 = I 0 ∨ I 1 = I 1) ∧ r = rI 1 SH S111) else ((I 0 = I 0 ∨ I 0 = I 1) ∧ r = rI 0 SH S111))))) else (∃ v105 S106, G sc MX11_drops 0 [some (.ref 90), some (.int (I 1654)), some (.int (I (drA (sdA (sdA s)) (P 0 7)))), none] [] SH (up S 90 58 (sdA (sdA s))) (rI v105 SH S106) ∧ ((I 0 = I 0 ∨ I 0 = I 1) ∧ r = rI 0 SH S106)))) → G sc MX11_fails 0 [some (.ref 90), u1, u2, u3] [] SH S r := by
    intro r q
    refine qX11_fails_0 h0 ⟨_, _, d1, ?_⟩
    rw [u7, if_neg (by rw [I_eq ⟨by omega, by omega⟩ ⟨by decide, by decide⟩]; omega), if_neg (by rw [I_eq ⟨by omega, by omega⟩ ⟨by decide, by decide⟩]; omega)]
    exact ⟨_, _, d2, q⟩
  have yes : ∀ {v : Int} {r : mR × mW} {S1 : mStore} {b : Bool}, rg v → b = decide (v = -1) → r = rI (if b = true then 1 else 0) SH S1 → (if I v = I (-1) then ((I 1 = I 0 ∨ I 1 = I 1) ∧ r = rI 1 SH S1) else ((I 0 = I 0 ∨ I 0 = I 1) ∧ r = rI 0 SH S1)) := by
    intro v r S1 b hv hb hr
    by_cases q : v = -1
    · rw [hb, decide_eq_true q, if_pos rfl] at hr
      rw [if_pos (by rw [q])]; exact ⟨.inr rfl, hr⟩
    · rw [hb, decide_eq_false q, if_neg (by decide)] at hr
      rw [if_neg (by rw [I_eq hv ⟨by decide, by decide⟩]; exact q)]; exact ⟨.inl rfl, hr⟩
  by_cases c2 : drA (sdA s) 4 = 0
  · rw [if_pos c2]
    have d3 := draw_md (sc := sc) (S := up S 90 58 (sdA (sdA s))) h0 (n := 4) (s := sdA (sdA s)) ⟨by decide, by decide⟩ (up_eq _ _ _ _)
    have d4 := draw_md (sc := sc) (S := up S 90 58 (sdA (sdA (sdA s)))) h0 (n := 4) (s := sdA (sdA (sdA s))) ⟨by decide, by decide⟩ (up_eq _ _ _ _)
    rw [uu] at d3 d4
    have h3 := drA_rg (sdA (sdA (sdA s))) (n := 4) (by decide)
    have h4 := drA_rg (sdA (sdA (sdA (sdA s)))) (n := 4) (by decide)
    obtain ⟨m1, r1, t1⟩ := mk _ _ (Eq.refl (up S 90 58 (sdA (sdA (sdA (sdA s))))))
    obtain ⟨S5, q5, r5, f5⟩ := rwc_ok (sc := sc) (S := up S 90 58 (sdA (sdA (sdA (sdA s))))) h0 (b := 1654) ⟨by decide, by decide⟩ m1 hP r1 hB (p := drA (sdA (sdA s)) (P 0 7)) rp h3 (n := drA (sdA (sdA (sdA (sdA s)))) 4) ⟨h4.1, by omega⟩
    refine ⟨S5, st _ ?_, modP_F m1 f5, r5, by rw [f5.2.2 58 (by decide), up_eq], t1.tr (modF.trF f5)⟩
    rw [if_pos (by rw [c2])]
    exact ⟨_, _, d3, _, _, d4, _, _, q5, yes pl_rg2 rfl rfl⟩
  rw [if_neg c2]
  by_cases c3 : drA (sdA s) 4 = 1
  · rw [if_pos c3]
    have d3 := draw_md (sc := sc) (S := up S 90 58 (sdA (sdA s))) h0 (n := P 0 7) (s := sdA (sdA s)) ⟨h7, by omega⟩ (up_eq _ _ _ _)
    rw [uu] at d3
    have rq := drA_rg (sdA (sdA (sdA s))) h7
    obtain ⟨m1, r1, t1⟩ := mk _ _ (Eq.refl (up S 90 58 (sdA (sdA (sdA s)))))
    obtain ⟨S4, q4, s4, f4⟩ := rsay_ok (sc := sc) (S := up S 90 58 (sdA (sdA (sdA s)))) (u := none) h0 (b := 1654) ⟨by decide, by decide⟩ r1 hB (p := drA (sdA (sdA (sdA s))) (P 0 7)) ⟨by omega, by omega⟩
    have m4 : modP S4 P := ⟨by rw [f4 90 (by decide)]; exact m1.1, by rw [f4 95 (by decide)]; exact m1.2.1, by rw [f4 96 (by decide)]; exact m1.2.2.1, by rw [f4 97 (by decide)]; exact m1.2.2.2.1, by rw [f4 98 (by decide)]; exact m1.2.2.2.2⟩
    have t4 : trF (up S 90 58 (sdA (sdA (sdA s)))) S4 := ⟨fun i _ => by rw [f4 91 (by decide)], fun i _ _ => by rw [f4 90 (by decide)], fun j hj => f4 j (by omega)⟩
    obtain ⟨S5, q5, r5, f5⟩ := rput_ok (sc := sc) (S := S4) (u3 := none) (u4 := none) (u5 := none) (u6 := none) h0 (b := 1654) ⟨by decide, by decide⟩ m4 hP (refR_far r1 (f4 91 (by decide))) hB (p := drA (sdA (sdA s)) (P 0 7)) rp s4
    refine ⟨S5, st _ ?_, modP_F m4 (modG_F f5), r5, by rw [f5.2 90 (by decide), f4 90 (by decide), up_eq], t1.tr (t4.tr (modF.trF (modG_F f5)))⟩
    rw [if_neg (by rw [I_eq ⟨by omega, by omega⟩ ⟨by decide, by decide⟩]; exact c2), if_pos (by rw [c3]), u7]
    exact ⟨_, _, d3, _, q4, _, _, q5, yes pl_rg2 rfl rfl⟩
  · rw [if_neg c3]
    obtain ⟨m1, r1, t1⟩ := mk _ _ (Eq.refl (up S 90 58 (sdA (sdA s))))
    obtain ⟨S5, q5, r5, f5⟩ := rdrop_ok (sc := sc) (S := up S 90 58 (sdA (sdA s))) (u := none) h0 (b := 1654) ⟨by decide, by decide⟩ r1 hB (p := drA (sdA (sdA s)) (P 0 7)) ⟨by omega, by omega⟩
    refine ⟨S5, st _ ?_, modP_F m1 (modG_F f5), r5, by rw [f5.2 90 (by decide), up_eq], t1.tr (modF.trF (modG_F f5))⟩
    rw [if_neg (by rw [I_eq ⟨by omega, by omega⟩ ⟨by decide, by decide⟩]; exact c2), if_neg (by rw [I_eq ⟨by omega, by omega⟩ ⟨by decide, by decide⟩]; exact c3)]
    exact ⟨_, _, q5, .inl rfl, rfl⟩
theorem ryears_lp (h0 : sMod SH) (hP : wfP P) {l1 n x : Int} (hn : 0 ≤ n ∧ n ≤ 60) (hx : 0 ≤ x ∧ x ≤ 2) : ∀ (k : Nat) (t l f : Int) {S : mStore} {B : aS} {s N : Int}, t + k = n → 0 ≤ t → N + 16 * k < 2147483648 → modP S P → refR S 1654 B N → wfA P B → S 90 58 = s → ∃ S', G sc MX11_years 54 [some (.ref 90), some (.int (I l1)), some (.int (I n)), some (.int (I x)), some (.int (I l)), some (.int (I f)), some (.int (I t))] [] SH S (rI (yrT P (yrA P k l f B s) x) SH S') ∧ trF S S'
  | 0, t, l, f, S, B, s, N, ht, h0', hN, hm, hr, hB, hs => by
    refine ⟨S, qX11_years_54 h0 ?_, trF.rf S⟩
    rw [if_pos (by rw [I_le ⟨by omega, by omega⟩ ⟨by omega, by omega⟩]; omega)]
    unfold yrT yrA
    by_cases c2 : x = 0
    · rw [if_pos (show I x = I 0 by rw [c2]), if_neg (show ¬(x = 1) by omega), if_pos c2]
    · rw [if_neg (show ¬(I x = I 0) by rw [I_eq ⟨by omega, by omega⟩ ⟨by decide, by decide⟩]; exact c2)]
      by_cases c1 : x = 1
      · rw [if_pos (show I x = I 1 by rw [c1]), if_pos c1]
        exact ⟨_, _, rused_ok h0 ⟨by decide, by decide⟩ hm hP hr, rfl⟩
      · rw [if_neg (show ¬(I x = I 1) by rw [I_eq ⟨by omega, by omega⟩ ⟨by decide, by decide⟩]; exact c1), if_neg c1, if_neg c2]
  | k + 1, t, l, f, S, B, s, N, ht, h0', hN, hm, hr, hB, hs => by
    obtain ⟨S1, q1, m1, r1, s1, f1⟩ := fall_md (sc := sc) (u1 := none) (u2 := none) (u3 := none) h0 hP hm hr hB hs
    have w1 := wf_fall hP hB s
    obtain ⟨S2, q2, r2, f2⟩ := rticks_ok (sc := sc) (S := S1) (u3 := none) (u4 := none) h0 (b := 1654) ⟨by decide, by decide⟩ hP m1 r1 w1 (n := 1) (by decide) (by omega)
    obtain ⟨S3, q3, f3⟩ := ryears_lp (S := S2) h0 hP hn hx k (t + 1) (l + (tickA P 1 (fallA P B s).2.1).1) (f + if (fallA P B s).1 = true then 1 else 0) (s := (fallA P B s).2.2) (N := N + 16 * ((1 : Nat) : Int)) (by omega) (by omega) (by omega) (modP_F m1 f2) r2 (wf_tick hP 1 w1) (by rw [f2.2.2 58 (by decide)]; exact s1)
    refine ⟨S3, qX11_years_54 h0 ?_, f1.tr ((modF.trF f2).tr f3)⟩
    rw [if_neg (by rw [I_le ⟨by omega, by omega⟩ ⟨by omega, by omega⟩]; omega)]
    refine ⟨_, _, q1, ?_⟩
    by_cases c : (fallA P B s).1 = true
    · rw [if_pos c] at q3
      rw [if_pos c, if_neg (by decide)]
      show ∃ v107 S108, _ ∧ G sc MX11_years 54 _ [] SH S108 (rI (yrT P (yrA P k (l + (tickA P 1 (fallA P B s).2.1).1) (f + if (fallA P B s).1 = true then 1 else 0) (tickA P 1 (fallA P B s).2.1).2 (fallA P B s).2.2) x) SH S3)
      rw [if_pos c]
      exact ⟨_, _, q2, q3⟩
    · rw [if_neg c] at q3
      rw [if_neg c, if_pos rfl]
      show ∃ v107 S108, _ ∧ G sc MX11_years 54 _ [] SH S108 (rI (yrT P (yrA P k (l + (tickA P 1 (fallA P B s).2.1).1) (f + if (fallA P B s).1 = true then 1 else 0) (tickA P 1 (fallA P B s).2.1).2 (fallA P B s).2.2) x) SH S3)
      rw [if_neg c]
      exact ⟨_, _, q2, q3⟩
theorem years_md {S : mStore} (h0 : sMod SH) (hW : wfW W) (h : mdR S N W) (hN : N < 2000000000) {s n x : Int} (hs : rg s) (hn : rg n) (hx : rg x) {u4 u5 u6 : Option Value} : MD sc MX11_years [some (.ref 90), some (.int (I s)), some (.int (I n)), some (.int (I x)), u4, u5, u6] SH S N 2 (yearsF W s n x) W := by
  have ht : up S 90 4 0 90 4 = 0 := up_eq _ _ _ _
  have hP := hW.1
  unfold yearsF
  by_cases c1 : 0 ≤ x ∧ x ≤ 2
  · rw [if_neg (fun q => q c1)]
    by_cases c2 : 0 ≤ n ∧ n ≤ 60
    · rw [if_neg (fun q => q c2)]
      obtain ⟨S1, g1, r1, m1, f1⟩ := tr_md (sc := sc) h0 hW (mdR_thr (x := 0) hW h)
      have f2 : trF S1 (up S1 90 58 s) := ⟨fun i _ => by rw [up_ne (by decide)], fun i h1 h2 => by rw [up_at, if_neg (by omega)], fun j hj => up_ne (by omega)⟩
      obtain ⟨S3, q3, f3⟩ := ryears_lp (sc := sc) (S := up S1 90 58 s) (l1 := s) (N := N) h0 hP c2 c1 n.toNat 0 0 0 (by omega) (by omega) (by omega) ⟨fun i h1 h2 => by rw [up_at, if_neg (by omega)]; exact m1.1 i h1 h2, by rw [up_ne (by decide)]; exact m1.2.1, by rw [up_ne (by decide)]; exact m1.2.2.1, by rw [up_ne (by decide)]; exact m1.2.2.2.1, by rw [up_ne (by decide)]; exact m1.2.2.2.2⟩ (refR_far r1 (up_ne (by decide))) hW.2.1.1 (up_eq _ _ _ _)
      refine MD_tr hW h (qX11_years_0 h0 (wr_yes h0 ht hx ⟨by decide, by decide⟩ ⟨by decide, by decide⟩ c1 (fun w hw => ?_))) (f1.tr (f2.tr f3))
      subst hw
      rw [if_neg (by decide)]
      refine wr_yes h0 ht hn ⟨by decide, by decide⟩ ⟨by decide, by decide⟩ c2 (fun w hw => ?_)
      subst hw
      rw [if_neg (by decide)]
      exact ⟨_, g1, q3⟩
    · rw [if_pos c2]
      refine MD_arg (v := 0) hW h (qX11_years_0 h0 (wr_yes h0 ht hx ⟨by decide, by decide⟩ ⟨by decide, by decide⟩ c1 (fun w hw => ?_)))
      subst hw
      rw [if_neg (by decide)]
      refine wr_no h0 ht (.inr rfl) hn ⟨by decide, by decide⟩ ⟨by decide, by decide⟩ c2 (fun w hw => ?_)
      subst hw
      rw [if_pos rfl]
  · rw [if_pos c1]
    refine MD_exc (v := 0) hW h (qX11_years_0 h0 (wr_no h0 ht (.inl rfl) hx ⟨by decide, by decide⟩ ⟨by decide, by decide⟩ c1 (fun w hw => ?_)))
    subst hw
    rw [if_pos rfl]
end
