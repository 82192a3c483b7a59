/-! ===== the class tries what would be: then, quiet, merges, probe ===== -/
def toldA (P : aP) (B : aS) (x : Int) : Int := if x = 0 then usedA P B else if x = 1 then mergedPg B 0 (P 0 7).toNat else if x = 2 then (al B.tw).length else if x = 3 then B.v 6 0 else if x = 4 then B.v 6 3 else B.v 6 1
def thenF (W : aW) (n x : Int) : aO := if ¬(0 ≤ x ∧ x ≤ 5) then .inr 0 else if ¬(0 ≤ n ∧ n ≤ 60) then .inr 1 else .inl (toldA W.1 (tickA W.1 n.toNat W.2.1.1).2 x)
def qtA (P : aP) : Nat → Int → Int → aS → Int
  | 0, _, l, _ => l
  | n + 1, t, l, B => qtA P n (t + 1) (if 0 < (tickA P 1 B).1 then t else l) (tickA P 1 B).2
def mgA (P : aP) (p : Int) : Nat → Int → aS → Int
  | 0, _, _ => -1
  | n + 1, k, B => if mrg B p = true then k else mgA P p n (k + 1) (scanA P B).2
def mergesF (W : aW) (g p : Int) : aO := if plc W.1 g p = -1 then .inr 0 else .inl (mgA W.1 (plc W.1 g p) 401 0 W.2.1.1)
def pbA (B : aS) (p : Int) : Int := if B.w p = -1 then 0 else ((B.L (B.w p)).length : Int) - 1
def probeF (W : aW) (g p c t : Int) : aO := if plc W.1 g p = -1 then .inr 0 else if ¬((0 ≤ c ∧ c ≤ 65535) ∧ (0 ≤ t ∧ t ≤ 40)) then .inr 1 else if (putA W.1 W.2.1.1 (plc W.1 g p) c).1 = -1 then .inl (-1) else .inl (pbA (tickA W.1 t.toNat (putA W.1 W.2.1.1 (plc W.1 g p) c).2).2 (plc W.1 g p))
section
variable {sc : Nat × (Nat → Int32)} {SH : List mCell} {F : Nat → Nat → Option Nat} {S S' : mStore} {e : Nat} {W : aW} {P : aP} {A B : aS}
theorem clR_tr (h : clR SH F e S W) (hf : ∀ j, j < 65 ∨ 90 ≤ j → S' j = S j) : clR SH F e S' W := by
  obtain ⟨h1, h2, h3, h4, h5, h6, h7⟩ := h
  have q : ∀ {o c : Nat} {B : aB}, c < 2 → o + 25 ≤ 65 → bkR S F o c B → bkR S' F o c B := fun hc ho hB =>
    bkR_far h1 hc hB (by omega) (fun _ _ _ h => h) (fun j _ _ => hf j (by omega)) (hist_same hB.2.2.2.1 (fun _ _ _ h => h) h1 hc (fun j hj _ => hf j (by omega)))
  exact ⟨h1, planR_far h2 (fun j _ _ => hf j (by omega)), q (by decide) (by decide) h3, ⟨fun hn => by rw [hf 0 (by omega)]; exact h4.1 hn, fun B hB => ⟨by rw [hf 0 (by omega)]; exact (h4.2 B hB).1, q (by decide) (by decide) (h4.2 B hB).2⟩⟩, by rw [hf 12 (by omega)]; exact h5, by rw [hf 11 (by omega)]; exact h6, by rw [hf 0 (by omega)]; exact h7⟩
theorem CL_tr {M : mM} {ls : List (Option Value)} {v : Int} (h : clR SH F e S W) (g : G sc M 0 ls [] SH S (rI v SH S')) (hf : ∀ j, j < 65 ∨ 90 ≤ j → S' j = S j) : CL sc M ls SH F e S (.inl v) W :=
  ⟨SH, F, e, S', g, clR_tr h hf, Nat.le_succ _, fun j h1 _ => hf j (by omega)⟩
/-- the trial becomes the state -/
theorem try_cl (h : clR SH F e S W) (hW : wfW W) : ∃ S', G sc MX7_become 0 [some (.ref 65), some (.ref 17)] [] SH S (rV SH S') ∧ stateR S' 65 W.2.1.1 ∧ (∀ j, j < 65 ∨ 85 ≤ j → S' j = S j) := by
  obtain ⟨g0, g1, g2, hp, hs⟩ := clS h
  obtain ⟨S1, q1, r1, f1⟩ := bec_ok (sc := sc) (S := S) (a := 65) (a1 := 17) g0.2.2.2.2.2.1 g1 (by decide) hs hW.2.1.1
  exact ⟨S1, q1, r1, f1⟩
theorem told_cl (g1 : sState SH 65) (hp : planR S 1 P) (hP : wfP P) (hs : stateR S 65 B) (hB : wfA P B) {x : Int} (hx : 0 ≤ x ∧ x ≤ 5) {r : mR × mW} (hr : r = rI (toldA P B x) SH S) : (swp x 0 (((0 : Int) ≤ 1 ∧ (1 : Int) < 12) ∧ r = rI (S (65 + 19) 1) SH S) [(∃ v105 S106, G sc MX7_used 0 [some (.ref 65), none, none] [] SH S (rI v105 SH S106) ∧ r = rI v105 SH S106), (∃ v107 S108, G sc MX7_mergedPages 0 [some (.ref 65), some (.int (I 0)), some (.int (I (S 1 7))), none, none] [] SH S (rI v107 SH S108) ∧ r = rI v107 SH S108), (∃ v109 S110, G sc MX9_size 0 [some (.ref (65 + 11)), none, none] [] SH S (rI v109 SH S110) ∧ r = rI v109 SH S110), (((0 : Int) ≤ 0 ∧ (0 : Int) < 12) ∧ r = rI (S (65 + 19) 0) SH S), (((0 : Int) ≤ 3 ∧ (3 : Int) < 12) ∧ r = rI (S (65 + 19) 3) SH S)]) := by
  have hP7 := hP.2.2.2.2.2.1
  have r0 : rg 0 := ⟨by decide, by decide⟩
  have hxr : rg x := ⟨by omega, by omega⟩
  subst hr
  have ev : ∀ k, 0 ≤ k → k < 12 → S (65 + 19) k = B.v 6 k := hs.2.2.2.2.2.2.2.2.2.2
  rw [ev 1 (by decide) (by decide), ev 0 (by decide) (by decide), ev 3 (by decide) (by decide), show S 1 7 = P 0 7 from hp.1 7 (by decide) (by decide)]
  unfold toldA
  by_cases d : x = 0
  · rw [if_pos d]; exact swp_at 0 hxr r0 (by omega) rfl ⟨_, _, used_ok g1 hp hP hs hB, rfl⟩
  rw [if_neg d]
  by_cases d : x = 1
  · rw [if_pos d]
    have q := mpg_ok (sc := sc) (u := none) (u' := none) g1 hs hB (lo := 0) (n := (P 0 7).toNat) (by omega) (by omega)
    rw [show (0 : Int) + ((P 0 7).toNat : Int) = P 0 7 by omega] at q
    exact swp_at 1 hxr r0 (by omega) rfl ⟨_, _, q, rfl⟩
  rw [if_neg d]
  by_cases d : x = 2
  · rw [if_pos d]; exact swp_at 2 hxr r0 (by omega) rfl ⟨_, _, tsize_ok g1.2.2.2.2.1 hB.2.2.2.1 hs.2.2.2.1, rfl⟩
  rw [if_neg d]
  by_cases d : x = 3
  · rw [if_pos d]; exact swp_at 3 hxr r0 (by omega) rfl ⟨by decide, rfl⟩
  rw [if_neg d]
  by_cases d : x = 4
  · rw [if_pos d]; exact swp_at 4 hxr r0 (by omega) rfl ⟨by decide, rfl⟩
  rw [if_neg d]
  exact swp_no 5 rfl hxr (by decide) (by decide) (by omega) ⟨by decide, rfl⟩
theorem then_cl (h : clR SH F e S W) (hW : wfW W) {n x : Int} (hn : rg n) (hx : rg x) : CL sc MX10_then [some (.ref 0), some (.int (I n)), some (.int (I x))] SH F e S (thenF W n x) W := by
  obtain ⟨g0, g1, g2, hp, hs⟩ := clS h
  have hP := hW.1
  unfold thenF
  by_cases c1 : 0 ≤ x ∧ x ≤ 5
  · rw [if_neg (fun q => q c1)]
    have st : ∀ (s : Int) r, (s = if 0 ≤ n ∧ n ≤ 60 then 1 else 0) → G sc MX10_then 32 [some (.ref 0), some (.int (I n)), some (.int (I x))] [.int (I s)] SH S r → G sc MX10_then 0 [some (.ref 0), some (.int (I n)), some (.int (I x))] [] SH S r := by
      intro s r es q
      refine qX10_then_0 g0 ?_
      rw [if_neg (by rw [I_lt hx ⟨by decide, by decide⟩]; omega), if_neg (by rw [I_lt ⟨by decide, by decide⟩ hx]; omega)]
      refine .inl ⟨_, mustBe_yes, ?_⟩
      by_cases d1 : n < 0
      · rw [if_neg (by omega)] at es; subst es
        rw [if_pos (by rw [I_lt hn ⟨by decide, by decide⟩]; omega)]; exact q
      · rw [if_neg (by rw [I_lt hn ⟨by decide, by decide⟩]; omega)]
        by_cases d2 : 60 < n
        · rw [if_neg (by omega)] at es; subst es
          rw [if_pos (by rw [I_lt ⟨by decide, by decide⟩ hn]; omega)]; exact q
        · rw [if_pos (by omega)] at es; subst es
          rw [if_neg (by rw [I_lt ⟨by decide, by decide⟩ hn]; omega)]; exact q
    by_cases c2 : 0 ≤ n ∧ n ≤ 60
    · rw [if_neg (fun q => q c2)]
      obtain ⟨S1, q1, r1, f1⟩ := try_cl (sc := sc) h hW
      have hp1 : planR S1 1 W.1 := planR_far hp (fun j _ _ => f1 j (by omega))
      obtain ⟨S2, q2, r2, f2⟩ := tick_ok (sc := sc) (S := S1) (a := 65) (u1 := none) (u2 := none) (u3 := none) (u4 := none) g0.2.2.2.2.2.1 (by decide) hp1 hP r1 hW.2.1.1 (n := n.toNat) (by omega)
      rw [show ((n.toNat : Nat) : Int) = n by omega] at q2
      have hp2 : planR S2 1 W.1 := planR_far hp1 (fun j _ _ => f2 j (by omega))
      refine CL_tr h (st 1 _ (by rw [if_pos c2]) (qX10_then_32 g0 (.inl ⟨_, mustFit_yes, _, q1, _, _, q2, told_cl g0.2.2.2.2.2.1 hp2 hP r2 (wf_tick hP _ hW.2.1.1) c1 rfl⟩))) (fun j hj => by rw [f2 j (by omega), f1 j (by omega)])
    · rw [if_pos c2]
      exact CL_exc h (st 0 _ (by rw [if_neg c2]) (qX10_then_32 g0 (.inr ⟨_, _, _, mustFit_no, rfl⟩)))
  · rw [if_pos c1]
    refine CL_exc h (qX10_then_0 g0 ?_)
    have := hx.1
    by_cases d1 : x < 0
    · rw [if_pos (by rw [I_lt hx ⟨by decide, by decide⟩]; omega)]; exact .inr ⟨_, _, _, mustBe_no rfl, rfl⟩
    · rw [if_neg (by rw [I_lt hx ⟨by decide, by decide⟩]; omega), if_pos (by rw [I_lt ⟨by decide, by decide⟩ hx]; omega)]; exact .inr ⟨_, _, _, mustBe_no rfl, rfl⟩
theorem quiet_lp (g0 : sGP SH) (hP : wfP P) : ∀ (n : Nat) (t l : Int) {S : mStore} {B : aS}, t + n = 61 → 1 ≤ t → planR S 1 P → stateR S 65 B → wfA P B → ∃ S', G sc MX10_quiet 18 [some (.ref 0), some (.int (I l)), some (.int (I t))] [] SH S (rI (qtA P n t l B) SH S') ∧ (∀ j, j < 65 ∨ 85 ≤ j → S' j = S j)
  | 0, t, l, S, B, ht, h1, hp, hs, hB => by
    refine ⟨S, qX10_quiet_18 g0 ?_, fun _ _ => rfl⟩
    rw [if_pos (by rw [I_lt ⟨by decide, by decide⟩ ⟨by omega, by omega⟩]; omega)]
    rfl
  | n + 1, t, l, S, B, ht, h1, hp, hs, hB => by
    obtain ⟨S1, q1, r1, f1⟩ := tick_ok (sc := sc) (S := S) (a := 65) (u1 := none) (u2 := none) (u3 := none) (u4 := none) g0.2.2.2.2.2.1 (by decide) hp hP hs hB (n := 1) (by decide)
    have hr := tickA_rg P hP 1 B hB
    obtain ⟨S2, q2, f2⟩ := quiet_lp (S := S1) g0 hP n (t + 1) (if 0 < (tickA P 1 B).1 then t else l) (by omega) (by omega) (planR_far hp (fun j _ _ => f1 j (by omega))) r1 (wf_tick hP 1 hB)
    refine ⟨S2, qX10_quiet_18 g0 ?_, fun j hj => by rw [f2 j hj, f1 j (by omega)]⟩
    rw [if_neg (by rw [I_lt ⟨by decide, by decide⟩ ⟨by omega, by omega⟩]; omega)]
    refine ⟨_, _, q1, ?_⟩
    by_cases c : 0 < (tickA P 1 B).1
    · rw [if_pos c] at q2
      rw [if_neg (by rw [I_le ⟨by omega, by omega⟩ ⟨by decide, by decide⟩]; omega)]
      unfold qtA; rw [if_pos c]; exact q2
    · rw [if_neg c] at q2
      rw [if_pos (by rw [I_le ⟨by omega, by omega⟩ ⟨by decide, by decide⟩]; omega)]
      unfold qtA; rw [if_neg c]; exact q2
theorem quiet_cl (h : clR SH F e S W) (hW : wfW W) {u u' : Option Value} : CL sc MX10_quiet [some (.ref 0), u, u'] SH F e S (.inl (qtA W.1 60 1 0 W.2.1.1)) W := by
  obtain ⟨g0, g1, g2, hp, hs⟩ := clS h
  obtain ⟨S1, q1, r1, f1⟩ := try_cl (sc := sc) h hW
  obtain ⟨S2, q2, f2⟩ := quiet_lp (sc := sc) (S := S1) g0 hW.1 60 1 0 (by decide) (by decide) (planR_far hp (fun j _ _ => f1 j (by omega))) r1 hW.2.1.1
  exact CL_tr h (qX10_quiet_0 g0 ⟨_, q1, q2⟩) (fun j hj => by rw [f2 j (by omega), f1 j (by omega)])
theorem merges_lp (g0 : sGP SH) (hP : wfP P) {a b pl : Int} (hpl : 0 ≤ pl ∧ pl < 48) : ∀ (n : Nat) (k : Int) {S : mStore} {B : aS}, k + n = 401 → 0 ≤ k → planR S 1 P → stateR S 65 B → wfA P B → ∃ S', G sc MX10_merges 24 [some (.ref 0), some (.int (I a)), some (.int (I b)), some (.int (I pl)), some (.int (I k))] [] SH S (rI (mgA P pl n k B) SH S') ∧ (∀ j, j < 65 ∨ 85 ≤ j → S' j = S j)
  | 0, k, S, B, ht, h1, hp, hs, hB => by
    refine ⟨S, qX10_merges_24 g0 ?_, fun _ _ => rfl⟩
    rw [if_pos (by rw [I_lt ⟨by decide, by decide⟩ ⟨by omega, by omega⟩]; omega)]
    rfl
  | n + 1, k, S, B, ht, h1, hp, hs, hB => by
    have qm := isM_ok (sc := sc) (u := none) g0.2.2.2.2.2.1 hs hB hpl
    by_cases c : mrg B pl = true
    · rw [if_pos c] at qm
      refine ⟨S, qX10_merges_24 g0 ?_, fun _ _ => rfl⟩
      rw [if_neg (by rw [I_lt ⟨by decide, by decide⟩ ⟨by omega, by omega⟩]; omega)]
      refine ⟨_, _, qm, ?_⟩
      rw [if_neg (by decide)]
      unfold mgA; rw [if_pos c]
    · rw [if_neg c] at qm
      obtain ⟨S1, q1, r1, f1⟩ := scan_ok (sc := sc) (S := S) (a := 65) (u1 := none) (u2 := none) g0.2.2.2.2.2.1 (by decide) hp hP hs hB
      obtain ⟨S2, q2, f2⟩ := merges_lp (S := S1) g0 hP hpl n (k + 1) (by omega) (by omega) (planR_far hp (fun j _ _ => f1 j (by omega))) r1 (wf_scanA hP hB)
      refine ⟨S2, qX10_merges_24 g0 ?_, fun j hj => by rw [f2 j hj, f1 j (by omega)]⟩
      rw [if_neg (by rw [I_lt ⟨by decide, by decide⟩ ⟨by omega, by omega⟩]; omega)]
      refine ⟨_, _, qm, ?_⟩
      rw [if_pos rfl]
      unfold mgA; rw [if_neg c]; exact ⟨_, _, q1, q2⟩
theorem merges_cl (h : clR SH F e S W) (hW : wfW W) {g p : Int} (hg : rg g) (hq : rg p) {u u' : Option Value} : CL sc MX10_merges [some (.ref 0), some (.int (I g)), some (.int (I p)), u, u'] SH F e S (mergesF W g p) W := by
  obtain ⟨g0, g1, g2, hp, hs⟩ := clS h
  have hP := hW.1
  have hP7 := hP.2.2.2.2.2.1
  unfold mergesF
  by_cases c1 : plc W.1 g p = -1
  · rw [if_pos c1]
    exact CL_exc h (qX10_merges_0 g0 (.inr ⟨_, _, _, pl_no g0 hp hP hg hq c1, rfl⟩))
  rw [if_neg c1]
  have hr := plc_rg hP c1
  obtain ⟨S1, q1, r1, f1⟩ := try_cl (sc := sc) h hW
  obtain ⟨S2, q2, f2⟩ := merges_lp (sc := sc) (S := S1) (a := g) (b := p) g0 hP (pl := plc W.1 g p) ⟨by omega, by omega⟩ 401 0 (by decide) (by decide) (planR_far hp (fun j _ _ => f1 j (by omega))) r1 hW.2.1.1
  exact CL_tr h (qX10_merges_0 g0 (.inl ⟨_, _, pl_ok g0 hp hP hg hq c1, _, q1, q2⟩)) (fun j hj => by rw [f2 j (by omega), f1 j (by omega)])
theorem probe_cl (h : clR SH F e S W) (hW : wfW W) {g p c t : Int} (hg : rg g) (hq : rg p) (hc : rg c) (ht : rg t) {u u' : Option Value} : CL sc MX10_probe [some (.ref 0), some (.int (I g)), some (.int (I p)), some (.int (I c)), some (.int (I t)), u, u'] SH F e S (probeF W g p c t) W := by
  obtain ⟨g0, g1, g2, hp, hs⟩ := clS h
  have hP := hW.1
  have hP7 := hP.2.2.2.2.2.1
  have hc1 := hc.1
  have ht1 := ht.1
  unfold probeF
  by_cases c1 : plc W.1 g p = -1
  · rw [if_pos c1]
    exact CL_exc h (qX10_probe_0 g0 (.inr ⟨_, _, _, pl_no g0 hp hP hg hq c1, rfl⟩))
  rw [if_neg c1]
  have hr := plc_rg hP c1
  have st : ∀ (s : Int) r, (s = if (0 ≤ c ∧ c ≤ 65535) ∧ (0 ≤ t ∧ t ≤ 40) then 1 else 0) → G sc MX10_probe 36 [some (.ref 0), some (.int (I g)), some (.int (I p)), some (.int (I c)), some (.int (I t)), some (.int (I (plc W.1 g p))), u'] [.int (I s)] SH S r → G sc MX10_probe 0 [some (.ref 0), some (.int (I g)), some (.int (I p)), some (.int (I c)), some (.int (I t)), u, u'] [] SH S r := by
    intro s r es q
    refine qX10_probe_0 g0 (.inl ⟨_, _, pl_ok g0 hp hP hg hq c1, ?_⟩)
    by_cases d1 : c < 0
    · rw [if_neg (by omega)] at es; subst es
      rw [if_pos (by rw [I_lt hc ⟨by decide, by decide⟩]; omega)]; exact q
    rw [if_neg (by rw [I_lt hc ⟨by decide, by decide⟩]; omega)]
    by_cases d2 : 65535 < c
    · rw [if_neg (by omega)] at es; subst es
      rw [if_pos (by rw [I_lt ⟨by decide, by decide⟩ hc]; omega)]; exact q
    rw [if_neg (by rw [I_lt ⟨by decide, by decide⟩ hc]; omega)]
    by_cases d3 : t < 0
    · rw [if_neg (by omega)] at es; subst es
      rw [if_pos (by rw [I_lt ht ⟨by decide, by decide⟩]; omega)]; exact q
    rw [if_neg (by rw [I_lt ht ⟨by decide, by decide⟩]; omega)]
    by_cases d4 : 40 < t
    · rw [if_neg (by omega)] at es; subst es
      rw [if_pos (by rw [I_lt ⟨by decide, by decide⟩ ht]; omega)]; exact q
    rw [if_neg (by rw [I_lt ⟨by decide, by decide⟩ ht]; omega)]
    rw [if_pos (by omega)] at es; subst es; exact q
  by_cases c2 : (0 ≤ c ∧ c ≤ 65535) ∧ (0 ≤ t ∧ t ≤ 40)
  · rw [if_neg (fun q => q c2)]
    obtain ⟨S1, q1, r1, f1⟩ := try_cl (sc := sc) h hW
    have hp1 : planR S1 1 W.1 := planR_far hp (fun j _ _ => f1 j (by omega))
    obtain ⟨S2, q2, r2, f2⟩ := put_ok (sc := sc) (S := S1) (a := 65) (u := none) (u' := none) g0.2.2.2.2.2.1 (by decide) hp1 hP r1 hW.2.1.1 (p := plc W.1 g p) (x := c) ⟨by omega, by omega⟩
    have hrg := put_rg W.1 W.2.1.1 (plc W.1 g p) c
    by_cases c3 : (putA W.1 W.2.1.1 (plc W.1 g p) c).1 = -1
    · rw [if_pos c3]
      refine CL_tr (S' := S2) h (st 1 _ (by rw [if_pos c2]) (qX10_probe_36 g0 (.inl ⟨_, mustFit_yes, _, q1, _, _, q2, ?_⟩))) (fun j hj => by rw [f2 j (by omega), f1 j (by omega)])
      rw [if_pos (by rw [c3])]
    · rw [if_neg c3]
      have hp2 : planR S2 1 W.1 := planR_far hp1 (fun j _ _ => f2 j (by omega))
      have hw2 := wf_put hP hW.2.1.1 hr.2.2.2 (x := c) ⟨by omega, by omega⟩
      obtain ⟨S3, q3, r3, f3⟩ := tick_ok (sc := sc) (S := S2) (a := 65) (u1 := none) (u2 := none) (u3 := none) (u4 := none) g0.2.2.2.2.2.1 (by decide) hp2 hP r2 hw2 (n := t.toNat) (by omega)
      rw [show ((t.toNat : Nat) : Int) = t by omega] at q3
      have hw3 := wf_tick hP t.toNat hw2
      generalize hB : (tickA W.1 t.toNat (putA W.1 W.2.1.1 (plc W.1 g p) c).2).2 = B at *
      have ew : S3 (65 + 2) (plc W.1 g p) = B.w (plc W.1 g p) := r3.1.1 _ (by omega) (by omega)
      have hwr := hw3.1.2.2 (plc W.1 g p)
      refine CL_tr h (S' := S3) (st 1 _ (by rw [if_pos c2]) (qX10_probe_36 g0 (.inl ⟨_, mustFit_yes, _, q1, _, _, q2, ?_⟩))) (fun j hj => by rw [f3 j (by omega), f2 j (by omega), f1 j (by omega)])
      rw [if_neg (by rw [I_eq hrg ⟨by decide, by decide⟩]; exact c3)]
      refine ⟨_, _, q3, ⟨by omega, by omega⟩, ?_⟩
      rw [ew]
      unfold pbA
      by_cases c4 : B.w (plc W.1 g p) = -1
      · rw [if_pos c4, if_pos (by rw [c4])]; exact qX10_probe_118 g0 rfl
      · rw [if_neg c4, if_neg (by rw [I_eq ⟨by omega, by omega⟩ ⟨by decide, by decide⟩]; exact c4)]
        exact ⟨_, _, rsize_ok g0.2.2.2.2.2.1.2.1 hw3.1 r3.1 ⟨by omega, by omega⟩, qX10_probe_118 g0 rfl⟩
  · rw [if_pos c2]
    exact CL_exc h (st 0 _ (by rw [if_neg c2]) (qX10_probe_36 g0 (.inr ⟨_, _, _, mustFit_no, rfl⟩)))
end
