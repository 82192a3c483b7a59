/-! ===== the reference tries what would be: then, quiet, merges, probe ===== -/
/-- only the second row, and what is told on the way, may have changed -/
def trF (S S' : mStore) : Prop := (∀ i, (0 ≤ i ∧ i < 1654) ∨ 3308 ≤ i → S' 91 i = S 91 i) ∧ (∀ i, 4 ≤ i → i ≤ 26 → S' 90 i = S 90 i) ∧ (∀ j, j < 90 ∨ (92 ≤ j ∧ j ≤ 99) ∨ 109 ≤ j → S' j = S j)
section
variable {sc : Nat × (Nat → Int32)} {SH : List mCell} {S S' S2 : mStore} {N N' : Int} {W : aW} {P : aP} {A B : aS}
theorem trF.rf (S : mStore) : trF S S := ⟨fun _ _ => rfl, fun _ _ _ => rfl, fun _ _ => rfl⟩
theorem trF.tr (h : trF S S') (g : trF S' S2) : trF S S2 := ⟨fun i hi => by rw [g.1 i hi, h.1 i hi], fun i h1 h2 => by rw [g.2.1 i h1 h2, h.2.1 i h1 h2], fun j hj => by rw [g.2.2 j hj, h.2.2 j hj]⟩
theorem trF.md (hW : wfW W) (h : mdR S N W) (g : trF S S') : mdR S' N W := mdR_F hW h g.1 (fun i h1 h2 => g.2.1 i (by omega) h2) (fun j h1 h2 => g.2.2 j (by omega))
theorem modF.trF (h : modF S S' 1654) : trF S S' := ⟨fun i hi => h.1 i (by omega), fun i h1 h2 => h.2.2 i (by omega), fun j hj => h.2.1 j (by omega) (by omega) (by omega) (by omega)⟩
/-- tries, from a store in which something was tried -/
theorem tr_md (h0 : sMod SH) (hW : wfW W) (h : mdR S N W) : ∃ S', G sc MX11_tries 0 [some (.ref 90)] [] SH S (rV SH S') ∧ refR S' 1654 W.2.1.1 N ∧ modP S' W.1 ∧ trF S S' := by
  obtain ⟨g, m, r, f⟩ := tries_md (sc := sc) h0 hW h
  exact ⟨_, g, r, m.1, ⟨fun i hi => cpr_out (by omega), fun i _ _ => by rw [f 90 (by decide)], fun j hj => f j (by omega)⟩⟩
theorem MD_tr {M : mM} {ls : List (Option Value)} {v y : Int} (hW : wfW W) (h : mdR S N W) (g : G sc M 0 ls [] SH S (rI v SH S')) (hF : trF (up S 90 4 0) S') : MD sc M ls SH S N y (.inl v) W :=
  ⟨v, S', g, hF.md hW (mdR_thr hW h), fun y e => by cases e; exact ⟨rfl, by rw [hF.2.1 4 (by decide) (by decide), up_eq]⟩, fun k e => (by cases e), fun j hj => by rw [hF.2.2 j (by omega), up_ne (by omega)]⟩
theorem told_md (h0 : sMod SH) (hm : modP S P) (hP : wfP P) {b : Int} (hb : 0 ≤ b ∧ b ≤ 135000) (hr : refR S b B N) (hB : wfA P B) {x : Int} (hx : 0 ≤ x ∧ x ≤ 5) : G sc MX11_toldOf 0 [some (.ref 90), some (.int (I b)), some (.int (I x))] [] SH S (rI (toldA P B x) SH S) := by
  have hP7 := hP.2.2.2.2.2.1
  have r0 : rg 0 := ⟨by decide, by decide⟩
  have hxr : rg x := ⟨by omega, by omega⟩
  refine qX11_toldOf_0 h0 ?_
  unfold toldA
  by_cases d : x = 0
  · rw [if_pos d]; exact swp_at 0 hxr r0 (by omega) rfl ⟨_, _, rused_ok h0 hb hm hP hr, rfl⟩
  rw [if_neg d]
  by_cases d : x = 1
  · rw [if_pos d]; exact swp_at 1 hxr r0 (by omega) rfl ⟨_, _, rmerged_ok h0 hb hm hP hr hB, rfl⟩
  rw [if_neg d]
  by_cases d : x = 2
  · rw [if_pos d]; exact swp_at 2 hxr r0 (by omega) rfl ⟨_, _, rwait_ok h0 hb hr, rfl⟩
  rw [if_neg d]
  by_cases d : x = 3
  · rw [if_pos d]; exact swp_at 3 hxr r0 (by omega) rfl ⟨⟨by omega, by omega⟩, by rw [hr.1 0 (by decide) (by decide)]⟩
  rw [if_neg d]
  by_cases d : x = 4
  · rw [if_pos d]; exact swp_at 4 hxr r0 (by omega) rfl ⟨⟨by omega, by omega⟩, by rw [hr.1 3 (by decide) (by decide)]⟩
  rw [if_neg d]
  exact swp_no 5 rfl hxr (by decide) (by decide) (by omega) ⟨⟨by omega, by omega⟩, by rw [hr.1 1 (by decide) (by decide)]⟩
theorem then_md (h0 : sMod SH) (hW : wfW W) (h : mdR S N W) (hN : N < 2000000000) {n x : Int} (hn : rg n) (hx : rg x) : MD sc MX11_then [some (.ref 90), some (.int (I n)), some (.int (I x))] SH S N 2 (thenF W n x) W := by
  have ht : up S 90 4 0 90 4 = 0 := up_eq _ _ _ _
  have hP := hW.1
  unfold thenF
  by_cases c1 : 0 ≤ x ∧ x ≤ 5
  · rw [if_neg (fun q => q c1)]
    by_cases c2 : 0 ≤ n ∧ n ≤ 60
    · rw [if_neg (fun q => q c2)]
      obtain ⟨S1, g1, r1, m1, f1⟩ := tr_md (sc := sc) h0 hW (mdR_thr (x := 0) hW h)
      obtain ⟨S2, g2, r2, f2⟩ := rticks_ok (sc := sc) (S := S1) (u3 := none) (u4 := none) h0 (b := 1654) ⟨by decide, by decide⟩ hP m1 r1 hW.2.1.1 (n := n.toNat) (by omega) (by omega)
      rw [show ((n.toNat : Nat) : Int) = n by omega] at g2
      refine MD_tr (S' := S2) hW h (qX11_then_0 h0 (wr_yes h0 ht hx ⟨by decide, by decide⟩ ⟨by decide, by decide⟩ c1 (fun w hw => ?_))) (f1.tr (modF.trF f2))
      subst hw
      rw [if_neg (by decide)]
      refine wr_yes h0 ht hn ⟨by decide, by decide⟩ ⟨by decide, by decide⟩ c2 (fun w hw => ?_)
      subst hw
      rw [if_neg (by decide)]
      exact ⟨_, g1, _, _, g2, _, _, told_md h0 (modP_F m1 f2) hP ⟨by decide, by decide⟩ r2 (wf_tick hP _ hW.2.1.1) c1, rfl⟩
    · rw [if_pos c2]
      refine MD_arg (v := 0) hW h (qX11_then_0 h0 (wr_yes h0 ht hx ⟨by decide, by decide⟩ ⟨by decide, by decide⟩ c1 (fun w hw => ?_)))
      subst hw
      rw [if_neg (by decide)]
      refine wr_no h0 ht (.inr rfl) hn ⟨by decide, by decide⟩ ⟨by decide, by decide⟩ c2 (fun w hw => ?_)
      subst hw
      rw [if_pos rfl]
  · rw [if_pos c1]
    refine MD_exc (v := 0) hW h (qX11_then_0 h0 (wr_no h0 ht (.inl rfl) hx ⟨by decide, by decide⟩ ⟨by decide, by decide⟩ c1 (fun w hw => ?_)))
    subst hw
    rw [if_pos rfl]
theorem rquiet_lp (h0 : sMod SH) (hP : wfP P) : ∀ (n : Nat) (t l : Int) {S : mStore} {B : aS} {N : Int}, t + n = 61 → 1 ≤ t → N + 16 * n < 2147483648 → modP S P → refR S 1654 B N → wfA P B → ∃ S', G sc MX11_quiet 13 [some (.ref 90), some (.int (I l)), some (.int (I t))] [] SH S (rI (qtA P n t l B) SH S') ∧ trF S S'
  | 0, t, l, S, B, N, ht, h1, hN, hm, hr, hB => by
    refine ⟨S, qX11_quiet_13 h0 ?_, trF.rf S⟩
    rw [if_pos (by rw [I_lt ⟨by decide, by decide⟩ ⟨by omega, by omega⟩]; omega)]
    rfl
  | n + 1, t, l, S, B, N, ht, h1, hN, hm, hr, hB => by
    obtain ⟨S1, q1, r1, f1⟩ := rticks_ok (sc := sc) (S := S) (u3 := none) (u4 := none) h0 (b := 1654) ⟨by decide, by decide⟩ hP hm hr hB (n := 1) (by decide) (by omega)
    have hrg := tickA_rg P hP 1 B hB
    obtain ⟨S2, q2, f2⟩ := rquiet_lp (S := S1) h0 hP n (t + 1) (if 0 < (tickA P 1 B).1 then t else l) (by omega) (by omega) (N := N + 16 * ((1 : Nat) : Int)) (by omega) (modP_F hm f1) r1 (wf_tick hP 1 hB)
    refine ⟨S2, qX11_quiet_13 h0 ?_, (modF.trF f1).tr f2⟩
    rw [if_neg (by rw [I_lt ⟨by decide, by decide⟩ ⟨by omega, by omega⟩]; omega)]
    refine ⟨_, _, q1, ?_⟩
    by_cases c : 0 < (tickA P 1 B).1
    · rw [if_pos c] at q2
      rw [if_neg (by rw [I_le ⟨by omega, by omega⟩ ⟨by decide, by decide⟩]; omega)]
      unfold qtA; rw [if_pos c]; exact q2
    · rw [if_neg c] at q2
      rw [if_pos (by rw [I_le ⟨by omega, by omega⟩ ⟨by decide, by decide⟩]; omega)]
      unfold qtA; rw [if_neg c]; exact q2
theorem quiet_md (h0 : sMod SH) (hW : wfW W) (h : mdR S N W) (hN : N < 2000000000) {y : Int} {u u' : Option Value} : MD sc MX11_quiet [some (.ref 90), u, u'] SH S N y (.inl (qtA W.1 60 1 0 W.2.1.1)) W := by
  obtain ⟨S1, g1, r1, m1, f1⟩ := tr_md (sc := sc) h0 hW (mdR_thr (x := 0) hW h)
  obtain ⟨S2, g2, f2⟩ := rquiet_lp (sc := sc) (S := S1) h0 hW.1 60 1 0 (by decide) (by decide) (by omega) m1 r1 hW.2.1.1
  exact MD_tr hW h (qX11_quiet_0 h0 ⟨_, g1, g2⟩) (f1.tr f2)
theorem rmerges_lp (h0 : sMod SH) (hP : wfP P) {g p : Int} (hne : plc P g p ≠ -1) : ∀ (n : Nat) (k : Int) {S : mStore} {B : aS} {N : Int}, k + n = 401 → 0 ≤ k → N + n < 2147483648 → modP S P → refR S 1654 B N → wfA P B → ∃ S', G sc MX11_merges 22 [some (.ref 90), some (.int (I g)), some (.int (I p)), some (.int (I k))] [] SH S (rI (mgA P (plc P g p) n k B) SH S') ∧ trF S S'
  | 0, k, S, B, N, ht, h1, hN, hm, hr, hB => by
    refine ⟨S, qX11_merges_22 h0 ?_, trF.rf S⟩
    rw [if_pos (by rw [I_lt ⟨by decide, by decide⟩ ⟨by omega, by omega⟩]; omega)]
    rfl
  | n + 1, k, S, B, N, ht, h1, hN, hm, hr, hB => by
    obtain ⟨p1, p2, p3, p4⟩ := plc_rg hP hne
    have hP7 := hP.2.2.2.2.2.1
    have hP6 := hP.2.2.2.2.1
    have e97 : S 97 g + p = plc P g p := by rw [hm.2.2.2.1 g p1.1 p1.2, p3]
    have qm := risM_ok (sc := sc) h0 (b := 1654) ⟨by decide, by decide⟩ hr hB (p := plc P g p) ⟨by omega, by omega⟩
    by_cases c : mrg B (plc P g p) = true
    · rw [if_pos c] at qm
      refine ⟨S, qX11_merges_22 h0 ?_, trF.rf S⟩
      rw [if_neg (by rw [I_lt ⟨by decide, by decide⟩ ⟨by omega, by omega⟩]; omega), e97]
      refine ⟨⟨by omega, by omega⟩, _, _, qm, ?_⟩
      rw [if_neg (by decide)]
      unfold mgA; rw [if_pos c]
    · rw [if_neg c] at qm
      obtain ⟨S1, q1, r1, f1⟩ := rscans_ok (sc := sc) (S := S) (u3 := none) (u4 := none) (u5 := none) h0 (b := 1654) ⟨by decide, by decide⟩ hP hm hr hB (n := 1) (by decide) (by omega)
      obtain ⟨S2, q2, f2⟩ := rmerges_lp (S := S1) h0 hP hne n (k + 1) (by omega) (by omega) (N := N + ((1 : Nat) : Int)) (by omega) (modP_F hm f1) r1 (wf_scanN hP 1 hB)
      refine ⟨S2, qX11_merges_22 h0 ?_, (modF.trF f1).tr f2⟩
      rw [if_neg (by rw [I_lt ⟨by decide, by decide⟩ ⟨by omega, by omega⟩]; omega), e97]
      refine ⟨⟨by omega, by omega⟩, _, _, qm, ?_⟩
      rw [if_pos rfl]
      unfold mgA; rw [if_neg c]; exact ⟨_, _, q1, q2⟩
theorem merges_md (h0 : sMod SH) (hW : wfW W) (h : mdR S N W) (hN : N < 2000000000) {g p y : Int} (hg : rg g) (hp : rg p) {u : Option Value} : MD sc MX11_merges [some (.ref 90), some (.int (I g)), some (.int (I p)), u] SH S N y (mergesF W g p) W := by
  have ht : up S 90 4 0 90 4 = 0 := up_eq _ _ _ _
  obtain ⟨hm, hr⟩ := mdS (x := 0) hW h
  have hP := hW.1
  unfold mergesF
  by_cases c1 : plc W.1 g p = -1
  · rw [if_pos c1]
    refine MD_exc (v := 0) hW h (qX11_merges_0 h0 ⟨_, _, isP_no h0 hm hP ht hg hp c1, ?_⟩)
    rw [if_pos rfl]
  rw [if_neg c1]
  obtain ⟨S1, g1, r1, m1, f1⟩ := tr_md (sc := sc) h0 hW (mdR_thr (x := 0) hW h)
  obtain ⟨S2, g2, f2⟩ := rmerges_lp (sc := sc) (S := S1) h0 hP c1 401 0 (by decide) (by decide) (by omega) m1 r1 hW.2.1.1
  refine MD_tr hW h (qX11_merges_0 h0 ⟨_, _, isP_yes h0 hm hP ht hg hp c1, ?_⟩) (f1.tr f2)
  rw [if_neg (by decide)]
  exact ⟨_, g1, g2⟩
theorem rprobe_lp (h0 : sMod SH) {l1 l2 c t : Int} {u6 : Option Value} : ∀ (n : Nat) (k : Int) {S : mStore}, k + n = 4 → 0 ≤ k → (∀ d, 0 ≤ d → d < k → S 101 d = nb c (12 - 4 * d)) → ∃ S', saidR S' c ∧ (∀ j, j ≠ 101 → S' j = S j) ∧ ∀ r, G sc MX11_probe 58 [some (.ref 90), some (.int (I l1)), some (.int (I l2)), some (.int (I c)), some (.int (I t)), some (.int (I 4)), u6] [] SH S' r → G sc MX11_probe 58 [some (.ref 90), some (.int (I l1)), some (.int (I l2)), some (.int (I c)), some (.int (I t)), some (.int (I k)), u6] [] SH S r
  | 0, k, S, hk, h1, hd => by
    have e : k = 4 := by omega
    subst e
    exact ⟨S, fun d a b => hd d a b, fun _ _ => rfl, fun _ g => g⟩
  | n + 1, k, S, hk, h1, hd => by
    obtain ⟨S', hs, hf, go⟩ := rprobe_lp (l1 := l1) (l2 := l2) (c := c) (t := t) (u6 := u6) h0 n (k + 1) (S := up S 101 k (nb c (12 - 4 * k))) (by omega) (by omega) (fun d a b => by
      rw [up_at]
      by_cases e : d = k
      · rw [if_pos e, e]
      · rw [if_neg e]; exact hd d a (by omega))
    refine ⟨S', hs, fun j hj => by rw [hf j hj, up_ne hj], fun r g => qX11_probe_58 h0 ?_⟩
    rw [if_neg (by rw [I_le ⟨by decide, by decide⟩ ⟨by omega, by omega⟩]; omega)]
    exact ⟨⟨h1, by omega⟩, go r g⟩
theorem probe_md (h0 : sMod SH) (hW : wfW W) (h : mdR S N W) (hN : N < 2000000000) {g p c t : Int} (hg : rg g) (hp : rg p) (hc : rg c) (ht' : rg t) {u u' : Option Value} : MD sc MX11_probe [some (.ref 90), some (.int (I g)), some (.int (I p)), some (.int (I c)), some (.int (I t)), u, u'] SH S N 2 (probeF W g p c t) W := by
  have ht : up S 90 4 0 90 4 = 0 := up_eq _ _ _ _
  obtain ⟨hm, hr⟩ := mdS (x := 0) hW h
  have hP := hW.1
  have hP7 := hP.2.2.2.2.2.1
  have w1 := within_ok (sc := sc) (SH := SH) (S := up S 90 4 0) hc (lo := 0) ⟨by decide, by decide⟩ (hi := 65535) ⟨by decide, by decide⟩
  have w2 := within_ok (sc := sc) (SH := SH) (S := up S 90 4 0) ht' (lo := 0) ⟨by decide, by decide⟩ (hi := 40) ⟨by decide, by decide⟩
  unfold probeF
  by_cases c1 : plc W.1 g p = -1
  · rw [if_pos c1]
    refine MD_exc (v := 0) hW h (qX11_probe_0 h0 ⟨_, _, isP_no h0 hm hP ht hg hp c1, ?_⟩)
    rw [if_pos rfl]
  rw [if_neg c1]
  have hpr := plc_rg hP c1
  by_cases c2 : 0 ≤ c ∧ c ≤ 65535
  · rw [if_pos c2] at w1
    by_cases c3 : 0 ≤ t ∧ t ≤ 40
    · rw [if_neg (fun q => q ⟨c2, c3⟩)]
      rw [if_pos c3] at w2
      obtain ⟨S1, g1, r1, m1, f1⟩ := tr_md (sc := sc) h0 hW (mdR_thr (x := 0) hW h)
      have h97 := tr97 hP h c1 m1
      obtain ⟨S2, hsaid, hf, go⟩ := rprobe_lp (sc := sc) (l1 := g) (l2 := p) (c := c) (t := t) (u6 := u') h0 4 0 (S := S1) (by decide) (by decide) (fun d a b => by omega)
      have st : ∀ r, G sc MX11_probe 58 [some (.ref 90), some (.int (I g)), some (.int (I p)), some (.int (I c)), some (.int (I t)), some (.int (I 4)), u'] [] SH S2 r → G sc MX11_probe 0 [some (.ref 90), some (.int (I g)), some (.int (I p)), some (.int (I c)), some (.int (I t)), u, u'] [] SH S r := by
        intro r gg
        refine qX11_probe_0 h0 ⟨_, _, isP_yes h0 hm hP ht hg hp c1, ?_⟩
        rw [if_neg (by decide)]
        refine ⟨_, _, w1, ?_⟩
        rw [if_neg (by decide)]
        refine ⟨_, _, w2, ?_⟩
        rw [if_neg (by decide)]
        refine ⟨_, _, right_yes h0 ht, ?_⟩
        rw [if_neg (by decide)]
        exact ⟨_, g1, go r gg⟩
      have m2 : modP S2 W.1 := ⟨by rw [hf 90 (by decide)]; exact m1.1, by rw [hf 95 (by decide)]; exact m1.2.1, by rw [hf 96 (by decide)]; exact m1.2.2.1, by rw [hf 97 (by decide)]; exact m1.2.2.2.1, by rw [hf 98 (by decide)]; exact m1.2.2.2.2⟩
      have f2 : trF S1 S2 := ⟨fun i _ => by rw [hf 91 (by decide)], fun i _ _ => by rw [hf 90 (by decide)], fun j hj => hf j (by omega)⟩
      have h97' : S2 97 g + p = plc W.1 g p := by rw [hf 97 (by decide)]; exact h97.1
      have hrg := put_rg W.1 W.2.1.1 (plc W.1 g p) c
      obtain ⟨S3, g3, r3, f3⟩ := rput_ok (sc := sc) (S := S2) (u3 := none) (u4 := none) (u5 := none) (u6 := none) h0 (b := 1654) ⟨by decide, by decide⟩ m2 hP (refR_far r1 (hf 91 (by decide))) hW.2.1.1 (p := plc W.1 g p) hpr.2.2.2 hsaid
      by_cases c4 : (putA W.1 W.2.1.1 (plc W.1 g p) c).1 = -1
      · rw [if_pos c4]
        refine MD_tr (S' := S3) hW h (st _ (qX11_probe_58 h0 ?_)) (f1.tr (f2.tr (modF.trF (modG_F f3))))
        rw [if_pos (by rw [I_le ⟨by decide, by decide⟩ ⟨by decide, by decide⟩]; omega), h97']
        refine ⟨⟨h97.2.1, h97.2.2⟩, _, _, g3, ?_⟩
        rw [if_pos (by rw [c4])]
      · rw [if_neg c4]
        have hw3 := wf_put hP hW.2.1.1 hpr.2.2.2 (x := c) ⟨by omega, by omega⟩
        obtain ⟨S4, g4, r4, f4⟩ := rticks_ok (sc := sc) (S := S3) (u3 := none) (u4 := none) h0 (b := 1654) ⟨by decide, by decide⟩ hP (modP_F m2 (modG_F f3)) r3 hw3 (n := t.toNat) (by omega) (by omega)
        rw [show ((t.toNat : Nat) : Int) = t by omega] at g4
        have hw4 := wf_tick hP t.toNat hw3
        generalize hB : (tickA W.1 t.toNat (putA W.1 W.2.1.1 (plc W.1 g p) c).2).2 = B at *
        have ew : S4 91 (1670 + plc W.1 g p) = B.w (plc W.1 g p) := by
          have q := r4.2.1 (plc W.1 g p) (by omega) (by omega)
          rw [show (1654 : Int) + 16 + plc W.1 g p = 1670 + plc W.1 g p by omega] at q
          exact q
        have hwr := hw4.1.2.2 (plc W.1 g p)
        refine MD_tr (S' := S4) hW h (st _ (qX11_probe_58 h0 ?_)) (f1.tr (f2.tr ((modF.trF (modG_F f3)).tr (modF.trF f4))))
        rw [if_pos (by rw [I_le ⟨by decide, by decide⟩ ⟨by decide, by decide⟩]; omega), h97']
        refine ⟨⟨h97.2.1, h97.2.2⟩, _, _, g3, ?_⟩
        rw [if_neg (by rw [I_eq hrg ⟨by decide, by decide⟩]; exact c4)]
        refine ⟨_, _, g4, ⟨by omega, by omega⟩, ?_⟩
        rw [ew]
        unfold pbA
        by_cases c5 : B.w (plc W.1 g p) = -1
        · rw [if_pos c5, if_pos (by rw [c5])]
        · rw [if_neg c5, if_neg (by rw [I_eq ⟨by omega, by omega⟩ ⟨by decide, by decide⟩]; exact c5)]
          refine ⟨⟨by omega, by omega⟩, ?_⟩
          have q := r4.2.2.2.2.2.2.2.2.2.1 (B.w (plc W.1 g p)) (by omega) (by omega)
          rw [show (1654 : Int) + 544 + B.w (plc W.1 g p) = 2198 + B.w (plc W.1 g p) by omega] at q
          rw [q]
    · rw [if_pos (fun q => c3 q.2)]
      rw [if_neg c3] at w2
      refine MD_arg (v := 0) hW h (qX11_probe_0 h0 ⟨_, _, isP_yes h0 hm hP ht hg hp c1, ?_⟩)
      rw [if_neg (by decide)]
      refine ⟨_, _, w1, ?_⟩
      rw [if_neg (by decide)]
      refine ⟨_, _, w2, ?_⟩
      rw [if_pos rfl]
      refine ⟨_, _, right_no h0 ht (.inr rfl), ?_⟩
      rw [if_pos rfl]
  · rw [if_pos (fun q => c2 q.1)]
    rw [if_neg c2] at w1
    refine MD_arg (v := 0) hW h (qX11_probe_0 h0 ⟨_, _, isP_yes h0 hm hP ht hg hp c1, ?_⟩)
    rw [if_neg (by decide)]
    refine ⟨_, _, w1, ?_⟩
    rw [if_pos rfl]
    refine ⟨_, _, right_no h0 ht (.inr rfl), ?_⟩
    rw [if_pos rfl]
end
