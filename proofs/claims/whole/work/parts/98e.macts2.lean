/-! ===== the reference: write, copy, drop, advise, scan, ticks, rate, undo ===== -/
section
variable {sc : Nat × (Nat → Int32)} {SH : List mCell} {S S' : mStore} {N N' : Int} {W : aW} {P : aP} {A : aS}
theorem mdR_N (h : mdR S N W) (hN : N ≤ N') : mdR S N' W := by
  obtain ⟨m, b, i, t, f, a⟩ := h
  refine ⟨m, ⟨refR_N b.1 hN, b.2.1, b.2.2.1, fun k A hk => refR_N (b.2.2.2.1 k A hk) hN, b.2.2.2.2⟩, ⟨i.1, fun B hB => ⟨(i.2 B hB).1, ?_⟩⟩, t, f, a⟩
  have q := (i.2 B hB).2
  exact ⟨refR_N q.1 hN, q.2.1, q.2.2.1, fun k A hk => refR_N (q.2.2.2.1 k A hk) hN, q.2.2.2.2⟩
theorem mdR_set (hW : ∀ A, A ∈ W.2.1.2.1 → wfR A.C A.k) (hI : ∀ B, W.2.2.1 = some B → wfB W.1 B) (h : mdR S N W) (hr : refR S' 0 A N) (h91 : ∀ i, 1654 ≤ i → S' 91 i = S 91 i) (hj : ∀ j, j ≠ 91 → S' j = S j) : mdR S' N (setA W A) := by
  obtain ⟨m, b, im, t, f, a⟩ := h
  obtain ⟨r1, r2, r3, r4, r5, r6, r7⟩ := b
  have e90 := hj 90 (by decide)
  refine ⟨⟨by rw [e90]; exact m.1, by rw [hj 95 (by decide)]; exact m.2.1, by rw [hj 96 (by decide)]; exact m.2.2.1, by rw [hj 97 (by decide)]; exact m.2.2.2.1, by rw [hj 98 (by decide)]; exact m.2.2.2.2⟩, ⟨hr, by rw [e90]; exact r2, by rw [e90]; exact r3, fun k B hk => ?_, by rw [e90]; exact r5, by rw [hj 92 (by decide), hj 93 (by decide)]; exact r6, by rw [hj 94 (by decide)]; exact r7⟩, ⟨fun hn => by rw [e90]; exact im.1 hn, fun B hB => ⟨by rw [e90]; exact (im.2 B hB).1, ?_⟩⟩, by rw [hj 99 (by decide)]; exact t, by rw [e90]; exact f, by rw [e90]; exact a⟩
  · rw [e90]
    exact refR_F (r4 k B hk) (hW B (List.mem_of_getElem? hk)) (fun i h1 h2 _ => h91 i (by omega))
  · obtain ⟨s1, s2, s3, s4, s5, s6, s7⟩ := (im.2 B hB).2
    have hwB := hI B hB
    refine ⟨refR_F s1 hwB.1.2.1 (fun i h1 h2 _ => h91 i (by omega)), by rw [e90]; exact s2, by rw [e90]; exact s3, fun k A hk => ?_, by rw [e90]; exact s5, by rw [hj 92 (by decide), hj 93 (by decide)]; exact s6, by rw [hj 94 (by decide)]; exact s7⟩
    rw [e90]
    exact refR_F (s4 k A hk) (hwB.2.1 A (List.mem_of_getElem? hk)).2.1 (fun i h1 h2 _ => h91 i (by omega))
theorem hAdd_mem {H : List aS} {A B : aS} (h : B ∈ hAdd H A) : B ∈ H ∨ B = A := by
  unfold hAdd at h
  by_cases c : H.length < 40
  · rw [if_pos c] at h
    rcases List.mem_append.mp h with q | q
    · exact .inl q
    · exact .inr (List.mem_singleton.mp q)
  · rw [if_neg c] at h
    rcases List.mem_append.mp h with q | q
    · exact .inl (List.mem_of_mem_tail q)
    · exact .inr (List.mem_singleton.mp q)
theorem hAdd_len {H : List aS} (A : aS) (h : H.length ≤ 40) : (hAdd H A).length ≤ 40 := by
  unfold hAdd
  by_cases c : H.length < 40
  · rw [if_pos c, List.length_append]; simp; omega
  · rw [if_neg c, List.length_append, List.length_tail]; simp; omega
theorem does_yes (h0 : sMod SH) (hW : wfW W) (h : mdR S N W) (hr : refR S 1654 A N) (hA : wfA P A) {v : Int} (hv : rg v) (hn : v ≠ -1) : ∃ S2, G sc MX11_does 0 [some (.ref 90), some (.int (I v))] [] SH S (rI v SH S2) ∧ mdR S2 N (actW W A) ∧ (∀ j, j < 90 ∨ 92 ≤ j → S2 j = S j) ∧ (∀ i, i ≠ 5 → i ≠ 6 → S2 90 i = S 90 i) ∧ refR S2 0 A N := by
  obtain ⟨S1, g1, m1, f1, f2, f3⟩ := keeps_md (sc := sc) h0 hW h (.inl rfl) h.2.1.1 hW.2.1.1
  have hr1 : refR S1 1654 A N := refR_F hr hA.2.1 (fun i h1 h2 _ => f1 i (by omega))
  have hr2 : refR (cpr S1 1654 0 1654) 0 A N := refR_cpr hr1 hA.2.1
  refine ⟨cpr S1 1654 0 1654, qX11_does_0 h0 ?_, ?_, fun j hj => by rw [cpr_ne (by omega), f2 j hj], fun i h1 h2 => by rw [cpr_ne (by decide), f3 i h1 h2], hr2⟩
  · rw [if_neg (by rw [I_eq hv ⟨by decide, by decide⟩]; exact hn)]
    exact ⟨_, g1, _, rcopies_ok h0 (by decide) ⟨by decide, by decide⟩ ⟨by decide, by decide⟩ (.inr (by decide)), rfl⟩
  · refine mdR_set (W := (W.1, (W.2.1.1, hAdd W.2.1.2.1 W.2.1.1, W.2.1.2.2), W.2.2)) (fun B hB => ?_) (fun B hB => (hW.2.2.2.1 B hB).1) m1 hr2 (fun i hi => cpr_out (by omega)) (fun j hj => cpr_ne hj)
    rcases hAdd_mem hB with q | q
    · exact (hW.2.1.2.1 B q).2.1
    · rw [q]; exact hW.2.1.1.2.1
theorem does_no (h0 : sMod SH) (hW : wfW W) (h : mdR S N W) : ∃ S2, G sc MX11_does 0 [some (.ref 90), some (.int (I (-1)))] [] SH S (rI (-1) SH S2) ∧ mdR S2 N (refW W) ∧ (∀ j, j < 94 ∨ 95 ≤ j → S2 j = S j) := by
  obtain ⟨g, k⟩ := refuses_md (sc := sc) h0 hW h
  refine ⟨_, qX11_does_0 h0 ?_, k, fun j hj => up_ne (by omega)⟩
  rw [if_pos rfl]
  exact ⟨_, _, g, rfl⟩
theorem does_md (h0 : sMod SH) (hW : wfW W) (h : mdR S N W) {x : Int × aS} (hr : refR S 1654 x.2 N) (hA : wfA P x.2) (hv : rg x.1) : ∃ v S2, G sc MX11_does 0 [some (.ref 90), some (.int (I x.1))] [] SH S (rI v SH S2) ∧ (actF W x).1 = .inl v ∧ mdR S2 N (actF W x).2 ∧ (∀ j, j < 90 ∨ 110 ≤ j → S2 j = S j) ∧ S2 90 4 = S 90 4 := by
  unfold actF
  by_cases c : x.1 = -1
  · rw [if_pos c]
    obtain ⟨S2, g, k, f⟩ := does_no (sc := sc) h0 hW h
    exact ⟨-1, S2, by rw [c]; exact g, rfl, k, fun j hj => f j (by omega), by rw [f 90 (by omega)]⟩
  · rw [if_neg c]
    obtain ⟨S2, g, k, f, f4, _⟩ := does_yes (sc := sc) h0 hW h hr hA hv c
    exact ⟨x.1, S2, g, rfl, k, fun j hj => f j (by omega), f4 4 (by decide) (by decide)⟩
theorem MD_ref {M : mM} {ls : List (Option Value)} {y : Int} (h0 : sMod SH) (hW : wfW W) (h : mdR S N W) (g : ∀ S', G sc MX11_refuses 0 [some (.ref 90), some (.int (I 1))] [] SH (up S 90 4 0) (rI (-1) SH S') → G sc M 0 ls [] SH S (rI (-1) SH S')) : MD sc M ls SH S N y (.inl (-1)) (refW W) := by
  obtain ⟨g1, k⟩ := refuses_md (sc := sc) h0 hW (mdR_thr (x := 0) hW h)
  refine ⟨-1, _, g _ g1, k, fun y e => by cases e; exact ⟨rfl, by rw [up_ne (by decide), up_eq]⟩, fun k e => (by cases e), fun j hj => by rw [up_ne (by omega), up_ne (by omega)]⟩
/-- the second row is as the first, thrown is 0 -/
def trS (S : mStore) : mStore := cpr (up S 90 4 0) 0 1654 1654
theorem trS_ok (h0 : sMod SH) (hW : wfW W) (h : mdR S N W) : G sc MX11_tries 0 [some (.ref 90)] [] SH (up S 90 4 0) (rV SH (trS S)) ∧ mdR (trS S) N W ∧ modP (trS S) W.1 ∧ refR (trS S) 1654 W.2.1.1 N ∧ (∀ j, j < 90 ∨ 92 ≤ j → trS S j = S j) ∧ trS S 90 = up S 90 4 0 90 := by
  obtain ⟨g, m, r, f⟩ := tries_md (sc := sc) h0 hW (mdR_thr (x := 0) hW h)
  exact ⟨g, m, m.1, r, fun j hj => by show cpr (up S 90 4 0) 0 1654 1654 j = S j; rw [f j (by omega), up_ne (by omega)], f 90 (by decide)⟩
theorem MD_act {M : mM} {ls : List (Option Value)} {y : Int} (h0 : sMod SH) (hW : wfW W) (h : mdR S N W) {x : Int × aS} (hv : rg x.1) (hA : wfA P x.2) (hN : N ≤ N')
    (hop : ∃ S2, refR S2 1654 x.2 N' ∧ modF (trS S) S2 1654 ∧ ∀ v S3, G sc MX11_does 0 [some (.ref 90), some (.int (I x.1))] [] SH S2 (rI v SH S3) → G sc M 0 ls [] SH S (rI v SH S3)) : MD sc M ls SH S N' y (actF W x).1 (actF W x).2 := by
  obtain ⟨_, m, _, r, f, f90⟩ := trS_ok (sc := sc) h0 hW h
  obtain ⟨S2, r2, mF, go⟩ := hop
  obtain ⟨v, S3, g3, ev, k3, f3, f4⟩ := does_md (sc := sc) h0 hW (mdR_N (mdR_mod hW m mF) hN) r2 hA hv
  rw [ev]
  refine ⟨v, S3, go v S3 g3, k3, fun y e => by cases e; exact ⟨rfl, by rw [f4, mF.2.2 4 (by decide), f90, up_eq]⟩, fun k e => (by cases e), fun j hj => by rw [f3 j hj, mF.2.1 j (by omega) (by omega) (by omega) (by omega), f j (by omega)]⟩
theorem tr97 (hP : wfP W.1) (h : mdR S N W) {g p : Int} (hne : plc W.1 g p ≠ -1) {S2 : mStore} (hm : modP S2 W.1) : S2 97 g + p = plc W.1 g p ∧ 0 ≤ g ∧ g < 5 := by
  obtain ⟨h1, h2, h3, h4⟩ := plc_rg hP hne
  have hP6 := hP.2.2.2.2.1
  rw [hm.2.2.2.1 g h1.1 h1.2, h3]
  exact ⟨rfl, h1.1, by omega⟩
theorem write_md (h0 : sMod SH) (hW : wfW W) (h : mdR S N W) {g p c n y : Int} (hg : rg g) (hp : rg p) (hc : rg c) (hn : rg n) : MD sc MX11_write [some (.ref 90), some (.int (I g)), some (.int (I p)), some (.int (I c)), some (.int (I n))] SH S N y (writeF W g p c n).1 (writeF W g p c n).2 := by
  have ht : up S 90 4 0 90 4 = 0 := up_eq _ _ _ _
  obtain ⟨hm, hr⟩ := mdS (x := 0) hW h
  obtain ⟨tg, tm, tmp, tr, tf, t90⟩ := trS_ok (sc := sc) h0 hW h
  have hP := hW.1
  have hP7 := hP.2.2.2.2.2.1
  unfold writeF
  by_cases c1 : plc W.1 g p = -1
  · rw [if_pos c1]
    refine MD_exc (v := 0) hW h (qX11_write_0 h0 ⟨_, _, isP_no h0 hm hP ht hg hp c1, ?_⟩)
    rw [if_pos rfl]
  rw [if_neg c1]
  have hpr := plc_rg hP c1
  by_cases c2 : 0 ≤ c ∧ c < 4
  · rw [if_neg (fun q => q c2)]
    have st : ∀ r, (∃ v108 S109, G sc MX11_within 0 [some (.int (I n)), some (.int (I 0)), some (.int (I 15))] [] SH (trS S) (rI v108 SH S109) ∧ (if I v108 = I 0 then (∃ v110 S111, G sc MX11_does 0 [some (.ref 90), some (.int (I (-1)))] [] SH S109 (rI v110 SH S111) ∧ r = rI v110 SH S111) else (((0 : Int) ≤ g ∧ g < 5) ∧ (∃ v112 S113, G sc MX11_writesCell 0 [some (.ref 90), some (.int (I 1654)), some (.int (I ((S109 97 g) + p))), some (.int (I c)), some (.int (I n))] [] SH S109 (rI v112 SH S113) ∧ (∃ v114 S115, G sc MX11_does 0 [some (.ref 90), some (.int (I v112))] [] SH S113 (rI v114 SH S115) ∧ r = rI v114 SH S115))))) → G sc MX11_write 0 [some (.ref 90), some (.int (I g)), some (.int (I p)), some (.int (I c)), some (.int (I n))] [] SH S r := by
      intro r q
      refine qX11_write_0 h0 ⟨_, _, isP_yes h0 hm hP ht hg hp c1, ?_⟩
      rw [if_neg (by decide)]
      exact wr_yes h0 ht hc ⟨by decide, by decide⟩ ⟨by decide, by decide⟩ ⟨c2.1, by omega⟩ (fun w hw => by subst hw; rw [if_neg (by decide)]; exact ⟨_, tg, q⟩)
    by_cases c3 : 0 ≤ n ∧ n ≤ 15
    · rw [if_neg (fun q => q c3)]
      have h97 := tr97 hP h c1 tmp
      obtain ⟨S2, g2, r2, f2⟩ := rwc_ok (sc := sc) h0 (b := 1654) ⟨by decide, by decide⟩ tmp hP tr hW.2.1.1 (p := plc W.1 g p) hpr.2.2.2 c2 (n := n) ⟨c3.1, by omega⟩
      refine MD_act h0 hW h (put_rg _ _ _ _) (wf_put hP hW.2.1.1 hpr.2.2.2 (pcell_rg (cellsA_rg hW.2.1.1 _) ⟨c3.1, by omega⟩ c2)) (Int.le_refl _) ⟨S2, r2, f2, fun v S3 gd => st _ ⟨_, _, within_ok hn ⟨by decide, by decide⟩ ⟨by decide, by decide⟩, ?_⟩⟩
      rw [if_pos c3, if_neg (by decide)]
      refine ⟨⟨h97.2.1, h97.2.2⟩, _, _, ?_, _, _, gd, rfl⟩
      rw [h97.1]
      exact g2
    · rw [if_pos c3]
      obtain ⟨S2, g2, k2, f2⟩ := does_no (sc := sc) h0 hW tm
      refine ⟨-1, S2, st _ ⟨_, _, within_ok hn ⟨by decide, by decide⟩ ⟨by decide, by decide⟩, ?_⟩, k2, fun y e => by cases e; exact ⟨rfl, by rw [f2 90 (by omega), t90, up_eq]⟩, fun k e => (by cases e), fun j hj => by rw [f2 j (by omega), tf j (by omega)]⟩
      rw [if_neg c3, if_pos rfl]
      exact ⟨_, _, g2, rfl⟩
  · rw [if_pos c2]
    refine MD_exc (v := 0) hW h (qX11_write_0 h0 ⟨_, _, isP_yes h0 hm hP ht hg hp c1, ?_⟩)
    rw [if_neg (by decide)]
    exact wr_no h0 ht (.inl rfl) hc ⟨by decide, by decide⟩ ⟨by decide, by decide⟩ (by omega) (fun w hw => by subst hw; rw [if_pos rfl])
theorem copy_md (h0 : sMod SH) (hW : wfW W) (h : mdR S N W) {g p o q y : Int} (hg : rg g) (hp : rg p) (ho : rg o) (hq : rg q) : MD sc MX11_copy [some (.ref 90), some (.int (I g)), some (.int (I p)), some (.int (I o)), some (.int (I q))] SH S N y (copyF W g p o q).1 (copyF W g p o q).2 := by
  have ht : up S 90 4 0 90 4 = 0 := up_eq _ _ _ _
  obtain ⟨hm, hr⟩ := mdS (x := 0) hW h
  obtain ⟨tg, tm, tmp, tr, tf, t90⟩ := trS_ok (sc := sc) h0 hW h
  have hP := hW.1
  have hP7 := hP.2.2.2.2.2.1
  unfold copyF
  by_cases c1 : plc W.1 g p = -1
  · rw [if_pos c1]
    refine MD_exc (v := 0) hW h (qX11_copy_0 h0 ⟨_, _, isP_no h0 hm hP ht hg hp c1, ?_⟩)
    rw [if_pos rfl]
  rw [if_neg c1]
  have hpr := plc_rg hP c1
  by_cases c2 : plc W.1 o q = -1
  · rw [if_pos c2]
    refine MD_exc (v := 0) hW h (qX11_copy_0 h0 ⟨_, _, isP_yes h0 hm hP ht hg hp c1, ?_⟩)
    rw [if_neg (by decide)]
    refine ⟨_, _, isP_no h0 hm hP ht ho hq c2, ?_⟩
    rw [if_pos rfl]
  rw [if_neg c2]
  have hpr2 := plc_rg hP c2
  have h97 := tr97 hP h c1 tmp
  have h97' := tr97 hP h c2 tmp
  obtain ⟨S1, g1, s1, f1⟩ := rsay_ok (sc := sc) (u := none) h0 (b := 1654) ⟨by decide, by decide⟩ tr hW.2.1.1 (p := plc W.1 o q) ⟨by omega, by omega⟩
  have m1 : modP S1 W.1 := ⟨by rw [f1 90 (by decide)]; exact tmp.1, by rw [f1 95 (by decide)]; exact tmp.2.1, by rw [f1 96 (by decide)]; exact tmp.2.2.1, by rw [f1 97 (by decide)]; exact tmp.2.2.2.1, by rw [f1 98 (by decide)]; exact tmp.2.2.2.2⟩
  obtain ⟨S2, g2, r2, f2⟩ := rput_ok (sc := sc) (u3 := none) (u4 := none) (u5 := none) (u6 := none) h0 (b := 1654) ⟨by decide, by decide⟩ m1 hP (refR_far tr (f1 91 (by decide))) hW.2.1.1 (p := plc W.1 g p) hpr.2.2.2 s1
  refine MD_act h0 hW h (put_rg _ _ _ _) (wf_put hP hW.2.1.1 hpr.2.2.2 (cellsA_rg hW.2.1.1 _)) (Int.le_refl _) ⟨S2, r2, ⟨fun i hi => by rw [f2.1 i hi, f1 91 (by decide)], fun j j1 j2 j3 j4 => by rw [f2.2 j j2, f1 j j4], fun i _ => by rw [f2.2 90 (by decide), f1 90 (by decide)]⟩, fun v S3 gd => qX11_copy_0 h0 ⟨_, _, isP_yes h0 hm hP ht hg hp c1, ?_⟩⟩
  rw [if_neg (by decide)]
  refine ⟨_, _, isP_yes h0 hm hP ht ho hq c2, ?_⟩
  rw [if_neg (by decide)]
  refine ⟨_, tg, ⟨h97'.2.1, h97'.2.2⟩, S1, ?_, ⟨h97.2.1, h97.2.2⟩, _, S2, ?_, _, _, gd, rfl⟩
  · rw [h97'.1]; exact g1
  · rw [f1 97 (by decide), h97.1]; exact g2
theorem drop_md (h0 : sMod SH) (hW : wfW W) (h : mdR S N W) {g p y : Int} (hg : rg g) (hp : rg p) : MD sc MX11_drop [some (.ref 90), some (.int (I g)), some (.int (I p))] SH S N y (dropF W g p).1 (dropF W g p).2 := by
  have ht : up S 90 4 0 90 4 = 0 := up_eq _ _ _ _
  obtain ⟨hm, hr⟩ := mdS (x := 0) hW h
  obtain ⟨tg, tm, tmp, tr, tf, t90⟩ := trS_ok (sc := sc) h0 hW h
  have hP := hW.1
  have hP7 := hP.2.2.2.2.2.1
  unfold dropF
  by_cases c1 : plc W.1 g p = -1
  · rw [if_pos c1]
    refine MD_exc (v := 0) hW h (qX11_drop_0 h0 ⟨_, _, isP_no h0 hm hP ht hg hp c1, ?_⟩)
    rw [if_pos rfl]
  rw [if_neg c1]
  have hpr := plc_rg hP c1
  have h97 := tr97 hP h c1 tmp
  obtain ⟨S2, g2, r2, f2⟩ := rdrop_ok (sc := sc) (u := none) h0 (b := 1654) ⟨by decide, by decide⟩ tr hW.2.1.1 (p := plc W.1 g p) ⟨by omega, by omega⟩
  refine MD_act h0 hW h (drop_rg _ _) (wf_drop hP hW.2.1.1 hpr.2.2.2) (Int.le_refl _) ⟨S2, r2, modG_F f2, fun v S3 gd => qX11_drop_0 h0 ⟨_, _, isP_yes h0 hm hP ht hg hp c1, ?_⟩⟩
  rw [if_neg (by decide)]
  refine ⟨_, tg, ⟨h97.2.1, h97.2.2⟩, _, S2, ?_, _, _, gd, rfl⟩
  rw [h97.1]; exact g2
theorem wf_advX (hW : wfW W) {a b as : Int} (ha : 0 ≤ a ∧ a < W.1 0 7) (hb : 0 ≤ b ∧ b < W.1 0 7) : wfA W.1 (advX W a b as).2 := by
  unfold advX
  by_cases c : as = 0
  · rw [if_pos c]
    by_cases d : a ≤ b
    · exact wf_noMore hW.1 _ _ hW.2.1.1 ha.1 (by omega)
    · rw [show (b - a + 1).toNat = 0 by omega]; exact hW.2.1.1
  · rw [if_neg c]; exact wf_adv _ _ hW.2.1.1
theorem advise_md (h0 : sMod SH) (hW : wfW W) (h : mdR S N W) {g f t as y : Int} (hg : rg g) (hf : rg f) (ht' : rg t) (has : as = 0 ∨ as = 1) {u : Option Value} : MD sc MX11_advise [some (.ref 90), some (.int (I g)), some (.int (I f)), some (.int (I t)), some (.int (I as)), u] SH S N y (adviseF W g f t as).1 (adviseF W g f t as).2 := by
  have ht : up S 90 4 0 90 4 = 0 := up_eq _ _ _ _
  obtain ⟨hm, hr⟩ := mdS (x := 0) hW h
  obtain ⟨tg, tm, tmp, tr, tf, t90⟩ := trS_ok (sc := sc) h0 hW h
  have hP := hW.1
  have hP7 := hP.2.2.2.2.2.1
  unfold adviseF
  by_cases c1 : plc W.1 g f = -1
  · rw [if_pos c1]
    refine MD_exc (v := 0) hW h (qX11_advise_0 h0 ⟨_, _, isP_no h0 hm hP ht hg hf c1, ?_⟩)
    rw [if_pos rfl]
  rw [if_neg c1]
  have hpr := plc_rg hP c1
  by_cases c2 : plc W.1 g t = -1
  · rw [if_pos c2]
    refine MD_exc (v := 0) hW h (qX11_advise_0 h0 ⟨_, _, isP_yes h0 hm hP ht hg hf c1, ?_⟩)
    rw [if_neg (by decide)]
    refine ⟨_, _, isP_no h0 hm hP ht hg ht' c2, ?_⟩
    rw [if_pos rfl]
  rw [if_neg c2]
  have hpr2 := plc_rg hP c2
  have h97 := tr97 hP h c1 tmp
  have h97' := tr97 hP h c2 tmp
  have hx := advX_rg (as := as) hP hpr.2.2.2 hpr2.2.2.2
  have hzr : rg (zno (advX W (plc W.1 g f) (plc W.1 g t) as)).1 := by
    unfold zno
    by_cases z : (advX W (plc W.1 g f) (plc W.1 g t) as).1 = 0
    · rw [if_pos z]; exact ⟨by dsimp only; decide, by dsimp only; decide⟩
    · rw [if_neg z]; exact ⟨by omega, by omega⟩
  obtain ⟨⟨S2, q2, r2, f2⟩, ⟨S3, q3, r3, f3⟩⟩ := radvX_ok (sc := sc) (u := none) (u' := none) h0 tmp hP (b := 1654) ⟨by decide, by decide⟩ tr hW.2.1.1 hpr.2.2.2 hpr2.2.2.2
  have st : ∀ r, (if I as = I 0 then (∃ v106 S107, G sc MX11_advises 0 [some (.ref 90), some (.int (I 1654)), some (.int (I (plc W.1 g f))), some (.int (I (plc W.1 g t))), some (.int (I 0)), none, none] [] SH (trS S) (rI v106 SH S107) ∧ (if I v106 = I 0 then (∃ v110 S111, G sc MX11_does 0 [some (.ref 90), some (.int (I (-1)))] [] SH S107 (rI v110 SH S111) ∧ r = rI v110 SH S111) else (∃ v108 S109, G sc MX11_does 0 [some (.ref 90), some (.int (I v106))] [] SH S107 (rI v108 SH S109) ∧ r = rI v108 SH S109))) else (∃ v112 S113, G sc MX11_advises 0 [some (.ref 90), some (.int (I 1654)), some (.int (I (plc W.1 g f))), some (.int (I (plc W.1 g t))), some (.int (I 1)), none, none] [] SH (trS S) (rI v112 SH S113) ∧ (if I v112 = I 0 then (∃ v116 S117, G sc MX11_does 0 [some (.ref 90), some (.int (I (-1)))] [] SH S113 (rI v116 SH S117) ∧ r = rI v116 SH S117) else (∃ v114 S115, G sc MX11_does 0 [some (.ref 90), some (.int (I v112))] [] SH S113 (rI v114 SH S115) ∧ r = rI v114 SH S115)))) → G sc MX11_advise 0 [some (.ref 90), some (.int (I g)), some (.int (I f)), some (.int (I t)), some (.int (I as)), u] [] SH S r := by
    intro r q
    refine qX11_advise_0 h0 ⟨_, _, isP_yes h0 hm hP ht hg hf c1, ?_⟩
    rw [if_neg (by decide)]
    refine ⟨_, _, isP_yes h0 hm hP ht hg ht' c2, ?_⟩
    rw [if_neg (by decide)]
    refine ⟨_, tg, ⟨h97.2.1, h97.2.2⟩, ⟨h97.2.1, h97.2.2⟩, ?_⟩
    rw [h97.1, h97'.1]
    exact q
  refine MD_act h0 hW h hzr (wf_advX hW hpr.2.2.2 hpr2.2.2.2) (Int.le_refl _) ?_
  unfold zno advX at *
  rcases has with rfl | rfl
  · rw [if_pos rfl] at *
    refine ⟨S3, r3, f3, fun v S4 gd => st _ ?_⟩
    rw [if_pos rfl]
    refine ⟨_, _, q3, ?_⟩
    by_cases z : (noMore W.1 (plc W.1 g t - plc W.1 g f + 1).toNat (plc W.1 g f) W.2.1.1).1 = 0
    · dsimp only at gd
      rw [if_pos z] at gd
      rw [if_pos (by rw [z])]; exact ⟨_, _, gd, rfl⟩
    · dsimp only at gd
      rw [if_neg z] at gd
      rw [if_neg (by rw [I_eq ⟨by omega, by omega⟩ ⟨by decide, by decide⟩]; exact z)]; exact ⟨_, _, gd, rfl⟩
  · rw [if_neg (show ¬((1 : Int) = 0) by decide)] at *
    refine ⟨S2, r2, f2, fun v S4 gd => st _ ?_⟩
    rw [if_neg (by decide)]
    refine ⟨_, _, q2, ?_⟩
    by_cases z : (advAll (plc W.1 g t - plc W.1 g f + 1).toNat (plc W.1 g f) W.2.1.1).1 = 0
    · dsimp only at gd
      rw [if_pos z] at gd
      rw [if_pos (by rw [z])]; exact ⟨_, _, gd, rfl⟩
    · dsimp only at gd
      rw [if_neg z] at gd
      rw [if_neg (by rw [I_eq ⟨by omega, by omega⟩ ⟨by decide, by decide⟩]; exact z)]; exact ⟨_, _, gd, rfl⟩
theorem scan_md (h0 : sMod SH) (hW : wfW W) (h : mdR S N W) (hN : N < 2000000000) {n y : Int} (hn : rg n) : MD sc MX11_scan [some (.ref 90), some (.int (I n))] SH S (N + 100) y (scanF W n).1 (scanF W n).2 := by
  obtain ⟨tg, tm, tmp, tr, tf, t90⟩ := trS_ok (sc := sc) h0 hW h
  have hP := hW.1
  have hw := within_ok (sc := sc) (SH := SH) (S := up S 90 4 0) hn (lo := 1) ⟨by decide, by decide⟩ (hi := 100) ⟨by decide, by decide⟩
  unfold scanF
  by_cases c : 1 ≤ n ∧ n ≤ 100
  · rw [if_neg (fun q => q c)]
    rw [if_pos c] at hw
    obtain ⟨S2, g2, r2, f2⟩ := rscans_ok (sc := sc) (u3 := none) (u4 := none) (u5 := none) h0 (b := 1654) ⟨by decide, by decide⟩ hP tmp tr hW.2.1.1 (n := n.toNat) (by omega) (by omega)
    rw [show ((n.toNat : Nat) : Int) = n by omega] at g2 r2
    have hrr := scanN_rg W.1 n.toNat W.2.1.1
    refine MD_act h0 hW h ⟨by omega, by omega⟩ (wf_scanN hP _ hW.2.1.1) (by omega) ⟨S2, refR_N r2 (by omega), f2, fun v S3 gd => qX11_scan_0 h0 ⟨_, _, hw, ?_⟩⟩
    rw [if_neg (by decide)]
    exact ⟨_, tg, _, _, g2, _, _, gd, rfl⟩
  · rw [if_pos c]
    rw [if_neg c] at hw
    refine MD_ref h0 hW (mdR_N h (by omega)) (fun S' g => qX11_scan_0 h0 ⟨_, _, hw, ?_⟩)
    rw [if_pos rfl]
    exact ⟨_, _, g, rfl⟩
theorem ticks_md (h0 : sMod SH) (hW : wfW W) (h : mdR S N W) (hN : N < 2000000000) {n y : Int} (hn : rg n) : MD sc MX11_ticks [some (.ref 90), some (.int (I n))] SH S (N + 320) y (ticksF W n).1 (ticksF W n).2 := by
  obtain ⟨tg, tm, tmp, tr, tf, t90⟩ := trS_ok (sc := sc) h0 hW h
  have hP := hW.1
  have hT := hW.2.2.1.1
  unfold okT at hT
  have hw := within_ok (sc := sc) (SH := SH) (S := up S 90 4 0) hn (lo := 1) ⟨by decide, by decide⟩ (hi := 20) ⟨by decide, by decide⟩
  have e2 : up S 90 4 0 91 2 = W.2.1.1.v 6 2 := by
    have q := h.2.1.1.1 2 (by decide) (by decide)
    rw [up_ne (by decide)]
    exact q
  unfold ticksF
  by_cases c : 1 ≤ n ∧ n ≤ 20
  · rw [if_neg (fun q => q c)]
    rw [if_pos c] at hw
    by_cases c2 : 9999 < W.2.1.1.v 6 2 + n
    · rw [if_pos c2]
      refine MD_ref h0 hW (mdR_N h (by omega)) (fun S' g => qX11_ticks_0 h0 ⟨_, _, hw, ?_⟩)
      rw [if_neg (by decide), e2]
      refine ⟨by decide, ?_⟩
      rw [if_neg (by rw [I_le ⟨by omega, by omega⟩ ⟨by decide, by decide⟩]; omega)]
      exact ⟨_, _, g, rfl⟩
    · rw [if_neg c2]
      obtain ⟨S2, g2, r2, f2⟩ := rticks_ok (sc := sc) (u3 := none) (u4 := none) h0 (b := 1654) ⟨by decide, by decide⟩ hP tmp tr hW.2.1.1 (n := n.toNat) (by omega) (by omega)
      rw [show ((n.toNat : Nat) : Int) = n by omega] at g2 r2
      have et := tm_tick W.1 n.toNat W.2.1.1
      have m2 := mdR_N (mdR_mod hW tm f2) (show N ≤ N + 320 by omega)
      obtain ⟨S3, g3, k3, f3, f4, r3⟩ := does_yes (sc := sc) h0 hW m2 (refR_N r2 (show N + 16 * n ≤ N + 320 by omega)) (wf_tick hP n.toNat hW.2.1.1) (v := 0) ⟨by decide, by decide⟩ (by decide)
      have ev : S3 91 2 = (tickA W.1 n.toNat W.2.1.1).2.v 6 2 := r3.1 2 (by decide) (by decide)
      unfold actF
      rw [if_neg (by dsimp only; omega)]
      refine ⟨_, S3, qX11_ticks_0 h0 ⟨_, _, hw, ?_⟩, k3, fun y e => by cases e; exact ⟨rfl, by rw [f4 4 (by decide) (by decide), f2.2.2 4 (by decide), t90, up_eq]⟩, fun k e => (by cases e), fun j hj => by rw [f3 j (by omega), f2.2.1 j (by omega) (by omega) (by omega) (by omega), tf j (by omega)]⟩
      rw [if_neg (by decide), e2]
      refine ⟨by decide, ?_⟩
      rw [if_pos (by rw [I_le ⟨by omega, by omega⟩ ⟨by decide, by decide⟩]; omega)]
      refine ⟨_, tg, _, _, g2, _, _, g3, by decide, ?_⟩
      rw [ev]
  · rw [if_pos c]
    rw [if_neg c] at hw
    refine MD_ref h0 hW (mdR_N h (by omega)) (fun S' g => qX11_ticks_0 h0 ⟨_, _, hw, ?_⟩)
    rw [if_pos rfl]
    exact ⟨_, _, g, rfl⟩
theorem rate_md (h0 : sMod SH) (hW : wfW W) (h : mdR S N W) {n y : Int} (hn : rg n) {u : Option Value} : MD sc MX11_rate [some (.ref 90), some (.int (I n)), u] SH S N y (rateF W n).1 (rateF W n).2 := by
  obtain ⟨tg, tm, tmp, tr, tf, t90⟩ := trS_ok (sc := sc) h0 hW h
  obtain ⟨hm, hr⟩ := mdS (x := 0) hW h
  have hP := hW.1
  have hP2 := hP.2.2.1
  have hA := hW.2.1.1
  have hr0 := hA.2.2.2.2.2.2.2.2.2.2.2.2.1
  have e14 : up S 90 4 0 90 14 = W.1 0 2 := hm.1 2 (by decide) (by decide)
  have e15 : up S 90 4 0 90 15 = W.1 0 3 := hm.1 3 (by decide) (by decide)
  have e0 : up S 90 4 0 91 0 = W.2.1.1.v 6 0 := hr.1 0 (by decide) (by decide)
  have hw := within_ok (sc := sc) (SH := SH) (S := up S 90 4 0) hn (lo := W.1 0 2) ⟨by omega, by omega⟩ (hi := W.1 0 3) ⟨by omega, by omega⟩
  have st : ∀ r, _ → G sc MX11_rate 0 [some (.ref 90), some (.int (I n)), u] [] SH S r := fun r q => qX11_rate_0 h0 q
  rw [e14, e15, e0] at st
  unfold rateF
  by_cases c : W.1 0 2 ≤ n ∧ n ≤ W.1 0 3
  · rw [if_neg (fun q => q c)]
    rw [if_pos c] at hw
    by_cases c2 : n = W.2.1.1.v 6 0
    · rw [if_pos c2]
      refine MD_ref h0 hW h (fun S' g => st _ ⟨by decide, _, _, hw, ?_⟩)
      rw [if_neg (by decide), if_pos (by rw [c2])]
      exact ⟨_, _, g, rfl⟩
    · rw [if_neg c2]
      refine MD_act h0 hW h (x := (W.2.1.1.v 6 0, W.2.1.1.sv 6 0 n)) ⟨by dsimp only; omega, by dsimp only; omega⟩ (wf_v6 hA (fun _ => ⟨by omega, by omega⟩) (fun q => absurd q (by decide)) (fun q => absurd q (by decide))) (Int.le_refl _) ⟨up (trS S) 91 (1654 + 0) n, refR_v6 tr hA.2.1 ⟨by decide, by decide⟩, ⟨fun i hi => by rw [up_at, if_neg (by omega)], fun j _ h2 _ _ => up_ne h2, fun i _ => by rw [up_ne (by decide)]⟩, fun v S3 gd => st _ ⟨by decide, _, _, hw, ?_⟩⟩
      rw [if_neg (by decide), if_neg (by rw [I_eq hn ⟨by omega, by omega⟩]; exact c2)]
      exact ⟨_, tg, by decide, _, _, gd, rfl⟩
  · rw [if_pos c]
    rw [if_neg c] at hw
    refine MD_ref h0 hW h (fun S' g => st _ ⟨by decide, _, _, hw, ?_⟩)
    rw [if_pos rfl]
    exact ⟨_, _, g, rfl⟩
end
