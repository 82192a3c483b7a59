/-! ===== the reference answers what it is asked ===== -/
theorem mbR_F {S S' : mStore} {P : aP} {z y iA iF iN w r N : Int} {B : aB} (hB : wfB P B) (h : mbR S z y iA iF iN w r N B) (hz : z = 0 ∨ 3308 ≤ z) (hy : 3308 ≤ y) (h91 : ∀ i, (0 ≤ i ∧ i < 1654) ∨ 3308 ≤ i → S' 91 i = S 91 i) (hi : (5 ≤ iA ∧ iA ≤ 26) ∧ (5 ≤ iF ∧ iF ≤ 26) ∧ (5 ≤ iN ∧ iN ≤ 26)) (h90 : ∀ i, 5 ≤ i → i ≤ 26 → S' 90 i = S 90 i) (hj : ∀ j, 92 ≤ j → j ≤ 99 → S' j = S j) : mbR S' z y iA iF iN w r N B := by
  obtain ⟨r1, r2, r3, r4, r5, r6, r7⟩ := h
  have eF := h90 iF hi.2.1.1 hi.2.1.2
  refine ⟨refR_F r1 hB.1.2.1 (fun i h1 h2 _ => h91 i (by omega)), by rw [h90 iA hi.1.1 hi.1.2]; exact r2, by rw [eF]; exact r3, fun k A hk => ?_, by rw [h90 iN hi.2.2.1 hi.2.2.2]; exact r5, ?_, ?_⟩
  · rw [eF]
    have hm := List.mem_of_getElem? hk
    exact refR_F (r4 k A hk) (hB.2.1 A hm).2.1 (fun i h1 h2 _ => h91 i (by omega))
  · rw [hj 92 (by decide) (by decide), hj 93 (by decide) (by decide)]; exact r6
  · rw [hj 94 (by decide) (by decide)]; exact r7
theorem mdR_F {S S' : mStore} {N : Int} {W : aW} (hW : wfW W) (h : mdR S N W) (h91 : ∀ i, (0 ≤ i ∧ i < 1654) ∨ 3308 ≤ i → S' 91 i = S 91 i) (h90 : ∀ i, 5 ≤ i → i ≤ 26 → S' 90 i = S 90 i) (hj : ∀ j, 92 ≤ j → j ≤ 99 → S' j = S j) : mdR S' N W := by
  obtain ⟨m, b, i, t, f, a⟩ := h
  refine ⟨⟨fun i h1 h2 => by rw [h90 _ (by omega) (by omega)]; exact m.1 i h1 h2, ?_, ?_, ?_, ?_⟩, ?_, ⟨fun hn => by rw [h90 _ (by decide) (by decide)]; exact i.1 hn, fun B hB => ⟨by rw [h90 _ (by decide) (by decide)]; exact (i.2 B hB).1, ?_⟩⟩, ?_, ?_, ?_⟩
  · rw [hj 95 (by decide) (by decide)]; exact m.2.1
  · rw [hj 96 (by decide) (by decide)]; exact m.2.2.1
  · rw [hj 97 (by decide) (by decide)]; exact m.2.2.2.1
  · rw [hj 98 (by decide) (by decide)]; exact m.2.2.2.2
  · exact mbR_F hW.2.1 b (.inl rfl) (by decide) h91 (by decide) h90 hj
  · exact mbR_F (hW.2.2.2.1 B hB).1 (i.2 B hB).2 (.inr (by decide)) (by decide) h91 (by decide) h90 hj
  · rw [hj 99 (by decide) (by decide)]; exact t
  · rw [h90 _ (by decide) (by decide)]; exact f
  · rw [h90 _ (by decide) (by decide)]; exact a
theorem mdR_thr {S : mStore} {N x : Int} {W : aW} (hW : wfW W) (h : mdR S N W) : mdR (up S 90 4 x) N W :=
  mdR_F hW h (fun i _ => by rw [up_ne (by decide)]) (fun i h1 h2 => by rw [up_at, if_neg (by omega)]) (fun j h1 h2 => up_ne (by omega))
section
variable {sc : Nat × (Nat → Int32)} {SH : List mCell} {S : mStore} {N : Int} {W : aW} {P : aP}
theorem MD_val {M : mM} {ls : List (Option Value)} {v x : Int} (hW : wfW W) (h : mdR S N W) (g : G sc M 0 ls [] SH S (rI v SH (up S 90 4 0))) : MD sc M ls SH S N x (.inl v) W :=
  ⟨v, up S 90 4 0, g, mdR_thr hW h, fun y e => by cases e; exact ⟨rfl, up_eq _ _ _ _⟩, fun k e => (by cases e), fun j hj => up_ne (by omega)⟩
theorem MD_exc {M : mM} {ls : List (Option Value)} {v x : Int} (hW : wfW W) (h : mdR S N W) (g : G sc M 0 ls [] SH S (rI v SH (up (up S 90 4 0) 90 4 1))) : MD sc M ls SH S N x (.inr 0) W :=
  ⟨v, up (up S 90 4 0) 90 4 1, g, mdR_thr hW (mdR_thr hW h), fun y e => (by cases e), fun k e => by cases e; exact up_eq _ _ _ _, fun j hj => by rw [up_ne (by omega), up_ne (by omega)]⟩
theorem MD_arg {M : mM} {ls : List (Option Value)} {v x : Int} (hW : wfW W) (h : mdR S N W) (g : G sc M 0 ls [] SH S (rI v SH (up (up S 90 4 0) 90 4 x))) : MD sc M ls SH S N x (.inr 1) W :=
  ⟨v, up (up S 90 4 0) 90 4 x, g, mdR_thr hW (mdR_thr hW h), fun y e => (by cases e), fun k e => by cases e; exact up_eq _ _ _ _, fun j hj => by rw [up_ne (by omega), up_ne (by omega)]⟩
theorem within_ok {v lo hi : Int} (hv : rg v) (hl : rg lo) (hh : rg hi) : G sc MX11_within 0 [some (.int (I v)), some (.int (I lo)), some (.int (I hi))] [] SH S (rI (if lo ≤ v ∧ v ≤ hi then 1 else 0) SH S) := by
  refine qX11_within_0 ?_
  by_cases c1 : v < lo
  · rw [if_pos (by rw [I_lt hv hl]; exact c1), if_neg (by omega)]; exact ⟨.inl rfl, rfl⟩
  · rw [if_neg (by rw [I_lt hv hl]; exact c1)]
    by_cases c2 : hi < v
    · rw [if_pos (by rw [I_lt hh hv]; exact c2), if_neg (by omega)]; exact ⟨.inl rfl, rfl⟩
    · rw [if_neg (by rw [I_lt hh hv]; exact c2), if_pos (by omega)]; exact ⟨.inr rfl, rfl⟩
theorem right_yes (h0 : sMod SH) (ht : S 90 4 = 0) {x : Int} : G sc MX11_right 0 [some (.ref 90), some (.int (I 1)), some (.int (I x))] [] SH S (rI 1 SH S) := by
  refine qX11_right_0 h0 ?_
  rw [ht, if_pos rfl, if_neg (by decide), if_pos rfl]
  exact ⟨.inr rfl, rfl⟩
theorem right_no (h0 : sMod SH) (ht : S 90 4 = 0) {x : Int} (hx : x = 1 ∨ x = 2) : G sc MX11_right 0 [some (.ref 90), some (.int (I 0)), some (.int (I x))] [] SH S (rI 0 SH (up S 90 4 x)) := by
  refine qX11_right_0 h0 ?_
  rw [ht, if_pos rfl, if_pos rfl, up_eq, if_neg (by rcases hx with rfl | rfl <;> decide)]
  exact ⟨.inl rfl, rfl⟩
/-- within and right in one -/
theorem wr_yes (h0 : sMod SH) (ht : S 90 4 = 0) {v lo hi x : Int} (hv : rg v) (hl : rg lo) (hh : rg hi) (h : lo ≤ v ∧ v ≤ hi) {Q : Int → mStore → Prop} (hq : ∀ w, w = 1 → Q w S) : ∃ v1 S1, G sc MX11_within 0 [some (.int (I v)), some (.int (I lo)), some (.int (I hi))] [] SH S (rI v1 SH S1) ∧ ∃ v2 S2, G sc MX11_right 0 [some (.ref 90), some (.int (I v1)), some (.int (I x))] [] SH S1 (rI v2 SH S2) ∧ Q v2 S2 := by
  have q := within_ok (sc := sc) (SH := SH) (S := S) hv hl hh
  rw [if_pos h] at q
  exact ⟨_, _, q, _, _, right_yes h0 ht, hq 1 rfl⟩
theorem wr_no (h0 : sMod SH) (ht : S 90 4 = 0) {v lo hi x : Int} (hx : x = 1 ∨ x = 2) (hv : rg v) (hl : rg lo) (hh : rg hi) (h : ¬(lo ≤ v ∧ v ≤ hi)) {Q : Int → mStore → Prop} (hq : ∀ w, w = 0 → Q w (up S 90 4 x)) : ∃ v1 S1, G sc MX11_within 0 [some (.int (I v)), some (.int (I lo)), some (.int (I hi))] [] SH S (rI v1 SH S1) ∧ ∃ v2 S2, G sc MX11_right 0 [some (.ref 90), some (.int (I v1)), some (.int (I x))] [] SH S1 (rI v2 SH S2) ∧ Q v2 S2 := by
  have q := within_ok (sc := sc) (SH := SH) (S := S) hv hl hh
  rw [if_neg h] at q
  exact ⟨_, _, q, _, _, right_no h0 ht hx, hq 0 rfl⟩
theorem isG_yes (h0 : sMod SH) (hm : modP S P) (hP : wfP P) (ht : S 90 4 = 0) {g : Int} (hg : rg g) (h : 0 ≤ g ∧ g < P 0 6) : G sc MX11_isGuest 0 [some (.ref 90), some (.int (I g))] [] SH S (rI 1 SH S) := by
  have hP6 := hP.2.2.2.2.1
  refine qX11_isGuest_0 h0 ?_
  rw [show S 90 18 = P 0 6 from hm.1 6 (by omega) (by omega)]
  exact wr_yes h0 ht hg ⟨by decide, by decide⟩ ⟨by omega, by omega⟩ ⟨h.1, by omega⟩ (fun w hw => by subst hw; exact ⟨.inr rfl, rfl⟩)
theorem isG_no (h0 : sMod SH) (hm : modP S P) (hP : wfP P) (ht : S 90 4 = 0) {g : Int} (hg : rg g) (h : ¬(0 ≤ g ∧ g < P 0 6)) : G sc MX11_isGuest 0 [some (.ref 90), some (.int (I g))] [] SH S (rI 0 SH (up S 90 4 1)) := by
  have hP6 := hP.2.2.2.2.1
  refine qX11_isGuest_0 h0 ?_
  rw [show S 90 18 = P 0 6 from hm.1 6 (by omega) (by omega)]
  exact wr_no h0 ht (.inl rfl) hg ⟨by decide, by decide⟩ ⟨by omega, by omega⟩ (by omega) (fun w hw => by subst hw; exact ⟨.inl rfl, rfl⟩)
theorem isP_yes (h0 : sMod SH) (hm : modP S P) (hP : wfP P) (ht : S 90 4 = 0) {g p : Int} (hg : rg g) (hp : rg p) (h : plc P g p ≠ -1) : G sc MX11_isPage 0 [some (.ref 90), some (.int (I g)), some (.int (I p))] [] SH S (rI 1 SH S) := by
  have hP6 := hP.2.2.2.2.1
  obtain ⟨h1, h2, h3, h4, h5⟩ := plc_rg hP h
  have hw := hP.2.2.2.2.2.2.1 g h1.1 h1.2
  refine qX11_isPage_0 h0 ⟨_, _, isG_yes h0 hm hP ht hg h1, ?_⟩
  rw [if_neg (by decide), show S 95 g = P 1 g from hm.2.1 g h1.1 h1.2]
  exact ⟨⟨by omega, by omega⟩, wr_yes h0 ht hp ⟨by decide, by decide⟩ ⟨by omega, by omega⟩ ⟨h2.1, by omega⟩ (fun w hw => by subst hw; rw [if_neg (by decide)]; exact ⟨.inr rfl, rfl⟩)⟩
theorem isP_no (h0 : sMod SH) (hm : modP S P) (hP : wfP P) (ht : S 90 4 = 0) {g p : Int} (hg : rg g) (hp : rg p) (h : plc P g p = -1) : G sc MX11_isPage 0 [some (.ref 90), some (.int (I g)), some (.int (I p))] [] SH S (rI 0 SH (up S 90 4 1)) := by
  have hP6 := hP.2.2.2.2.1
  by_cases h1 : 0 ≤ g ∧ g < P 0 6
  · have hw := hP.2.2.2.2.2.2.1 g h1.1 h1.2
    have h2 : ¬(0 ≤ p ∧ p < P 1 g) := fun q => by
      unfold plc at h
      rw [if_pos ⟨h1, q⟩] at h
      omega
    refine qX11_isPage_0 h0 ⟨_, _, isG_yes h0 hm hP ht hg h1, ?_⟩
    rw [if_neg (by decide), show S 95 g = P 1 g from hm.2.1 g h1.1 h1.2]
    exact ⟨⟨by omega, by omega⟩, wr_no h0 ht (.inl rfl) hp ⟨by decide, by decide⟩ ⟨by omega, by omega⟩ (by omega) (fun w hw => by subst hw; rw [if_pos rfl]; exact ⟨.inl rfl, rfl⟩)⟩
  · refine qX11_isPage_0 h0 ⟨_, _, isG_no h0 hm hP ht hg h1, ?_⟩
    rw [if_pos rfl]
    exact ⟨.inl rfl, rfl⟩
theorem told_ok (h0 : sMod SH) (hm : modP S P) (hP : wfP P) {p : Int} (hp : 0 ≤ p ∧ p < P 0 7) : G sc MX11_told 0 [some (.ref 90), some (.int (I p))] [] SH S (rI (lab P p) SH S) := by
  have hP6 := hP.2.2.2.2.1
  have hP7 := hP.2.2.2.2.2.1
  have hw := hP.2.2.2.2.2.2.2 p hp.1 hp.2
  refine qX11_told_0 h0 ?_
  rw [hm.2.2.2.2 p hp.1 hp.2, hm.2.2.2.1 _ hw.1 hw.2.1]
  exact ⟨⟨by omega, by omega⟩, ⟨by omega, by omega⟩, ⟨by omega, by omega⟩, rfl⟩
theorem mdS (hW : wfW W) (h : mdR S N W) {x : Int} : modP (up S 90 4 x) W.1 ∧ refR (up S 90 4 x) 0 W.2.1.1 N := by
  have q := mdR_thr (x := x) hW h
  exact ⟨q.1, q.2.1.1⟩
theorem count_md (h0 : sMod SH) (hW : wfW W) (h : mdR S N W) {x y : Int} (hx : rg x) : MD sc MX11_count [some (.ref 90), some (.int (I x))] SH S N y (countF W x) W := by
  have hx1 := hx.1
  have hx2 := hx.2
  have ht : up S 90 4 0 90 4 = 0 := up_eq _ _ _ _
  have hd := mdR_thr (x := 0) hW h
  obtain ⟨hm, hr⟩ := mdS (x := 0) hW h
  obtain ⟨hP, hB, hT⟩ := hW
  have hA := hB.1
  have hP7 := hP.2.2.2.2.2.1
  by_cases c : 0 ≤ x ∧ x ≤ 27
  · have r0 : rg 0 := ⟨by decide, by decide⟩

    have s1 : ∀ r, (swp x 0 (∃ v1 S1, G sc MX11_number0 0 [some (.ref 90), some (.int (I x))] [] SH (up S 90 4 0) (rI v1 SH S1) ∧ r = rI v1 SH S1) [r = rI (up S 90 4 0 90 12) SH (up S 90 4 0), (∃ v107 S108, G sc MX11_usedOf 0 [some (.ref 90), some (.int (I 0)), none, none] [] SH (up S 90 4 0) (rI v107 SH S108) ∧ r = rI v107 SH S108), (∃ v109 S110, G sc MX11_mergedFrames 0 [some (.ref 90), none, none] [] SH (up S 90 4 0) (rI v109 SH S110) ∧ r = rI v109 SH S110), r = rI (up S 90 4 0 90 18) SH (up S 90 4 0), r = rI (up S 90 4 0 90 19) SH (up S 90 4 0), (∃ v111 S112, G sc MX11_merged 0 [some (.ref 90), some (.int (I 0)), none, none] [] SH (up S 90 4 0) (rI v111 SH S112) ∧ r = rI v111 SH S112), (∃ v113 S114, G sc MX11_absent 0 [some (.ref 90), some (.int (I 0)), some (.int (I (up S 90 4 0 90 19))), none, none] [] SH (up S 90 4 0) (rI v113 SH S114) ∧ r = rI v113 SH S114), (∃ v115 S116, G sc MX11_advised 0 [some (.ref 90), some (.int (I 0)), some (.int (I (up S 90 4 0 90 19))), none, none] [] SH (up S 90 4 0) (rI v115 SH S116) ∧ r = rI v115 SH S116), (∃ v117 S118, G sc MX11_waiting 0 [some (.ref 90), some (.int (I 0))] [] SH (up S 90 4 0) (rI v117 SH S118) ∧ r = rI v117 SH S118), (((0 : Int) ≤ 1072 ∧ (1072 : Int) < 137400) ∧ (((0 : Int) ≤ 1169 ∧ (1169 : Int) < 137400) ∧ (((0 : Int) ≤ 1266 ∧ (1266 : Int) < 137400) ∧ r = rI (((up S 90 4 0 91 1072) + (up S 90 4 0 91 1169)) + (up S 90 4 0 91 1266)) SH (up S 90 4 0))))]) → G sc MX11_count 0 [some (.ref 90), some (.int (I x))] [] SH S r := by
      intro r g
      exact qX11_count_0 h0 (wr_yes h0 ht hx r0 ⟨by decide, by decide⟩ ⟨c.1, c.2⟩ (fun w hw => by subst hw; rw [if_neg (by decide)]; exact g))
    have e12 : up S 90 4 0 90 12 = W.1 0 0 := hm.1 0 (by omega) (by omega)
    have e18 : up S 90 4 0 90 18 = W.1 0 6 := hm.1 6 (by omega) (by omega)
    have e19 : up S 90 4 0 90 19 = W.1 0 7 := hm.1 7 (by omega) (by omega)
    unfold countF
    have s2 : ∀ r, 10 ≤ x → (swp x 10 (((0 : Int) ≤ x - 25 ∧ x - 25 < 6) ∧ r = rI (up S 90 4 0 94 (x - 25)) SH (up S 90 4 0)) [(((0 : Int) ≤ 0 ∧ (0 : Int) < 137400) ∧ r = rI (up S 90 4 0 91 0) SH (up S 90 4 0)), (((0 : Int) ≤ 1 ∧ (1 : Int) < 137400) ∧ r = rI (up S 90 4 0 91 1) SH (up S 90 4 0)), (((0 : Int) ≤ 2 ∧ (2 : Int) < 137400) ∧ r = rI (up S 90 4 0 91 2) SH (up S 90 4 0)), (((0 : Int) ≤ 3 ∧ (3 : Int) < 137400) ∧ r = rI (up S 90 4 0 91 3) SH (up S 90 4 0)), (((0 : Int) ≤ 4 ∧ (4 : Int) < 137400) ∧ r = rI (up S 90 4 0 91 4) SH (up S 90 4 0)), (((0 : Int) ≤ 5 ∧ (5 : Int) < 137400) ∧ r = rI (up S 90 4 0 91 5) SH (up S 90 4 0)), (((0 : Int) ≤ 6 ∧ (6 : Int) < 137400) ∧ r = rI (up S 90 4 0 91 6) SH (up S 90 4 0)), (((0 : Int) ≤ 7 ∧ (7 : Int) < 137400) ∧ r = rI (up S 90 4 0 91 7) SH (up S 90 4 0)), (((0 : Int) ≤ 8 ∧ (8 : Int) < 137400) ∧ r = rI (up S 90 4 0 91 8) SH (up S 90 4 0)), (((0 : Int) ≤ 9 ∧ (9 : Int) < 137400) ∧ r = rI (up S 90 4 0 91 9) SH (up S 90 4 0)), (((0 : Int) ≤ 10 ∧ (10 : Int) < 137400) ∧ r = rI (up S 90 4 0 91 10) SH (up S 90 4 0)), r = rI (up S 90 4 0 90 13) SH (up S 90 4 0), r = rI (up S 90 4 0 90 5) SH (up S 90 4 0), r = rI (up S 90 4 0 90 7) SH (up S 90 4 0), r = rI (up S 90 4 0 90 25) SH (up S 90 4 0)]) → (∃ v, r = rI v SH (up S 90 4 0)) → G sc MX11_count 0 [some (.ref 90), some (.int (I x))] [] SH S r := by
      rintro r h10 g ⟨v, rfl⟩
      exact s1 _ (swp_no 10 rfl hx (by decide) (by decide) (by omega) ⟨_, _, qX11_number0_0 h0 g, rfl⟩)
    have r10 : rg 10 := ⟨by decide, by decide⟩
    by_cases c1 : 10 ≤ x ∧ x ≤ 20
    · rw [if_pos c1]
      refine MD_val ⟨hP, hB, hT⟩ h (s2 _ c1.1 ?_ ⟨_, rfl⟩)
      have ev : ∀ k, 0 ≤ k → k < 12 → up S 90 4 0 91 k = W.2.1.1.v 6 k := fun k h1 h2 => by have := hr.1 k h1 h2; rw [Int.zero_add] at this; exact this
      rcases (by omega : x = 10 ∨ x = 11 ∨ x = 12 ∨ x = 13 ∨ x = 14 ∨ x = 15 ∨ x = 16 ∨ x = 17 ∨ x = 18 ∨ x = 19 ∨ x = 20) with q | q | q | q | q | q | q | q | q | q | q
      · exact swp_at 0 hx r10 (by omega) rfl ⟨by decide, by rw [ev _ (by decide) (by decide), q]; rfl⟩
      · exact swp_at 1 hx r10 (by omega) rfl ⟨by decide, by rw [ev _ (by decide) (by decide), q]; rfl⟩
      · exact swp_at 2 hx r10 (by omega) rfl ⟨by decide, by rw [ev _ (by decide) (by decide), q]; rfl⟩
      · exact swp_at 3 hx r10 (by omega) rfl ⟨by decide, by rw [ev _ (by decide) (by decide), q]; rfl⟩
      · exact swp_at 4 hx r10 (by omega) rfl ⟨by decide, by rw [ev _ (by decide) (by decide), q]; rfl⟩
      · exact swp_at 5 hx r10 (by omega) rfl ⟨by decide, by rw [ev _ (by decide) (by decide), q]; rfl⟩
      · exact swp_at 6 hx r10 (by omega) rfl ⟨by decide, by rw [ev _ (by decide) (by decide), q]; rfl⟩
      · exact swp_at 7 hx r10 (by omega) rfl ⟨by decide, by rw [ev _ (by decide) (by decide), q]; rfl⟩
      · exact swp_at 8 hx r10 (by omega) rfl ⟨by decide, by rw [ev _ (by decide) (by decide), q]; rfl⟩
      · exact swp_at 9 hx r10 (by omega) rfl ⟨by decide, by rw [ev _ (by decide) (by decide), q]; rfl⟩
      · exact swp_at 10 hx r10 (by omega) rfl ⟨by decide, by rw [ev _ (by decide) (by decide), q]; rfl⟩
    rw [if_neg c1]
    by_cases c2 : 25 ≤ x ∧ x ≤ 27
    · rw [if_pos c2]
      refine MD_val ⟨hP, hB, hT⟩ h (s2 _ (by omega) (swp_no 15 rfl hx (by decide) (by decide) (by omega) ⟨⟨by omega, by omega⟩, ?_⟩) ⟨_, rfl⟩)
      have q := hd.2.1.2.2.2.2.2.2 (x - 25) (by omega) (by omega)
      rw [Int.zero_add] at q
      rw [q]
    rw [if_neg c2]
    by_cases d : x = 0
    · rw [if_pos d]; exact MD_val ⟨hP, hB, hT⟩ h (s1 _ (swp_at 0 hx r0 (by omega) rfl (by rw [e12])))
    rw [if_neg d]
    by_cases d : x = 1
    · rw [if_pos d]; exact MD_val ⟨hP, hB, hT⟩ h (s1 _ (swp_at 1 hx r0 (by omega) rfl ⟨_, _, rused_ok h0 ⟨by decide, by decide⟩ hm hP hr, rfl⟩))
    rw [if_neg d]
    by_cases d : x = 2
    · rw [if_pos d]; exact MD_val ⟨hP, hB, hT⟩ h (s1 _ (swp_at 2 hx r0 (by omega) rfl ⟨_, _, rmfr_ok h0 hP hr hA, rfl⟩))
    rw [if_neg d]
    by_cases d : x = 3
    · rw [if_pos d]; exact MD_val ⟨hP, hB, hT⟩ h (s1 _ (swp_at 3 hx r0 (by omega) rfl (by rw [e18])))
    rw [if_neg d]
    by_cases d : x = 4
    · rw [if_pos d]; exact MD_val ⟨hP, hB, hT⟩ h (s1 _ (swp_at 4 hx r0 (by omega) rfl (by rw [e19])))
    rw [if_neg d]
    by_cases d : x = 5
    · rw [if_pos d]; exact MD_val ⟨hP, hB, hT⟩ h (s1 _ (swp_at 5 hx r0 (by omega) rfl ⟨_, _, rmerged_ok h0 ⟨by decide, by decide⟩ hm hP hr hA, rfl⟩))
    rw [if_neg d]
    by_cases d : x = 6
    · rw [if_pos d]; refine MD_val ⟨hP, hB, hT⟩ h (s1 _ (swp_at 6 hx r0 (by omega) rfl ⟨_, _, ?_, rfl⟩))
      have q := rabsent_ok (sc := sc) (u := none) (u' := none) h0 hr hA.1 (x := 0) (y := W.1 0 7) ⟨by omega, by omega, by omega⟩
      rw [Int.sub_zero] at q; rw [e19]; exact q
    rw [if_neg d]
    by_cases d : x = 7
    · rw [if_pos d]; refine MD_val ⟨hP, hB, hT⟩ h (s1 _ (swp_at 7 hx r0 (by omega) rfl ⟨_, _, ?_, rfl⟩))
      have q := radvis_ok (sc := sc) (u := none) (u' := none) h0 hr hA.2.2.2.2.2.2.2.2.2.2.2.1 (x := 0) (y := W.1 0 7) ⟨by omega, by omega, by omega⟩
      rw [Int.sub_zero] at q; rw [e19]; exact q
    rw [if_neg d]
    by_cases d : x = 8
    · rw [if_pos d]; exact MD_val ⟨hP, hB, hT⟩ h (s1 _ (swp_at 8 hx r0 (by omega) rfl ⟨_, _, rwait_ok h0 ⟨by decide, by decide⟩ hr, rfl⟩))
    rw [if_neg d]
    by_cases d : x = 9
    · rw [if_pos d]; refine MD_val ⟨hP, hB, hT⟩ h (s1 _ (swp_at 9 hx r0 (by omega) rfl ⟨by decide, by decide, by decide, ?_⟩))
      have l0 := (hr.2.2.2.2.2.2.2.2.2.2.2.2.2.1 0 (by omega) (by omega)).1
      have l1 := (hr.2.2.2.2.2.2.2.2.2.2.2.2.2.1 1 (by omega) (by omega)).1
      have l2 := (hr.2.2.2.2.2.2.2.2.2.2.2.2.2.1 2 (by omega) (by omega)).1
      rw [show up S 90 4 0 91 1072 = _ from l0, show up S 90 4 0 91 1169 = _ from l1, show up S 90 4 0 91 1266 = _ from l2]
      have ea : ((al W.2.1.1.ts).length : Int) = (lb (W.2.1.1.ts 0)).length + (lb (W.2.1.1.ts 1)).length + (lb (W.2.1.1.ts 2)).length := by
        unfold al; rw [List.length_append, List.length_append]; omega
      rw [fd_len, fd_len, fd_len, ea]
    rw [if_neg d]
    by_cases d : x = 21
    · rw [if_pos d]; exact MD_val ⟨hP, hB, hT⟩ h (s2 _ (by omega) (swp_at 11 hx r10 (by omega) rfl (by rw [show up S 90 4 0 90 13 = _ from hm.1 1 (by omega) (by omega)])) ⟨_, rfl⟩)
    rw [if_neg d]
    by_cases d : x = 22
    · rw [if_pos d]; exact MD_val ⟨hP, hB, hT⟩ h (s2 _ (by omega) (swp_at 12 hx r10 (by omega) rfl (by rw [hd.2.1.2.1])) ⟨_, rfl⟩)
    rw [if_neg d]
    by_cases d : x = 23
    · rw [if_pos d]; exact MD_val ⟨hP, hB, hT⟩ h (s2 _ (by omega) (swp_at 13 hx r10 (by omega) rfl (by rw [hd.2.1.2.2.2.2.1])) ⟨_, rfl⟩)
    rw [if_neg d]
    by_cases d : x = 24
    · rw [if_pos d]; exact MD_val ⟨hP, hB, hT⟩ h (s2 _ (by omega) (swp_at 14 hx r10 (by omega) rfl (by rw [hd.2.2.2.2.1])) ⟨_, rfl⟩)
    omega
  · have e : countF W x = .inr 0 := by
      unfold countF
      simp (disch := omega) only [ineg]
    rw [e]
    exact MD_exc ⟨hP, hB, hT⟩ h (qX11_count_0 h0 (wr_no h0 ht (.inl rfl) hx ⟨by decide, by decide⟩ ⟨by decide, by decide⟩ c (fun w hw => by subst hw; rw [if_pos rfl])))
end
