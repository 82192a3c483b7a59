/-! ===== the reference: undo, read, page, frame, chain ===== -/
section
variable {sc : Nat × (Nat → Int32)} {SH : List mCell} {S S' : mStore} {N N' : Int} {W : aW} {P : aP} {A : aS}
theorem undo_md (h0 : sMod SH) (hW : wfW W) (h : mdR S N W) {y : Int} : MD sc MX11_undo [some (.ref 90)] SH S N y (undoF W).1 (undoF W).2 := by
  have hH := hW.2.1.2.2.1
  have hd := mdR_thr (x := 0) hW h
  have e5 : up S 90 4 0 90 5 = W.2.1.2.1.length := hd.2.1.2.1
  have e6 := hd.2.1.2.2.1
  unfold undoF
  cases hq : W.2.1.2.1.getLast? with
  | none =>
    have hn : W.2.1.2.1 = [] := List.getLast?_eq_none_iff.mp hq
    refine MD_val hW h (qX11_undo_0 h0 ?_)
    rw [e5, hn, if_pos (show I (([] : List aS).length : Int) = I 0 from rfl)]
  | some A =>
    have hne : W.2.1.2.1 ≠ [] := fun q => by rw [q] at hq; cases hq
    have hpos : 0 < W.2.1.2.1.length := List.length_pos_iff.mpr hne
    have hk : W.2.1.2.1[W.2.1.2.1.length - 1]? = some A := by rw [← List.getLast?_eq_getElem?]; exact hq
    have hm := List.mem_of_getElem? hk
    have hw := hW.2.1.2.1 A hm
    have hr := hd.2.1.2.2.2.1 _ A hk
    have d5 : up (up S 90 4 0) 90 5 (W.2.1.2.1.length - 1) 90 5 = W.2.1.2.1.length - 1 := up_eq _ _ _ _
    have d6 : up (up S 90 4 0) 90 5 (W.2.1.2.1.length - 1) 90 6 = up S 90 4 0 90 6 := by rw [up_at, if_neg (by decide)]
    have ek : ((W.2.1.2.1.length - 1 : Nat) : Int) = (W.2.1.2.1.length : Int) - 1 := by omega
    rw [ek] at hr
    refine ⟨W.2.1.2.1.length - 1, cpr (up (up S 90 4 0) 90 5 (W.2.1.2.1.length - 1)) (3308 + 1654 * ((up S 90 4 0 90 6 + (W.2.1.2.1.length - 1)) % 40)) 0 1654, qX11_undo_0 h0 ?_, ?_, fun y e => ?_, fun k e => (by cases e), fun j hj => by rw [cpr_ne (by omega), up_ne (by omega), up_ne (by omega)]⟩
    · rw [e5, if_neg (by rw [I_eq ⟨by omega, by omega⟩ ⟨by decide, by decide⟩]; omega), d5, d6]
      refine ⟨_, _, keptAt_ok e6 ⟨by omega, by omega⟩, _, rcopies_ok h0 (by decide) ⟨by omega, by omega⟩ ⟨by decide, by decide⟩ (by omega), ?_⟩
      rw [cpr_ne (by decide), d5]
    · have m1 : mdR (up (up S 90 4 0) 90 5 (W.2.1.2.1.length - 1)) N (W.1, (W.2.1.1, W.2.1.2.1.dropLast, W.2.1.2.2), W.2.2) := by
        obtain ⟨m, b, im, t, f, a⟩ := hd
        obtain ⟨r1, r2, r3, r4, r5, r6, r7⟩ := b
        have c90 : ∀ i, i ≠ 5 → up (up S 90 4 0) 90 5 (W.2.1.2.1.length - 1) 90 i = up S 90 4 0 90 i := fun i hi => by rw [up_at, if_neg hi]
        have cj : ∀ j, j ≠ 90 → up (up S 90 4 0) 90 5 (W.2.1.2.1.length - 1) j = up S 90 4 0 j := fun j hj => up_ne hj
        refine ⟨⟨fun i h1 h2 => by rw [c90 _ (by omega)]; exact m.1 i h1 h2, by rw [cj _ (by decide)]; exact m.2.1, by rw [cj _ (by decide)]; exact m.2.2.1, by rw [cj _ (by decide)]; exact m.2.2.2.1, by rw [cj _ (by decide)]; exact m.2.2.2.2⟩, ⟨refR_far r1 (cj 91 (by decide)), ?_, by rw [c90 _ (by decide)]; exact r3, ?_, by rw [c90 _ (by decide)]; exact r5, by rw [cj _ (by decide), cj _ (by decide)]; exact r6, by rw [cj _ (by decide)]; exact r7⟩, ⟨fun hn => by rw [c90 _ (by decide)]; exact im.1 hn, fun B hB => ⟨by rw [c90 _ (by decide)]; exact (im.2 B hB).1, ?_⟩⟩, by rw [cj _ (by decide)]; exact t, by rw [c90 _ (by decide)]; exact f, by rw [c90 _ (by decide)]; exact a⟩
        · rw [d5]
          show (W.2.1.2.1.length : Int) - 1 = (W.2.1.2.1.dropLast.length : Int)
          rw [List.length_dropLast]; omega
        · intro k B hkB
          have hkl : k < W.2.1.2.1.dropLast.length := by
            rcases Nat.lt_or_ge k W.2.1.2.1.dropLast.length with q | q
            · exact q
            · rw [List.getElem?_eq_none q] at hkB; cases hkB
          rw [List.dropLast_eq_take, List.getElem?_take_of_lt (by rw [List.length_dropLast] at hkl; exact hkl)] at hkB
          rw [c90 _ (by decide)]
          exact refR_far (r4 k B hkB) (cj 91 (by decide))
        · obtain ⟨s1, s2, s3, s4, s5, s6, s7⟩ := (im.2 B hB).2
          exact ⟨refR_far s1 (cj 91 (by decide)), by rw [c90 _ (by decide)]; exact s2, by rw [c90 _ (by decide)]; exact s3, fun k A hk => by rw [c90 _ (by decide)]; exact refR_far (s4 k A hk) (cj 91 (by decide)), by rw [c90 _ (by decide)]; exact s5, by rw [cj _ (by decide), cj _ (by decide)]; exact s6, by rw [cj _ (by decide)]; exact s7⟩
      exact mdR_set (W := (W.1, (W.2.1.1, W.2.1.2.1.dropLast, W.2.1.2.2), W.2.2)) (fun B hB => (hW.2.1.2.1 B (List.dropLast_subset _ hB)).2.1) (fun B hB => (hW.2.2.2.1 B hB).1) m1 (refR_cpr (refR_far hr (up_ne (by decide))) hw.2.1) (fun i hi => cpr_out (by omega)) (fun j hj => cpr_ne hj)
    · cases e
      exact ⟨rfl, by rw [cpr_ne (by decide), up_at, if_neg (by decide), up_eq]⟩
theorem read_md (h0 : sMod SH) (hW : wfW W) (h : mdR S N W) {g p c y : Int} (hg : rg g) (hp : rg p) (hc : rg c) : MD sc MX11_read [some (.ref 90), some (.int (I g)), some (.int (I p)), some (.int (I c))] SH S N y (readF W g p c) W := by
  have ht : up S 90 4 0 90 4 = 0 := up_eq _ _ _ _
  obtain ⟨hm, hr⟩ := mdS (x := 0) hW h
  have hP := hW.1
  have hP7 := hP.2.2.2.2.2.1
  unfold readF
  by_cases c1 : plc W.1 g p = -1
  · rw [if_pos c1]
    refine MD_exc (v := 0) hW h (qX11_read_0 h0 ⟨_, _, isP_no h0 hm hP ht hg hp c1, ?_⟩)
    rw [if_pos rfl]
  rw [if_neg c1]
  have hpr := plc_rg hP c1
  have h97 := tr97 hP h c1 hm
  by_cases c2 : 0 ≤ c ∧ c < 4
  · rw [if_neg (fun q => q c2)]
    refine MD_val hW h (qX11_read_0 h0 ⟨_, _, isP_yes h0 hm hP ht hg hp c1, ?_⟩)
    rw [if_neg (by decide)]
    refine wr_yes h0 ht hc ⟨by decide, by decide⟩ ⟨by decide, by decide⟩ ⟨c2.1, by omega⟩ (fun w hw => ?_)
    subst hw
    rw [if_neg (by decide), h97.1]
    exact ⟨⟨h97.2.1, h97.2.2⟩, _, _, rcell_ok h0 ⟨by decide, by decide⟩ hr hW.2.1.1 ⟨by omega, by omega⟩ c2, rfl⟩
  · rw [if_pos c2]
    refine MD_exc (v := 0) hW h (qX11_read_0 h0 ⟨_, _, isP_yes h0 hm hP ht hg hp c1, ?_⟩)
    rw [if_neg (by decide)]
    exact wr_no h0 ht (.inl rfl) hc ⟨by decide, by decide⟩ ⟨by decide, by decide⟩ (by omega) (fun w hw => by subst hw; rw [if_pos rfl])
theorem page_md (h0 : sMod SH) (hW : wfW W) (h : mdR S N W) {g p x y : Int} (hg : rg g) (hp : rg p) (hx : rg x) {u : Option Value} : MD sc MX11_page [some (.ref 90), some (.int (I g)), some (.int (I p)), some (.int (I x)), u] SH S N y (pageF W g p x) W := by
  have ht : up S 90 4 0 90 4 = 0 := up_eq _ _ _ _
  obtain ⟨hm, hr⟩ := mdS (x := 0) hW h
  have hP := hW.1
  have hA := hW.2.1.1
  have hP7 := hP.2.2.2.2.2.1
  unfold pageF
  by_cases c1 : plc W.1 g p = -1
  · rw [if_pos c1]
    refine MD_exc (v := 0) hW h (qX11_page_0 h0 ⟨_, _, isP_no h0 hm hP ht hg hp c1, ?_⟩)
    rw [if_pos rfl]
  rw [if_neg c1]
  have hpr := plc_rg hP c1
  have h97 := tr97 hP h c1 hm
  have hr48 : 0 ≤ plc W.1 g p ∧ plc W.1 g p < 48 := by omega
  have r0 : rg 0 := ⟨by decide, by decide⟩
  by_cases c2 : 0 ≤ x ∧ x ≤ 7
  · have e : ∀ o, up S 90 4 0 91 (0 + o + plc W.1 g p) = up S 90 4 0 91 (o + plc W.1 g p) := fun o => by rw [Int.zero_add]
    have st : ∀ r, (swp x 0 (((0 : Int) ≤ 304 + plc W.1 g p ∧ 304 + plc W.1 g p < 137400) ∧ r = rI (up S 90 4 0 91 (304 + plc W.1 g p)) SH (up S 90 4 0)) [(((0 : Int) ≤ 16 + plc W.1 g p ∧ 16 + plc W.1 g p < 137400) ∧ r = rI (up S 90 4 0 91 (16 + plc W.1 g p)) SH (up S 90 4 0)), (∃ v107 S108, G sc MX11_isMerged 0 [some (.ref 90), some (.int (I 0)), some (.int (I (plc W.1 g p)))] [] SH (up S 90 4 0) (rI v107 SH S108) ∧ (if I v107 = I 0 then r = rI 0 SH S108 else r = rI 1 SH S108)), (((0 : Int) ≤ 64 + plc W.1 g p ∧ 64 + plc W.1 g p < 137400) ∧ r = rI (up S 90 4 0 91 (64 + plc W.1 g p)) SH (up S 90 4 0)), (((0 : Int) ≤ 112 + plc W.1 g p ∧ 112 + plc W.1 g p < 137400) ∧ r = rI (up S 90 4 0 91 (112 + plc W.1 g p)) SH (up S 90 4 0)), (((0 : Int) ≤ 160 + plc W.1 g p ∧ 160 + plc W.1 g p < 137400) ∧ r = rI (up S 90 4 0 91 (160 + plc W.1 g p)) SH (up S 90 4 0)), (((0 : Int) ≤ 208 + plc W.1 g p ∧ 208 + plc W.1 g p < 137400) ∧ r = rI (up S 90 4 0 91 (208 + plc W.1 g p)) SH (up S 90 4 0)), (((0 : Int) ≤ 256 + plc W.1 g p ∧ 256 + plc W.1 g p < 137400) ∧ r = rI (up S 90 4 0 91 (256 + plc W.1 g p)) SH (up S 90 4 0))]) → G sc MX11_page 0 [some (.ref 90), some (.int (I g)), some (.int (I p)), some (.int (I x)), u] [] SH S r := by
      intro r q
      refine qX11_page_0 h0 ⟨_, _, isP_yes h0 hm hP ht hg hp c1, ?_⟩
      rw [if_neg (by decide)]
      refine wr_yes h0 ht hx ⟨by decide, by decide⟩ ⟨by decide, by decide⟩ ⟨c2.1, c2.2⟩ (fun w hw => ?_)
      subst hw
      rw [if_neg (by decide), h97.1]
      exact ⟨⟨h97.2.1, h97.2.2⟩, q⟩
    by_cases d : x = 0
    · rw [if_pos d]; refine MD_val hW h (st _ (swp_at 0 hx r0 (by omega) rfl ⟨⟨by omega, by omega⟩, ?_⟩))
      rw [← e 16, hr.2.1 _ hr48.1 hr48.2]
    rw [if_neg d]
    by_cases d : x = 1
    · rw [if_pos d]; refine MD_val hW h (st _ (swp_at 1 hx r0 (by omega) rfl ⟨_, _, risM_ok h0 ⟨by decide, by decide⟩ hr hA hr48, ?_⟩))
      by_cases m : mrg W.2.1.1 (plc W.1 g p) = true
      · rw [if_pos m, if_neg (by decide)]
      · rw [if_neg m, if_pos rfl]
    rw [if_neg d]
    by_cases d : x = 2
    · rw [if_pos d]; refine MD_val hW h (st _ (swp_at 2 hx r0 (by omega) rfl ⟨⟨by omega, by omega⟩, ?_⟩))
      rw [← e 64, hr.2.2.1 _ hr48.1 hr48.2]
    rw [if_neg d]
    by_cases d : x = 3
    · rw [if_pos d]; refine MD_val hW h (st _ (swp_at 3 hx r0 (by omega) rfl ⟨⟨by omega, by omega⟩, ?_⟩))
      rw [← e 112, hr.2.2.2.1 _ hr48.1 hr48.2]
    rw [if_neg d]
    by_cases d : x = 4
    · rw [if_pos d]; refine MD_val hW h (st _ (swp_at 4 hx r0 (by omega) rfl ⟨⟨by omega, by omega⟩, ?_⟩))
      rw [← e 160, hr.2.2.2.2.1 _ hr48.1 hr48.2]
    rw [if_neg d]
    by_cases d : x = 5
    · rw [if_pos d]; refine MD_val hW h (st _ (swp_at 5 hx r0 (by omega) rfl ⟨⟨by omega, by omega⟩, ?_⟩))
      rw [← e 208, hr.2.2.2.2.2.1 _ hr48.1 hr48.2]
    rw [if_neg d]
    by_cases d : x = 6
    · rw [if_pos d]; refine MD_val hW h (st _ (swp_at 6 hx r0 (by omega) rfl ⟨⟨by omega, by omega⟩, ?_⟩))
      rw [← e 256, hr.2.2.2.2.2.2.1 _ hr48.1 hr48.2]
    rw [if_neg d, if_pos (by omega)]
    refine MD_val hW h (st _ (swp_no 7 rfl hx (by decide) (by decide) (by omega) ⟨⟨by omega, by omega⟩, ?_⟩))
    rw [← e 304, hr.2.2.2.2.2.2.2.1 _ hr48.1 hr48.2]
  · simp (disch := omega) only [ineg]
    refine MD_exc (v := 0) hW h (qX11_page_0 h0 ⟨_, _, isP_yes h0 hm hP ht hg hp c1, ?_⟩)
    rw [if_neg (by decide)]
    exact wr_no h0 ht (.inl rfl) hx ⟨by decide, by decide⟩ ⟨by decide, by decide⟩ (by omega) (fun w hw => by subst hw; rw [if_pos rfl])
theorem isF_yes (h0 : sMod SH) (hm : modP S P) (hP : wfP P) (ht : S 90 4 = 0) {f : Int} (hf : rg f) (h : 0 ≤ f ∧ f < P 0 0) : G sc MX11_isFrame 0 [some (.ref 90), some (.int (I f))] [] SH S (rI 1 SH S) := by
  have hP0 := hP.1
  refine qX11_isFrame_0 h0 ?_
  rw [show S 90 12 = P 0 0 from hm.1 0 (by omega) (by omega)]
  exact wr_yes h0 ht hf ⟨by decide, by decide⟩ ⟨by omega, by omega⟩ ⟨h.1, by omega⟩ (fun w hw => by subst hw; exact ⟨.inr rfl, rfl⟩)
theorem isF_no (h0 : sMod SH) (hm : modP S P) (hP : wfP P) (ht : S 90 4 = 0) {f : Int} (hf : rg f) (h : ¬(0 ≤ f ∧ f < P 0 0)) : G sc MX11_isFrame 0 [some (.ref 90), some (.int (I f))] [] SH S (rI 0 SH (up S 90 4 1)) := by
  have hP0 := hP.1
  refine qX11_isFrame_0 h0 ?_
  rw [show S 90 12 = P 0 0 from hm.1 0 (by omega) (by omega)]
  exact wr_no h0 ht (.inl rfl) hf ⟨by decide, by decide⟩ ⟨by omega, by omega⟩ (by omega) (fun w hw => by subst hw; exact ⟨.inl rfl, rfl⟩)
theorem frame_md (h0 : sMod SH) (hW : wfW W) (h : mdR S N W) {f i y : Int} (hf : rg f) (hi : rg i) : MD sc MX11_frame [some (.ref 90), some (.int (I f)), some (.int (I i))] SH S N y (frameF W f i) W := by
  have ht : up S 90 4 0 90 4 = 0 := up_eq _ _ _ _
  obtain ⟨hm, hr⟩ := mdS (x := 0) hW h
  have hP := hW.1
  have hA := hW.2.1.1
  have hP0 := hP.1
  have hP1 := hP.2.1
  have hP7 := hP.2.2.2.2.2.1
  unfold frameF
  by_cases c1 : 0 ≤ f ∧ f < W.1 0 0
  · rw [if_neg (fun q => q c1)]
    have hlen := hA.2.2.2.2.2.2.2.1 f
    have el : up S 90 4 0 91 (544 + f) = (W.2.1.1.L f).length := by
      have q := hr.2.2.2.2.2.2.2.2.2.1 f c1.1 (by omega)
      rw [show (0 : Int) + 544 + f = 544 + f by omega] at q
      exact q
    by_cases c2 : i = -1
    · rw [if_pos c2]
      refine MD_val hW h (qX11_frame_0 h0 ⟨_, _, isF_yes h0 hm hP ht hf c1, ?_⟩)
      rw [if_neg (by decide), if_pos (by rw [c2]), el]
      exact ⟨⟨by omega, by omega⟩, rfl⟩
    rw [if_neg c2]
    by_cases c3 : 0 ≤ i ∧ i < (W.2.1.1.L f).length
    · rw [if_neg (fun q => q c3)]
      have hmm : nthL (W.2.1.1.L f) i.toNat ∈ W.2.1.1.L f := nthL_mem (by omega)
      have hw := (hA.1.2.1 _ _).mp hmm
      have hpp := hA.2.2.2.2.1 (nthL (W.2.1.1.L f) i.toNat) (by rw [hw.2.2]; omega)
      refine MD_val hW h (qX11_frame_0 h0 ⟨_, _, isF_yes h0 hm hP ht hf c1, ?_⟩)
      rw [if_neg (by decide), if_neg (by rw [I_eq hi ⟨by decide, by decide⟩]; exact c2), if_neg (by rw [I_lt hi ⟨by decide, by decide⟩]; omega), el]
      refine ⟨⟨by omega, by omega⟩, ?_⟩
      rw [if_neg (by rw [I_le ⟨by omega, by omega⟩ hi]; omega)]
      refine ⟨_, _, right_yes h0 ht, ?_⟩
      have en : up S 90 4 0 91 (592 + 8 * f + i) = nthL (W.2.1.1.L f) i.toNat := by
        have q := hr.2.2.2.2.2.2.2.2.2.2.1 f i c1.1 (by omega) c3.1 c3.2
        rw [show (0 : Int) + 592 + 8 * f + i = 592 + 8 * f + i by omega] at q
        exact q
      rw [if_neg (by decide), en]
      exact ⟨⟨by omega, by omega⟩, _, _, told_ok h0 hm hP ⟨by omega, by omega⟩, rfl⟩
    · rw [if_pos c3]
      refine MD_exc (v := 0) hW h (qX11_frame_0 h0 ⟨_, _, isF_yes h0 hm hP ht hf c1, ?_⟩)
      rw [if_neg (by decide), if_neg (by rw [I_eq hi ⟨by decide, by decide⟩]; exact c2), el]
      by_cases c4 : i < 0
      · rw [if_pos (by rw [I_lt hi ⟨by decide, by decide⟩]; omega)]
        refine ⟨_, _, right_no h0 ht (.inl rfl), ?_⟩
        rw [if_pos rfl]
      · rw [if_neg (by rw [I_lt hi ⟨by decide, by decide⟩]; omega)]
        refine ⟨⟨by omega, by omega⟩, ?_⟩
        rw [if_pos (by rw [I_le ⟨by omega, by omega⟩ hi]; omega)]
        refine ⟨_, _, right_no h0 ht (.inl rfl), ?_⟩
        rw [if_pos rfl]
  · rw [if_pos c1]
    refine MD_exc (v := 0) hW h (qX11_frame_0 h0 ⟨_, _, isF_no h0 hm hP ht hf c1, ?_⟩)
    rw [if_pos rfl]
end
