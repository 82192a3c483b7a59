/-! ===== the class answers what it is asked ===== -/
theorem swp_at {Pd Q : Prop} : ∀ {Ps : List Prop} {x lo : Int} (k : Nat), rg x → rg lo → x = lo + k → Ps[k]? = some Q → Q → swp x lo Pd Ps
  | [], x, lo, k, _, _, _, h, _ => by cases h
  | P :: Ps, x, lo, 0, _, _, e, h, q => by
    have : x = lo := by omega
    subst this
    cases h
    unfold swp
    rw [if_pos rfl]
    exact q
  | P :: Ps, x, lo, k + 1, hx, hl, e, h, q => by
    unfold swp
    rw [if_neg (by rw [I_eq hx hl]; omega)]
    exact swp_at k hx ⟨by have := hl.1; omega, by have := hx.2; omega⟩ (by omega) h q
theorem swp_no' {Pd : Prop} : ∀ {Ps : List Prop} {x lo : Int}, rg x → -2147483648 ≤ lo → lo + Ps.length < 2147483648 → (x < lo ∨ lo + Ps.length ≤ x) → Pd → swp x lo Pd Ps
  | [], _, _, _, _, _, _, q => q
  | P :: Ps, x, lo, hx, h1, h2, h3, q => by
    have e : (((P :: Ps).length : Nat) : Int) = Ps.length + 1 := by rw [List.length_cons]; omega
    rw [e] at h2 h3
    unfold swp
    rw [if_neg (by rw [I_eq hx ⟨h1, by omega⟩]; omega)]
    exact swp_no' hx (by omega) (by omega) (by omega) q
theorem swp_no {Pd : Prop} {Ps : List Prop} {x lo : Int} (k : Nat) (hk : Ps.length = k) (hx : rg x) (h1 : -2147483648 ≤ lo) (h2 : lo + k < 2147483648) (h3 : x < lo ∨ lo + k ≤ x) (q : Pd) : swp x lo Pd Ps := swp_no' hx h1 (by rw [hk]; exact h2) (by rw [hk]; exact h3) q
def countF (W : aW) (x : Int) : aO :=
  if 10 ≤ x ∧ x ≤ 20 then .inl (W.2.1.1.v 6 (x - 10)) else if 25 ≤ x ∧ x ≤ 27 then .inl (W.2.1.2.2.2 2 (x - 25)) else
  if x = 0 then .inl (W.1 0 0) else if x = 1 then .inl (usedA W.1 W.2.1.1) else if x = 2 then .inl (mergedFr W.1 W.2.1.1) else
  if x = 3 then .inl (W.1 0 6) else if x = 4 then .inl (W.1 0 7) else if x = 5 then .inl (mergedPg W.2.1.1 0 (W.1 0 7).toNat) else
  if x = 6 then .inl (absentPg W.2.1.1 0 (W.1 0 7).toNat) else if x = 7 then .inl (advisedPg W.2.1.1 0 (W.1 0 7).toNat) else
  if x = 8 then .inl (al W.2.1.1.tw).length else if x = 9 then .inl (al W.2.1.1.ts).length else if x = 21 then .inl (W.1 0 1) else
  if x = 22 then .inl W.2.1.2.1.length else if x = 23 then .inl W.2.1.2.2.1 else if x = 24 then .inl (W.2.2.2 1 0) else .inr 0
section
variable {sc : Nat × (Nat → Int32)} {SH : List mCell} {F : Nat → Nat → Option Nat} {S : mStore} {e : Nat} {W : aW}
theorem clS (h : clR SH F e S W) : sGP SH ∧ sState SH 17 ∧ sPlan SH 1 ∧ planR S 1 W.1 ∧ stateR S 17 W.2.1.1 := by
  have g := h.1.1.1
  exact ⟨g, g.2.2.2.1.2.2.2.2.1, g.2.2.2.1.2.2.2.2.1.2.2.2.2.2.2.2.2.2.2.2.2, h.2.1, h.2.2.1.1⟩
theorem count_cl (h : clR SH F e S W) (hW : wfW W) {x : Int} (hx : rg x) : CL sc MX10_count [some (.ref 0), some (.int (I x))] SH F e S (countF W x) W := by
  obtain ⟨g0, g1, g2, hp, hs⟩ := clS h
  obtain ⟨hP, hB, hT⟩ := hW
  have hA := hB.1
  have hP7 := hP.2.2.2.2.2.1
  have hx1 := hx.1
  have hx2 := hx.2
  have e7 : S 1 7 = W.1 0 7 := hp.1 7 (by omega) (by omega)
  unfold countF
  by_cases c1 : 10 ≤ x ∧ x ≤ 20
  · rw [if_pos c1]
    refine CL_val h (qX10_count_0 g0 ?_)
    simp (disch := omega) only [iL, iE, iQ, ipos, ineg, an]
    rw [hs.2.2.2.2.2.2.2.2.2.2 (x - 10) (by omega) (by omega)]
  rw [if_neg c1]
  by_cases c2 : 25 ≤ x ∧ x ≤ 27
  · rw [if_pos c2]
    refine CL_val h (qX10_count_0 g0 ?_)
    simp (disch := omega) only [iL, iE, iQ, ipos, ineg, an]
    rw [show S 16 (x - 25) = _ from h.2.2.1.2.2.2.2.2.2 (x - 25) (by omega) (by omega)]
  rw [if_neg c2]
  have st : ∀ r, G sc MX10_count 53 [some (.ref 0), some (.int (I x))] [] SH S r → G sc MX10_count 0 [some (.ref 0), some (.int (I x))] [] SH S r := by
    intro r g
    refine qX10_count_0 g0 ?_
    by_cases d1 : x < 10
    · simp (disch := omega) only [iL, iE, iQ, ipos, ineg, an]; exact g
    · by_cases d2 : x < 25
      · simp (disch := omega) only [iL, iE, iQ, ipos, ineg, an]; exact g
      · simp (disch := omega) only [iL, iE, iQ, ipos, ineg, an]; exact g
  have r0 : rg 0 := ⟨by decide, by decide⟩
  by_cases d : x = 0
  · rw [if_pos d]; refine CL_val h (st _ (qX10_count_53 g0 (swp_at 0 hx r0 (by omega) rfl ?_)))
    rw [show S 1 0 = _ from hp.1 0 (by omega) (by omega)]
  rw [if_neg d]
  by_cases d : x = 1
  · rw [if_pos d]; exact CL_val h (st _ (qX10_count_53 g0 (swp_at 1 hx r0 (by omega) rfl ⟨_, _, used_ok g1 hp hP hs hA, rfl⟩)))
  rw [if_neg d]
  by_cases d : x = 2
  · rw [if_pos d]; exact CL_val h (st _ (qX10_count_53 g0 (swp_at 2 hx r0 (by omega) rfl ⟨_, _, mfr_ok g1 hp hP hs hA, rfl⟩)))
  rw [if_neg d]
  by_cases d : x = 3
  · rw [if_pos d]; refine CL_val h (st _ (qX10_count_53 g0 (swp_at 3 hx r0 (by omega) rfl ?_)))
    rw [show S 1 6 = _ from hp.1 6 (by omega) (by omega)]
  rw [if_neg d]
  by_cases d : x = 4
  · rw [if_pos d]; refine CL_val h (st _ (qX10_count_53 g0 (swp_at 4 hx r0 (by omega) rfl ?_)))
    rw [e7]
  rw [if_neg d]
  have e0 : W.1 0 7 = 0 + ((W.1 0 7).toNat : Int) := by omega
  by_cases d : x = 5
  · rw [if_pos d]; refine CL_val h (st _ (qX10_count_53 g0 (swp_at 5 hx r0 (by omega) rfl ⟨_, _, ?_, rfl⟩)))
    have q := mpg_ok (sc := sc) (u := none) (u' := none) g1 hs hA (lo := 0) (n := (W.1 0 7).toNat) (by omega) (by omega)
    rw [← e0] at q; rw [e7]; exact q
  rw [if_neg d]
  by_cases d : x = 6
  · rw [if_pos d]; refine CL_val h (st _ (qX10_count_53 g0 (swp_at 6 hx r0 (by omega) rfl ⟨_, _, ?_, rfl⟩)))
    have q := apg_ok (sc := sc) (u := none) (u' := none) g1 hs hA (lo := 0) (n := (W.1 0 7).toNat) (by omega) (by omega)
    rw [← e0] at q; rw [e7]; exact q
  rw [if_neg d]
  by_cases d : x = 7
  · rw [if_pos d]; refine CL_val h (st _ (qX10_count_53 g0 (swp_at 7 hx r0 (by omega) rfl ⟨_, _, ?_, rfl⟩)))
    have q := dpg_ok (sc := sc) (u := none) (u' := none) g1 hs hA (lo := 0) (n := (W.1 0 7).toNat) (by omega) (by omega)
    rw [← e0] at q; rw [e7]; exact q
  rw [if_neg d]
  by_cases d : x = 8
  · rw [if_pos d]; exact CL_val h (st _ (qX10_count_53 g0 (swp_at 8 hx r0 (by omega) rfl ⟨_, _, tsize_ok g1.2.2.2.2.1 hA.2.2.2.1 hs.2.2.2.1, rfl⟩)))
  rw [if_neg d]
  by_cases d : x = 9
  · rw [if_pos d]; exact CL_val h (st _ (qX10_count_53 g0 (swp_at 9 hx r0 (by omega) rfl ⟨_, _, tsize_ok g1.2.2.2.1 hA.2.2.1 hs.2.2.1, rfl⟩)))
  rw [if_neg d]
  by_cases d : x = 21
  · rw [if_pos d]; refine CL_val h (st _ (qX10_count_53 g0 (swp_at 21 hx r0 (by omega) rfl ?_)))
    rw [show S 1 1 = _ from hp.1 1 (by omega) (by omega)]
  rw [if_neg d]
  by_cases d : x = 22
  · rw [if_pos d]; refine CL_val h (st _ (qX10_count_53 g0 (swp_at 22 hx r0 (by omega) rfl ?_)))
    rw [show S 37 3 = _ from h.2.2.1.2.2.1]
  rw [if_neg d]
  by_cases d : x = 23
  · rw [if_pos d]; refine CL_val h (st _ (qX10_count_53 g0 (swp_at 23 hx r0 (by omega) rfl ?_)))
    rw [show S 13 5 = _ from h.2.2.1.2.2.2.2.1]
  rw [if_neg d]
  by_cases d : x = 24
  · rw [if_pos d]; refine CL_val h (st _ (qX10_count_53 g0 (swp_at 24 hx r0 (by omega) rfl ?_)))
    rw [show S 11 1 = _ from h.2.2.2.2.2.1]
  rw [if_neg d]
  refine CL_exc h (st _ (qX10_count_53 g0 ?_))
  by_cases dd : 0 ≤ x ∧ x ≤ 24
  · rcases (by omega : x = 10 ∨ x = 11 ∨ x = 12 ∨ x = 13 ∨ x = 14 ∨ x = 15 ∨ x = 16 ∨ x = 17 ∨ x = 18 ∨ x = 19 ∨ x = 20) with q | q | q | q | q | q | q | q | q | q | q <;> omega
  · exact swp_no 25 rfl hx (by decide) (by decide) (by omega) rfl
def readF (W : aW) (g p c : Int) : aO := if plc W.1 g p = -1 then .inr 0 else if ¬(0 ≤ c ∧ c < 4) then .inr 0 else .inl (nb (cellsA W.2.1.1 (plc W.1 g p)) (12 - 4 * c))
theorem read_cl (h : clR SH F e S W) (hW : wfW W) {g p c : Int} (hg : rg g) (hq : rg p) (hc : rg c) {u : Option Value} : CL sc MX10_read [some (.ref 0), some (.int (I g)), some (.int (I p)), some (.int (I c)), u] SH F e S (readF W g p c) W := by
  obtain ⟨g0, g1, g2, hp, hs⟩ := clS h
  obtain ⟨hP, hB, hT⟩ := hW
  have hA := hB.1
  have hP7 := hP.2.2.2.2.2.1
  unfold readF
  by_cases c1 : plc W.1 g p = -1
  · rw [if_pos c1]
    exact CL_exc h (qX10_read_0 g0 (.inr ⟨_, _, _, pl_no g0 hp hP hg hq c1, rfl⟩))
  rw [if_neg c1]
  have hr := plc_rg hP c1
  by_cases c2 : 0 ≤ c ∧ c < 4
  · rw [if_neg (fun q => q c2)]
    exact CL_val h (qX10_read_0 g0 (.inl ⟨_, _, pl_ok g0 hp hP hg hq c1, .inl ⟨_, mbc_ok c2, _, _, cells_ok g1 hs hA ⟨by omega, by omega⟩, _, _, cell_ok, rfl⟩⟩))
  · rw [if_pos c2]
    exact CL_exc h (qX10_read_0 g0 (.inl ⟨_, _, pl_ok g0 hp hP hg hq c1, .inr ⟨_, _, _, mbc_no hc c2, rfl⟩⟩))
def pageF (W : aW) (g p x : Int) : aO := if plc W.1 g p = -1 then .inr 0 else
  if x = 0 then .inl (W.2.1.1.w (plc W.1 g p)) else if x = 1 then .inl (if mrg W.2.1.1 (plc W.1 g p) = true then 1 else 0) else
  if x = 2 then .inl (W.2.1.1.v 1 (plc W.1 g p)) else if x = 3 then .inl (W.2.1.1.v 2 (plc W.1 g p)) else if x = 4 then .inl (W.2.1.1.v 3 (plc W.1 g p)) else
  if x = 5 then .inl (W.2.1.1.v 4 (plc W.1 g p)) else if x = 6 then .inl (W.2.1.1.v 5 (plc W.1 g p)) else if x = 7 then .inl (if plc W.1 g p ∈ al W.2.1.1.tw then 1 else 0) else .inr 0
theorem page_cl (h : clR SH F e S W) (hW : wfW W) {g p x : Int} (hg : rg g) (hq : rg p) (hx : rg x) {u u' : Option Value} : CL sc MX10_page [some (.ref 0), some (.int (I g)), some (.int (I p)), some (.int (I x)), u, u'] SH F e S (pageF W g p x) W := by
  obtain ⟨g0, g1, g2, hp, hs⟩ := clS h
  obtain ⟨hP, hB, hT⟩ := hW
  have hA := hB.1
  have hP7 := hP.2.2.2.2.2.1
  unfold pageF
  by_cases c1 : plc W.1 g p = -1
  · rw [if_pos c1]
    exact CL_exc h (qX10_page_0 g0 (.inr ⟨_, _, _, pl_no g0 hp hP hg hq c1, rfl⟩))
  rw [if_neg c1]
  have hr := plc_rg hP c1
  have hr48 : 0 ≤ plc W.1 g p ∧ plc W.1 g p < 48 := by omega
  have r0 : rg 0 := ⟨by decide, by decide⟩
  have hpl := pl_ok (sc := sc) (u := none) g0 hp hP hg hq c1
  by_cases d : x = 0
  · rw [if_pos d]; refine CL_val h (qX10_page_0 g0 (.inl ⟨_, _, hpl, swp_at 0 hx r0 (by omega) rfl ⟨hr48, ?_⟩⟩))
    rw [show S (17 + 2) _ = _ from hs.1.1 _ hr48.1 hr48.2]
  rw [if_neg d]
  by_cases d : x = 1
  · rw [if_pos d]; refine CL_val h (qX10_page_0 g0 (.inl ⟨_, _, hpl, swp_at 1 hx r0 (by omega) rfl ⟨_, _, isM_ok g1 hs hA hr48, ?_⟩⟩))
    by_cases m : mrg W.2.1.1 (plc W.1 g p) = true
    · rw [if_pos m, if_neg (by decide)]
    · rw [if_neg m, if_pos rfl]
  rw [if_neg d]
  by_cases d : x = 2
  · rw [if_pos d]; refine CL_val h (qX10_page_0 g0 (.inl ⟨_, _, hpl, swp_at 2 hx r0 (by omega) rfl ⟨hr48, ?_⟩⟩))
    rw [show S (17 + 14) _ = _ from hs.2.2.2.2.2.1 _ hr48.1 hr48.2]
  rw [if_neg d]
  by_cases d : x = 3
  · rw [if_pos d]; refine CL_val h (qX10_page_0 g0 (.inl ⟨_, _, hpl, swp_at 3 hx r0 (by omega) rfl ⟨hr48, ?_⟩⟩))
    rw [show S (17 + 15) _ = _ from hs.2.2.2.2.2.2.1 _ hr48.1 hr48.2]
  rw [if_neg d]
  by_cases d : x = 4
  · rw [if_pos d]; refine CL_val h (qX10_page_0 g0 (.inl ⟨_, _, hpl, swp_at 4 hx r0 (by omega) rfl ⟨hr48, ?_⟩⟩))
    rw [show S (17 + 16) _ = _ from hs.2.2.2.2.2.2.2.1 _ hr48.1 hr48.2]
  rw [if_neg d]
  by_cases d : x = 5
  · rw [if_pos d]; refine CL_val h (qX10_page_0 g0 (.inl ⟨_, _, hpl, swp_at 5 hx r0 (by omega) rfl ⟨hr48, ?_⟩⟩))
    rw [show S (17 + 17) _ = _ from hs.2.2.2.2.2.2.2.2.1 _ hr48.1 hr48.2]
  rw [if_neg d]
  by_cases d : x = 6
  · rw [if_pos d]; refine CL_val h (qX10_page_0 g0 (.inl ⟨_, _, hpl, swp_at 6 hx r0 (by omega) rfl ⟨hr48, ?_⟩⟩))
    rw [show S (17 + 18) _ = _ from hs.2.2.2.2.2.2.2.2.2.1 _ hr48.1 hr48.2]
  rw [if_neg d]
  by_cases d : x = 7
  · rw [if_pos d]
    by_cases m : plc W.1 g p ∈ al W.2.1.1.tw
    · obtain ⟨c, hc, hck⟩ := List.mem_map.mp ((cxs_perm W.2.1.1.tw).mem_iff.mpr m)
      have q := tslot_ok (sc := sc) (u := none) g1.2.2.2.2.1 hA.2.2.2.1 hs.2.2.2.1 hc
      rw [hck] at q
      refine CL_val h (qX10_page_0 g0 (.inl ⟨_, _, hpl, swp_at 7 hx r0 (by omega) rfl ⟨_, _, q, ?_⟩⟩))
      have := cxs_slot hA.2.2.2.1 hc
      rw [if_pos m, if_neg (by rw [I_eq ⟨by omega, by omega⟩ ⟨by omega, by omega⟩]; omega)]
    · refine CL_val h (qX10_page_0 g0 (.inl ⟨_, _, hpl, swp_at 7 hx r0 (by omega) rfl ⟨_, _, tslot_no g1.2.2.2.2.1 hA.2.2.2.1 hs.2.2.2.1 hr48 m, ?_⟩⟩))
      rw [if_neg m, if_pos rfl]
  rw [if_neg d]
  have hx1 := hx.1
  have hx2 := hx.2
  exact CL_exc h (qX10_page_0 g0 (.inl ⟨_, _, hpl, swp_no 8 rfl hx (by decide) (by decide) (by omega) rfl⟩))
end
