def mrow (h : Nat × Nat × Nat × Nat) : ExceptionTableEntry := { startPc := h.1, endPc := h.2.1, handlerPc := h.2.2.1, catchType := if h.2.2.2 = 0 then 21 else 13 }
theorem mrow_mem {hs : List (Nat × Nat × Nat × Nat)} {z : ExceptionTableEntry} (h : z ∈ tableOf (mhs hs)) : ∃ y ∈ hs, z = mrow y := by
  simp only [tableOf, mhs, List.map_map, List.mem_map] at h
  obtain ⟨y, hy, rfl⟩ := h
  exact ⟨y, hy, rfl⟩
theorem mhand_split : ∀ {hs : List (Nat × Nat × Nat × Nat)} {pc k hp : Nat}, mhand hs pc k = some hp → ∃ pre a b suf, hs = pre ++ (a, b, hp, k) :: suf ∧ a ≤ pc ∧ pc < b ∧ ∀ y ∈ pre, ¬ (y.1 ≤ pc ∧ pc < y.2.1) ∨ ¬ y.2.2.2 = k
  | [], _, _, _, h => by cases h
  | (a, b, h0, t) :: r, pc, k, hp, h => by
    unfold mhand at h
    split at h
    · rename_i hc
      cases h
      obtain ⟨h1, h2, rfl⟩ := hc
      exact ⟨[], a, b, r, rfl, h1, h2, fun _ h => nomatch h⟩
    · rename_i hc
      obtain ⟨pre, a1, b1, suf, e1, e2, e3, e4⟩ := mhand_split h
      refine ⟨(a, b, h0, t) :: pre, a1, b1, suf, by rw [e1]; rfl, e2, e3, fun y hy => ?_⟩
      rcases List.mem_cons.mp hy with rfl | hy
      · by_cases h9 : a ≤ pc ∧ pc < b
        · right; exact fun ht => hc ⟨h9.1, h9.2, ht⟩
        · left; exact h9
      · exact e4 y hy
theorem mtL_n : Cond.classLink RL 21 mNSE ∈ gtbl := gt_in ⟨List.mem_of_getElem? (i := 1009) (by decide +kernel), rfl⟩
theorem mtL_i : Cond.classLink RL 13 mIAE ∈ gtbl := gt_in ⟨List.mem_of_getElem? (i := 717) (by decide +kernel), rfl⟩
theorem mLoc_clear {kd : Nat → Nat} {base : Nat} {ls ls' : List (Option Value)} {L L' : Array Slot} {j : Nat} {v : Value} (hL : mLoc kd base ls L) (h : mset ls j none = some ls')
    (hh : lv_has L' ls.length ((j, v) :: (mal kd base ls).filter (fun q => !(q.1 == j) && !(q.1 + 1 == j && q.2.category == 2)))) : mLoc kd base ls' L' := by
  obtain ⟨e1, e2⟩ := mset_len _ _ _ _ h
  refine ⟨by rw [hh.1, e1], hh.2.1, fun k u hk => ?_⟩
  rw [mset_get _ _ _ _ h] at hk
  by_cases hkj : k = j
  · rw [if_pos hkj] at hk; cases hk
  · rw [if_neg hkj] at hk
    refine hh.2.2 (k, mv kd base u) (List.mem_cons_of_mem _ (List.mem_filter.mpr ⟨mal_mem hk, ?_⟩))
    simp only [Bool.and_eq_true, Bool.not_eq_true', beq_eq_false_iff_ne, Bool.and_eq_false_iff]
    refine ⟨hkj, ?_⟩
    by_cases hk1 : k + 1 = j
    · subst hk1
      right
      rw [mv_cat]
      exact mset_long _ _ _ _ h u hk
    · left; exact hk1
section
variable {p : Program} {l : Launch} {e : Env} {R : Room} {s : State} {m : MethodId} {args : Array Value} {below : List Frame} {meth : Method} {c : Code} {H : Heap} {locs : List Loc} {cells slots : Nat} {Q : State → Prop}
variable {M : mM} {pc : Nat} {L : Array Slot} {kd : Nat → Nat} {base : Nat} {D : va_G} {tc : Nat → ClassId} {g : mW} {sc : Nat × (Nat → Int32)}
/-- behind a call: returned, caught, or thrown on -/
theorem mr_mback {n : Nat} {r : mR} {g' : mW} {SF : Nat} (C : mCt p s m args meth c M) (hE : mEn D tc kd base sc s s.heap) (hbs : base ≤ s.heap.size) (hEnd : mEnd p l e R s m args below meth c Q D tc kd base M r g' SF) {ls : List (Option Value)} (hl : mLoc kd base ls L) (hln : ls.length = M.nL)
    (ih : ∀ (pc : Nat) (ls : List (Option Value)) (st : List Value) (g : mW) (H : Heap) (locs : List Loc) (cells slots : Nat) (L : Array Slot), mx sc n M pc ls st g = some (r, g') → mLoc kd base ls L → ls.length = M.nL → mRl D tc kd base s g H locs cells → slots + (msl g' - msl g) = SF → W p l e R s m args below meth c H locs cells slots Q (F0 m pc L (st.map (mv kd base))))
    (hR : mRl D tc kd base s g H locs cells) {stR rest : List Value} {r1 : mR} {g1 : mW} {a : Array Value} (hgr : mgr g g1) (hgr1 : mgr g1 g') (hS : slots + (msl g' - msl g) = SF)
    (hrun : vx_Run p l e R s m args below meth c H locs cells slots (g1.length - g.length) (msl g1 - msl g) (F0 m pc L stR) (rest.map (mv kd base)) (mQc D tc kd base r1 g1 a) (mXc D tc kd base r1 g1) (fun q => base ≤ q))
    (h : mback (mx sc n) M pc ls rest (some (r1, g1)) = some (r, g')) : W p l e R s m args below meth c H locs cells slots Q (F0 m pc L stR) := by
  have hS1 : slots + (msl g1 - msl g) + (msl g' - msl g1) = SF := by
    have := hgr.2
    have := hgr1.2
    omega
  refine mr_callx hbs hR hgr hrun rfl ?_ ?_
  · intro v hv H' locs' hR'
    subst hv
    exact ih _ _ _ _ _ _ _ _ _ h hl hln hR' hS1
  · intro k hk H' locs' q ce hR' hce hcv hcl
    subst hk
    simp only [mback] at h
    split at h
    · split at h
      rotate_left
      · cases h
      rename_i hh
      cases h
      have e1 : slots + (msl g' - msl g) = SF := hS
      rw [e1]
      exact hEnd.2.2 k rfl pc H' locs' L _ _ q ce hh hR' hce hcv hcl
    · rename_i hp hh
      split at h
      rotate_left
      · cases h
      rename_i hcond
      obtain ⟨h12, hall, hk2⟩ := hcond
      have hne : ¬ M.hs = [] := fun h0 => by rw [h0] at hh; cases hh
      have htab := C.2.2.2.2.2.2.2.2 hne
      obtain ⟨pre, a1, b1, suf, hsp, ha1, hb1, hpre⟩ := mhand_split hh
      have hown : s.vm.findClass RL = some m.cls := by have := C.2.2.2.1; rw [h12] at this; exact this
      have hts := C.2.2.2.2.1
      have kont : ∀ (L' : Array Slot) (ls' : List (Option Value)) (j pc' : Nat), mset ls j none = some ls' → lv_has L' ls.length ((j, Value.ref q) :: (mal kd base ls).filter (fun z => !(z.1 == j) && !(z.1 + 1 == j && z.2.category == 2))) → mx sc n M pc' ls' [] g1 = some (r, g') → W p l e R s m args below meth c H' locs' (cells + (g1.length - g.length)) (slots + (msl g1 - msl g)) Q (F0 m pc' L' []) := by
        intro L' ls' j pc' hset hhas hk
        exact ih _ _ [] _ _ _ _ _ _ hk (mLoc_clear hl hset hhas) ((mset_len _ _ _ _ hset).1.trans hln) hR' hS1
      have hrow : ∀ z ∈ M.hs, z.2.2.2 < 2 := fun z hz => by simpa using List.all_eq_true.mp hall z hz
      have hW : W p l e R s m args below meth c H' locs' (cells + (g1.length - g.length)) (slots + (msl g1 - msl g)) Q (F0 m hp L [.ref q]) := by
        split at h
        · rename_i j hdj
          split at h
          · rename_i ls' hset
            exact lv_astore_n C.1 C.2.1 hdj rfl (mal_has hl) (mset_len _ _ _ _ hset).2 rfl (fun L' hh' => kont L' ls' _ _ hset hh' h)
          · cases h
        · rename_i j hdj
          split at h
          · rename_i ls' hset
            exact lv_astore C.1 C.2.1 hdj (mal_has hl) (mset_len _ _ _ _ hset).2 rfl (fun L' hh' => kont L' ls' _ _ hset hh' h)
          · cases h
        · cases h
      have hsplit : c.exceptionTable.toList = tableOf (mhs pre) ++ mrow (a1, b1, hp, k) :: tableOf (mhs suf) := by
        rw [htab, hsp]
        simp [tableOf, mhs, mrow]
      have hlink : (Cond.classLink RL (mrow (a1, b1, hp, k)).catchType (mxn k)).before args s = true := by
        rcases (show k = 0 ∨ k = 1 by omega) with rfl | rfl
        · exact hts _ mtL_n
        · exact hts _ mtL_i
      have hcast : (Cond.castable (mxn k) (mxn k)).before args s = true := by
        obtain ⟨-, -, ⟨-, e6, -⟩, -⟩ := hE
        rcases (show k = 0 ∨ k = 1 by omega) with rfl | rfl
        · exact va_Nw.use rfl (e6 (mNSE, mNSE) (by simp [mCs]))
        · exact va_Nw.use rfl (e6 (mIAE, mIAE) (by simp [mCs]))
      refine mc_catch (E := mxn k) (name := mxn k) hown (tableOf (mhs pre)) (mrow (a1, b1, hp, k)) (tableOf (mhs suf)) hsplit ?_ (by simp [covers, mrow, ha1, hb1]) ?_ hlink hcast hce hcv hcl hW
      · intro z hz
        obtain ⟨y, hy, rfl⟩ := mrow_mem hz
        have hy2 := hrow y (by rw [hsp]; exact List.mem_append_left _ hy)
        rcases hpre y hy with hc | hc
        · left
          simp only [covers, mrow, Bool.and_eq_false_iff, decide_eq_false_iff_not]
          by_cases h9 : y.1 ≤ pc
          · exact Or.inr (decide_eq_false (fun h8 => hc ⟨h9, h8⟩))
          · exact Or.inl (decide_eq_false h9)
        · right
          obtain ⟨-, -, -, -, -, -, n1, n2⟩ := hE
          rcases (show (y.2.2.2 = 0 ∧ k = 1) ∨ (y.2.2.2 = 1 ∧ k = 0) by omega) with ⟨e1, rfl⟩ | ⟨e1, rfl⟩
          · refine ⟨by simp [mrow, e1], mNSE, ?_, n2⟩
            have : (mrow y).catchType = 21 := by simp [mrow, e1]
            rw [this]; exact hts _ mtL_n
          · refine ⟨by simp [mrow, e1], mIAE, ?_, n1⟩
            have : (mrow y).catchType = 13 := by simp [mrow, e1]
            rw [this]; exact hts _ mtL_i
      · rcases (show k = 0 ∨ k = 1 by omega) with rfl | rfl <;> simp [mrow]
theorem mr_objinit {n idx b : Nat} {M' : mM} {As rest : List Value} (C : mCt p s m args meth c M) (hRf : M.rank ≤ R.frames) (hRl : 43 * M.rank ≤ R.locals) (hT : mcT M.own idx = some (10, n, M')) (hrk : 0 < M.rank) (hn : (Value.ref b :: As).length = n) (hwt : mwt rest = true) (hd : decode M.cc pc = .ok (.invokespecial idx, 3)) (hL : L.size = M.nL)
    (kk : W p l e R s m args below meth c H locs cells slots Q (F0 m (pc + 3) L (rest.map (mv kd base)))) : W p l e R s m args below meth c H locs cells slots Q (F0 m pc L (((Value.ref b :: As).reverse ++ rest).map (mv kd base))) := by
  obtain ⟨hx, hb, hml, hown, hts, -⟩ := C
  have hm := mlook_mem hT
  obtain ⟨hw, hp0⟩ := mcT_ok _ _ hm
  have hp1 : mep (idx, 10, n, M') = true := hp0
  unfold mep at hp1
  simp only [Bool.and_eq_true, decide_eq_true_eq] at hp1
  obtain ⟨-, hn1⟩ := hp1
  have hAs : As = [] := by
    have h9 : (Value.ref b :: As).length = 1 := hn.trans hn1
    simpa using h9
  subst hAs
  have w1 := hts _ (gt_in (hw (.methodLink (mcn M.own) idx objectInit) (by simp [mew])))
  have w2 := hts _ (gt_in (hw (.instanceMethod objectInit) (by simp [mew])))
  have w3 := hts _ (gt_in (hw (.code objectInit ⟨#[0xb1]⟩ 1 none) (by simp [mew])))
  have hwt' := mwt_ok (kd := kd) (base := base) hwt
  exact W.objInit (a := base + b) (rest := rest.map (mv kd base)) hx hb hown w1 w2 w3 rfl (hL.trans hml.symm) rfl hd (by omega) (by show 2 * 0 + _ + 12 ≤ R.locals; omega) kk
theorem mcopy_sl {g g' : mW} {as : List Value} (h : mcopy g as = some g') : msl g' = msl g := by
  unfold mcopy at h
  split at h
  · split at h
    · rename_i hg
      split at h
      · cases h
      · cases h; exact msl_set _ _ _ _ hg rfl
    · cases h
  · cases h
theorem mr_copy {n idx : Nat} {M' : mM} {as rest : List Value} {g' : mW} (C : mCt p s m args meth c M) (hK : va_K D mcl (mtys tc) s) (hR : mRl D tc kd base s g H locs cells) (hRf : M.rank ≤ R.frames) (hRl : 43 * M.rank ≤ R.locals) (hT : mcT M.own idx = some (11, n, M')) (hrk : 0 < M.rank) (hc : mcopy g as = some g') (hwt : mwt rest = true) (hd : decode M.cc pc = .ok (.invokestatic idx, 3)) (hL : L.size = M.nL)
    (kk : ∀ H' locs', mRl D tc kd base s g' H' locs' cells → W p l e R s m args below meth c H' locs' cells slots Q (F0 m (pc + 3) L (rest.map (mv kd base)))) : W p l e R s m args below meth c H locs cells slots Q (F0 m pc L ((as.reverse ++ rest).map (mv kd base))) := by
  obtain ⟨hx, hb, hml, hown, hts, -⟩ := C
  obtain ⟨hw, hp0⟩ := mcT_ok _ _ (mlook_mem hT)
  have w1 := hts _ (gt_in (hw (.methodLink (mcn M.own) idx arraycopyName) (by simp [mew])))
  have w2 := hts _ (gt_in (hw (.native arraycopyName) (by simp [mew])))
  have w3 := hts _ (gt_in (hw (.static arraycopyName) (by simp [mew])))
  have w4 := hts _ (gt_in (hw (.initialized "java/lang/System") (by simp [mew])))
  have hwt' := mwt_ok (kd := kd) (base := base) hwt
  unfold mcopy at hc
  split at hc
  · split at hc
    · rename_i a sp b dp n5 _ _ n0 f n1 f1 hga hgb
      split at hc
      · cases hc
      · rename_i h1
        cases hc
        have hlb : b < g.length := (List.getElem?_eq_some_iff.mp hgb).1
        refine va_copyi (rest := rest.map (mv kd base)) (sp := sp) (dp := dp) (n := n5) (ty := .int) hx hb (hml.trans hL.symm) hown w1 w2 w3 w4 hK hR.1 mwS_D hR.2.2.1 a b 0 0 (mwS_at hga) (mwS_at hgb) rfl rfl rfl (fun h => h1 (Or.inl h)) (fun h => h1 (Or.inr (Or.inl h))) (fun h => h1 (Or.inr (Or.inr (Or.inl h)))) (by omega) (by omega) (fun _ _ => rfl) (by omega) (by show _ + (7 + 11) ≤ R.locals; omega) hd fun H1 locs1 hP hD hS => ?_
        exact mr_set (g' := g.set b (mI n1 (va_cpy f f1 sp.toNatClampNeg dp.toNatClampNeg n5.toNatClampNeg))) (by simp) (Nat.lt_of_le_of_lt (Nat.zero_le _) hlb) hR (by rw [mwS_set]; exact hP) hS (kk H1 locs1)
    · cases hc
  · cases hc
theorem mstrs_ok {j : Nat} {t : List Int32} (h : mstrs j = some t) : ∃ i, i < 13 ∧ j = i + 2 ∧ msbyt.getD i [] = t ∧ mslen.getD i 0 = t.length := by
  unfold mstrs at h
  split at h
  all_goals first | cases h | skip
  · exact ⟨0, by decide, rfl, rfl, rfl⟩
  · exact ⟨1, by decide, rfl, rfl, rfl⟩
  · exact ⟨2, by decide, rfl, rfl, rfl⟩
  · exact ⟨3, by decide, rfl, rfl, rfl⟩
  · exact ⟨4, by decide, rfl, rfl, rfl⟩
  · exact ⟨5, by decide, rfl, rfl, rfl⟩
  · exact ⟨6, by decide, rfl, rfl, rfl⟩
  · exact ⟨7, by decide, rfl, rfl, rfl⟩
  · exact ⟨8, by decide, rfl, rfl, rfl⟩
  · exact ⟨9, by decide, rfl, rfl, rfl⟩
  · exact ⟨10, by decide, rfl, rfl, rfl⟩
  · exact ⟨11, by decide, rfl, rfl, rfl⟩
  · exact ⟨12, by decide, rfl, rfl, rfl⟩
theorem mr_txt (hE : mEn D tc kd base sc s s.heap) (hbs : base ≤ s.heap.size) (hR : mRl D tc kd base s g H locs cells) : ∀ U : State, U.heap = H → s.WarmedH U.vm → mEt kd base U U.heap := by
  intro U hU hW
  refine hE.2.2.2.2.next hW.alike (fun q hq => ?_)
  rw [hU]
  exact hR.2.2.1.2.1 q (by omega) (by simp only [Nat.not_le]; exact hq)
theorem mr_len {i : Nat} {rest : List Value} (C : mCt p s m args meth c M) (hE : mEn D tc kd base sc s s.heap) (hbs : base ≤ s.heap.size) (hR : mRl D tc kd base s g H locs cells) (hRf : M.rank ≤ R.frames) (hRl : 43 * M.rank ≤ R.locals) (hrk : 6 ≤ M.rank) (hown8 : M.own = 8) (hc : cells ≤ R.cells ∧ slots ≤ R.slots) (hi : i < 13) (hwt : mwt rest = true) (hd : decode M.cc pc = .ok (.invokevirtual 44, 3)) (hL : L.size = M.nL)
    (kk : W p l e R s m args below meth c H locs cells slots Q (F0 m (pc + 3) L (.int (Int32.ofNat (mslen.getD i 0)) :: rest.map (mv kd base)))) : W p l e R s m args below meth c H locs cells slots Q (F0 m pc L (.ref (kd (i + 2)) :: rest.map (mv kd base))) := by
  obtain ⟨hx, hb, hml, hown, hts, -⟩ := C
  rw [hown8] at hown
  have hEt := hE.2.2.2.2
  exact j_after (j_runV (own := RX8) (idx := 44) (n := 0) (as := []) (b := kd (i + 2)) (rest := rest.map (mv kd base)) hx hb hml hown hts (jc_len i hi) (mr_txt hE hbs hR) (vk_recv (adK := fun i => kd (i + 2)) (i := i) hEt.1.1 hi hR.2.2.1) jw_len jl_len js_len jv_len ji_0 (by decide) (by decide +kernel) (by omega) (by omega) hc rfl hL (mwt_ok hwt) hd) kk
theorem mr_cha {i : Nat} {k : Int32} {rest : List Value} (C : mCt p s m args meth c M) (hE : mEn D tc kd base sc s s.heap) (hbs : base ≤ s.heap.size) (hR : mRl D tc kd base s g H locs cells) (hRf : M.rank ≤ R.frames) (hRl : 43 * M.rank ≤ R.locals) (hrk : 6 ≤ M.rank) (hown8 : M.own = 8) (hc : cells ≤ R.cells ∧ slots ≤ R.slots) (hi : i < 13) (hk : vp_in k (mslen.getD i 0)) (hwt : mwt rest = true) (hd : decode M.cc pc = .ok (.invokevirtual 49, 3)) (hL : L.size = M.nL)
    (kk : W p l e R s m args below meth c H locs cells slots Q (F0 m (pc + 3) L (.int ((msbyt.getD i []).getD k.toNatClampNeg 0) :: rest.map (mv kd base)))) : W p l e R s m args below meth c H locs cells slots Q (F0 m pc L (.int k :: .ref (kd (i + 2)) :: rest.map (mv kd base))) := by
  obtain ⟨hx, hb, hml, hown, hts, -⟩ := C
  rw [hown8] at hown
  have hEt := hE.2.2.2.2
  exact j_after (j_runV (own := RX8) (idx := 49) (n := 1) (as := [.int k]) (b := kd (i + 2)) (rest := rest.map (mv kd base)) hx hb hml hown hts (jc_cha i hi k hk) (mr_txt hE hbs hR) (vk_recv (adK := fun i => kd (i + 2)) (i := i) hEt.1.1 hi hR.2.2.1) jw_cha jl_cha js_cha jv_cha ji_0 (by decide) (by decide +kernel) (by omega) (by omega) hc rfl hL (mwt_ok hwt) hd) kk
theorem mr_mcall {n : Nat} {r : mR} {g' : mW} {SF : Nat} (C : mCt p s m args meth c M) (hE : mEn D tc kd base sc s s.heap) (hbs : base ≤ s.heap.size) (hRf : M.rank ≤ R.frames) (hRl : 43 * M.rank ≤ R.locals) (hSF : SF ≤ R.slots) (hCF : base + g'.length ≤ s.heap.size + R.cells) (hEnd : mEnd p l e R s m args below meth c Q D tc kd base M r g' SF) {ls : List (Option Value)} (hl : mLoc kd base ls L) (hln : ls.length = M.nL)
    (hIH : ∀ M' as g r1 g1, mgd M' → (menter as).length ≤ M'.nL → mx sc n M' 0 (mlocals M'.nL as) [] g = some (r1, g1) → mMt l D tc kd base sc M' as g r1 g1)
    (ih : ∀ (pc : Nat) (ls : List (Option Value)) (st : List Value) (g : mW) (H : Heap) (locs : List Loc) (cells slots : Nat) (L : Array Slot), mx sc n M pc ls st g = some (r, g') → mLoc kd base ls L → ls.length = M.nL → mRl D tc kd base s g H locs cells → slots + (msl g' - msl g) = SF → W p l e R s m args below meth c H locs cells slots Q (F0 m pc L (st.map (mv kd base))))
    (hR : mRl D tc kd base s g H locs cells) (hS : slots + (msl g' - msl g) = SF) {st : List Value} {i : Instr} {idx sp : Nat} (hi : (sp = 0 ∧ i = .invokevirtual idx) ∨ (sp = 1 ∧ i = .invokespecial idx) ∨ (sp = 2 ∧ i = .invokestatic idx)) (hd : decode M.cc pc = .ok (i, 3))
    (h : mcall (mx sc n) M pc ls st g idx sp = some (r, g')) : W p l e R s m args below meth c H locs cells slots Q (F0 m pc L (st.map (mv kd base))) := by
  have hgk := mx_gr sc n
  have hL : L.size = M.nL := hl.1.trans hln
  unfold mcall at h
  split at h
  · cases h
  · rename_i k n' M' hT
    have hgd := mep_gd (mlook_mem hT)
    split at h
    · cases h
    · rename_i as rest hp
      obtain ⟨hst, hlen⟩ := mpop_eq hp
      subst hst
      split at h
      · rename_i hwr
        obtain ⟨hwt, hrank, hent⟩ := hwr
        have room : ∀ g1 : mW, mgr g g1 → mgr g1 g' → cells + (g1.length - g.length) ≤ R.cells ∧ slots + (msl g1 - msl g) ≤ R.slots := by
          intro g1 h1 h2
          have a1 := h1.1; have a2 := h1.2; have a3 := h2.1; have a4 := h2.2
          have a5 := hR.2.2.2
          omega
        split at h
        · rename_i hk
          obtain ⟨rfl, rfl⟩ := hk
          obtain ⟨-, rfl⟩ : True ∧ i = .invokevirtual idx := by rcases hi with ⟨-, h⟩ | ⟨h, -⟩ | ⟨h, -⟩ <;> first | exact ⟨trivial, h⟩ | cases h
          split at h
          · rename_i hrc
            obtain ⟨b, As, fs, rfl, hgb⟩ := mrecv_ref hrc
            cases ho : mx sc n M' 0 (mlocals M'.nL (.ref b :: As)) [] g with
            | none => rw [ho] at h; cases h
            | some rg =>
              obtain ⟨r1, g1⟩ := rg
              rw [ho] at h
              have hg1 := hgk _ _ _ _ _ _ _ ho
              have hg2 : mgr g1 g' := mback_gr (g := g1) hgk (fun r2 g2 e2 => by cases e2; exact mgr.rf _) h
              exact mr_mback C hE hbs hEnd hl hln ih hR hg1 hg2 hS (mr_runV C hE hbs hR (hIH M' _ g r1 g1 hgd hent ho) hT hrank hRf hRl hgb hlen hwt hd (room g1 hg1 hg2) hL) h
          · cases h
        · split at h
          · rename_i hk
            obtain ⟨rfl, rfl⟩ := hk
            obtain ⟨-, rfl⟩ : True ∧ i = .invokestatic idx := by rcases hi with ⟨h, -⟩ | ⟨h, -⟩ | ⟨-, h⟩ <;> first | exact ⟨trivial, h⟩ | cases h
            cases ho : mx sc n M' 0 (mlocals M'.nL as) [] g with
            | none => rw [ho] at h; cases h
            | some rg =>
              obtain ⟨r1, g1⟩ := rg
              rw [ho] at h
              have hg1 := hgk _ _ _ _ _ _ _ ho
              have hg2 : mgr g1 g' := mback_gr (g := g1) hgk (fun r2 g2 e2 => by cases e2; exact mgr.rf _) h
              exact mr_mback C hE hbs hEnd hl hln ih hR hg1 hg2 hS (mr_runS C hE hbs hR (hIH M' _ g r1 g1 hgd hent ho) hT hrank hRf hRl hlen hwt hd (room g1 hg1 hg2) hL) h
          · split at h
            · rename_i hk
              obtain ⟨hk, rfl⟩ := hk
              obtain ⟨-, rfl⟩ : True ∧ i = .invokespecial idx := by rcases hi with ⟨h, -⟩ | ⟨-, h⟩ | ⟨h, -⟩ <;> first | exact ⟨trivial, h⟩ | cases h
              split at h
              · rename_i hrf
                obtain ⟨b, As, rfl⟩ := mref_ok hrf
                cases ho : mx sc n M' 0 (mlocals M'.nL (.ref b :: As)) [] g with
                | none => rw [ho] at h; cases h
                | some rg =>
                  obtain ⟨r1, g1⟩ := rg
                  rw [ho] at h
                  cases r1 with
                  | inr k1 => cases h
                  | inl v1 =>
                    have hg1 := hgk _ _ _ _ _ _ _ ho
                    have hg2 : mgr g1 g' := hgk _ _ _ _ _ _ _ h
                    refine mr_callr hbs hR hg1 (mr_runI C hE hbs hR (hIH M' _ g _ g1 hgd hent ho) hT hk hrank hRf hRl hlen hwt hd (room g1 hg1 hg2) hL) rfl fun H' locs' hR' => ?_
                    exact ih _ _ _ _ _ _ _ _ _ h hl hln hR' (by have := hg1.2; have := hg2.2; omega)
              · cases h
            · split at h
              · rename_i hk
                obtain ⟨rfl, rfl⟩ := hk
                obtain ⟨-, rfl⟩ : True ∧ i = .invokestatic idx := by rcases hi with ⟨h, -⟩ | ⟨h, -⟩ | ⟨-, h⟩ <;> first | exact ⟨trivial, h⟩ | cases h
                cases ho : mx sc n M' 0 (mlocals M'.nL as) [] g with
                | none => rw [ho] at h; cases h
                | some rg =>
                  obtain ⟨r1, g1⟩ := rg
                  rw [ho] at h
                  cases r1 with
                  | inr k1 => cases h
                  | inl v1 =>
                    have hg1 := hgk _ _ _ _ _ _ _ ho
                    have hg2 : mgr g1 g' := hgk _ _ _ _ _ _ _ h
                    refine mr_callr hbs hR hg1 (mr_runSN C hE hbs hR (hIH M' _ g _ g1 hgd hent ho) hT hrank hRf hRl hlen hwt hd (room g1 hg1 hg2) hL) rfl fun H' locs' hR' => ?_
                    exact ih _ _ _ _ _ _ _ _ _ h hl hln hR' (by have := hg1.2; have := hg2.2; omega)
              · split at h
                · rename_i hk
                  obtain ⟨rfl, rfl⟩ := hk
                  obtain ⟨-, rfl⟩ : True ∧ i = .invokespecial idx := by rcases hi with ⟨h, -⟩ | ⟨-, h⟩ | ⟨h, -⟩ <;> first | exact ⟨trivial, h⟩ | cases h
                  split at h
                  · rename_i hrf
                    obtain ⟨b, As, rfl⟩ := mref_ok hrf
                    exact mr_objinit C hRf hRl hT (Nat.lt_of_le_of_lt (Nat.zero_le _) hrank) hlen hwt hd hL (ih _ _ _ _ _ _ _ _ _ h hl hln hR hS)
                  · cases h
                · split at h
                  · rename_i hk
                    obtain ⟨rfl, rfl⟩ := hk
                    split at h
                    · rename_i g2 hc
                      obtain ⟨-, rfl⟩ : True ∧ i = .invokestatic idx := by rcases hi with ⟨h, -⟩ | ⟨h, -⟩ | ⟨-, h⟩ <;> first | exact ⟨trivial, h⟩ | cases h
                      have hg1 := mcopy_gr hc
                      have hg2 : mgr g2 g' := hgk _ _ _ _ _ _ _ h
                      exact mr_copy C hE.1 hR hRf hRl hT (Nat.lt_of_le_of_lt (Nat.zero_le _) hrank) hc hwt hd hL (fun H' locs' hR' => ih _ _ _ _ _ _ _ _ _ h hl hln hR' (by rw [mcopy_sl hc]; exact hS))
                    · cases h
                  · have hg0 : ∀ pc1 ls1 st1, mx sc n M pc1 ls1 st1 g = some (r, g') → cells ≤ R.cells ∧ slots ≤ R.slots := fun pc1 ls1 st1 h0 => by
                      have := room g (mgr.rf g) (hgk _ _ _ _ _ _ _ h0)
                      omega
                    split at h
                    · rename_i hk
                      obtain ⟨rfl, rfl, hrk, hown8, rfl⟩ := hk
                      obtain ⟨-, rfl⟩ : True ∧ i = .invokevirtual 44 := by rcases hi with ⟨-, h⟩ | ⟨h, -⟩ | ⟨h, -⟩ <;> first | exact ⟨trivial, h⟩ | cases h
                      split at h
                      · split at h
                        · rename_i ht
                          obtain ⟨i, hi13, rfl, hbt, hlt⟩ := mstrs_ok ht
                          refine mr_len (i := i) C hE hbs hR hRf hRl hrk hown8 (hg0 _ _ _ h) hi13 hwt hd hL ?_
                          rw [hlt]
                          exact ih _ _ _ _ _ _ _ _ _ h hl hln hR hS
                        · cases h
                      · cases h
                    · split at h
                      · rename_i hk
                        obtain ⟨rfl, rfl, hrk, hown8, rfl⟩ := hk
                        obtain ⟨-, rfl⟩ : True ∧ i = .invokevirtual 49 := by rcases hi with ⟨-, h⟩ | ⟨h, -⟩ | ⟨h, -⟩ <;> first | exact ⟨trivial, h⟩ | cases h
                        split at h
                        · split at h
                          · rename_i ht
                            split at h
                            · cases h
                            · rename_i hb
                              obtain ⟨i, hi13, rfl, hbt, hlt⟩ := mstrs_ok ht
                              refine mr_cha (i := i) C hE hbs hR hRf hRl hrk hown8 (hg0 _ _ _ h) hi13 (by rw [hlt]; exact hb) hwt hd hL ?_
                              rw [hbt]
                              exact ih _ _ _ _ _ _ _ _ _ h hl hln hR hS
                          · cases h
                        · cases h
                      · cases h
      · cases h
end
