/-! ===== calls ===== -/
section
variable {p : Program} {l : Launch} {e : Env} {R : Room} {s : State} {m : MethodId} {args : Array Value} {below : List Frame} {meth : Method} {c : Code} {H : Heap} {locs : List Loc} {cells slots : Nat} {Q : State → Prop}
variable {M : mM} {pc : Nat} {L : Array Slot} {kd : Nat → Nat} {base : Nat} {D : va_G} {tc : Nat → ClassId} {g : mW} {sc : Nat × (Nat → Int32)}
theorem mep_gd {own : Nat} {e : Nat × Nat × Nat × mM} (hm : e ∈ mcTab own) : mgd e.2.2.2 := by
  have h1 := (mcT_ok own e hm).2
  have h2 := mkT_ok own e hm
  unfold mep at h1
  simp only [Bool.and_eq_true, decide_eq_true_eq] at h1
  obtain ⟨⟨⟨⟨⟨⟨a1, a2⟩, a3⟩, a4⟩, a5⟩, a6⟩, -⟩ := h1
  exact ⟨a5, a4, ⟨h2, a6⟩, a3⟩
theorem mep_nm {own : Nat} {e : Nat × Nat × Nat × mM} (hm : e ∈ mcTab own) : e.2.2.2.nm.cls ≠ "java/lang/invoke/MethodHandle" ∧ e.2.2.2.nm.cls ≠ "java/lang/invoke/VarHandle" := by
  have h1 := (mcT_ok own e hm).2
  unfold mep at h1
  simp only [Bool.and_eq_true, decide_eq_true_eq] at h1
  obtain ⟨⟨⟨⟨⟨⟨a1, a2⟩, a3⟩, a4⟩, a5⟩, a6⟩, -⟩ := h1
  exact ⟨a1, a2⟩
theorem siglen {d : String} {n : Nat} (h : (parseMethodDescriptor d).map (fun d => d.parameters.length) = some n) : ∀ sig, parseMethodDescriptor d = some sig → n = sig.parameters.length := by
  intro sig hs
  rw [hs] at h
  exact (Option.some.inj h).symm
theorem mr_runV {n idx : Nat} {M' : mM} {b : Nat} {As rest : List Value} {fs : List Value} {r1 : mR} {g1 : mW} (C : mCt p s m args meth c M) (hE : mEn D tc kd base sc s s.heap) (hbs : base ≤ s.heap.size) (hR : mRl D tc kd base s g H locs cells) (hMt : mMt l D tc kd base sc M' (.ref b :: As) g r1 g1)
    (hT : mcT M.own idx = some (0, n, M')) (hrank : M'.rank < M.rank) (hRf : M.rank ≤ R.frames) (hRl : 43 * M.rank ≤ R.locals) (hgb : g[b]? = some (mO M'.own fs)) (hn : (Value.ref b :: As).length = n) (hwt : mwt rest = true) (hd : decode M.cc pc = .ok (.invokevirtual idx, 3))
    (hc : cells + (g1.length - g.length) ≤ R.cells ∧ slots + (msl g1 - msl g) ≤ R.slots) (hL : L.size = M.nL) :
    vx_Run p l e R s m args below meth c H locs cells slots (g1.length - g.length) (msl g1 - msl g) (F0 m pc L (((Value.ref b :: As).reverse ++ rest).map (mv kd base))) (rest.map (mv kd base)) (mQc D tc kd base r1 g1 ((Value.ref b :: As).map (mv kd base)).toArray) (mXc D tc kd base r1 g1) (fun q => base ≤ q) := by
  obtain ⟨hx, hb, hml, hown, hts, -⟩ := C
  have hm := mlook_mem hT
  obtain ⟨a5, a4, a6, a3⟩ := mep_gd hm
  have hnm := mep_nm hm
  obtain ⟨hw, hp0⟩ := mcT_ok _ _ hm
  have hp1 : mep (idx, 0, n, M') = true := hp0
  unfold mep at hp1
  simp only [Bool.and_eq_true, decide_eq_true_eq] at hp1
  obtain ⟨-, ⟨⟨hsg, h1n⟩, hown'⟩, hhs⟩ := hp1
  have w1 := hts _ (gt_in (hw (.methodLink (mcn M.own) idx M'.nm) (by simp [mew])))
  have w2 := hts _ (gt_in (hw (.instanceMethod M'.nm) (by simp [mew])))
  have w3 := hts _ (gt_in (hw (.selects M'.nm.cls M'.nm M'.nm) (by simp [mew])))
  have w4 := hts _ (gt_in (hw (.initialized M'.nm.cls) (by simp [mew])))
  have a4' : mcn M'.own = M'.nm.cls := a4
  have a3' : M'.nL ≤ 24 := a3
  have hcode : Cond.code M'.nm M'.cc M'.nL M'.ret ∈ mcw M' :: gtbl := by rw [← mcw_code hhs]; exact List.mem_cons_self
  have hcb : (Cond.code M'.nm M'.cc M'.nL M'.ret).before args s = true := by rw [← mcw_code hhs]; exact hts _ (gt_in a6)
  have hrecv := va_recv (q0 := b) (ci := M'.own) hE.1 hR.1 (mcl_at M'.own hown') (mwS_at hgb)
  refine vx_runV (As := As.map (mv kd base)) (b := base + b) (C := mcn M'.own) (own := mcn M.own) (index := idx) (y := M'.nm) (bytes := M'.cc) (maxL := M'.nL) (ret := M'.ret) (n := n - 1) ⟨hx, hb, hml, hown, hts⟩ hMt
    ⟨⟨rfl, rfl, by show M'.rank + 1 ≤ R.frames; omega, by show 8 + (M'.nL + 11) + 43 * M'.rank ≤ R.locals; omega, mr_words hts (gt_in a6), hcode, hcb, w4, hnm, siglen hsg, w1⟩, w2, by rw [a4']; exact w3⟩
    ⟨mPc_blind, hrecv, fun U hU hW => mr_pre (as := .ref b :: As) hE hbs hR U hU hW⟩ rfl (by rw [List.length_map, ← hn]; simp) hL (by simp [mv]) (by simpa using mwt_ok (kd := kd) (base := base) hwt) hd hc
theorem mr_runS {n idx : Nat} {M' : mM} {As rest : List Value} {r1 : mR} {g1 : mW} (C : mCt p s m args meth c M) (hE : mEn D tc kd base sc s s.heap) (hbs : base ≤ s.heap.size) (hR : mRl D tc kd base s g H locs cells) (hMt : mMt l D tc kd base sc M' As g r1 g1)
    (hT : mcT M.own idx = some (2, n, M')) (hrank : M'.rank < M.rank) (hRf : M.rank ≤ R.frames) (hRl : 43 * M.rank ≤ R.locals) (hn : As.length = n) (hwt : mwt rest = true) (hd : decode M.cc pc = .ok (.invokestatic idx, 3))
    (hc : cells + (g1.length - g.length) ≤ R.cells ∧ slots + (msl g1 - msl g) ≤ R.slots) (hL : L.size = M.nL) :
    vx_Run p l e R s m args below meth c H locs cells slots (g1.length - g.length) (msl g1 - msl g) (F0 m pc L ((As.reverse ++ rest).map (mv kd base))) (rest.map (mv kd base)) (mQc D tc kd base r1 g1 (As.map (mv kd base)).toArray) (mXc D tc kd base r1 g1) (fun q => base ≤ q) := by
  obtain ⟨hx, hb, hml, hown, hts, -⟩ := C
  have hm := mlook_mem hT
  obtain ⟨a5, a4, a6, a3⟩ := mep_gd hm
  have hnm := mep_nm hm
  obtain ⟨hw, hp0⟩ := mcT_ok _ _ hm
  have hp1 : mep (idx, 2, n, M') = true := hp0
  unfold mep at hp1
  simp only [Bool.and_eq_true, decide_eq_true_eq] at hp1
  obtain ⟨-, hsg⟩ := hp1
  have w1 := hts _ (gt_in (hw (.methodLink (mcn M.own) idx M'.nm) (by simp [mew])))
  have w2 := hts _ (gt_in (hw (.static M'.nm) (by simp [mew])))
  have w4 := hts _ (gt_in (hw (.initialized M'.nm.cls) (by simp [mew])))
  have a3' : M'.nL ≤ 24 := a3
  by_cases hhs : M'.hs = []
  · have hcode : Cond.code M'.nm M'.cc M'.nL M'.ret ∈ mcw M' :: gtbl := by rw [← mcw_code hhs]; exact List.mem_cons_self
    have hcb : (Cond.code M'.nm M'.cc M'.nL M'.ret).before args s = true := by rw [← mcw_code hhs]; exact hts _ (gt_in a6)
    exact vx_runS (As := As.map (mv kd base)) (own := mcn M.own) (index := idx) (y := M'.nm) (bytes := M'.cc) (maxL := M'.nL) (ret := M'.ret) (n := n) ⟨hx, hb, hml, hown, hts⟩ hMt
      ⟨⟨rfl, rfl, by show M'.rank + 1 ≤ R.frames; omega, by show 8 + (M'.nL + 11) + 43 * M'.rank ≤ R.locals; omega, mr_words hts (gt_in a6), hcode, hcb, w4, hnm, siglen hsg, w1⟩, w2⟩
      ⟨mPc_blind, fun U hU hW => mr_pre hE hbs hR U hU hW⟩ rfl (by rw [List.length_map, ← hn]) hL (by simp) (by simpa using mwt_ok (kd := kd) (base := base) hwt) hd hc
  · have hcode : Cond.codeWith M'.nm M'.cc M'.nL M'.ret (mhs M'.hs) ∈ mcw M' :: gtbl := by rw [← mcw_with hhs]; exact List.mem_cons_self
    have hcb : (Cond.codeWith M'.nm M'.cc M'.nL M'.ret (mhs M'.hs)).before args s = true := by rw [← mcw_with hhs]; exact hts _ (gt_in a6)
    exact vx_runSX (hh := mhs M'.hs) (As := As.map (mv kd base)) (own := mcn M.own) (index := idx) (y := M'.nm) (bytes := M'.cc) (maxL := M'.nL) (ret := M'.ret) (n := n) ⟨hx, hb, hml, hown, hts⟩ hMt
      ⟨⟨rfl, rfl, by show M'.rank + 1 ≤ R.frames; omega, by show 8 + (M'.nL + 11) + 43 * M'.rank ≤ R.locals; omega, mr_words hts (gt_in a6), hcode⟩, hcb, w4, hnm, siglen hsg, w1, w2⟩
      ⟨mPc_blind, fun U hU hW => mr_pre hE hbs hR U hU hW⟩ rfl (by rw [List.length_map, ← hn]) hL (by simp) (by simpa using mwt_ok (kd := kd) (base := base) hwt) hd hc
theorem mref_ok {as : List Value} (h : mref as = true) : ∃ b r, as = .ref b :: r := by
  cases as with
  | nil => cases h
  | cons v r => cases v <;> first | exact ⟨_, r, rfl⟩ | cases h
theorem mr_runI {n idx k : Nat} {M' : mM} {b : Nat} {As rest : List Value} {v1 : Option Value} {g1 : mW} (C : mCt p s m args meth c M) (hE : mEn D tc kd base sc s s.heap) (hbs : base ≤ s.heap.size) (hR : mRl D tc kd base s g H locs cells) (hMt : mMt l D tc kd base sc M' (.ref b :: As) g (.inl v1) g1)
    (hT : mcT M.own idx = some (k, n, M')) (hk : k = 1 ∨ k = 4) (hrank : M'.rank < M.rank) (hRf : M.rank ≤ R.frames) (hRl : 43 * M.rank ≤ R.locals) (hn : (Value.ref b :: As).length = n) (hwt : mwt rest = true) (hd : decode M.cc pc = .ok (.invokespecial idx, 3))
    (hc : cells + (g1.length - g.length) ≤ R.cells ∧ slots + (msl g1 - msl g) ≤ R.slots) (hL : L.size = M.nL) :
    va_Run p l e R s m args below meth c H locs cells slots (g1.length - g.length) (msl g1 - msl g) (F0 m pc L (((Value.ref b :: As).reverse ++ rest).map (mv kd base))) (rest.map (mv kd base)) (mQc D tc kd base (.inl v1) g1 ((Value.ref b :: As).map (mv kd base)).toArray) (fun q => base ≤ q) := by
  obtain ⟨hx, hb, hml, hown, hts, -⟩ := C
  have hm := mlook_mem hT
  obtain ⟨a5, a4, a6, a3⟩ := mep_gd hm
  have hnm := mep_nm hm
  obtain ⟨hw, hp0⟩ := mcT_ok _ _ hm
  have hp1 : mep (idx, k, n, M') = true := hp0
  have a3' : M'.nL ≤ 24 := a3
  have hMet := hMt.met
  rcases hk with rfl | rfl
  · unfold mep at hp1
    simp only [Bool.and_eq_true, decide_eq_true_eq] at hp1
    obtain ⟨-, ⟨⟨⟨hsg, h1n⟩, hini⟩, hret⟩, hhs⟩ := hp1
    have w1 := hts _ (gt_in (hw (.methodLink (mcn M.own) idx M'.nm) (by simp [mew])))
    have w2 := hts _ (gt_in (hw (.instanceMethod M'.nm) (by simp [mew])))
    have w4 := hts _ (gt_in (hw (.initialized M'.nm.cls) (by simp [mew])))
    have hcode : Cond.code M'.nm M'.cc M'.nL none ∈ mcw M' :: gtbl := by rw [← hret, ← mcw_code hhs]; exact List.mem_cons_self
    have hcb : (Cond.code M'.nm M'.cc M'.nL none).before args s = true := by rw [← hret, ← mcw_code hhs]; exact hts _ (gt_in a6)
    exact va_runI (As := As.map (mv kd base)) (b := base + b) (own := mcn M.own) (index := idx) (y := M'.nm) (bytes := M'.cc) (maxL := M'.nL) (n := n - 1) ⟨hx, hb, hml, hown, hts⟩ hMet
      ⟨⟨rfl, rfl, by show M'.rank + 1 ≤ R.frames; omega, by show 8 + (M'.nL + 11) + 43 * M'.rank ≤ R.locals; omega, mr_words hts (gt_in a6), hcode, hcb, w4, hnm, siglen hsg, w1⟩, hini, w2⟩
      ⟨mPc_blind, fun U hU hW => mr_pre (as := .ref b :: As) hE hbs hR U hU hW⟩ rfl (by rw [List.length_map, ← hn]; simp) hL (by simp [mv]) (by simpa using mwt_ok (kd := kd) (base := base) hwt) hd hc
  · unfold mep at hp1
    simp only [Bool.and_eq_true, decide_eq_true_eq] at hp1
    obtain ⟨-, ⟨⟨⟨hsg, h1n⟩, hini⟩, hret⟩, hhs⟩ := hp1
    have w2 := hts _ (gt_in (hw (.instanceMethod M'.nm) (by simp [mew])))
    have w4 := hts _ (gt_in (hw (.initialized M'.nm.cls) (by simp [mew])))
    have hcode : Cond.code M'.nm M'.cc M'.nL none ∈ mcw M' :: gtbl := by rw [← hret, ← mcw_code hhs]; exact List.mem_cons_self
    have hcb : (Cond.code M'.nm M'.cc M'.nL none).before args s = true := by rw [← hret, ← mcw_code hhs]; exact hts _ (gt_in a6)
    have hl : (Cond.methodLinkNest (mcn M.own) idx M'.nm RX10).before args s = true := by
      have hin := mnest4 _ _ _ _ hT
      obtain ⟨n1, n2, n3⟩ := hE.2.2.1.1
      rcases hin with ⟨h1, h2, h3⟩ | ⟨h1, h2, h3⟩
      · rw [h1, h2, h3]; exact va_Nw.use rfl n1
      · rw [h1, h2, h3]; exact va_Nw.use rfl n2
    exact va_runIN (As := As.map (mv kd base)) (b := base + b) (own := mcn M.own) (host := RX10) (index := idx) (y := M'.nm) (bytes := M'.cc) (maxL := M'.nL) (n := n - 1) ⟨hx, hb, hml, hown, hts⟩ hMet
      ⟨⟨⟨rfl, rfl, by show M'.rank + 1 ≤ R.frames; omega, by show 8 + (M'.nL + 11) + 43 * M'.rank ≤ R.locals; omega, mr_words hts (gt_in a6), hcode⟩, hcb, w4, hnm, siglen hsg, hl⟩, hini, w2⟩
      ⟨mPc_blind, fun U hU hW => mr_pre (as := .ref b :: As) hE hbs hR U hU hW⟩ rfl (by rw [List.length_map, ← hn]; simp) hL (by simp [mv]) (by simpa using mwt_ok (kd := kd) (base := base) hwt) hd hc
theorem mr_runSN {n idx : Nat} {M' : mM} {As rest : List Value} {v1 : Option Value} {g1 : mW} (C : mCt p s m args meth c M) (hE : mEn D tc kd base sc s s.heap) (hbs : base ≤ s.heap.size) (hR : mRl D tc kd base s g H locs cells) (hMt : mMt l D tc kd base sc M' As g (.inl v1) g1)
    (hT : mcT M.own idx = some (5, n, M')) (hrank : M'.rank < M.rank) (hRf : M.rank ≤ R.frames) (hRl : 43 * M.rank ≤ R.locals) (hn : As.length = n) (hwt : mwt rest = true) (hd : decode M.cc pc = .ok (.invokestatic idx, 3))
    (hc : cells + (g1.length - g.length) ≤ R.cells ∧ slots + (msl g1 - msl g) ≤ R.slots) (hL : L.size = M.nL) :
    va_Run p l e R s m args below meth c H locs cells slots (g1.length - g.length) (msl g1 - msl g) (F0 m pc L ((As.reverse ++ rest).map (mv kd base))) (rest.map (mv kd base)) (mQc D tc kd base (.inl v1) g1 (As.map (mv kd base)).toArray) (fun q => base ≤ q) := by
  obtain ⟨hx, hb, hml, hown, hts, -⟩ := C
  have hm := mlook_mem hT
  obtain ⟨a5, a4, a6, a3⟩ := mep_gd hm
  have hnm := mep_nm hm
  obtain ⟨hw, hp0⟩ := mcT_ok _ _ hm
  have hp1 : mep (idx, 5, n, M') = true := hp0
  unfold mep at hp1
  simp only [Bool.and_eq_true, decide_eq_true_eq] at hp1
  obtain ⟨-, hsg, hhs⟩ := hp1
  have w2 := hts _ (gt_in (hw (.static M'.nm) (by simp [mew])))
  have w4 := hts _ (gt_in (hw (.initialized M'.nm.cls) (by simp [mew])))
  have a3' : M'.nL ≤ 24 := a3
  have hcode : Cond.code M'.nm M'.cc M'.nL M'.ret ∈ mcw M' :: gtbl := by rw [← mcw_code hhs]; exact List.mem_cons_self
  have hcb : (Cond.code M'.nm M'.cc M'.nL M'.ret).before args s = true := by rw [← mcw_code hhs]; exact hts _ (gt_in a6)
  have hl : (Cond.methodLinkNest (mcn M.own) idx M'.nm RX10).before args s = true := by
    obtain ⟨h1, h2, h3⟩ := mnest5 _ _ _ _ hT
    obtain ⟨n1, n2, n3⟩ := hE.2.2.1.1
    rw [h1, h2, h3]
    exact va_Nw.use rfl n3
  exact va_runSN (As := As.map (mv kd base)) (own := mcn M.own) (host := RX10) (index := idx) (y := M'.nm) (bytes := M'.cc) (maxL := M'.nL) (ret := M'.ret) (n := n) ⟨hx, hb, hml, hown, hts⟩ hMt.met
    ⟨⟨⟨rfl, rfl, by show M'.rank + 1 ≤ R.frames; omega, by show 8 + (M'.nL + 11) + 43 * M'.rank ≤ R.locals; omega, mr_words hts (gt_in a6), hcode⟩, hcb, w4, hnm, siglen hsg, hl⟩, w2, trivial⟩
    ⟨mPc_blind, fun U hU hW => mr_pre hE hbs hR U hU hW⟩ rfl (by rw [List.length_map, ← hn]) hL (by simp) (by simpa using mwt_ok (kd := kd) (base := base) hwt) hd hc
end
