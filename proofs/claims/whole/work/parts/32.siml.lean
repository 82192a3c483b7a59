/-! ===== from runs of the mini machine to contracts ===== -/
theorem menter_args (kd : Nat → Nat) (base : Nat) : ∀ (as : List Value) (i j : Nat) (v : Value), mld (menter as) j = some v → (i + j, mv kd base v) ∈ lv_args i (as.map (mv kd base))
  | [], i, j, v, h => by cases h
  | a :: as, i, j, v, h => by
    simp only [List.map_cons, lv_args]
    unfold menter at h
    rw [mv_cat]
    by_cases hc : a.category = 2
    · rw [if_pos hc] at h ⊢
      match j, h with
      | 0, h => simp only [mld] at h; cases h; simp
      | 1, h => simp only [mld] at h; cases h
      | j + 2, h =>
        simp only [mld] at h
        refine List.mem_cons_of_mem _ ?_
        have := menter_args kd base as (i + 2) j v h
        rw [show i + 2 + j = i + (j + 2) by omega] at this
        exact this
    · rw [if_neg hc] at h ⊢
      match j, h with
      | 0, h => simp only [mld] at h; cases h; simp
      | j + 1, h =>
        simp only [mld] at h
        refine List.mem_cons_of_mem _ ?_
        have := menter_args kd base as (i + 1) j v h
        rw [show i + 1 + j = i + (j + 1) by omega] at this
        exact this
theorem menter_len (kd : Nat → Nat) (base : Nat) : ∀ as : List Value, (lg_sl (as.map (mv kd base))).length = (menter as).length
  | [] => rfl
  | a :: as => by
    have ih := menter_len kd base as
    have e1 : lg_sl ((a :: as).map (mv kd base)) = (if (mv kd base a).category = 2 then [.val (mv kd base a), .second] else [.val (mv kd base a)]) ++ lg_sl (as.map (mv kd base)) := rfl
    have e2 : menter (a :: as) = if a.category = 2 then some a :: none :: menter as else some a :: menter as := rfl
    rw [e1, List.length_append, ih, mv_cat, e2]
    by_cases hc : a.category = 2
    · rw [if_pos hc, if_pos hc]
      show 2 + _ = _ + 1 + 1
      omega
    · rw [if_neg hc, if_neg hc]
      show 1 + _ = _ + 1
      omega
theorem mlocals_ok {kd : Nat → Nat} {base n : Nat} {as : List Value} {L : Array Slot} (hn : (menter as).length ≤ n) (h : lv_has L n (lv_args 0 (as.map (mv kd base)))) : mLoc kd base (mlocals n as) L ∧ (mlocals n as).length = n := by
  have hlen : (mlocals n as).length = n := by simp [mlocals]; omega
  refine ⟨⟨by rw [h.1, hlen], h.2.1, fun j v hj => ?_⟩, hlen⟩
  have h1 : mld (menter as) j = some v := by
    rw [mld_eq] at hj ⊢
    unfold mlocals at hj
    by_cases hl : j < (menter as).length
    · rw [List.getElem?_append_left hl] at hj; exact hj
    · rw [List.getElem?_append_right (by omega)] at hj
      rw [List.getElem?_replicate] at hj
      split at hj <;> cases hj
  have h2 := menter_args kd base as 0 j v h1
  rw [Nat.zero_add] at h2
  exact h.2.2 _ h2
section
variable {p : Program} {l : Launch} {e : Env} {R : Room} {s : State} {m : MethodId} {args : Array Value} {below : List Frame} {meth : Method} {c : Code} {H : Heap} {locs : List Loc} {cells slots : Nat} {Q : State → Prop}
variable {M : mM} {pc : Nat} {L : Array Slot} {kd : Nat → Nat} {base : Nat} {D : va_G} {tc : Nat → ClassId} {g : mW} {sc : Nat × (Nat → Int32)}
/-- a method's end -/
theorem mr_ret {Qc : Array Value → State → Outcome → State → Prop} {free : Addr → Prop} {v : Option Value} {i : Instr} (C : mCt p s m args meth c M) (hd : decode M.cc pc = .ok (i, 1)) (hi : mrt i v = true) (hv : mretok M.ret v = true)
    (hq : ∀ t : State, t.heap = H → s.WarmedH t.vm → Qc args s (.returned (v.map (mv kd base))) t) (hf : ∀ q ∈ locs, free q.base) : W p l e R s m args below meth c H locs cells slots (MQ below Qc args s cells slots free) (F0 m pc L (v.map (mv kd base)).toList) := by
  obtain ⟨hx, hb, -, -, -, hr, -, hlk, -⟩ := C
  cases v with
  | none =>
    have hi' : i = .return_ := by cases i <;> first | rfl | cases hi
    subst hi'
    have hr0 : M.ret = none := by
      cases hm : M.ret with
      | none => rfl
      | some t => rw [hm] at hv; cases t <;> cases hv
    exact W.vret hx hb (hr.trans hr0) hq hf hd hlk
  | some v =>
    cases hm : M.ret with
    | none => rw [hm] at hv; cases v <;> cases hv
    | some t =>
      rw [hm] at hv hr
      cases v with
      | int x =>
        have hi' : i = .ireturn := by cases i <;> first | rfl | cases hi
        subst hi'
        cases t <;> simp only [mretok, Bool.false_eq_true] at hv
        case int => exact W.iret hx hb hr hq hf hd hlk
        case boolean =>
          simp only [Bool.or_eq_true, beq_iff_eq] at hv
          refine W.zret hx hb hr ?_ hq hf hd hlk
          rcases hv with rfl | rfl <;> rfl
      | ref a =>
        have hi' : i = .areturn := by cases i <;> first | rfl | cases hi
        subst hi'
        cases t <;> simp only [mretok, Bool.false_eq_true] at hv
        exact W.aret hx hb hr (Or.inl ⟨_, rfl⟩) (Or.inr ⟨_, rfl⟩) hq hf hd hlk
      | long x => cases t <;> cases hv
      | float x => cases t <;> cases hv
      | double x => cases t <;> cases hv
      | null => cases t <;> cases hv
      | retAddr x => cases t <;> cases hv
/-- what a body owes, by the run -/
theorem mr_end {r : mR} {g' : mW} {as : List Value} (C : mCt p s m args meth c M) (hE : mEn D tc kd base sc s s.heap) (hsz : s.heap.size = base + g.length) (hgr : mgr g g') (htab : M.hs = [] → ∀ x ∈ c.exceptionTable.toList, False) (hflags : l.stackTraces = false) (hRc : R.cells = g'.length - g.length) (hRs : R.slots = msl g' - msl g) (hRf : M.rank ≤ R.frames) (hRl : 43 * M.rank ≤ R.locals) :
    mEnd p l e R s m args below meth c (vx_MQ below (mQc D tc kd base r g') (mXc D tc kd base r g') args s (g'.length - g.length) (msl g' - msl g) (fun q => base ≤ q)) D tc kd base M r g' (msl g' - msl g) := by
  have hA := hgr.1
  refine ⟨?_, ?_, ?_⟩
  · intro v hr pcR i H' locs' L' cells' hd hi hv hR'
    subst hr
    have e1 : cells' = g'.length - g.length := by have := hR'.2.2.2; omega
    subst e1
    refine vx_ret (mr_ret C hd hi hv (fun t ht hW => ⟨v, rfl, rfl, by rw [ht]; exact hR'.1, hR'.2.2.1.F ht⟩) hR'.2.2.1.2.2)
  · intro k hr pcT idx ic H' locs' L' st' cells' sl' g1 hd hd3 hd4 hd7 hn hth hhs hrk hwt hL hg' hR' hsl
    subst hr
    subst hg'
    obtain ⟨hx, hb, hml, hown, hts, -, -, hlk, -⟩ := C
    have hwt' := mwt_ok (kd := kd) (base := base) hwt
    have hcl9 : cells' + 1 = (g1 ++ [mO (12 + k) []]).length - g.length := by
      have := hR'.2.2.2
      simp only [List.length_append, List.length_cons, List.length_nil] at hA ⊢
      omega
    obtain ⟨z1, z2⟩ : vx_Zq Bundle.tN "UNASSIGNED_STACK" Bundle.steD (fun q => base ≤ q) s s.heap ∧ vx_Zq Bundle.tN "SUPPRESSED_SENTINEL" Bundle.listD (fun q => base ≤ q) s s.heap := hE.2.2.2.2.2.1
    have hth' : (M.own = 10 ∧ idx = 201 ∧ ic = 203 ∧ 100 + k = 100) ∨ (M.own = 10 ∧ idx = 370 ∧ ic = 372 ∧ 100 + k = 101) := by
      unfold mthrow at hth
      simp only [Bool.or_eq_true, Bool.and_eq_true, beq_iff_eq] at hth
      rcases hth with ⟨⟨⟨h1, h2⟩, h3⟩, h4⟩ | ⟨⟨⟨h1, h2⟩, h3⟩, h4⟩
      · exact Or.inl ⟨h1, h2, h3, h4⟩
      · exact Or.inr ⟨h1, h2, h3, h4⟩
    rcases hth' with ⟨h1, rfl, rfl, h4⟩ | ⟨h1, rfl, rfl, h4⟩
    · have hk0 : k = 0 := by omega
      subst hk0
      have hown' : s.vm.findClass RX10 = some m.cls := by rw [h1] at hown; exact hown
      have hat : ∀ w ∈ vx_at0 RX10 203 mNSE mNs, w.before args s = true := vx_hat (fun w hw => hts _ (gt_in (mtN_a w hw))) mtN_b (mt_bad hE)
      exact mr_throw0 (cc := M.cc) (own := RX10) (cls := mNSE) (names := mNs) (ik := 201) (ic := 203) (A := fun q => base ≤ q) hx hb hflags hown' (by decide +kernel) (by decide +kernel) (hts _ mtN_k) (hts _ mtN_i) hat mtN_c z1 z2 hR'.2.2.1 (hL.trans hml.symm) hd hd3 hd4 hd7
        (fun x hx9 => (htab hhs x hx9).elim) (by show 2 + 3 < R.frames; omega) (by show _ + (13 * (2 + 1) + 42) ≤ R.locals; omega) (by omega) (by omega) hlk
        (fun t ce hA9 hsz9 hkp hce hcv hcl => ⟨0, rfl, rfl, mr_xk (k := 0) (r := .inr 0) hE.1 hR' (by omega) hsz9 hkp hce hcv hcl⟩) hR'.2.2.1.2.2 (by omega) (by omega)
    · have hk0 : k = 1 := by omega
      subst hk0
      have hown' : s.vm.findClass RX10 = some m.cls := by rw [h1] at hown; exact hown
      have hat : ∀ w ∈ vx_at0 RX10 372 mIAE mNs, w.before args s = true := vx_hat (fun w hw => hts _ (gt_in (mtI_a w hw))) mtI_b (mt_bad hE)
      exact mr_throw0 (cc := M.cc) (own := RX10) (cls := mIAE) (names := mNs) (ik := 370) (ic := 372) (A := fun q => base ≤ q) hx hb hflags hown' (by decide +kernel) (by decide +kernel) (hts _ mtI_k) (hts _ mtI_i) hat mtI_c z1 z2 hR'.2.2.1 (hL.trans hml.symm) hd hd3 hd4 hd7
        (fun x hx9 => (htab hhs x hx9).elim) (by show 2 + 3 < R.frames; omega) (by show _ + (13 * (2 + 1) + 42) ≤ R.locals; omega) (by omega) (by omega) hlk
        (fun t ce hA9 hsz9 hkp hce hcv hcl => ⟨1, rfl, rfl, mr_xk (k := 1) (r := .inr 1) hE.1 hR' (by omega) hsz9 hkp hce hcv hcl⟩) hR'.2.2.1.2.2 (by omega) (by omega)
  · intro k hr pcT H' locs' L' st' cells' q ce hhs hR' hce hcv hcl
    subst hr
    have e1 : cells' = g'.length - g.length := by have := hR'.2.2.2; omega
    subst e1
    exact vx_out (fun x hx => (htab hhs x hx).elim) C.2.2.2.2.2.2.2.1 hce hcv hcl (fun t ht hA' => ⟨k, rfl, rfl, by rw [ht]; exact hR'.1, hR'.2.2.1.F ht⟩) hR'.2.2.1.2.2 (Nat.le_refl _) (Nat.le_refl _)
end
section
variable {l : Launch} {kd : Nat → Nat} {base : Nat} {D : va_G} {tc : Nat → ClassId} {sc : Nat × (Nat → Int32)}
theorem mMt_of {n : Nat} (hS : mSim l D tc kd base sc n) (hflags : l.stackTraces = false) {M : mM} {as : List Value} {g g' : mW} {r : mR} (hg : mgd M) (hent : (menter as).length ≤ M.nL) (h : mx sc n M 0 (mlocals M.nL as) [] g = some (r, g')) : mMt l D tc kd base sc M as g r g' := by
  obtain ⟨g1, g2, g3, g4⟩ := hg
  have hgr := mx_gr sc n _ _ _ _ _ _ _ h
  have key : ∀ (p : Program) (e : Env) (s : State) (m : MethodId) (args : Array Value) (below : List Frame) (meth : Method) (c : Code) (s₁ : State), BodyLoose p l M.nm (headSpec (mcw M :: gtbl) (mrm M g g')) M.cc M.nL M.ret e s m args below meth c s₁ → c.maxLocals = M.nL → (M.hs = [] → ∀ x ∈ c.exceptionTable.toList, False) → mPc D tc kd base sc as g args s →
      W p l e (headSpec (mcw M :: gtbl) (mrm M g g')).room s m args below meth c s.heap [] 0 0 (vx_MQ below (mQc D tc kd base r g') (mXc D tc kd base r g') args s (g'.length - g.length) (msl g' - msl g) (fun q => base ≤ q)) (entryFrame m args M.nL) := by
    intro p e s m args below meth c s₁ B hml htab hv
    obtain ⟨rfl, hsz, hP, hE⟩ := hv
    have hts : ∀ w ∈ gtbl, w.before (as.map (mv kd base)).toArray s = true := fun w hw => atoms_spec (ws := mcw M :: gtbl) B.pre w (List.mem_cons_of_mem _ hw)
    have hown : s.vm.findClass M.nm.cls = some m.cls := findClass_of_methodNamed B.named
    have hnm : meth.name = M.nm.name := (name_of_methodNamed B.named B.method).1
    have C : mCt p s m (as.map (mv kd base)).toArray meth c M := ⟨B.exec, B.bytes, hml, by rw [g2]; exact hown, hts, B.returns, hnm, B.notSynchronized, fun hne => vx_table (x := M.nm) B (by rw [← mcw_with hne]; exact atoms_spec (ws := mcw M :: gtbl) B.pre _ List.mem_cons_self)⟩
    have hl := lv_entry (as.map (mv kd base)) (n := M.nL) (by rw [menter_len]; exact hent)
    rw [lg_entry_eq]
    generalize ((lg_sl (as.map (mv kd base)) ++ List.replicate (M.nL - (lg_sl (as.map (mv kd base))).length) Slot.unset).toArray) = L at hl ⊢
    obtain ⟨hloc, hlen⟩ := mlocals_ok hent hl
    have hA := hgr.1
    have hEnd := mr_end (l := l) (e := e) (R := (headSpec (mcw M :: gtbl) (mrm M g g')).room) (below := below) (r := r) (as := as) C hE hsz hgr htab hflags rfl rfl (Nat.le_refl _) (Nat.le_refl _)
    refine hS p e (headSpec (mcw M :: gtbl) (mrm M g g')).room s m _ below meth c _ M r g' (msl g' - msl g) C hE (by omega) (Nat.le_refl _) (Nat.le_refl _) (Nat.le_refl _) ?_ hEnd 0 _ [] g s.heap [] 0 0 L h hloc hlen ⟨hP, hsz, va_S.rf, by omega⟩ (by omega)
    show base + g'.length ≤ s.heap.size + (g'.length - g.length)
    omega
  by_cases hhs : M.hs = []
  · exact vx_ofW g1 (by rw [mcw_code hhs]) (fun p e s m args below meth c s₁ B hml ht hv => key p e s m args below meth c s₁ B hml (fun _ => ht) hv)
  · exact vx_ofWH (hh := mhs M.hs) g1 (by rw [mcw_with hhs]) (fun p e s m args below meth c s₁ B hml hv => key p e s m args below meth c s₁ B hml (fun h => absurd h hhs) hv)
theorem msim_0 : mSim l D tc kd base sc 0 := by
  intro p e R s m args below meth c Q M r g' SF C hE hbs hRf hRl hSF hCF hEnd pc ls st g H locs cells slots L h
  cases h
/-- THE MACHINE DOES WHAT THE MINI MACHINE DOES -/
theorem msim_all (hflags : l.stackTraces = false) : ∀ n, mSim l D tc kd base sc n
  | 0 => msim_0
  | n + 1 => msim_step (msim_all hflags n) (fun _ _ _ _ _ hg hent h => mMt_of (msim_all hflags n) hflags hg hent h)
end
