/-! ===== the machine does what the mini machine does ===== -/
def mgd (M : mM) : Prop := plainName M.nm.cls = true ∧ mcn M.own = M.nm.cls ∧ (mcw M ∈ lw_tbl ∧ goodWord (mcw M) = true) ∧ M.nL ≤ 24
def mrt : Instr → Option Value → Bool
  | .ireturn, some v => mkind v == 0
  | .areturn, some v => mkind v == 2
  | .return_, none => true
  | _, _ => false
section
variable {p : Program} {l : Launch} {e : Env} {R : Room} {s : State} {m : MethodId} {args : Array Value} {below : List Frame} {meth : Method} {c : Code} {H : Heap} {locs : List Loc} {cells slots : Nat} {Q : State → Prop}
variable {M : mM} {pc : Nat} {L : Array Slot} {kd : Nat → Nat} {base : Nat} {D : va_G} {tc : Nat → ClassId} {g : mW} {sc : Nat × (Nat → Int32)}
/-- behind a call that may throw -/
theorem mr_callx {stR restR : List Value} {rest : List Value} {r1 : mR} {g1 : mW} {a : Array Value} (hbs : base ≤ s.heap.size) (hR : mRl D tc kd base s g H locs cells) (hgr : mgr g g1)
    (hrun : vx_Run p l e R s m args below meth c H locs cells slots (g1.length - g.length) (msl g1 - msl g) (F0 m pc L stR) restR (mQc D tc kd base r1 g1 a) (mXc D tc kd base r1 g1) (fun q => base ≤ q)) (hrest : restR = rest.map (mv kd base))
    (kr : ∀ v, r1 = .inl v → ∀ H' locs', mRl D tc kd base s g1 H' locs' (cells + (g1.length - g.length)) → W p l e R s m args below meth c H' locs' (cells + (g1.length - g.length)) (slots + (msl g1 - msl g)) Q (F0 m (pc + 3) L ((v.toList ++ rest).map (mv kd base))))
    (kx : ∀ k, r1 = .inr k → ∀ H' locs' q ce, mRl D tc kd base s g1 H' locs' (cells + (g1.length - g.length)) → H'[q]? = some ce → ce.vm = .none → s.vm.findClass (mxn k) = some ce.cls → vx_W p l e R s m args below meth c H' locs' (cells + (g1.length - g.length)) (slots + (msl g1 - msl g)) Q (F0 m pc L restR) q) :
    W p l e R s m args below meth c H locs cells slots Q (F0 m pc L stR) := by
  intro T hT X
  rcases hrun T hT X with ⟨v, st₀, t, T', Lc, h0, X', hL, e1, e2, ⟨v', hv, ho, hP, hF⟩, st⟩ | ⟨q, st₀, t, T', Lc, E, ce, h0, X', hL, e1, e2, ⟨k, hk, hE, hP, hF⟩, hce, hcv, hcl, st⟩
  · have hR1 := mr_after hbs hR hgr h0 e1 hL hP hF X'
    obtain ⟨t2, a1, b1⟩ := kr v' hv T'.heap (locs ++ Lc) hR1 T' rfl X'
    refine ⟨t2, st t2 ?_, b1⟩
    cases ho
    subst hrest
    have e9 : (v'.map (mv kd base)).toList ++ rest.map (mv kd base) = (v'.toList ++ rest).map (mv kd base) := by cases v' <;> simp
    show Steps p.tables e below (T'.setTop { method := m, pc := pc + 3, locals := L, stack := (v'.map (mv kd base)).toList ++ rest.map (mv kd base), locked := none }) t2
    rw [e9]
    exact a1
  · have hR1 := mr_after hbs hR hgr h0 e1 hL hP hF X'
    subst hE
    obtain ⟨t2, a1, b1⟩ := kx k hk T'.heap (locs ++ Lc) q ce hR1 (by rw [e1]; exact hce) hcv hcl T' rfl X'
    exact ⟨t2, st.trans a1, b1⟩
/-- behind a call that returns -/
theorem mr_callr {stR restR : List Value} {rest : List Value} {v1 : Option Value} {g1 : mW} {a : Array Value} (hbs : base ≤ s.heap.size) (hR : mRl D tc kd base s g H locs cells) (hgr : mgr g g1)
    (hrun : va_Run p l e R s m args below meth c H locs cells slots (g1.length - g.length) (msl g1 - msl g) (F0 m pc L stR) restR (mQc D tc kd base (.inl v1) g1 a) (fun q => base ≤ q)) (hrest : restR = rest.map (mv kd base))
    (kr : ∀ H' locs', mRl D tc kd base s g1 H' locs' (cells + (g1.length - g.length)) → W p l e R s m args below meth c H' locs' (cells + (g1.length - g.length)) (slots + (msl g1 - msl g)) Q (F0 m (pc + 3) L ((v1.toList ++ rest).map (mv kd base)))) :
    W p l e R s m args below meth c H locs cells slots Q (F0 m pc L stR) := by
  intro T hT X
  obtain ⟨v, st₀, t, T', Lc, h0, X', hL, e1, e2, ⟨v', hv, ho, hP, hF⟩, st⟩ := hrun T hT X
  have hR1 := mr_after hbs hR hgr h0 e1 hL hP hF X'
  cases hv
  obtain ⟨t2, a1, b1⟩ := kr T'.heap (locs ++ Lc) hR1 T' rfl X'
  refine ⟨t2, st t2 ?_, b1⟩
  cases ho
  subst hrest
  have e9 : (v1.map (mv kd base)).toList ++ rest.map (mv kd base) = (v1.toList ++ rest).map (mv kd base) := by cases v1 <;> simp
  show Steps p.tables e below (T'.setTop { method := m, pc := pc + 3, locals := L, stack := (v1.map (mv kd base)).toList ++ rest.map (mv kd base), locked := none }) t2
  rw [e9]
  exact a1
theorem gt_good {w : Cond} (h : w ∈ gtbl) : goodWord w = true := (List.mem_filter.mp h).2
/-- the words of a callee hold wherever it is called -/
theorem mr_words {M' : mM} (hts : ∀ w ∈ gtbl, w.before args s = true) (hM : mcw M' ∈ gtbl) : ∀ w ∈ mcw M' :: gtbl, ∀ (a' : Array Value) (U : State), s.WarmedH U.vm → w.before a' U = true := by
  intro w hw a' U hW
  rcases List.mem_cons.mp hw with rfl | hw
  · exact word_at hW (good_of_word (gt_good hM)) (hts _ hM)
  · exact word_at hW (good_of_word (gt_good hw)) (hts _ hw)
theorem mcw_code {M : mM} (h : M.hs = []) : mcw M = .code M.nm M.cc M.nL M.ret := by unfold mcw; rw [if_pos h]
theorem mcw_with {M : mM} (h : ¬ M.hs = []) : mcw M = .codeWith M.nm M.cc M.nL M.ret (mhs M.hs) := by unfold mcw; rw [if_neg h]
/-- the state in which a callee begins -/
theorem mr_pre {as : List Value} (hE : mEn D tc kd base sc s s.heap) (hbs : base ≤ s.heap.size) (hR : mRl D tc kd base s g H locs cells) : ∀ U : State, U.heap = H → s.WarmedH U.vm → mPc D tc kd base sc as g (as.map (mv kd base)).toArray U := by
  intro U hU hW
  refine ⟨rfl, by rw [hU]; exact hR.2.1, by rw [hU]; exact hR.1, hE.next hW hbs fun q hq => ?_⟩
  rw [hU]
  exact hR.2.2.1.2.1 q (Nat.lt_of_lt_of_le hq hbs) (Nat.not_le.mpr hq)
end
