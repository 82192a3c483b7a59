/-! ===== the environment, and what a method promises ===== -/
def mA (base : Nat) : Nat → Prop := fun q => base ≤ q
def mNSE : String := "java/util/NoSuchElementException"
def mIAE : String := "java/lang/IllegalArgumentException"
def mxn (k : Nat) : String := if k = 0 then mNSE else mIAE
/-- what lies below, and is only read -/
def mEs (kd : Nat → Nat) (base : Nat) (sc : Nat × (Nat → Int32)) (U : State) (H : Heap) : Prop :=
  (va_X (kd 0) sc.1 sc.2 U H ∧ kd 0 < base) ∧ va_Z RX11 "WORDS" "[B" (.ref (kd 1)) (fun q => base ≤ q) U H ∧ va_T .byte (kd 1) 73 (fun i => .int (mwords.getD i 0)) (fun q => base ≤ q) U H
def mEn (D : va_G) (tc : Nat → ClassId) (kd : Nat → Nat) (base : Nat) (sc : Nat × (Nat → Int32)) (U : State) (H : Heap) : Prop :=
  va_K D mcl (mtys tc) U ∧ va_AO RX7 U ∧ (va_Nw (.methodLinkNest RX10 21 yX8_init RX10) U ∧ va_Nw (.methodLinkNest RX10 65 yX2_init RX10) U ∧ va_Nw (.methodLinkNest RX7 189 yX10_cellOf RX10) U) ∧ mEs kd base sc U H
section
variable {D : va_G} {tc : Nat → ClassId} {kd : Nat → Nat} {base : Nat} {sc : Nat × (Nat → Int32)}
theorem mEs.next {s U : State} {H H1 : Heap} (h : mEs kd base sc s H) (hvm : s.vm.Alike U.vm) (hb : base ≤ H.size) (hq : ∀ q, q < base → H1[q]? = H[q]?) : mEs kd base sc U H1 := by
  obtain ⟨⟨h1, h2⟩, h3, h4⟩ := h
  have hk : ∀ a : Nat, a < H.size → ¬ (fun q => base ≤ q) a → H1[a]? = H[a]? := fun a _ hna => hq a (Nat.not_le.mp hna)
  exact ⟨⟨(h1.kept (hq _ h2)).moved hvm, h2⟩, va_Z.moved hvm (h3.kept hk), va_T.moved hvm (h4.kept hk)⟩
theorem mEn.next {s U : State} {H H1 : Heap} (h : mEn D tc kd base sc s H) (hW : s.WarmedH U.vm) (hb : base ≤ H.size) (hq : ∀ q, q < base → H1[q]? = H[q]?) : mEn D tc kd base sc U H1 := by
  obtain ⟨h1, h2, ⟨h3, h4, h5⟩, h6⟩ := h
  exact ⟨h1.moved hW.alike, va_AO.moved hW.alike h2, ⟨va_Nw.warmM hW h3, va_Nw.warmM hW h4, va_Nw.warmM hW h5⟩, h6.next hW.alike hb hq⟩
theorem mEn.same {s U : State} {H : Heap} (h : mEn D tc kd base sc s H) (hvm : s.vm = U.vm) : mEn D tc kd base sc U H := by
  obtain ⟨h1, h2, ⟨h3, h4, h5⟩, ⟨⟨a1, a2⟩, a3, a4⟩⟩ := h
  have hA : s.vm.Alike U.vm := by rw [hvm]; exact Vm.Alike.refl _
  exact ⟨h1.moved hA, va_AO.moved hA h2, ⟨va_Nw.same rfl hvm h3, va_Nw.same rfl hvm h4, va_Nw.same rfl hvm h5⟩, ⟨⟨a1.moved hA, a2⟩, va_Z.moved hA a3, va_T.moved hA a4⟩⟩
end
/-- a method's room -/
def mrm (M : mM) (g g' : mW) : Room := { frames := M.rank, cells := g'.length - g.length, slots := msl g' - msl g, locals := 43 * M.rank }
def mPc (D : va_G) (tc : Nat → ClassId) (kd : Nat → Nat) (base : Nat) (sc : Nat × (Nat → Int32)) (as : List Value) (g : mW) : Array Value → State → Prop :=
  va_Pc (as.map (mv kd base)) (fun U => U.heap.size = base + g.length ∧ va_P D mcl (mwS kd tc base g) U.heap ∧ mEn D tc kd base sc U U.heap)
def mQc (D : va_G) (tc : Nat → ClassId) (kd : Nat → Nat) (base : Nat) (r : mR) (g' : mW) : Array Value → State → Outcome → State → Prop :=
  fun _ st o t => ∃ v, r = .inl v ∧ o = .returned (v.map (mv kd base)) ∧ va_P D mcl (mwS kd tc base g') t.heap ∧ va_F (fun q => base ≤ q) st t
def mXc (D : va_G) (tc : Nat → ClassId) (kd : Nat → Nat) (base : Nat) (r : mR) (g' : mW) : String → State → State → Prop :=
  fun E st t => ∃ k, r = .inr k ∧ E = mxn k ∧ va_P D mcl (mwS kd tc base g') t.heap ∧ va_F (fun q => base ≤ q) st t
/-- a method's contract at a run of the mini machine -/
def mMt (l : Launch) (D : va_G) (tc : Nat → ClassId) (kd : Nat → Nat) (base : Nat) (sc : Nat × (Nat → Int32)) (M : mM) (as : List Value) (g : mW) (r : mR) (g' : mW) : Prop :=
  vx_Met l M.nm (mcw M :: gtbl) (mrm M g g') (mPc D tc kd base sc as g) (mQc D tc kd base r g') (mXc D tc kd base r g') (g'.length - g.length) (msl g' - msl g) (fun q => base ≤ q)
theorem mPc_blind {D : va_G} {tc : Nat → ClassId} {kd : Nat → Nat} {base : Nat} {sc : Nat × (Nat → Int32)} {as : List Value} {g : mW} : FrameBlind (mPc D tc kd base sc as g) := by
  intro a U j mk ⟨h1, h2, h3, h4⟩
  exact ⟨h1, h2, h3, h4.same rfl⟩
/-- a contract whose run returns, without the throws -/
theorem mMt.met {l : Launch} {D : va_G} {tc : Nat → ClassId} {kd : Nat → Nat} {base : Nat} {sc : Nat × (Nat → Int32)} {M : mM} {as : List Value} {g : mW} {v : Option Value} {g' : mW} (h : mMt l D tc kd base sc M as g (.inl v) g') :
    Met l M.nm (mcw M :: gtbl) (mrm M g g') (mPc D tc kd base sc as g) (mQc D tc kd base (.inl v) g') (g'.length - g.length) (msl g' - msl g) (fun q => base ≤ q) := by
  intro p e h1 h2 h3 s m args below h4 h5 h6 h7
  obtain ⟨n, o, q1, q2, q3, q4⟩ := h p e h1 h2 h3 s m args below h4 h5 h6 h7
  refine ⟨n, o, q1, q2, q3, ?_⟩
  rcases q4 with q4 | ⟨q, -, E, ce, L, ⟨k, hk, -⟩, -⟩
  · exact q4
  · cases hk
section
variable {p : Program} {l : Launch} {e : Env} {R : Room} {s : State} {m : MethodId} {args : Array Value} {below : List Frame} {meth : Method} {c : Code} {H : Heap} {locs : List Loc} {cells slots : Nat} {Q : State → Prop}
variable {M : mM} {pc : Nat} {L : Array Slot} {kd : Nat → Nat} {base : Nat} {D : va_G} {tc : Nat → ClassId} {g : mW} {sc : Nat × (Nat → Int32)}
theorem mpop_eq {n : Nat} {st as rest : List Value} (h : mpop n st = some (as, rest)) : st = as.reverse ++ rest ∧ as.length = n := by
  unfold mpop at h
  split at h
  · cases h
    refine ⟨by rw [List.reverse_reverse, List.take_append_drop], ?_⟩
    rw [List.length_reverse, List.length_take]
    omega
  · cases h
theorem mwt_ok {st : List Value} (h : mwt st = true) : ((st.map (mv kd base)).map fun v => v.category).sum ≤ 8 := by
  unfold mwt at h
  rw [List.map_map]
  have e1 : ((fun v : Value => v.category) ∘ mv kd base) = fun v => v.category := by funext v; exact mv_cat kd base v
  rw [e1]
  simpa using h
/-- the world behind a call -/
theorem mr_after {g' : mW} (hbs : base ≤ s.heap.size) (hR : mRl D tc kd base s g H locs cells) (hgr : mgr g g') {t T' st₀ : State} {Lc : List Loc} (h0 : st₀.heap = H) (hT : T'.heap = t.heap) (hL : ∀ q ∈ Lc, base ≤ q.base) (hP : va_P D mcl (mwS kd tc base g') t.heap) (hF : va_F (fun q => base ≤ q) st₀ t)
    (X' : Stand p l e R s m args below meth c T' (locs ++ Lc) (cells + (g'.length - g.length)) (slots + (msl g' - msl g))) : mRl D tc kd base s g' T'.heap (locs ++ Lc) (cells + (g'.length - g.length)) := by
  obtain ⟨h1, h2, h3, h4⟩ := hR
  obtain ⟨f1, f2⟩ := hF
  rw [h0] at f1 f2
  have h5 := X'.heapSize
  have h8 := hgr.1
  have h7 : base + g'.length ≤ t.heap.size := by
    rcases Nat.eq_zero_or_pos g'.length with hz | hz
    · omega
    · have h6 : g'[g'.length - 1]? = some (g'[g'.length - 1]'(by omega)) := List.getElem?_eq_getElem (by omega)
      have h9 : base + (g'.length - 1) < t.heap.size := (hP _ _ (mwS_at h6)).lt
      omega
  rw [hT] at h5 ⊢
  refine ⟨hP, by omega, ⟨Nat.le_trans h3.1 f1, fun q hq hn => ?_, fun q hq => ?_⟩, by omega⟩
  · rw [f2 q (Nat.lt_of_lt_of_le hq h3.1) hn]
    exact h3.2.1 q hq hn
  · rcases List.mem_append.mp hq with h | h
    · exact h3.2.2 q h
    · exact hL q h
end
