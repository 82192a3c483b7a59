/-! ===== the environment, and what a method promises ===== -/
def mA (base : Nat) : Nat → Prop := fun q => base ≤ q
def mNSE : String := "java/util/NoSuchElementException"
def mIAE : String := "java/lang/IllegalArgumentException"
def mxn (k : Nat) : String := if k = 0 then mNSE else mIAE
/-- the strings of the class: whose, which entry, the text -/
def mstrL : List (Nat × Nat × String) := [(3, 47, "frames"), (3, 66, "share"), (3, 70, "rate"), (3, 78, "zero"), (3, 83, "smart"), (3, 87, "guest"), (3, 92, "page"), (3, 97, "advise"), (4, 44, "write"), (4, 58, "copy"), (4, 60, "drop"), (4, 62, "scan"), (4, 64, "tick")]
def mslen : List Nat := [6, 5, 4, 4, 5, 5, 4, 6, 5, 4, 4, 4, 4]
def msbyt : List (List Int32) := [[102, 114, 97, 109, 101, 115], [115, 104, 97, 114, 101], [114, 97, 116, 101], [122, 101, 114, 111], [115, 109, 97, 114, 116], [103, 117, 101, 115, 116], [112, 97, 103, 101], [97, 100, 118, 105, 115, 101], [119, 114, 105, 116, 101], [99, 111, 112, 121], [100, 114, 111, 112], [115, 99, 97, 110], [116, 105, 99, 107]]
def mCs : List (String × String) := [(mNSE, mNSE), (mIAE, mIAE)]
def mDs : List MethodName := [⟨"java/lang/RuntimeException", "<init>", "()V"⟩, ⟨"java/lang/Exception", "<init>", "()V"⟩, ⟨"java/lang/Throwable", "<init>", "()V"⟩]
/-- what lies below, and is only read -/
def mEs (kd : Nat → Nat) (base : Nat) (sc : Nat × (Nat → Int32)) (U : State) (H : Heap) : Prop :=
  (va_X (kd 0) sc.1 sc.2 U H ∧ kd 0 < base) ∧ va_Z RX11 "WORDS" "[B" (.ref (kd 1)) (fun q => base ≤ q) U H ∧ va_T .byte (kd 1) 73 (fun i => .int (mwords.getD i 0)) (fun q => base ≤ q) U H
/-- texts and exceptions -/
def mEt (kd : Nat → Nat) (base : Nat) (U : State) (H : Heap) : Prop :=
  (vk_S 13 mslen msbyt (fun i => kd (i + 2)) (fun i => kd (i + 100)) (fun q => base ≤ q) U H ∧ va_Z "java/lang/String" "COMPACT_STRINGS" "Z" (.int 1) (fun q => base ≤ q) U H ∧ va_Zq "jdk/internal/util/Preconditions" "SIOOBE_FORMATTER" "Ljava/util/function/BiFunction;" (fun q => base ≤ q) U H) ∧
  (vx_Zq Bundle.tN "UNASSIGNED_STACK" Bundle.steD (fun q => base ≤ q) U H ∧ vx_Zq Bundle.tN "SUPPRESSED_SENTINEL" Bundle.listD (fun q => base ≤ q) U H) ∧ va_Nc mNSE mIAE U ∧ va_Nc mIAE mNSE U
/-- words that only warm tables keep -/
def mEw (kd : Nat → Nat) (U : State) : Prop :=
  (va_Nw (.methodLinkNest RX10 21 yX8_init RX10) U ∧ va_Nw (.methodLinkNest RX10 65 yX2_init RX10) U ∧ va_Nw (.methodLinkNest RX7 189 yX10_cellOf RX10) U) ∧ (∀ q ∈ mCs, va_Nw (.castable q.1 q.2) U) ∧ (∀ x ∈ mDs, va_Nw (.declares x) U) ∧ ∀ (i : Nat) (q : Nat × Nat × String), mstrL[i]? = some q → vk_R (mcn q.1) q.2.1 q.2.2 (kd (i + 2)) U
def mEn (D : va_G) (tc : Nat → ClassId) (kd : Nat → Nat) (base : Nat) (sc : Nat × (Nat → Int32)) (U : State) (H : Heap) : Prop :=
  va_K D mcl (mtys tc) U ∧ va_AO RX7 U ∧ mEw kd U ∧ mEs kd base sc U H ∧ mEt kd base U H
section
variable {D : va_G} {tc : Nat → ClassId} {kd : Nat → Nat} {base : Nat} {sc : Nat × (Nat → Int32)}
theorem mEs.next {s U : State} {H H1 : Heap} (h : mEs kd base sc s H) (hvm : s.vm.Alike U.vm) (hq : ∀ q, q < base → H1[q]? = H[q]?) : mEs kd base sc U H1 := by
  obtain ⟨⟨h1, h2⟩, h3, h4⟩ := h
  have hk : ∀ a : Nat, a < H.size → ¬ (fun q => base ≤ q) a → H1[a]? = H[a]? := fun a _ hna => hq a (Nat.not_le.mp hna)
  exact ⟨⟨(h1.kept (hq _ h2)).moved hvm, h2⟩, va_Z.moved hvm (h3.kept hk), va_T.moved hvm (h4.kept hk)⟩
theorem mEt.next {s U : State} {H H1 : Heap} (h : mEt kd base s H) (hvm : s.vm.Alike U.vm) (hq : ∀ q, q < base → H1[q]? = H[q]?) : mEt kd base U H1 := by
  obtain ⟨⟨h1, h2, h3⟩, ⟨h4, h5⟩, h6, h7⟩ := h
  have hk : ∀ a : Nat, a < H.size → ¬ (fun q => base ≤ q) a → H1[a]? = H[a]? := fun a _ hna => hq a (Nat.not_le.mp hna)
  exact ⟨⟨(h1.kept hk).moved hvm, va_Z.moved hvm (h2.kept hk), va_Zq.moved hvm (va_Zq.kept h3 hk)⟩, ⟨vx_Zq.moved hvm (h4.kept hk), vx_Zq.moved hvm (h5.kept hk)⟩, h6.moved hvm, h7.moved hvm⟩
theorem mEw.warm {s U : State} (h : mEw kd s) (hW : s.WarmedH U.vm) : mEw kd U := by
  obtain ⟨⟨h3, h4, h5⟩, h6, h7, h8⟩ := h
  exact ⟨⟨va_Nw.warmM hW h3, va_Nw.warmM hW h4, va_Nw.warmM hW h5⟩, fun q hq => va_Nw.warmC hW (h6 q hq), fun x hx => va_Nw.warmD hW (h7 x hx), fun i q hq => (h8 i q hq).warm hW⟩
theorem mEn.next {s U : State} {H H1 : Heap} (h : mEn D tc kd base sc s H) (hW : s.WarmedH U.vm) (hb : base ≤ H.size) (hq : ∀ q, q < base → H1[q]? = H[q]?) : mEn D tc kd base sc U H1 := by
  obtain ⟨h1, h2, h3, h4, h5⟩ := h
  exact ⟨h1.moved hW.alike, va_AO.moved hW.alike h2, h3.warm hW, h4.next hW.alike hq, h5.next hW.alike hq⟩
theorem mEn.same {s U : State} {H : Heap} (h : mEn D tc kd base sc s H) (hvm : s.vm = U.vm) : mEn D tc kd base sc U H := by
  obtain ⟨h1, h2, ⟨⟨h3, h4, h5⟩, h6, h7, h8⟩, h9, h10⟩ := h
  have hA : s.vm.Alike U.vm := by rw [hvm]; exact Vm.Alike.refl _
  exact ⟨h1.moved hA, va_AO.moved hA h2, ⟨⟨va_Nw.same rfl hvm h3, va_Nw.same rfl hvm h4, va_Nw.same rfl hvm h5⟩, fun q hq => va_Nw.same rfl hvm (h6 q hq), fun x hx => va_Nw.same rfl hvm (h7 x hx), fun i q hq => (h8 i q hq).same hvm.symm⟩, h9.next hA (fun _ _ => rfl), h10.next hA (fun _ _ => rfl)⟩
end
/-- a method's room -/
def mrm (M : mM) (g g' : mW) : Room := { frames := M.rank, cells := g'.length - g.length, slots := msl g' - msl g, locals := 43 * M.rank }
def mPc (D : va_G) (tc : Nat → ClassId) (kd : Nat → Nat) (base : Nat) (sc : Nat × (Nat → Int32)) (as : List Value) (g : mW) : Array Value → State → Prop :=
  va_Pc (as.map (mv kd base)) (fun U => U.heap.size = base + g.length ∧ va_P D mcl (mwS kd tc base g) U.heap ∧ mEn D tc kd base sc U U.heap)
def mQc (D : va_G) (tc : Nat → ClassId) (kd : Nat → Nat) (base : Nat) (r : mR) (g' : mW) : Array Value → State → Outcome → State → Prop :=
  fun _ st o t => ∃ v, r = .inl v ∧ o = .returned (v.map (mv kd base)) ∧ va_P D mcl (mwS kd tc base g') t.heap ∧ va_F (fun q => base ≤ q) st t
def mXc (D : va_G) (tc : Nat → ClassId) (kd : Nat → Nat) (base : Nat) (r : mR) (g' : mW) : String → State → State → Prop :=
  fun E st t => ∃ k, r = .inr k ∧ E = mxn k ∧ va_P D mcl (mwS kd tc base g') t.heap ∧ va_F (fun q => base ≤ q) st t
/-- a method's contract at a run of the mini machine -/
def mMt (l : Launch) (D : va_G) (tc : Nat → ClassId) (kd : Nat → Nat) (base : Nat) (sc : Nat × (Nat → Int32)) (M : mM) (as : List Value) (g : mW) (r : mR) (g' : mW) : Prop :=
  vx_Met l M.nm (mcw M :: gtbl) (mrm M g g') (mPc D tc kd base sc as g) (mQc D tc kd base r g') (mXc D tc kd base r g') (g'.length - g.length) (msl g' - msl g) (fun q => base ≤ q)
theorem mPc_blind {D : va_G} {tc : Nat → ClassId} {kd : Nat → Nat} {base : Nat} {sc : Nat × (Nat → Int32)} {as : List Value} {g : mW} : FrameBlind (mPc D tc kd base sc as g) := by
  intro a U j mk ⟨h1, h2, h3, h4⟩
  exact ⟨h1, h2, h3, h4.same rfl⟩
/-- a contract whose run returns, without the throws -/
theorem mMt.met {l : Launch} {D : va_G} {tc : Nat → ClassId} {kd : Nat → Nat} {base : Nat} {sc : Nat × (Nat → Int32)} {M : mM} {as : List Value} {g : mW} {v : Option Value} {g' : mW} (h : mMt l D tc kd base sc M as g (.inl v) g') :
    Met l M.nm (mcw M :: gtbl) (mrm M g g') (mPc D tc kd base sc as g) (mQc D tc kd base (.inl v) g') (g'.length - g.length) (msl g' - msl g) (fun q => base ≤ q) := by
  intro p e h1 h2 h3 s m args below h4 h5 h6 h7
  obtain ⟨n, o, q1, q2, q3, q4⟩ := h p e h1 h2 h3 s m args below h4 h5 h6 h7
  refine ⟨n, o, q1, q2, q3, ?_⟩
  rcases q4 with q4 | ⟨q, -, E, ce, L, ⟨k, hk, -⟩, -⟩
  · exact q4
  · cases hk
section
variable {p : Program} {l : Launch} {e : Env} {R : Room} {s : State} {m : MethodId} {args : Array Value} {below : List Frame} {meth : Method} {c : Code} {H : Heap} {locs : List Loc} {cells slots : Nat} {Q : State → Prop}
variable {M : mM} {pc : Nat} {L : Array Slot} {kd : Nat → Nat} {base : Nat} {D : va_G} {tc : Nat → ClassId} {g : mW} {sc : Nat × (Nat → Int32)}
theorem mpop_eq {n : Nat} {st as rest : List Value} (h : mpop n st = some (as, rest)) : st = as.reverse ++ rest ∧ as.length = n := by
  unfold mpop at h
  split at h
  · cases h
    refine ⟨by rw [List.reverse_reverse, List.take_append_drop], ?_⟩
    rw [List.length_reverse, List.length_take]
    omega
  · cases h
theorem mwt_ok {st : List Value} (h : mwt st = true) : ((st.map (mv kd base)).map fun v => v.category).sum ≤ 8 := by
  unfold mwt at h
  rw [List.map_map]
  have e1 : ((fun v : Value => v.category) ∘ mv kd base) = fun v => v.category := by funext v; exact mv_cat kd base v
  rw [e1]
  simpa using h
/-- the world behind a call -/
theorem mr_after {g' : mW} (hbs : base ≤ s.heap.size) (hR : mRl D tc kd base s g H locs cells) (hgr : mgr g g') {t T' st₀ : State} {Lc : List Loc} (h0 : st₀.heap = H) (hT : T'.heap = t.heap) (hL : ∀ q ∈ Lc, base ≤ q.base) (hP : va_P D mcl (mwS kd tc base g') t.heap) (hF : va_F (fun q => base ≤ q) st₀ t)
    (X' : Stand p l e R s m args below meth c T' (locs ++ Lc) (cells + (g'.length - g.length)) (slots + (msl g' - msl g))) : mRl D tc kd base s g' T'.heap (locs ++ Lc) (cells + (g'.length - g.length)) := by
  obtain ⟨h1, h2, h3, h4⟩ := hR
  obtain ⟨f1, f2⟩ := hF
  rw [h0] at f1 f2
  have h5 := X'.heapSize
  have h8 := hgr.1
  have h7 : base + g'.length ≤ t.heap.size := by
    rcases Nat.eq_zero_or_pos g'.length with hz | hz
    · omega
    · have h6 : g'[g'.length - 1]? = some (g'[g'.length - 1]'(by omega)) := List.getElem?_eq_getElem (by omega)
      have h9 : base + (g'.length - 1) < t.heap.size := (hP _ _ (mwS_at h6)).lt
      omega
  rw [hT] at h5 ⊢
  refine ⟨hP, by omega, ⟨Nat.le_trans h3.1 f1, fun q hq hn => ?_, fun q hq => ?_⟩, by omega⟩
  · rw [f2 q (Nat.lt_of_lt_of_le hq h3.1) hn]
    exact h3.2.1 q hq hn
  · rcases List.mem_append.mp hq with h | h
    · exact h3.2.2 q h
    · exact hL q h
end
