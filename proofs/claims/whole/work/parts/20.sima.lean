/-! ===== the mini machine and the machine: values, cells, worlds ===== -/
abbrev mcl : List vw_C := [(RX0, TX0, 4), (RX1, TX1, 6), (RX2, TX2, 1), (RX3, TX3, 5), (RX4, TX4, 7), (RX5, TX5, 12), (RX6, TX6, 3), (RX7, TX7, 12), (RX8, TX8, 8), (RX9, TX9, 1), (RX10, TX10, 13), (RX11, TX11, 59), ("java/util/NoSuchElementException", TX2, 0), ("java/lang/IllegalArgumentException", TX2, 0)]
abbrev mtys (tc : Nat → ClassId) : List (ClassId × FieldType) := [(tc 0, .int), (tc 1, .byte), (tc 2, .long), (tc 3, .object RX7)]
def mv (kd : Nat → Nat) (base : Nat) : Value → Value
  | .ref a => .ref (base + a)
  | .retAddr k => .ref (kd k)
  | v => v
theorem mv_cat (kd : Nat → Nat) (base : Nat) (v : Value) : (mv kd base v).category = v.category := by cases v <;> rfl
def mcv (kd : Nat → Nat) (tc : Nat → ClassId) (base : Nat) : mCell → va_E
  | .inl (t, n, f) => .inl (tc t, n, .inl f)
  | .inr (.inl (n, f)) => .inl (tc 2, n, .inr (.inl f))
  | .inr (.inr (.inl (n, f))) => .inl (tc 3, n, .inr (.inr (.inr (.inr (fun i => (f i).map (base + ·))))))
  | .inr (.inr (.inr (c, fs))) => .inr (c, fs.map (mv kd base))
def mwS (kd : Nat → Nat) (tc : Nat → ClassId) (base : Nat) (w : mW) : va_W := w.mapIdx fun k c => (base + k, mcv kd tc base c)
section
variable {kd : Nat → Nat} {tc : Nat → ClassId} {base : Nat} {w : mW}
theorem mwS_get (k : Nat) : (mwS kd tc base w)[k]? = (w[k]?).map fun c => (base + k, mcv kd tc base c) := by
  unfold mwS; rw [List.getElem?_mapIdx]
theorem mwS_at {k : Nat} {c : mCell} (h : w[k]? = some c) : (mwS kd tc base w)[k]? = some (base + k, mcv kd tc base c) := by rw [mwS_get, h]; rfl
theorem mwS_set (k : Nat) (c : mCell) : mwS kd tc base (w.set k c) = (mwS kd tc base w).set k (base + k, mcv kd tc base c) := by
  apply List.ext_getElem?
  intro j
  rw [mwS_get, List.getElem?_set, List.getElem?_set, mwS_get]
  by_cases hj : k = j
  · subst hj
    simp only [if_true, mwS, List.length_mapIdx]
    by_cases hl : k < w.length
    · simp [hl]
    · simp [hl]
  · simp [hj]
theorem mwS_app (c : mCell) : mwS kd tc base (w ++ [c]) = mwS kd tc base w ++ [(base + w.length, mcv kd tc base c)] := by
  unfold mwS
  rw [List.mapIdx_append]
  simp
theorem mwS_D : va_D (fun q => base ≤ q) (mwS kd tc base w) := by
  refine ⟨fun i j p q hi hj h => ?_, fun k q hk => ?_⟩
  · rw [mwS_get] at hi hj
    cases h1 : w[i]? with
    | none => rw [h1] at hi; cases hi
    | some c1 =>
      cases h2 : w[j]? with
      | none => rw [h2] at hj; cases hj
      | some c2 =>
        rw [h1] at hi; rw [h2] at hj
        cases hi; cases hj
        simpa using h
  · rw [mwS_get] at hk
    cases h1 : w[k]? with
    | none => rw [h1] at hk; cases hk
    | some c1 => rw [h1] at hk; cases hk; exact Nat.le_add_right _ _
end
/-- the locals of a frame hold what is known of them -/
def mLoc (kd : Nat → Nat) (base : Nat) (ls : List (Option Value)) (L : Array Slot) : Prop := L.size = ls.length ∧ lv_wf L ∧ ∀ j v, mld ls j = some v → L[j]? = some (.val (mv kd base v))
theorem mld_eq : ∀ (ls : List (Option Value)) (j : Nat), mld ls j = (ls[j]?).join
  | [], j => by simp [mld]
  | a :: t, 0 => by simp [mld]
  | a :: t, j + 1 => by simp [mld, mld_eq t j]
/-- what is known, as the kit's rows want it -/
def mal (kd : Nat → Nat) (base : Nat) (ls : List (Option Value)) : List (Nat × Value) := (List.range ls.length).filterMap fun j => (mld ls j).map fun v => (j, mv kd base v)
theorem mal_mem {kd : Nat → Nat} {base : Nat} {ls : List (Option Value)} {j : Nat} {v : Value} (h : mld ls j = some v) : (j, mv kd base v) ∈ mal kd base ls := by
  have hj : j < ls.length := by
    rw [mld_eq] at h
    apply Nat.lt_of_not_le
    intro hle
    rw [List.getElem?_eq_none hle] at h
    cases h
  exact List.mem_filterMap.mpr ⟨j, List.mem_range.mpr hj, by rw [h]; rfl⟩
theorem mal_has {kd : Nat → Nat} {base : Nat} {ls : List (Option Value)} {L : Array Slot} (h : mLoc kd base ls L) : lv_has L ls.length (mal kd base ls) := by
  refine ⟨h.1, h.2.1, fun q hq => ?_⟩
  obtain ⟨j, -, hj⟩ := List.mem_filterMap.mp hq
  cases hm : mld ls j with
  | none => rw [hm] at hj; cases hj
  | some v => rw [hm] at hj; cases hj; exact h.2.2 j v hm
theorem mset_len : ∀ (ls ls' : List (Option Value)) (j : Nat) (v : Option Value), mset ls j v = some ls' → ls'.length = ls.length ∧ j < ls.length
  | [], _, _, _, h => by simp [mset] at h
  | a :: t, ls', 0, v, h => by simp only [mset] at h; cases h; simp
  | a :: t, ls', 1, v, h => by
    unfold mset at h
    split at h
    · cases h
    · cases hm : mset t 0 v with
      | none => rw [hm] at h; cases h
      | some l => rw [hm] at h; cases h; have := mset_len t l 0 v hm; simp; omega
  | a :: t, ls', i + 2, v, h => by
    unfold mset at h
    cases hm : mset t (i + 1) v with
    | none => rw [hm] at h; cases h
    | some l => rw [hm] at h; cases h; have := mset_len t l (i + 1) v hm; simp; omega
theorem mset_get : ∀ (ls ls' : List (Option Value)) (j : Nat) (v : Option Value), mset ls j v = some ls' → ∀ k, mld ls' k = if k = j then v else mld ls k
  | [], _, _, _, h, _ => by simp [mset] at h
  | a :: t, ls', 0, v, h, k => by
    simp only [mset] at h; cases h
    cases k <;> simp [mld]
  | a :: t, ls', 1, v, h, k => by
    unfold mset at h
    split at h
    · cases h
    · cases hm : mset t 0 v with
      | none => rw [hm] at h; cases h
      | some l =>
        rw [hm] at h; cases h
        have := mset_get t l 0 v hm
        cases k with
        | zero => simp [mld]
        | succ k => simp [mld, this k]
  | a :: t, ls', i + 2, v, h, k => by
    unfold mset at h
    cases hm : mset t (i + 1) v with
    | none => rw [hm] at h; cases h
    | some l =>
      rw [hm] at h; cases h
      have := mset_get t l (i + 1) v hm
      cases k with
      | zero => simp [mld]
      | succ k => simp [mld, this k]
theorem mset_long : ∀ (ls ls' : List (Option Value)) (j : Nat) (v : Option Value), mset ls (j + 1) v = some ls' → ∀ u, mld ls j = some u → ¬ u.category = 2
  | [], _, _, _, h, _, _ => by simp [mset] at h
  | a :: t, ls', 0, v, h, u, hu => by
    simp only [mld] at hu
    subst hu
    unfold mset at h
    split at h
    · cases h
    · rename_i hn
      simpa [mlong] using hn
  | a :: t, ls', j + 1, v, h, u, hu => by
    have h : mset (a :: t) (j + 2) v = some ls' := h
    unfold mset at h
    cases hm : mset t (j + 1) v with
    | none => rw [hm] at h; cases h
    | some l => exact mset_long t l j v hm u (by simpa [mld] using hu)
theorem mLoc_store1 {kd : Nat → Nat} {base : Nat} {ls ls' : List (Option Value)} {L : Array Slot} {j : Nat} {v : Value} (hL : mLoc kd base ls L) (hc : v.category = 1) (h : mset ls j (some v) = some ls') {L' : Array Slot}
    (hh : lv_has L' ls.length ((j, mv kd base v) :: (mal kd base ls).filter (fun q => !(q.1 == j) && !(q.1 + 1 == j && q.2.category == 2)))) : mLoc kd base ls' L' := by
  obtain ⟨e1, e2⟩ := mset_len _ _ _ _ h
  refine ⟨by rw [hh.1, e1], hh.2.1, fun k u hk => ?_⟩
  rw [mset_get _ _ _ _ h] at hk
  by_cases hkj : k = j
  · subst hkj
    rw [if_pos rfl] at hk
    cases hk
    exact hh.2.2 (k, _) List.mem_cons_self
  · rw [if_neg hkj] at hk
    refine hh.2.2 (k, mv kd base u) (List.mem_cons_of_mem _ (List.mem_filter.mpr ⟨mal_mem hk, ?_⟩))
    simp only [Bool.and_eq_true, Bool.not_eq_true', beq_eq_false_iff_ne, Bool.and_eq_false_iff]
    refine ⟨hkj, ?_⟩
    by_cases hk1 : k + 1 = j
    · subst hk1
      right
      rw [mv_cat]
      exact mset_long _ _ _ _ h u hk
    · left; exact hk1
theorem mLoc_store2 {kd : Nat → Nat} {base : Nat} {ls ls' : List (Option Value)} {L : Array Slot} {j : Nat} {v : Value} (hL : mLoc kd base ls L) (hj : j + 1 < ls.length) (h : mset (ls.set (j + 1) none) j (some v) = some ls') {L' : Array Slot}
    (hh : lv_has L' ls.length ((j, mv kd base v) :: (mal kd base ls).filter (fun q => !(q.1 == j) && (!(q.1 == j + 1) && !(q.1 + 1 == j && q.2.category == 2))))) : mLoc kd base ls' L' := by
  have hm : ∀ k, mld (ls.set (j + 1) none) k = if k = j + 1 then none else mld ls k := by
    intro k
    rw [mld_eq, mld_eq, List.getElem?_set]
    by_cases hk : j + 1 = k
    · subst hk; simp [hj]
    · simp [hk, show ¬ k = j + 1 from fun q => hk q.symm]
  obtain ⟨e1, e2⟩ := mset_len _ _ _ _ h
  refine ⟨by rw [hh.1, e1, List.length_set], hh.2.1, fun k u hk => ?_⟩
  rw [mset_get _ _ _ _ h] at hk
  by_cases hkj : k = j
  · subst hkj
    rw [if_pos rfl] at hk
    cases hk
    exact hh.2.2 (k, _) List.mem_cons_self
  · rw [if_neg hkj, hm] at hk
    by_cases hk2 : k = j + 1
    · rw [if_pos hk2] at hk; cases hk
    · rw [if_neg hk2] at hk
      refine hh.2.2 (k, mv kd base u) (List.mem_cons_of_mem _ (List.mem_filter.mpr ⟨mal_mem hk, ?_⟩))
      simp only [Bool.and_eq_true, Bool.not_eq_true', beq_eq_false_iff_ne, Bool.and_eq_false_iff]
      refine ⟨hkj, hk2, ?_⟩
      by_cases hk1 : k + 1 = j
      · subst hk1
        right
        rw [mv_cat]
        exact mset_long _ _ _ _ h u (by rw [hm, if_neg (by omega)]; exact hk)
      · left; exact hk1
