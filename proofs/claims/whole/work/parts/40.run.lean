/-! ===== runs of the mini machine, without fuel ===== -/
def oLe {α : Type} (x y : Option α) : Prop := ∀ r, x = some r → y = some r
theorem oLe.rf {α : Type} (x : Option α) : oLe x x := fun _ h => h
theorem oLe.tr {α : Type} {x y z : Option α} (h : oLe x y) (h2 : oLe y z) : oLe x z := fun r hr => h2 r (h r hr)
theorem oLe.go {α : Type} {x y : Option α} {r : α} (h : oLe x y) (hx : x = some r) : y = some r := h r hx
theorem oLe.none {α : Type} (x : Option α) : oLe none x := fun _ h => nomatch h
theorem oLe_ite {α : Type} {c : Prop} [Decidable c] {a b a' b' : Option α} (h : c → oLe a a') (h2 : ¬ c → oLe b b') : oLe (if c then a else b) (if c then a' else b') := by
  split
  · exact h ‹_›
  · exact h2 ‹_›
section
variable {sc : Nat × (Nat → Int32)} {K K' : mK}
theorem mto_mono (h : ∀ M pc ls st g, oLe (K M pc ls st g) (K' M pc ls st g)) (M : mM) (ls : List (Option Value)) (st : List Value) (g : mW) (pc : Nat) (off : Int) : oLe (mto K M ls st g pc off) (mto K' M ls st g pc off) := by
  unfold mto; split
  · exact oLe.rf _
  · exact h _ _ _ _ _
theorem mbr_mono (h : ∀ M pc ls st g, oLe (K M pc ls st g) (K' M pc ls st g)) (M : mM) (ls : List (Option Value)) (st : List Value) (g : mW) (pc : Nat) (off : Int) (b : Bool) : oLe (mbr K M ls st g pc off b) (mbr K' M ls st g pc off b) := by
  unfold mbr; split
  · exact oLe.rf _
  · split <;> exact h _ _ _ _ _
theorem mback_mono (h : ∀ M pc ls st g, oLe (K M pc ls st g) (K' M pc ls st g)) (M : mM) (pc : Nat) (ls : List (Option Value)) (rest : List Value) {x y : Option (mR × mW)} (hxy : oLe x y) : oLe (mback K M pc ls rest x) (mback K' M pc ls rest y) := by
  cases x with
  | none => exact oLe.none _
  | some a =>
    rw [hxy a rfl]
    obtain ⟨r, g⟩ := a
    cases r with
    | inl v => exact h _ _ _ _ _
    | inr k =>
      show oLe (match mhand M.hs pc k with
        | none => _
        | some hp => _) (match mhand M.hs pc k with
        | none => _
        | some hp => _)
      split
      · exact oLe.rf _
      · split
        · split
          · split
            · exact h _ _ _ _ _
            · exact oLe.rf _
          · split
            · exact h _ _ _ _ _
            · exact oLe.rf _
          · exact oLe.rf _
        · exact oLe.rf _
theorem mbackR_mono (h : ∀ M pc ls st g, oLe (K M pc ls st g) (K' M pc ls st g)) (M : mM) (pc : Nat) (ls : List (Option Value)) (rest : List Value) {x y : Option (mR × mW)} (hxy : oLe x y) : oLe (mbackR K M pc ls rest x) (mbackR K' M pc ls rest y) := by
  cases x with
  | none => exact oLe.none _
  | some a =>
    rw [hxy a rfl]
    obtain ⟨r, g⟩ := a
    cases r with
    | inl v => exact h _ _ _ _ _
    | inr k => exact oLe.rf _
theorem mcall_mono (h : ∀ M pc ls st g, oLe (K M pc ls st g) (K' M pc ls st g)) (M : mM) (pc : Nat) (ls : List (Option Value)) (st : List Value) (g : mW) (idx sp : Nat) : oLe (mcall K M pc ls st g idx sp) (mcall K' M pc ls st g idx sp) := by
  unfold mcall
  cases mcT M.own idx with
  | none => exact oLe.rf _
  | some t =>
  obtain ⟨k, n, M'⟩ := t
  dsimp only
  cases mpop n st with
  | none => exact oLe.rf _
  | some q =>
  obtain ⟨as, rest⟩ := q
  dsimp only
  refine oLe_ite (fun _ => ?_) (fun _ => oLe.rf _)
  refine oLe_ite (fun _ => ?_) (fun _ => ?_)
  · exact oLe_ite (fun _ => mback_mono h _ _ _ _ (h _ _ _ _ _)) (fun _ => oLe.rf _)
  refine oLe_ite (fun _ => mback_mono h _ _ _ _ (h _ _ _ _ _)) (fun _ => ?_)
  refine oLe_ite (fun _ => ?_) (fun _ => ?_)
  · exact oLe_ite (fun _ => mbackR_mono h _ _ _ _ (h _ _ _ _ _)) (fun _ => oLe.rf _)
  refine oLe_ite (fun _ => mbackR_mono h _ _ _ _ (h _ _ _ _ _)) (fun _ => ?_)
  refine oLe_ite (fun _ => ?_) (fun _ => ?_)
  · exact oLe_ite (fun _ => h _ _ _ _ _) (fun _ => oLe.rf _)
  refine oLe_ite (fun _ => ?_) (fun _ => ?_)
  · cases mcopy g as with
    | none => exact oLe.rf _
    | some g' => exact h _ _ _ _ _
  refine oLe_ite (fun _ => ?_) (fun _ => ?_)
  · split
    · split
      · exact h _ _ _ _ _
      · exact oLe.rf _
    · exact oLe.rf _
  refine oLe_ite (fun _ => ?_) (fun _ => oLe.rf _)
  · split
    · split
      · exact oLe_ite (fun _ => oLe.rf _) (fun _ => h _ _ _ _ _)
      · exact oLe.rf _
    · exact oLe.rf _
theorem mldA_mono (h : ∀ M pc ls st g, oLe (K M pc ls st g) (K' M pc ls st g)) (M : mM) (pc : Nat) (ls : List (Option Value)) (st : List Value) (g : mW) (i : Instr) : oLe (mldA sc K M pc ls st g i) (mldA sc K' M pc ls st g i) := by
  unfold mldA
  split
  · split
    · exact h _ _ _ _ _
    · exact oLe.rf _
  · exact oLe.rf _
theorem mstA_mono (h : ∀ M pc ls st g, oLe (K M pc ls st g) (K' M pc ls st g)) (M : mM) (pc : Nat) (ls : List (Option Value)) (st : List Value) (g : mW) (i : Instr) : oLe (mstA K M pc ls st g i) (mstA K' M pc ls st g i) := by
  unfold mstA
  split
  · split
    · exact h _ _ _ _ _
    · exact oLe.rf _
  · exact oLe.rf _
set_option maxHeartbeats 4000000 in
theorem mstep_mono (h : ∀ M pc ls st g, oLe (K M pc ls st g) (K' M pc ls st g)) (M : mM) (pc : Nat) (i : Instr) (ls : List (Option Value)) (st : List Value) (g : mW) : oLe (mstep sc K M pc i ls st g) (mstep sc K' M pc i ls st g) := by
  unfold mstep
  split
  · exact h _ _ _ _ _
  split <;> try exact oLe.rf _
  all_goals first | exact mcall_mono h _ _ _ _ _ _ _ | exact mldA_mono h _ _ _ _ _ _ | exact mstA_mono h _ _ _ _ _ _ | exact mto_mono h _ _ _ _ _ _ | skip
  all_goals repeat' (first | exact oLe.rf _ | exact h _ _ _ _ _ | exact mto_mono h _ _ _ _ _ _ | exact mbr_mono h _ _ _ _ _ _ _ | split)
theorem mx_mono (sc : Nat × (Nat → Int32)) : ∀ (n : Nat) (M : mM) (pc : Nat) (ls : List (Option Value)) (st : List Value) (g : mW), oLe (mx sc n M pc ls st g) (mx sc (n + 1) M pc ls st g)
  | 0, _, _, _, _, _ => oLe.none _
  | n + 1, M, pc, ls, st, g => by
    rw [mx, mx]
    dsimp only
    split
    · split
      · exact mstep_mono (mx_mono sc n) _ _ _ _ _ _
      · exact oLe.rf _
    · exact oLe.rf _
theorem mx_le (sc : Nat × (Nat → Int32)) {n m : Nat} (h : n ≤ m) (M : mM) (pc : Nat) (ls : List (Option Value)) (st : List Value) (g : mW) : oLe (mx sc n M pc ls st g) (mx sc m M pc ls st g) := by
  induction h with
  | refl => exact oLe.rf _
  | step _ ih => exact ih.tr (mx_mono sc _ _ _ _ _ _)
end
/-- what a run comes to, with as much fuel as it needs -/
noncomputable def R (sc : Nat × (Nat → Int32)) : mK := fun M pc ls st g => @dite _ (∃ r n, mx sc n M pc ls st g = some r) (Classical.propDecidable _) (fun h => some h.choose) (fun _ => none)
section
variable {sc : Nat × (Nat → Int32)}
theorem R_iff {M : mM} {pc : Nat} {ls : List (Option Value)} {st : List Value} {g : mW} {r : mR × mW} : R sc M pc ls st g = some r ↔ ∃ n, mx sc n M pc ls st g = some r := by
  unfold R
  constructor
  · intro h
    split at h
    · rename_i hx
      cases h
      exact hx.choose_spec
    · cases h
  · rintro ⟨n, hn⟩
    have hx : ∃ r n, mx sc n M pc ls st g = some r := ⟨r, n, hn⟩
    rw [dif_pos hx]
    obtain ⟨m, hm⟩ := hx.choose_spec
    have a := mx_le sc (Nat.le_max_left n m) M pc ls st g _ hn
    have b := mx_le sc (Nat.le_max_right n m) M pc ls st g _ hm
    rw [a] at b
    exact b.symm
theorem R_le (n : Nat) (M : mM) (pc : Nat) (ls : List (Option Value)) (st : List Value) (g : mW) : oLe (mx sc n M pc ls st g) (R sc M pc ls st g) := fun r h => R_iff.mpr ⟨n, h⟩
/-- one step, whose continuation is used once -/
theorem R_of {M : mM} {pc : Nat} {ls : List (Option Value)} {st : List Value} {g : mW} {i : Instr} {len : Nat} (hd : decode M.cc pc = .ok (i, len)) (hl : len = mlen i ∨ msw i = true) {r : mR × mW} {n : Nat} (h : mstep sc (mx sc n) M pc i ls st g = some r) : R sc M pc ls st g = some r := by
  refine R_iff.mpr ⟨n + 1, ?_⟩
  rw [mx]
  dsimp only
  rw [hd]
  dsimp only
  rw [if_pos hl]
  exact h
end
