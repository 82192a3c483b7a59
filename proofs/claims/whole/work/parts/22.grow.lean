/-! ===== a run only adds cells, and keeps the sizes of those that are there ===== -/
def msz : mCell → Nat
  | .inl (_, n, _) => n
  | .inr (.inl (n, _)) => n
  | .inr (.inr (.inl (n, _))) => n
  | .inr (.inr (.inr (c, _))) => if c < 12 then mnum c else 6
def msl (g : mW) : Nat := (g.map msz).sum
theorem msl_app (g : mW) (c : mCell) : msl (g ++ [c]) = msl g + msz c := by simp [msl]
theorem msl_set : ∀ (g : mW) (a : Nat) (c c' : mCell), g[a]? = some c → msz c' = msz c → msl (g.set a c') = msl g
  | [], a, c, c', h, _ => by simp at h
  | x :: g, 0, c, c', h, e => by simp at h; subst h; simp [msl, e]
  | x :: g, a + 1, c, c', h, e => by
    have := msl_set g a c c' (by simpa using h) e
    simp only [msl, List.set_cons_succ, List.map_cons, List.sum_cons] at this ⊢
    rw [this]
def mgr (g g' : mW) : Prop := g.length ≤ g'.length ∧ msl g ≤ msl g'
theorem mgr.rf (g : mW) : mgr g g := ⟨Nat.le_refl _, Nat.le_refl _⟩
theorem mgr.tr {a b c : mW} (h : mgr a b) (h2 : mgr b c) : mgr a c := ⟨Nat.le_trans h.1 h2.1, Nat.le_trans h.2 h2.2⟩
theorem mgr.app (g : mW) (c : mCell) : mgr g (g ++ [c]) := ⟨by simp, by rw [msl_app]; omega⟩
theorem mgr.set {g : mW} {a : Nat} {c c' : mCell} (h : g[a]? = some c) (e : msz c' = msz c) : mgr g (g.set a c') := ⟨by simp, by rw [msl_set g a c c' h e]; exact Nat.le_refl _⟩
theorem mputf_gr {g g' : mW} {c k a : Nat} {v : Value} (h : mputf g c k a v = some g') : mgr g g' := by
  unfold mputf at h
  split at h
  · rename_i c' fs hg
    by_cases h1 : c' = c
    · rw [if_pos h1] at h
      by_cases h2 : k < fs.length
      · rw [if_pos h2] at h
        cases h
        subst h1
        exact mgr.set hg rfl
      · rw [if_neg h2] at h; cases h
    · rw [if_neg h1] at h; cases h
  · cases h
theorem mast_gr {g g' : mW} {i : Instr} {a : Nat} {j : Int32} {v : Value} (h : mast g i a j v = some g') : mgr g g' := by
  unfold mast at h
  split at h
  · split at h
    · rename_i hg
      split at h
      · cases h
      · cases h; exact mgr.set hg rfl
    · cases h
  · split at h
    · rename_i hg
      split at h
      · cases h
      · cases h; exact mgr.set hg rfl
    · cases h
  · split at h
    · rename_i hg
      split at h
      · cases h
      · cases h; exact mgr.set hg rfl
    · cases h
  · split at h
    · rename_i hg
      split at h
      · split at h
        · cases h
        · cases h; exact mgr.set hg rfl
      · cases h
    · cases h
  · cases h
theorem mcopy_gr {g g' : mW} {as : List Value} (h : mcopy g as = some g') : mgr g g' := by
  unfold mcopy at h
  split at h
  · split at h
    · rename_i hg
      split at h
      · cases h
      · cases h; exact mgr.set hg rfl
    · cases h
  · cases h
section
variable {sc : Nat × (Nat → Int32)} {K : mK} (hK : ∀ M pc ls st g r g', K M pc ls st g = some (r, g') → mgr g g')
theorem mto_gr {M : mM} {ls : List (Option Value)} {st : List Value} {g g' : mW} {pc : Nat} {off : Int} {r : mR} (hK : ∀ M pc ls st g r g', K M pc ls st g = some (r, g') → mgr g g') (h : mto K M ls st g pc off = some (r, g')) : mgr g g' := by
  unfold mto at h
  split at h
  · cases h
  · exact hK _ _ _ _ _ _ _ h
theorem mbr_gr {M : mM} {ls : List (Option Value)} {st : List Value} {g g' : mW} {pc : Nat} {off : Int} {b : Bool} {r : mR} (hK : ∀ M pc ls st g r g', K M pc ls st g = some (r, g') → mgr g g') (h : mbr K M ls st g pc off b = some (r, g')) : mgr g g' := by
  unfold mbr at h
  split at h
  · cases h
  · split at h
    · exact hK _ _ _ _ _ _ _ h
    · exact hK _ _ _ _ _ _ _ h
theorem mback_gr {M : mM} {ls : List (Option Value)} {rest : List Value} {g g' : mW} {pc : Nat} {r : mR} {o : Option (mR × mW)} (hK : ∀ M pc ls st g r g', K M pc ls st g = some (r, g') → mgr g g') (ho : ∀ r1 g1, o = some (r1, g1) → mgr g g1) (h : mback K M pc ls rest o = some (r, g')) : mgr g g' := by
  unfold mback at h
  split at h
  · cases h
  · exact (ho _ _ rfl).tr (hK _ _ _ _ _ _ _ h)
  · split at h
    · split at h
      · cases h; exact ho _ _ rfl
      · cases h
    · split at h
      · split at h
        · split at h
          · exact (ho _ _ rfl).tr (hK _ _ _ _ _ _ _ h)
          · cases h
        · split at h
          · exact (ho _ _ rfl).tr (hK _ _ _ _ _ _ _ h)
          · cases h
        · cases h
      · cases h
theorem mbackR_gr {M : mM} {ls : List (Option Value)} {rest : List Value} {g g' : mW} {pc : Nat} {r : mR} {o : Option (mR × mW)} (hK : ∀ M pc ls st g r g', K M pc ls st g = some (r, g') → mgr g g') (ho : ∀ r1 g1, o = some (r1, g1) → mgr g g1) (h : mbackR K M pc ls rest o = some (r, g')) : mgr g g' := by
  unfold mbackR at h
  split at h
  · exact (ho _ _ rfl).tr (hK _ _ _ _ _ _ _ h)
  · cases h
theorem mcall_gr {M : mM} {ls : List (Option Value)} {st : List Value} {g g' : mW} {pc idx sp : Nat} {r : mR} (hK : ∀ M pc ls st g r g', K M pc ls st g = some (r, g') → mgr g g') (h : mcall K M pc ls st g idx sp = some (r, g')) : mgr g g' := by
  unfold mcall at h
  split at h
  · cases h
  · split at h
    · cases h
    · split at h
      · split at h
        · split at h
          · exact mback_gr hK (fun r1 g1 e => hK _ _ _ _ _ _ _ e) h
          · cases h
        · split at h
          · exact mback_gr hK (fun r1 g1 e => hK _ _ _ _ _ _ _ e) h
          · split at h
            · split at h
              · exact mbackR_gr hK (fun r1 g1 e => hK _ _ _ _ _ _ _ e) h
              · cases h
            · split at h
              · exact mbackR_gr hK (fun r1 g1 e => hK _ _ _ _ _ _ _ e) h
              · split at h
                · split at h
                  · exact hK _ _ _ _ _ _ _ h
                  · cases h
                · split at h
                  · split at h
                    · rename_i hc
                      exact (mcopy_gr hc).tr (hK _ _ _ _ _ _ _ h)
                    · cases h
                  · split at h
                    · split at h
                      · split at h
                        · exact hK _ _ _ _ _ _ _ h
                        · cases h
                      · cases h
                    · split at h
                      · split at h
                        · split at h
                          · split at h
                            · cases h
                            · exact hK _ _ _ _ _ _ _ h
                          · cases h
                        · cases h
                      · cases h
      · cases h
theorem mldA_gr {M : mM} {ls : List (Option Value)} {st : List Value} {g g' : mW} {pc : Nat} {i : Instr} {r : mR} (hK : ∀ M pc ls st g r g', K M pc ls st g = some (r, g') → mgr g g') (h : mldA sc K M pc ls st g i = some (r, g')) : mgr g g' := by
  unfold mldA at h
  split at h
  · split at h
    · exact hK _ _ _ _ _ _ _ h
    · cases h
  · cases h
theorem mstA_gr {M : mM} {ls : List (Option Value)} {st : List Value} {g g' : mW} {pc : Nat} {i : Instr} {r : mR} (hK : ∀ M pc ls st g r g', K M pc ls st g = some (r, g') → mgr g g') (h : mstA K M pc ls st g i = some (r, g')) : mgr g g' := by
  unfold mstA at h
  split at h
  · split at h
    · rename_i hc
      exact (mast_gr hc).tr (hK _ _ _ _ _ _ _ h)
    · cases h
  · cases h
set_option maxHeartbeats 4000000 in
theorem mstep_gr {M : mM} {ls : List (Option Value)} {st : List Value} {g g' : mW} {pc : Nat} {i : Instr} {r : mR} (hK : ∀ M pc ls st g r g', K M pc ls st g = some (r, g') → mgr g g') (h : mstep sc K M pc i ls st g = some (r, g')) : mgr g g' := by
  unfold mstep at h
  split at h
  · exact hK _ _ _ _ _ _ _ h
  · split at h
    · exact mto_gr hK h
    · split at h
      · exact mbr_gr hK h
      · cases h
    · split at h
      · exact mbr_gr hK h
      · cases h
    · split at h
      · exact mto_gr hK h
      · exact hK _ _ _ _ _ _ _ h
      · cases h
    · split at h
      · split at h
        · exact mto_gr hK h
        · split at h
          · exact mto_gr hK h
          · cases h
      · cases h
    · split at h
      · split at h
        · exact hK _ _ _ _ _ _ _ h
        · cases h
      · cases h
    · split at h
      · split at h
        · split at h
          · rename_i hc
            split at h
            · exact (mputf_gr hc).tr (hK _ _ _ _ _ _ _ h)
            · cases h
          · cases h
        · cases h
      · cases h
    · split at h
      · exact hK _ _ _ _ _ _ _ h
      · cases h
    · split at h
      · split at h
        · exact hK _ _ _ _ _ _ _ h
        · cases h
      · cases h
    · split at h
      · cases h
      · split at h
        · exact (mgr.app _ _).tr (hK _ _ _ _ _ _ _ h)
        · split at h
          · split at h
            · cases h; exact mgr.app _ _
            · cases h
          · cases h
    · split at h
      · split at h
        · cases h
        · exact (mgr.app _ _).tr (hK _ _ _ _ _ _ _ h)
      · cases h
    · exact mcall_gr hK h
    · exact mcall_gr hK h
    · exact mcall_gr hK h
    · split at h
      · split at h
        · cases h; exact mgr.rf _
        · cases h
      · cases h
    · split at h
      · split at h
        · cases h; exact mgr.rf _
        · cases h
      · cases h
    · split at h
      · cases h; exact mgr.rf _
      · cases h
    · exact mldA_gr hK h
    · exact mldA_gr hK h
    · exact mldA_gr hK h
    · exact mldA_gr hK h
    · exact mstA_gr hK h
    · exact mstA_gr hK h
    · exact mstA_gr hK h
    · exact mstA_gr hK h
    · split at h
      · split at h
        · exact (mgr.app _ _).tr (hK _ _ _ _ _ _ _ h)
        · cases h
      · cases h
    · cases h
end
theorem mx_gr (sc : Nat × (Nat → Int32)) : ∀ (n : Nat) (M : mM) (pc : Nat) (ls : List (Option Value)) (st : List Value) (g : mW) (r : mR) (g' : mW), mx sc n M pc ls st g = some (r, g') → mgr g g'
  | 0, _, _, _, _, _, _, _, h => by cases h
  | n + 1, M, pc, ls, st, g, r, g', h => by
    unfold mx at h
    split at h
    · split at h
      · exact mstep_gr (mx_gr sc n) h
      · cases h
    · cases h
