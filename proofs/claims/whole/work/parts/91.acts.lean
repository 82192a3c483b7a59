/-! ===== the world's shape with the kept states; Acts ===== -/
def cnul (f : Nat → Option Nat) : Nat → Nat
  | 0 => 0
  | n + 1 => cnul f n + (if f n = none then 1 else 0)
theorem cnul_far {f : Nat → Option Nat} {z : Nat} {y : Option Nat} : ∀ n, n ≤ z → cnul (va_up f z y) n = cnul f n
  | 0, _ => rfl
  | n + 1, h => by
    show cnul (va_up f z y) n + (if va_up f z y n = none then 1 else 0) = cnul f n + (if f n = none then 1 else 0)
    rw [cnul_far n (by omega), va_up_ne f y (by omega : n ≠ z)]
theorem cnul_up {f : Nat → Option Nat} {z x : Nat} (hz : f z = none) : ∀ n, z < n → cnul (va_up f z (some x)) n + 1 = cnul f n
  | 0, h => absurd h (Nat.not_lt_zero _)
  | n + 1, h => by
    show cnul (va_up f z (some x)) n + (if va_up f z (some x) n = none then 1 else 0) + 1 = cnul f n + (if f n = none then 1 else 0)
    by_cases e : n = z
    · subst e
      rw [cnul_far n (Nat.le_refl _), va_up_self, hz, if_neg (by intro h; cases h), if_pos rfl]
    · have := cnul_up (x := x) hz n (by omega)
      rw [va_up_ne f _ e]
      omega
theorem msl_app' (a b : List mCell) : msl (a ++ b) = msl a + msl b := by simp [msl]
def upF (F : Nat → Nat → Option Nat) (c z x : Nat) : Nat → Nat → Option Nat := fun d j => if d = c ∧ j = z then some x else F d j
theorem upF_at (F : Nat → Nat → Option Nat) (c z x : Nat) : upF F c z x c = va_up (F c) z (some x) := by
  funext j; unfold upF va_up; simp
theorem upF_ne (F : Nat → Nat → Option Nat) {c d : Nat} (z x : Nat) (h : d ≠ c) : upF F c z x d = F d := by
  funext j; unfold upF; exact if_neg (fun e => h e.1)
/-- the world's shape: both rows of kept states, each state in a block of its own; what room is left -/
def shR (SH : List mCell) (F : Nat → Nat → Option Nat) (e : Nat) : Prop :=
  (sGP SH ∧ sMod SH ∧ aj SH 110 1) ∧ (SH[38]? = some (mS 41 (F 0)) ∧ SH[64]? = some (mS 41 (F 1))) ∧
  (∀ c i x, c < 2 → i < 41 → F c i = some x → sState SH x ∧ 111 ≤ x ∧ x + 20 ≤ SH.length) ∧
  (∀ c i d j x y, c < 2 → i < 41 → d < 2 → j < 41 → F c i = some x → F d j = some y → (c = d ∧ i = j) ∨ x + 20 ≤ y ∨ y + 20 ≤ x) ∧
  (111 ≤ SH.length ∧ SH.length + 20 * (cnul (F 0) 41 + cnul (F 1) 41) ≤ 1751 + e ∧ msl SH + 1000 * (cnul (F 0) 41 + cnul (F 1) 41) ≤ 300000 + 6 * e)
theorem sGP_cong {SH SH' : List mCell} (h : ∀ j, j < 111 → j ≠ 38 → j ≠ 64 → SH'[j]? = SH[j]?) (g : sGP SH) : sGP SH' := by
  simp only [sGP, sPlan, sText, sBook, sState, sRows, sTree, sMaker, sOrder, sDraws, ob, ar, ab, aj] at g ⊢
  simp (disch := omega) only [h]
  exact g
theorem sMod_cong {SH SH' : List mCell} (h : ∀ j, j < 111 → j ≠ 38 → j ≠ 64 → SH'[j]? = SH[j]?) (g : sMod SH) : sMod SH' := by
  simp only [sMod, ob, ar, aj] at g ⊢
  simp (disch := omega) only [h]
  exact g
theorem sState_cong {SH SH' : List mCell} {x : Nat} (h : ∀ j, j < 6 ∨ (x ≤ j ∧ j < x + 20) → SH'[j]? = SH[j]?) (g : sState SH x) : sState SH' x := by
  simp only [sPlan, sState, sRows, sTree, ob, ar] at g ⊢
  simp (disch := omega) only [h]
  exact g
theorem msl_stC (n : Nat) : msl (stC n) ≤ 1000 := by
  have : msl (stC n) = msl (stC 0) := rfl
  rw [this]
  decide
theorem len_stC (n : Nat) : (stC n).length = 20 := rfl
/-- an exception at the world's end -/
theorem shR_exc {SH : List mCell} {F : Nat → Nat → Option Nat} {e k : Nat} (h : shR SH F e) : shR (SH ++ [mO (12 + k) []]) F (e + 1) := by
  obtain ⟨⟨g, m, o⟩, ⟨h8, h64⟩, hs, hd, hl, hr, hr2⟩ := h
  have c : ∀ j, j < SH.length → (SH ++ [mO (12 + k) []])[j]? = SH[j]? := fun j hj => getOld hj
  refine ⟨⟨sGP_cong (fun j hj _ _ => c j (by omega)) g, sMod_cong (fun j hj _ _ => c j (by omega)) m, ⟨(c 110 (by omega)).trans o.1, o.2⟩⟩, ⟨(c 38 (by omega)).trans h8, (c 64 (by omega)).trans h64⟩, fun d i x h1 h2 h3 => ?_, hd, ?_, ?_, ?_⟩
  · have q := hs d i x h1 h2 h3
    exact ⟨sState_cong (fun j hj => c j (by omega)) q.1, q.2.1, by rw [List.length_append]; omega⟩
  · rw [List.length_append]; omega
  · rw [List.length_append]; show SH.length + 1 + _ ≤ _; omega
  · rw [msl_app]
    have : msz (mO (12 + k) []) = 6 := by show (if 12 + k < 12 then mnum (12 + k) else 6) = 6; exact if_neg (by omega)
    omega
theorem shR_new {SH : List mCell} {F : Nat → Nat → Option Nat} {e c z s : Nat} (h : shR SH F e) (hc : (c = 0 ∧ s = 38) ∨ (c = 1 ∧ s = 64)) (hz : z < 41) (hn : F c z = none) : shR ((SH ++ stC SH.length).set s (mS 41 (va_up (F c) z (some SH.length)))) (upF F c z SH.length) e := by
  obtain ⟨⟨g, m, o⟩, ⟨h8, h64⟩, hs, hd, hl, hr, hr2⟩ := h
  have hp := g.2.2.2.1.2.2.2.2.1.2.2.2.2.2.2.2.2.2.2.2.2
  have cc : ∀ j, j < SH.length → j ≠ s → ((SH ++ stC SH.length).set s (mS 41 (va_up (F c) z (some SH.length))))[j]? = SH[j]? := fun j hj h1 => by
    rw [List.getElem?_set_ne (Ne.symm h1), getOld hj]
  have cn : ∀ j, j ≠ s → ((SH ++ stC SH.length).set s (mS 41 (va_up (F c) z (some SH.length))))[j]? = (SH ++ stC SH.length)[j]? := fun j h1 => List.getElem?_set_ne (Ne.symm h1)
  have cs : ((SH ++ stC SH.length).set s (mS 41 (va_up (F c) z (some SH.length))))[s]? = some (mS 41 (upF F c z SH.length c)) := by
    rw [List.getElem?_set_self (by rw [List.length_append]; omega), upF_at]
  have len : ((SH ++ stC SH.length).set s (mS 41 (va_up (F c) z (some SH.length)))).length = SH.length + 20 := by
    rw [List.length_set, List.length_append, len_stC]
  have hcn : cnul (upF F c z SH.length 0) 41 + cnul (upF F c z SH.length 1) 41 + 1 = cnul (F 0) 41 + cnul (F 1) 41 := by
    rcases hc with ⟨e1, _⟩ | ⟨e1, _⟩
    · subst e1
      rw [upF_at, upF_ne F z _ (by decide : 1 ≠ 0)]
      have := cnul_up (x := SH.length) hn 41 hz
      omega
    · subst e1
      rw [upF_at, upF_ne F z _ (by decide : 0 ≠ 1)]
      have := cnul_up (x := SH.length) hn 41 hz
      omega
  have hc2 : c < 2 := by omega
  refine ⟨⟨sGP_cong (fun j hj h1 h2 => cc j (by omega) (by omega)) g, sMod_cong (fun j hj h1 h2 => cc j (by omega) (by omega)) m, ⟨(cc 110 (by omega) (by omega)).trans o.1, o.2⟩⟩, ?_, ?_, ?_, ?_, ?_, ?_⟩
  · rcases hc with ⟨e1, e2⟩ | ⟨e1, e2⟩
    · subst e1; subst e2
      exact ⟨cs, by rw [cc 64 (by omega) (by omega), h64, upF_ne F z _ (by decide : 1 ≠ 0)]⟩
    · subst e1; subst e2
      exact ⟨by rw [cc 38 (by omega) (by omega), h8, upF_ne F z _ (by decide : 0 ≠ 1)], cs⟩
  · intro d i x h1 h2 h3
    unfold upF at h3
    by_cases q : d = c ∧ i = z
    · rw [if_pos q] at h3
      cases h3
      refine ⟨sState_cong (fun j hj => cn j (by omega)) (sState_new rfl hp (by omega)), by omega, by omega⟩
    · rw [if_neg q] at h3
      have q := hs d i x h1 h2 h3
      exact ⟨sState_cong (fun j hj => cc j (by omega) (by omega)) q.1, q.2.1, by omega⟩
  · intro d i d' j x y h1 h2 h3 h4 h5 h6
    unfold upF at h5 h6
    by_cases q : d = c ∧ i = z
    · rw [if_pos q] at h5
      cases h5
      by_cases q' : d' = c ∧ j = z
      · exact .inl ⟨by omega, by omega⟩
      · rw [if_neg q'] at h6
        have := hs d' j y h3 h4 h6
        omega
    · rw [if_neg q] at h5
      by_cases q' : d' = c ∧ j = z
      · rw [if_pos q'] at h6
        cases h6
        have := hs d i x h1 h2 h5
        omega
      · rw [if_neg q'] at h6
        exact hd d i d' j x y h1 h2 h3 h4 h5 h6
  · omega
  · omega
  · have q : msl ((SH ++ stC SH.length).set s (mS 41 (va_up (F c) z (some SH.length)))) = msl (SH ++ stC SH.length) := by
      refine msl_set _ _ (mS 41 (F c)) _ ?_ rfl
      rcases hc with ⟨e1, e2⟩ | ⟨e1, e2⟩
      · subst e1; subst e2; rw [getOld (by omega)]; exact h8
      · subst e1; subst e2; rw [getOld (by omega)]; exact h64
    rw [q, msl_app']
    have := msl_stC SH.length
    omega
