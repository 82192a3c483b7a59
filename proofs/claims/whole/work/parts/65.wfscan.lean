/-! ===== what holds of a state stays so behind a scan's parts ===== -/
section
variable {P : aP} {A : aS}
theorem rt_rg2 {T : Int → Tr} {key v : Int → Int} {x ρ : Int} (hw : wfT T) (hρ : 0 ≤ ρ ∧ ρ < 3) : -1 ≤ rt (skc key v x (T ρ) (96 + ρ) 0 [] []).2.1 ∧ rt (skc key v x (T ρ) (96 + ρ) 0 [] []).2.1 < 48 := by
  by_cases e : rt (skc key v x (T ρ) (96 + ρ) 0 [] []).2.1 = -1
  · omega
  · have hm := cxs_in (T := T) hρ.1 hρ.2 (skc_cx (key := key) (v := v) (x := x) (T ρ) (96 + ρ) 0 [] [] e)
    have h1 := hw.2 _ (cxs_lb hm)
    have h2 := rt_nn hm
    omega
theorem wf_move (hP : wfP P) (hA : wfA P A) {p f : Int} (hp : 0 ≤ p ∧ p < P 0 7) (hwp : A.w p ≠ -1) (hkp : A.k (A.w p) = -1) (hkf : A.k f ≠ -1) (hl : ((A.L f).length : Int) < P 0 1) (hcur : ∀ ρ, 0 ≤ ρ → ρ < 3 → p ∉ lb (A.tw ρ)) : wfA P (lieIn (unlie A p) p f) := by
  have hP7 := hP.2.2.2.2.2.1
  have hP0 := hP.1
  obtain ⟨c1, c2, c3, c4, c5, c6, c7, c8, c9, c10, c11⟩ := hA
  have hff := c6 f hkf
  have hfw : f ≠ A.w p := fun e => hkf (e ▸ hkp)
  have hl1 := remL_len c1 ⟨hp.1, by omega⟩ hwp
  refine ⟨wf_add (wf_rem c1 rfl) ⟨hp.1, by omega⟩ ⟨hff.1, by omega⟩ (setW_eq ..), c2, c3, c4, fun q hq => ?_, fun f' h => ?_, fun f' h => ?_, fun f' => ?_, c9, fun ρ q a b h => ?_, c11⟩
  · change setW (setW A.w p (-1)) p f q ≠ -1 at hq
    show 0 ≤ q ∧ q < P 0 7 ∧ setW (setW A.w p (-1)) p f q < P 0 0
    by_cases e : q = p
    · rw [e, setW_eq]; omega
    · rw [setW_ne e, setW_ne e] at hq ⊢; exact c5 q hq
  · have q := c6 f' h
    refine ⟨q.1, q.2.1, ?_⟩
    show addL (remL A.L (A.w p) p) f p f' ≠ []
    by_cases e : f' = f
    · rw [e, addL_eq]; simp
    · rw [addL_ne e, remL_ne (show f' ≠ A.w p from fun e2 => h (e2 ▸ hkp))]; exact q.2.2
  · change A.k f' = -1 at h
    show (addL (remL A.L (A.w p) p) f p f').length ≤ 1
    have e : f' ≠ f := fun e => hkf (e ▸ h)
    rw [addL_ne e]
    by_cases e2 : f' = A.w p
    · have := c7 _ hkp; rw [e2]; omega
    · rw [remL_ne e2]; exact c7 f' h
  · show ((addL (remL A.L (A.w p) p) f p f').length : Int) ≤ P 0 1
    by_cases e : f' = f
    · rw [e, addL_eq, remL_ne hfw, List.length_append]; simp; omega
    · rw [addL_ne e]
      by_cases e2 : f' = A.w p
      · rw [e2]; have := c8 (A.w p); omega
      · rw [remL_ne e2]; exact c8 f'
  · have c := c10 ρ q a b h
    have e : q ≠ p := fun e => hcur ρ a b (e ▸ h)
    refine ⟨c.1, c.2.1, c.2.2.1, fun hw => ?_⟩
    show A.k (setW (setW A.w p (-1)) p f q) = -1
    change setW (setW A.w p (-1)) p f q ≠ -1 at hw
    rw [setW_ne e, setW_ne e] at hw ⊢; exact c.2.2.2 hw
theorem wf_unlie (hP : wfP P) (hA : wfA P A) {p : Int} (hp : 0 ≤ p ∧ p < P 0 7) (hwp : A.w p ≠ -1) (hkp : A.k (A.w p) = -1) : wfA P (unlie A p) := by
  have q := wf_drop hP hA hp
  unfold dropA at q
  rw [if_neg hwp] at q
  split at q
  · have e : leaveK (unlie A p) (A.w p) = unlie A p := by
      unfold leaveK; exact if_pos hkp
    dsimp only at q
    rw [e] at q
    exact q
  · exact q
theorem wf_wnk (hA : wfA P A) {o : Int} : wfA P (wnk A o) := wf_vj (wf_vj (wf_tw hA) (by decide)) (by decide)
/-- the only page of a frame that is not merged -/
theorem alone (hP : wfP P) (hA : wfA P A) {o q : Int} (hwo : A.w o ≠ -1) (hko : A.k (A.w o) = -1) (hq : A.w q = A.w o) : q = o := by
  have hP7 := hP.2.2.2.2.2.1
  obtain ⟨c1, c2, c3, c4, c5, c6, c7, c8⟩ := hA
  have ho := c5 o hwo
  have hq5 := c5 q (by rw [hq]; exact hwo)
  have bo := c1.2.2 o
  have hl := c7 _ hko
  have m1 : o ∈ A.L (A.w o) := (c1.2.1 _ o).mpr ⟨⟨ho.1, by omega⟩, ⟨by omega, bo.2⟩, rfl⟩
  have m2 : q ∈ A.L (A.w o) := (c1.2.1 _ q).mpr ⟨⟨hq5.1, by omega⟩, ⟨by omega, bo.2⟩, hq⟩
  cases h : A.L (A.w o) with
  | nil => rw [h] at m1; exact absurd m1 List.not_mem_nil
  | cons x t =>
    rw [h] at hl m1 m2
    simp only [List.length_cons] at hl
    have ht : t = [] := List.length_eq_zero_iff.mp (by omega)
    subst ht
    rw [List.mem_singleton] at m1 m2
    rw [m1, m2]
theorem len1 (hP : wfP P) (hA : wfA P A) {o : Int} (hwo : A.w o ≠ -1) (hko : A.k (A.w o) = -1) : (A.L (A.w o)).length = 1 := by
  have hP7 := hP.2.2.2.2.2.1
  obtain ⟨c1, c2, c3, c4, c5, c6, c7, c8⟩ := hA
  have ho := c5 o hwo
  have bo := c1.2.2 o
  have hl := c7 _ hko
  have m1 : o ∈ A.L (A.w o) := (c1.2.1 _ o).mpr ⟨⟨ho.1, by omega⟩, ⟨by omega, bo.2⟩, rfl⟩
  cases h : A.L (A.w o) with
  | nil => rw [h] at m1; exact absurd m1 List.not_mem_nil
  | cons x t => rw [h] at hl; simp only [List.length_cons] at hl ⊢; omega
/-- a frame comes to a knot's chain -/
theorem wf_chain (hP : wfP P) (hA : wfA P A) {o k : Int} {ts' : Int → Tr} (hwo : A.w o ≠ -1) (hko : A.k (A.w o) = -1) (hk : 0 ≤ k ∧ k < 48) (h3 : wfT ts') (h9 : ∀ x, x ∈ al ts' ↔ (x = k ∨ x ∈ al A.ts)) : wfA P (((wnk A o).sts ts').sC (addL A.C k (A.w o)) (setW A.k (A.w o) k)) := by
  have hP7 := hP.2.2.2.2.2.1
  have hP0 := hP.1
  have hal := fun q => alone (q := q) hP hA hwo hko
  have hln := len1 hP hA hwo hko
  obtain ⟨c1, c2, c3, c4, c5, c6, c7, c8, c9, c10, c11⟩ := wf_wnk hA (o := o)
  have ho := c5 o hwo
  have bo := c1.2.2 o
  have hof : 0 ≤ A.w o ∧ A.w o < 48 := ⟨by have : -1 ≤ A.w o := bo.1; omega, bo.2⟩
  refine ⟨c1, wf_add c2 hof hk hko, h3, c4, c5, fun f' h => ?_, fun f' h => ?_, c8, fun x => ?_, fun ρ q a b h => ?_, c11⟩
  · change setW A.k (A.w o) k f' ≠ -1 at h
    by_cases e : f' = A.w o
    · rw [e]
      have hf0 : A.w o < P 0 0 := ho.2.2
      refine ⟨hof.1, hf0, fun q => ?_⟩
      have q : A.L (A.w o) = [] := q
      rw [q] at hln; simp at hln
    · rw [setW_ne e] at h; exact c6 f' h
  · change setW A.k (A.w o) k f' = -1 at h
    by_cases e : f' = A.w o
    · rw [e, setW_eq] at h; omega
    · rw [setW_ne e] at h; exact c7 f' h
  · show x ∈ al ts' ↔ addL A.C k (A.w o) x ≠ []
    rw [h9]
    by_cases e : x = k
    · rw [e, addL_eq]; simp
    · have c9 : x ∈ al A.ts ↔ A.C x ≠ [] := c9 x
      rw [addL_ne e, ← c9]
      exact ⟨fun q => q.resolve_left e, .inr⟩
  · have c := c10 ρ q a b h
    have hq : q ≠ o := by
      rintro rfl
      have h : q ∈ lb (del q (A.tw ρ)) := h
      rw [lb_del (lb_nd hA.2.2.2.1 a b)] at h
      simp at h
    refine ⟨c.1, c.2.1, c.2.2.1, fun hw => ?_⟩
    show setW A.k (A.w o) k (A.w q) = -1
    rw [setW_ne (fun e => hq (hal q e))]
    exact c.2.2.2 hw
theorem wf_pair (hP : wfP P) (hA : wfA P A) {ρ x p o : Int} (hρ : 0 ≤ ρ ∧ ρ < 3) (hp : 0 ≤ p ∧ p < P 0 7) (hwp : A.w p ≠ -1) (hkp : A.k (A.w p) = -1) (hwo : A.w o ≠ -1) (hko : A.k (A.w o) = -1) (hpo : p ≠ o) (hcur : ∀ ρ, 0 ≤ ρ → ρ < 3 → p ∉ lb (A.tw ρ)) : wfA P (pairA A ρ x p o) := by
  have hP1 := hP.2.1
  have hln := len1 hP hA hwo hko
  have hne : A.w p ≠ A.w o := fun e => hpo (alone hP hA hwo hko e)
  have bo := hA.1.2.2 o
  have hcur' : ∀ ρ, 0 ≤ ρ → ρ < 3 → p ∉ lb (delT o A.tw ρ) := fun ρ a b q => by
    have q : p ∈ lb (del o (A.tw ρ)) := q
    rw [lb_del (lb_nd hA.2.2.2.1 a b)] at q
    exact hcur ρ a b (List.mem_filter.mp q).1
  unfold pairA
  split
  · rename_i e
    obtain ⟨k1, k2, k3⟩ := freeKn_free hA (f := A.w o) ⟨by omega, by omega⟩ hko
    have hnat : ((freeKn A).toNat : Int) = freeKn A := Int.toNat_of_nonneg k2
    have hno : ((freeKn A).toNat : Int) ∉ al A.ts := by rw [hnat, hA.2.2.2.2.2.2.2.2.1]; exact fun q => q k1
    have hB := wf_chain hP hA hwo hko ⟨k2, k3⟩ (wf_ins (p := (freeKn A).toNat) hA.2.2.1 hρ e (by omega) hno) (fun x' => by
      rw [(al_ins (p := (freeKn A).toNat) hρ e).mem_iff, List.mem_cons, hnat])
    refine wf_move hP hB hp hwp ?_ ?_ ?_ hcur'
    · show setW A.k (A.w o) (freeKn A) (A.w p) = -1
      rw [setW_ne hne]; exact hkp
    · show setW A.k (A.w o) (freeKn A) (A.w o) ≠ -1
      rw [setW_eq]; omega
    · show ((A.L (A.w o)).length : Int) < P 0 1
      omega
  · rename_i e
    have hr := rt_rg2 (key := keyA A 1) (v := A.v 0) (x := x) hA.2.2.1 hρ
    have hin := cxs_lb (cxs_in hρ.1 hρ.2 (skc_cx (key := keyA A 1) (v := A.v 0) (x := x) (A.ts ρ) (96 + ρ) 0 [] [] e))
    have hB := wf_chain (ts' := A.ts) hP hA hwo hko (k := rt (skc (keyA A 1) (A.v 0) x (A.ts ρ) (96 + ρ) 0 [] []).2.1) ⟨by omega, by omega⟩ hA.2.2.1 (fun x' => ⟨.inr, fun q => q.elim (fun q => q ▸ hin) id⟩)
    refine wf_move hP hB hp hwp ?_ ?_ ?_ hcur'
    · show setW A.k (A.w o) _ (A.w p) = -1
      rw [setW_ne hne]; exact hkp
    · show setW A.k (A.w o) _ (A.w o) ≠ -1
      rw [setW_eq]; exact e
    · show ((A.L (A.w o)).length : Int) < P 0 1
      omega
theorem wf_wait (hA : wfA P A) {ρ x p : Int} (hρ : ρ = rlm P p) (hρ3 : 0 ≤ ρ ∧ ρ < 3) (hp : 0 ≤ p ∧ p < P 0 7) (hp48 : p < 48) (hcp : p < A.v 6 9) (hkp : A.w p ≠ -1 → A.k (A.w p) = -1) (hu : rt (skc (keyA A 0) (A.v 0) x (A.tw ρ) (96 + ρ) 0 [] []).2.1 = -1) (hcur : ∀ ρ, 0 ≤ ρ → ρ < 3 → p ∉ lb (A.tw ρ)) : wfA P (A.stw (insT (keyA A 0) (A.v 0) x p.toNat A.tw ρ)) := by
  have hnat : (p.toNat : Int) = p := Int.toNat_of_nonneg hp.1
  have hno : (p.toNat : Int) ∉ al A.tw := by
    rw [hnat]
    intro h
    obtain ⟨ρ, a1, a2, a3⟩ := al_of h
    exact hcur ρ a1 a2 a3
  obtain ⟨c1, c2, c3, c4, c5, c6, c7, c8, c9, c10, c11⟩ := hA
  refine ⟨c1, c2, c3, wf_ins c4 hρ3 hu (by omega) hno, c5, c6, c7, c8, c9, fun ρ' q a b h => ?_, c11⟩
  change q ∈ lb (insT (keyA A 0) (A.v 0) x p.toNat A.tw ρ ρ') at h
  unfold insT at h
  by_cases e : ρ' = ρ
  · rw [if_pos e] at h
    rcases List.mem_cons.mp ((lb_ins (p := p.toNat) hu).mem_iff.mp h) with h | h
    · rw [hnat] at h
      rw [h, e]
      exact ⟨hp.2, hρ.symm, hcp, hkp⟩
    · exact c10 ρ' q a b (by rw [e]; exact h)
  · rw [if_neg e] at h
    exact c10 ρ' q a b h
theorem wf_work (hA : wfA P A) {y : Int} : wfA P (A.sv 6 3 y) := wf_v6 hA (fun h => absurd h (by decide)) (fun h => absurd h (by decide)) (fun h => absurd h (by decide))
theorem wf_look (hP : wfP P) (hA : wfA P A) {p : Int} (hp : 0 ≤ p ∧ p < P 0 7) (hwp : A.w p ≠ -1) (hkp : A.k (A.w p) = -1) (hcp : p < A.v 6 9) (hcur : ∀ ρ, 0 ≤ ρ → ρ < 3 → p ∉ lb (A.tw ρ)) : wfA P (lookA P A p).2 := by
  have hP7 := hP.2.2.2.2.2.1
  have hρ := rlm_rg hP hp
  unfold lookA
  split
  · rename_i e
    have hm := roomA_mem e
    have hb := (hA.2.1.2.1 _ _).mp hm.1
    exact wf_move hP (wf_work hA) hp hwp hkp (by show A.k _ ≠ -1; omega) hm.2 hcur
  · split
    · split
      · rename_i d1
        have q := wf_wait (A := A.sv 6 3 (A.v 6 3 + skw (keyA A 1) (A.v 0) (A.v 0 (A.w p)) (A.ts (rlm P p)) + skw (keyA A 0) (A.v 0) (A.v 0 (A.w p)) (A.tw (rlm P p)))) (wf_work hA) (x := A.v 0 (A.w p)) rfl hρ hp (by omega) (by
          have e9 : ∀ y, (A.sv 6 3 y).v 6 9 = A.v 6 9 := fun y => by
            show up A.v 6 3 y 6 9 = A.v 6 9
            rw [up_at, if_neg (by decide)]
          rw [e9]; exact hcp) (fun _ => hkp) (by rw [v0_6]; exact d1) hcur
        rw [v0_6] at q
        exact q
      · split
        · exact wf_work hA
        · rename_i d1 d2
          have hin := cxs_lb (cxs_in hρ.1 hρ.2 (skc_cx (key := keyA A 0) (v := A.v 0) (x := A.v 0 (A.w p)) (A.tw (rlm P p)) (96 + rlm P p) 0 [] [] d1))
          obtain ⟨ρ', b1, b2, b3⟩ := al_of hin
          have hko := (hA.2.2.2.2.2.2.2.2.2.1 ρ' _ b1 b2 b3).2.2.2 d2
          exact wf_pair hP (wf_work hA) hρ hp hwp hkp d2 hko (fun e => hcur ρ' b1 b2 (by rw [e]; exact b3)) hcur
    · exact wf_vj (wf_work hA) (by decide)
theorem wf_bef (hP : wfP P) (hA : wfA P A) {p : Int} (hp : 0 ≤ p ∧ p < P 0 7) (hcp : p < A.v 6 9) (hcur : ∀ ρ, 0 ≤ ρ → ρ < 3 → p ∉ lb (A.tw ρ)) : wfA P (befA P A p).2 := by
  unfold befA
  split
  · exact wf_vj hA (by decide)
  · rename_i n1
    split
    · exact hA
    · rename_i n2
      have n2 : A.k (A.w p) = -1 := Decidable.byContradiction n2
      split
      · exact wf_vj hA (by decide)
      · split
        · exact wf_vj (wf_unlie hP hA hp n1 n2) (by decide)
        · exact wf_look hP hA hp n1 n2 hcp hcur
end
