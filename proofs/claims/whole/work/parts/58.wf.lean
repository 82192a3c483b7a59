/-! ===== what holds of a state stays so ===== -/
section
variable {P : aP} {A : aS}
theorem setW_eq (w : Int → Int) (x v : Int) : setW w x v x = v := by unfold setW; rw [if_pos rfl]
theorem setW_ne {w : Int → Int} {x v y : Int} (h : y ≠ x) : setW w x v y = w y := by unfold setW; rw [if_neg h]
theorem remL_ne {L : Int → List Int} {row x r : Int} (h : r ≠ row) : remL L row x r = L r := by unfold remL; rw [if_neg h]
theorem addL_ne {L : Int → List Int} {row x r : Int} (h : r ≠ row) : addL L row x r = L r := by unfold addL; rw [if_neg h]
theorem addL_eq (L : Int → List Int) (row x : Int) : addL L row x row = L row ++ [x] := by unfold addL; rw [if_pos rfl]
theorem remL_len {L : Int → List Int} {w : Int → Int} (h : wfR L w) {x : Int} (hx : 0 ≤ x ∧ x < 48) (hw : w x ≠ -1) : (remL L (w x) x (w x)).length + 1 = (L (w x)).length := by
  have b := h.2.2 x
  have hm : x ∈ L (w x) := (h.2.1 _ x).mpr ⟨hx, ⟨by omega, b.2⟩, rfl⟩
  obtain ⟨A, B, hL⟩ := List.append_of_mem hm
  have hn := h.1 (w x)
  unfold remL
  rw [if_pos rfl, hL]
  rw [hL] at hn
  rw [filter_cut hn]
  simp only [List.length_append, List.length_cons]
  omega
theorem wf_leaveK {f : Int} (c1 : wfR A.L A.w) (c2 : wfR A.C A.k) (c3 : wfT A.ts) (c4 : wfT A.tw) (c5 : ∀ p, A.w p ≠ -1 → 0 ≤ p ∧ p < P 0 7 ∧ A.w p < P 0 0) (c6 : ∀ f', A.k f' ≠ -1 → f' ≠ f → 0 ≤ f' ∧ f' < P 0 0 ∧ A.L f' ≠ []) (c6' : A.k f ≠ -1 → 0 ≤ f ∧ f < 48) (c7 : ∀ f', f' = f ∨ A.k f' = -1 → (A.L f').length ≤ 1) (c8 : ∀ f, ((A.L f).length : Int) ≤ P 0 1) (c9 : ∀ x, x ∈ al A.ts ↔ A.C x ≠ []) (c10 : (∀ ρ p, 0 ≤ ρ → ρ < 3 → p ∈ lb (A.tw ρ) → p < P 0 7 ∧ rlm P p = ρ ∧ p < A.v 6 9 ∧ (A.w p ≠ -1 → A.k (A.w p) = -1)) ∧ (∀ f, 0 ≤ A.v 0 f ∧ A.v 0 f < 65536) ∧ (∀ p, A.v 1 p = 0 ∨ A.v 1 p = 1) ∧ (1 ≤ A.v 6 0 ∧ A.v 6 0 ≤ 16) ∧ (0 ≤ A.v 6 9 ∧ A.v 6 9 ≤ 48)) : wfA P (leaveK A f) := by
  unfold leaveK
  by_cases e : A.k f = -1
  · rw [if_pos e]
    exact ⟨c1, c2, c3, c4, c5, fun f' h => c6 f' h (fun q => h (q ▸ e)), fun f' h => c7 f' (.inr h), c8, c9, c10⟩
  · rw [if_neg e]
    have hfb := c6' e
    have b := c2.2.2 f
    have hfm : f ∈ A.C (A.k f) := (c2.2.1 _ f).mpr ⟨hfb, ⟨by omega, b.2⟩, rfl⟩
    have hk6 : ∀ f', setW A.k f (-1) f' ≠ -1 → 0 ≤ f' ∧ f' < P 0 0 ∧ A.L f' ≠ [] := fun f' h => by
      by_cases q : f' = f
      · rw [q, setW_eq] at h; exact absurd rfl h
      · rw [setW_ne q] at h; exact c6 f' h q
    have hk7 : ∀ f', setW A.k f (-1) f' = -1 → (A.L f').length ≤ 1 := fun f' h => by
      by_cases q : f' = f
      · exact c7 f' (.inl q)
      · rw [setW_ne q] at h; exact c7 f' (.inr h)
    have d10 : ∀ ρ p, 0 ≤ ρ → ρ < 3 → p ∈ lb (A.tw ρ) → p < P 0 7 ∧ rlm P p = ρ ∧ p < A.v 6 9 ∧ (A.w p ≠ -1 → setW A.k f (-1) (A.w p) = -1) := fun ρ p a b h => by
      have q := c10.1 ρ p a b h
      refine ⟨q.1, q.2.1, q.2.2.1, fun hw => ?_⟩
      by_cases e3 : A.w p = f
      · rw [e3, setW_eq]
      · rw [setW_ne e3]; exact q.2.2.2 hw
    by_cases e2 : remL A.C (A.k f) f (A.k f) = []
    · rw [if_pos e2]
      refine ⟨c1, wf_rem c2 rfl, wf_del c3, c4, c5, hk6, hk7, c8, fun x => ?_, d10, c10.2⟩
      show x ∈ al (delT (A.k f) A.ts) ↔ remL A.C (A.k f) f x ≠ []
      rw [al_del c3, List.mem_filter, c9]
      by_cases q : x = A.k f
      · rw [q]; simp [e2]
      · rw [remL_ne q]; simp [q]
    · rw [if_neg e2]
      refine ⟨c1, wf_rem c2 rfl, c3, c4, c5, hk6, hk7, c8, fun x => ?_, d10, c10.2⟩
      show x ∈ al A.ts ↔ remL A.C (A.k f) f x ≠ []
      rw [c9]
      by_cases q : x = A.k f
      · rw [q]
        exact ⟨fun _ => e2, fun _ h => by rw [h] at hfm; exact absurd hfm List.not_mem_nil⟩
      · rw [remL_ne q]
theorem wf_own (hP : wfP P) (hA : wfA P A) {p : Int} (hp : 0 ≤ p ∧ p < P 0 7) : wfA P (ownA P A p).2 := by
  have hP7 := hP.2.2.2.2.2.1
  have hP0 := hP.1
  have hP1 := hP.2.1
  have hfr := freeA_rg (A := A) hP
  obtain ⟨c1, c2, c3, c4, c5, c6, c7, c8, c9, c10, c11, c12⟩ := hA
  have b := c1.2.2 p
  have hcel : 0 ≤ cellsA A p ∧ cellsA A p < 65536 := cellsA_rg (P := P) ⟨c1, c2, c3, c4, c5, c6, c7, c8, c9, c10, c11, c12⟩ p
  have h11 : ∀ f, 0 ≤ up A.v 0 (freeA P A) (cellsA A p) 0 f ∧ up A.v 0 (freeA P A) (cellsA A p) 0 f < 65536 := fun f => by
    rw [up_at]
    split
    · exact hcel
    · exact c11 f
  unfold ownA
  split
  · exact ⟨c1, c2, c3, c4, c5, c6, c7, c8, c9, c10, c11, c12⟩
  · rename_i n1
    split
    · rename_i n2
      exact wf_leaveK c1 c2 c3 c4 c5 (fun f' h _ => c6 f' h) (fun _ => ⟨by omega, by omega⟩) (fun f' h => by
        rcases h with h | h
        · rw [h]; omega
        · exact c7 f' h) c8 c9 ⟨c10, c11, c12⟩
    · rename_i n2
      split
      · exact ⟨c1, c2, c3, c4, c5, c6, c7, c8, c9, c10, c11, c12⟩
      · rename_i n3
        have hf : 0 ≤ freeA P A ∧ freeA P A < P 0 0 ∧ A.L (freeA P A) = [] := by
          rcases hfr with h | h
          · exact absurd h n3
          · exact h
        have hkf : A.k (freeA P A) = -1 := Decidable.byContradiction (fun q => (c6 _ q).2.2 hf.2.2)
        split
        · rename_i n4
          refine ⟨wf_add c1 ⟨by omega, by omega⟩ ⟨by omega, by omega⟩ n4, c2, c3, c4, fun q hq => ?_, fun f' h => ?_, fun f' h => ?_, fun f' => ?_, c9, fun ρ q a b h => ?_, h11, c12⟩
          · change setW A.w p (freeA P A) q ≠ -1 at hq
            show 0 ≤ q ∧ q < P 0 7 ∧ setW A.w p (freeA P A) q < P 0 0
            by_cases e : q = p
            · rw [e, setW_eq]; omega
            · rw [setW_ne e] at hq ⊢; exact c5 q hq
          · have h := c6 f' h
            refine ⟨h.1, h.2.1, ?_⟩
            show addL A.L (freeA P A) p f' ≠ []
            rw [addL_ne (row := freeA P A) (r := f') (fun e => h.2.2 (by rw [e]; exact hf.2.2))]
            exact h.2.2
          · show (addL A.L (freeA P A) p f').length ≤ 1
            by_cases e : f' = freeA P A
            · rw [e, addL_eq, hf.2.2]; simp
            · rw [addL_ne e]; exact c7 f' h
          · show ((addL A.L (freeA P A) p f').length : Int) ≤ P 0 1
            by_cases e : f' = freeA P A
            · rw [e, addL_eq, hf.2.2]; simp; omega
            · rw [addL_ne e]; exact c8 f'
          · have c := c10 ρ q a b h
            refine ⟨c.1, c.2.1, ?_, fun hw => ?_⟩
            · show q < up A.v 0 (freeA P A) (cellsA A p) 6 9
              rw [up_ne (by decide)]; exact c.2.2.1
            · show A.k (setW A.w p (freeA P A) q) = -1
              by_cases e : q = p
              · rw [e, setW_eq]; exact hkf
              · change setW A.w p (freeA P A) q ≠ -1 at hw
                rw [setW_ne e] at hw ⊢; exact c.2.2.2 hw
        · rename_i n4
          have hkw : A.k (A.w p) ≠ -1 := fun q => n1 ⟨n4, q⟩
          have hLw := (c6 _ hkw).2.2
          have hl1 := remL_len c1 ⟨hp.1, by omega⟩ n4
          have hl2 : (A.L (A.w p)).length ≠ 1 := fun q => n2 ⟨n4, q⟩
          have hl3 : (A.L (A.w p)).length ≠ 0 := fun q => hLw (List.length_eq_zero_iff.mp q)
          have hne : A.w p ≠ freeA P A := fun q => hLw (q ▸ hf.2.2)
          have h6 : ∀ i, up (up A.v 0 (freeA P A) (cellsA A p)) 6 8 (A.v 6 8 + 1) 0 i = up A.v 0 (freeA P A) (cellsA A p) 0 i := fun i => by rw [up_ne (by decide)]
          refine ⟨wf_add (wf_rem c1 rfl) ⟨by omega, by omega⟩ ⟨by omega, by omega⟩ (setW_eq ..), c2, c3, c4, fun q hq => ?_, fun f' h => ?_, fun f' h => ?_, fun f' => ?_, c9, fun ρ q a b h => ?_, fun f' => ?_, ?_, ?_, ?_⟩
          · change setW (setW A.w p (-1)) p (freeA P A) q ≠ -1 at hq
            show 0 ≤ q ∧ q < P 0 7 ∧ setW (setW A.w p (-1)) p (freeA P A) q < P 0 0
            by_cases e : q = p
            · rw [e, setW_eq]; omega
            · rw [setW_ne e, setW_ne e] at hq ⊢; exact c5 q hq
          · have h := c6 f' h
            refine ⟨h.1, h.2.1, ?_⟩
            show addL (remL A.L (A.w p) p) (freeA P A) p f' ≠ []
            rw [addL_ne (row := freeA P A) (r := f') (fun e => h.2.2 (by rw [e]; exact hf.2.2))]
            by_cases e : f' = A.w p
            · rw [e]; intro q; rw [q] at hl1; simp at hl1; omega
            · rw [remL_ne e]; exact h.2.2
          · change A.k f' = -1 at h
            have e2 : f' ≠ A.w p := fun q => hkw (q ▸ h)
            show (addL (remL A.L (A.w p) p) (freeA P A) p f').length ≤ 1
            by_cases e : f' = freeA P A
            · rw [e, addL_eq, remL_ne (fun q => hne q.symm), hf.2.2]; simp
            · rw [addL_ne e, remL_ne e2]; exact c7 f' h
          · show ((addL (remL A.L (A.w p) p) (freeA P A) p f').length : Int) ≤ P 0 1
            by_cases e : f' = freeA P A
            · rw [e, addL_eq, remL_ne (fun q => hne q.symm), hf.2.2]; simp; omega
            · rw [addL_ne e]
              by_cases e2 : f' = A.w p
              · rw [e2]; have := c8 (A.w p); omega
              · rw [remL_ne e2]; exact c8 f'
          · have c := c10 ρ q a b h
            refine ⟨c.1, c.2.1, ?_, fun hw => ?_⟩
            · show q < up (up A.v 0 (freeA P A) (cellsA A p)) 6 8 (A.v 6 8 + 1) 6 9
              rw [up_at, if_neg (by decide), up_ne (by decide)]; exact c.2.2.1
            · show A.k (setW (setW A.w p (-1)) p (freeA P A) q) = -1
              by_cases e : q = p
              · rw [e, setW_eq]; exact hkf
              · change setW (setW A.w p (-1)) p (freeA P A) q ≠ -1 at hw
                rw [setW_ne e, setW_ne e] at hw ⊢; exact c.2.2.2 hw
          · show 0 ≤ up (up A.v 0 (freeA P A) (cellsA A p)) 6 8 (A.v 6 8 + 1) 0 f' ∧ up (up A.v 0 (freeA P A) (cellsA A p)) 6 8 (A.v 6 8 + 1) 0 f' < 65536
            rw [h6]; exact h11 f'
          · intro q
            show up (up A.v 0 (freeA P A) (cellsA A p)) 6 8 (A.v 6 8 + 1) 1 q = 0 ∨ up (up A.v 0 (freeA P A) (cellsA A p)) 6 8 (A.v 6 8 + 1) 1 q = 1
            rw [up_ne (by decide), up_ne (by decide)]; exact c12.1 q
          · show 1 ≤ up (up A.v 0 (freeA P A) (cellsA A p)) 6 8 (A.v 6 8 + 1) 6 0 ∧ up (up A.v 0 (freeA P A) (cellsA A p)) 6 8 (A.v 6 8 + 1) 6 0 ≤ 16
            rw [up_at, if_neg (by decide), up_ne (by decide)]; exact c12.2.1
          · show 0 ≤ up (up A.v 0 (freeA P A) (cellsA A p)) 6 8 (A.v 6 8 + 1) 6 9 ∧ up (up A.v 0 (freeA P A) (cellsA A p)) 6 8 (A.v 6 8 + 1) 6 9 ≤ 48
            rw [up_at, if_neg (by decide), up_ne (by decide)]; exact c12.2.2
theorem wf_v0 (hA : wfA P A) {i x : Int} (hx : 0 ≤ x ∧ x < 65536) : wfA P (A.sv 0 i x) := by
  obtain ⟨c1, c2, c3, c4, c5, c6, c7, c8, c9, c10, c11, c12, c13, c14⟩ := hA
  refine ⟨c1, c2, c3, c4, c5, c6, c7, c8, c9, fun ρ q a b h => ?_, fun f => ?_, fun p => ?_, ?_, ?_⟩
  · have c := c10 ρ q a b h
    refine ⟨c.1, c.2.1, ?_, c.2.2.2⟩
    show q < up A.v 0 i x 6 9
    rw [up_ne (by decide)]; exact c.2.2.1
  · show 0 ≤ up A.v 0 i x 0 f ∧ up A.v 0 i x 0 f < 65536
    rw [up_at]; split
    · exact hx
    · exact c11 f
  · show up A.v 0 i x 1 p = 0 ∨ up A.v 0 i x 1 p = 1
    rw [up_ne (by decide)]; exact c12 p
  · show 1 ≤ up A.v 0 i x 6 0 ∧ up A.v 0 i x 6 0 ≤ 16
    rw [up_ne (by decide)]; exact c13
  · show 0 ≤ up A.v 0 i x 6 9 ∧ up A.v 0 i x 6 9 ≤ 48
    rw [up_ne (by decide)]; exact c14
theorem wf_v1 (hA : wfA P A) {i x : Int} (hx : x = 0 ∨ x = 1) : wfA P (A.sv 1 i x) := by
  obtain ⟨c1, c2, c3, c4, c5, c6, c7, c8, c9, c10, c11, c12, c13, c14⟩ := hA
  refine ⟨c1, c2, c3, c4, c5, c6, c7, c8, c9, fun ρ q a b h => ?_, fun f => ?_, fun p => ?_, ?_, ?_⟩
  · have c := c10 ρ q a b h
    refine ⟨c.1, c.2.1, ?_, c.2.2.2⟩
    show q < up A.v 1 i x 6 9
    rw [up_ne (by decide)]; exact c.2.2.1
  · show 0 ≤ up A.v 1 i x 0 f ∧ up A.v 1 i x 0 f < 65536
    rw [up_ne (by decide)]; exact c11 f
  · show up A.v 1 i x 1 p = 0 ∨ up A.v 1 i x 1 p = 1
    rw [up_at]; split
    · exact hx
    · exact c12 p
  · show 1 ≤ up A.v 1 i x 6 0 ∧ up A.v 1 i x 6 0 ≤ 16
    rw [up_ne (by decide)]; exact c13
  · show 0 ≤ up A.v 1 i x 6 9 ∧ up A.v 1 i x 6 9 ≤ 48
    rw [up_ne (by decide)]; exact c14
/-- befell, sum, age, rest -/
theorem wf_vj (hA : wfA P A) {j : Nat} (hj : 2 ≤ j ∧ j ≤ 5) {i x : Int} : wfA P (A.sv j i x) := by
  obtain ⟨c1, c2, c3, c4, c5, c6, c7, c8, c9, c10, c11, c12, c13, c14⟩ := hA
  refine ⟨c1, c2, c3, c4, c5, c6, c7, c8, c9, fun ρ q a b h => ?_, fun f => ?_, fun p => ?_, ?_, ?_⟩
  · have c := c10 ρ q a b h
    refine ⟨c.1, c.2.1, ?_, c.2.2.2⟩
    show q < up A.v j i x 6 9
    rw [up_ne (by omega)]; exact c.2.2.1
  · show 0 ≤ up A.v j i x 0 f ∧ up A.v j i x 0 f < 65536
    rw [up_ne (by omega)]; exact c11 f
  · show up A.v j i x 1 p = 0 ∨ up A.v j i x 1 p = 1
    rw [up_ne (by omega)]; exact c12 p
  · show 1 ≤ up A.v j i x 6 0 ∧ up A.v j i x 6 0 ≤ 16
    rw [up_ne (by omega)]; exact c13
  · show 0 ≤ up A.v j i x 6 9 ∧ up A.v j i x 6 9 ≤ 48
    rw [up_ne (by omega)]; exact c14
theorem wf_v6 (hA : wfA P A) {i x : Int} (h0 : i = 0 → 1 ≤ x ∧ x ≤ 16) (h9 : i = 9 → 0 ≤ x ∧ x ≤ 48) (h9' : i = 9 → ∀ ρ p, 0 ≤ ρ → ρ < 3 → p ∈ lb (A.tw ρ) → p < x) : wfA P (A.sv 6 i x) := by
  obtain ⟨c1, c2, c3, c4, c5, c6, c7, c8, c9, c10, c11, c12, c13, c14⟩ := hA
  refine ⟨c1, c2, c3, c4, c5, c6, c7, c8, c9, fun ρ q a b h => ?_, fun f => ?_, fun p => ?_, ?_, ?_⟩
  · have c := c10 ρ q a b h
    refine ⟨c.1, c.2.1, ?_, c.2.2.2⟩
    show q < up A.v 6 i x 6 9
    rw [up_at]; split
    · rename_i e; exact h9' e.symm ρ q a b h
    · exact c.2.2.1
  · show 0 ≤ up A.v 6 i x 0 f ∧ up A.v 6 i x 0 f < 65536
    rw [up_ne (by decide)]; exact c11 f
  · show up A.v 6 i x 1 p = 0 ∨ up A.v 6 i x 1 p = 1
    rw [up_ne (by decide)]; exact c12 p
  · show 1 ≤ up A.v 6 i x 6 0 ∧ up A.v 6 i x 6 0 ≤ 16
    rw [up_at]; split
    · rename_i e; exact h0 e.symm
    · exact c13
  · show 0 ≤ up A.v 6 i x 6 9 ∧ up A.v 6 i x 6 9 ≤ 48
    rw [up_at]; split
    · rename_i e; exact h9 e.symm
    · exact c14
theorem wf_tw (hA : wfA P A) {k : Int} : wfA P (A.stw (delT k A.tw)) := by
  obtain ⟨c1, c2, c3, c4, c5, c6, c7, c8, c9, c10, c11⟩ := hA
  refine ⟨c1, c2, c3, wf_del c4, c5, c6, c7, c8, c9, fun ρ p h0 h3 hm => c10 ρ p h0 h3 ?_, c11⟩
  have hm : p ∈ lb (del k (A.tw ρ)) := hm
  rw [lb_del (lb_nd c4 h0 h3)] at hm
  exact (List.mem_filter.mp hm).1
theorem wf_put (hP : wfP P) (hA : wfA P A) {p x : Int} (hp : 0 ≤ p ∧ p < P 0 7) (hx : 0 ≤ x ∧ x < 65536) : wfA P (putA P A p x).2 := by
  unfold putA
  split
  · exact wf_own hP hA hp
  · exact wf_v0 (wf_own hP hA hp) hx
theorem wf_drop (hP : wfP P) (hA : wfA P A) {p : Int} (hp : 0 ≤ p ∧ p < P 0 7) : wfA P (dropA A p).2 := by
  have hP7 := hP.2.2.2.2.2.1
  have hP1 := hP.2.1
  unfold dropA
  split
  · exact hA
  · rename_i n1
    obtain ⟨c1, c2, c3, c4, c5, c6, c7, c8, c9, c10⟩ := hA
    have b := c1.2.2 p
    have hl1 := remL_len c1 ⟨hp.1, by omega⟩ n1
    have d5 : ∀ q, setW A.w p (-1) q ≠ -1 → 0 ≤ q ∧ q < P 0 7 ∧ setW A.w p (-1) q < P 0 0 := fun q hq => by
      by_cases e : q = p
      · rw [e, setW_eq] at hq; exact absurd rfl hq
      · rw [setW_ne e] at hq ⊢; exact c5 q hq
    have d7 : ∀ f, A.k f = -1 → (remL A.L (A.w p) p f).length ≤ 1 := fun f h => by
      by_cases e : f = A.w p
      · have := c7 _ (e ▸ h); rw [e]; omega
      · rw [remL_ne e]; exact c7 f h
    have d8 : ∀ f, ((remL A.L (A.w p) p f).length : Int) ≤ P 0 1 := fun f => by
      by_cases e : f = A.w p
      · rw [e]; have := c8 (A.w p); omega
      · rw [remL_ne e]; exact c8 f
    have d10 : ∀ ρ q, 0 ≤ ρ → ρ < 3 → q ∈ lb (A.tw ρ) → q < P 0 7 ∧ rlm P q = ρ ∧ q < A.v 6 9 ∧ (setW A.w p (-1) q ≠ -1 → A.k (setW A.w p (-1) q) = -1) := fun ρ q a b h => by
      have c := c10.1 ρ q a b h
      refine ⟨c.1, c.2.1, c.2.2.1, fun hw => ?_⟩
      by_cases e : q = p
      · rw [e, setW_eq] at hw; exact absurd rfl hw
      · rw [setW_ne e] at hw ⊢; exact c.2.2.2 hw
    split
    · rename_i n2
      have n2 : remL A.L (A.w p) p (A.w p) = [] := n2
      refine wf_leaveK (A := unlie A p) (wf_rem c1 rfl) c2 c3 c4 d5 (fun f' h hn => ?_) (fun _ => ⟨by omega, by omega⟩) (fun f' h => ?_) d8 c9 ⟨d10, c10.2⟩
      · have q := c6 f' h
        exact ⟨q.1, q.2.1, by show remL A.L (A.w p) p f' ≠ []; rw [remL_ne hn]; exact q.2.2⟩
      · show (remL A.L (A.w p) p f').length ≤ 1
        rcases h with h | h
        · rw [h, n2]; simp
        · exact d7 f' h
    · rename_i n2
      have n2 : remL A.L (A.w p) p (A.w p) ≠ [] := n2
      refine ⟨wf_rem c1 rfl, c2, c3, c4, d5, fun f' h => ?_, d7, d8, c9, d10, c10.2⟩
      have q := c6 f' h
      refine ⟨q.1, q.2.1, ?_⟩
      show remL A.L (A.w p) p f' ≠ []
      by_cases e : f' = A.w p
      · rw [e]; exact n2
      · rw [remL_ne e]; exact q.2.2
end
