/-! ===== a knot comes where a search has ended ===== -/
def ins (key v : Int → Int) (x : Int) (p : Nat) : Tr → Tr
  | .leaf _ => .branch p (.leaf ()) (.leaf ())
  | .branch k l r => if key k = -1 ∨ (cmpA x (v (key k))).1 = 0 then .branch k l r else if (cmpA x (v (key k))).1 < 0 then .branch k (ins key v x p l) r else .branch k l (ins key v x p r)
def insT (key v : Int → Int) (x : Int) (p : Nat) (T : Int → Tr) (ρ : Int) : Int → Tr := fun ρ' => if ρ' = ρ then ins key v x p (T ρ) else T ρ'
section
variable {key v : Int → Int} {x : Int} {p : Nat}
theorem skc_at : ∀ (t : Tr) (s d : Int) (A B : List (Int × Int)), (skc key v x t s d A B).1 = s ∨ ∃ j ∈ lb t, (skc key v x t s d A B).1 = 2 * j ∨ (skc key v x t s d A B).1 = 2 * j + 1
  | .leaf _, s, d, A, B => .inl rfl
  | .branch k l r, s, d, A, B => by
    unfold skc
    have hk : (k : Int) ∈ lb (.branch k l r) := List.mem_append_right _ (List.mem_cons_self ..)
    split
    · exact .inl rfl
    · split
      · rcases skc_at l (2 * (k : Int)) (d + 1) A (((k : Int), d) :: fd r (d + 1) ++ B) with h | ⟨j, hj, h⟩
        · exact .inr ⟨k, hk, .inl h⟩
        · exact .inr ⟨j, List.mem_append_left _ hj, h⟩
      · rcases skc_at r (2 * (k : Int) + 1) (d + 1) (A ++ fd l (d + 1) ++ [((k : Int), d)]) B with h | ⟨j, hj, h⟩
        · exact .inr ⟨k, hk, .inr h⟩
        · exact .inr ⟨j, List.mem_append_right _ (List.mem_cons_of_mem _ hj), h⟩
theorem skc_cx : ∀ (t : Tr) (s d : Int) (A B : List (Int × Int)), rt (skc key v x t s d A B).2.1 ≠ -1 → skc key v x t s d A B ∈ cx t s d A B
  | .leaf _, s, d, A, B, h => absurd rfl h
  | .branch k l r, s, d, A, B, h => by
    unfold skc at h ⊢
    split at h
    · rename_i c; rw [if_pos c]; exact List.mem_cons_self ..
    · rename_i c
      rw [if_neg c]
      split at h
      · rename_i c2; rw [if_pos c2]; exact List.mem_cons_of_mem _ (List.mem_append_left _ (skc_cx l _ _ _ _ h))
      · rename_i c2; rw [if_neg c2]; exact List.mem_cons_of_mem _ (List.mem_append_right _ (skc_cx r _ _ _ _ h))
theorem skc_fd : ∀ (t : Tr) (s d : Int) (A B : List (Int × Int)), (skc key v x t s d A B).2.2.2.1 ++ fd (skc key v x t s d A B).2.1 (skc key v x t s d A B).2.2.1 ++ (skc key v x t s d A B).2.2.2.2 = A ++ fd t d ++ B
  | .leaf _, s, d, A, B => rfl
  | .branch k l r, s, d, A, B => by
    unfold skc
    split
    · rfl
    · split
      · rw [skc_fd l, fd]; simp
      · rw [skc_fd r, fd]; simp
theorem ins_fd : ∀ (t : Tr) (s d : Int) (A B : List (Int × Int)), rt (skc key v x t s d A B).2.1 = -1 → A ++ fd (ins key v x p t) d ++ B = (skc key v x t s d A B).2.2.2.1 ++ ((p : Int), (skc key v x t s d A B).2.2.1) :: (skc key v x t s d A B).2.2.2.2
  | .leaf _, s, d, A, B, _ => by unfold ins skc fd fd; simp
  | .branch k l r, s, d, A, B, h => by
    unfold skc at h ⊢
    unfold ins
    split at h
    · simp only [rt] at h; omega
    · rename_i c
      rw [if_neg c, if_neg c]
      split at h
      · rename_i c2
        rw [if_pos c2, if_pos c2, ← ins_fd l _ _ _ _ h, fd]; simp
      · rename_i c2
        rw [if_neg c2, if_neg c2, ← ins_fd r _ _ _ _ h, fd]; simp
theorem skc_hg {h : Int → Int} : ∀ (t : Tr) (s d : Int) (A B : List (Int × Int)), hg h t s → hg h (skc key v x t s d A B).2.1 (skc key v x t s d A B).1
  | .leaf _, s, d, A, B, g => g
  | .branch k l r, s, d, A, B, g => by
    unfold skc
    split
    · exact g
    · split
      · exact skc_hg l _ _ _ _ g.2.1
      · exact skc_hg r _ _ _ _ g.2.2
theorem hg_ins {h : Int → Int} : ∀ (t : Tr) (s d : Int) (A B : List (Int × Int)), hg h t s → (lb t).Nodup → (∀ j ∈ lb t, s ≠ 2 * j ∧ s ≠ 2 * j + 1) → (p : Int) ∉ lb t → (s ≠ 2 * (p : Int) ∧ s ≠ 2 * (p : Int) + 1) → h (2 * (p : Int)) = -1 → h (2 * (p : Int) + 1) = -1 → rt (skc key v x t s d A B).2.1 = -1 → hg (fun y => if y = (skc key v x t s d A B).1 then (p : Int) else h y) (ins key v x p t) s
  | .leaf _, s, d, A, B, g, hn, hs, hp, hsp, h1, h2, hu => by
    refine ⟨?_, ?_, ?_⟩
    · show (if s = s then _ else _) = _
      rw [if_pos rfl]
    · show (if 2 * (p : Int) = s then _ else _) = _
      rw [if_neg (fun e => hsp.1 e.symm)]; exact h1
    · show (if 2 * (p : Int) + 1 = s then _ else _) = _
      rw [if_neg (fun e => hsp.2 e.symm)]; exact h2
  | .branch k l r, s, d, A, B, g, hn, hs, hp, hsp, h1, h2, hu => by
    have hk : (k : Int) ∈ lb (.branch k l r) := List.mem_append_right _ (List.mem_cons_self ..)
    have hkp : (k : Int) ≠ p := fun e => hp (e ▸ hk)
    unfold skc at hu ⊢
    unfold ins
    unfold lb at hn
    have n1 := List.nodup_append.mp hn
    have n2 := List.nodup_cons.mp n1.2.1
    have hkl : ∀ j ∈ lb l, j ≠ (k : Int) := fun j hj => n1.2.2 j hj k (List.mem_cons_self ..)
    have hkr : ∀ j ∈ lb r, (k : Int) ≠ j := fun j hj e => n2.1 (e ▸ hj)
    have hlr : ∀ i ∈ lb l, ∀ j ∈ lb r, i ≠ j := fun i hi j hj => n1.2.2 i hi j (List.mem_cons_of_mem _ hj)
    split at hu
    · simp only [rt] at hu; omega
    · rename_i c
      rw [if_neg c, if_neg c]
      split at hu
      · rename_i c2
        rw [if_pos c2, if_pos c2]
        have hat := skc_at (key := key) (v := v) (x := x) l (2 * (k : Int)) (d + 1) A (((k : Int), d) :: fd r (d + 1) ++ B)
        refine ⟨?_, hg_ins l _ _ _ _ g.2.1 n1.1 (fun j hj => ⟨by have := hkl j hj; omega, by omega⟩) (fun q => hp (List.mem_append_left _ q)) ⟨by omega, by omega⟩ h1 h2 hu, hg_cong g.2.2 ?_ (fun j hj => ?_)⟩
        · show (if s = _ then _ else _) = _
          rw [if_neg]
          · exact g.1
          · rcases hat with q | ⟨j, hj, q⟩
            · rw [q]; exact (hs k hk).1
            · have := hs j (List.mem_append_left _ hj)
              rcases q with q | q <;> rw [q]
              · exact this.1
              · exact this.2
        · show (if 2 * (k : Int) + 1 = _ then _ else _) = _
          rw [if_neg]
          rcases hat with q | ⟨j, hj, q⟩
          · omega
          · have := hkl j hj
            rcases q with q | q <;> omega
        · have hne : 2 * j ≠ (skc key v x l (2 * (k : Int)) (d + 1) A (((k : Int), d) :: fd r (d + 1) ++ B)).1 ∧ 2 * j + 1 ≠ (skc key v x l (2 * (k : Int)) (d + 1) A (((k : Int), d) :: fd r (d + 1) ++ B)).1 := by
            rcases hat with q | ⟨i, hi, q⟩
            · have := hkr j hj; omega
            · have := hlr i hi j hj
              rcases q with q | q <;> omega
          show (if 2 * j = _ then _ else _) = _ ∧ (if 2 * j + 1 = _ then _ else _) = _
          rw [if_neg hne.1, if_neg hne.2]
          exact ⟨rfl, rfl⟩
      · rename_i c2
        rw [if_neg c2, if_neg c2]
        have hat := skc_at (key := key) (v := v) (x := x) r (2 * (k : Int) + 1) (d + 1) (A ++ fd l (d + 1) ++ [((k : Int), d)]) B
        refine ⟨?_, hg_cong g.2.1 ?_ (fun j hj => ?_), hg_ins r _ _ _ _ g.2.2 n2.2 (fun j hj => ⟨by omega, by have := hkr j hj; omega⟩) (fun q => hp (List.mem_append_right _ (List.mem_cons_of_mem _ q))) ⟨by omega, by omega⟩ h1 h2 hu⟩
        · show (if s = _ then _ else _) = _
          rw [if_neg]
          · exact g.1
          · rcases hat with q | ⟨j, hj, q⟩
            · rw [q]; exact (hs k hk).2
            · have := hs j (List.mem_append_right _ (List.mem_cons_of_mem _ hj))
              rcases q with q | q <;> rw [q]
              · exact this.1
              · exact this.2
        · show (if 2 * (k : Int) = _ then _ else _) = _
          rw [if_neg]
          rcases hat with q | ⟨j, hj, q⟩
          · omega
          · have := hkr j hj
            rcases q with q | q <;> omega
        · have hne : 2 * j ≠ (skc key v x r (2 * (k : Int) + 1) (d + 1) (A ++ fd l (d + 1) ++ [((k : Int), d)]) B).1 ∧ 2 * j + 1 ≠ (skc key v x r (2 * (k : Int) + 1) (d + 1) (A ++ fd l (d + 1) ++ [((k : Int), d)]) B).1 := by
            rcases hat with q | ⟨i, hi, q⟩
            · have := hkl j hj; omega
            · have := hlr j hj i hi
              rcases q with q | q <;> omega
          show (if 2 * j = _ then _ else _) = _ ∧ (if 2 * j + 1 = _ then _ else _) = _
          rw [if_neg hne.1, if_neg hne.2]
          exact ⟨rfl, rfl⟩
theorem lb_ins {t : Tr} {s d : Int} (hu : rt (skc key v x t s d [] []).2.1 = -1) : (lb (ins key v x p t)).Perm ((p : Int) :: lb t) := by
  have e1 := congrArg (List.map Prod.fst) (ins_fd (p := p) t s d [] [] hu)
  have e2 := congrArg (List.map Prod.fst) (skc_fd (key := key) (v := v) (x := x) t s d [] [])
  have e3 : fd (skc key v x t s d [] []).2.1 (skc key v x t s d [] []).2.2.1 = [] := by
    cases h : (skc key v x t s d [] []).2.1 with
    | leaf _ => rfl
    | branch k l r => rw [h] at hu; simp only [rt] at hu; omega
  rw [e3] at e2
  simp only [List.nil_append, List.append_nil, fd_lb] at e1 e2
  rw [e1, ← e2, List.map_append, List.map_append, List.map_cons]
  exact List.perm_middle
theorem al_ins {T : Int → Tr} {ρ : Int} (hρ : 0 ≤ ρ ∧ ρ < 3) {s d : Int} (hu : rt (skc key v x (T ρ) s d [] []).2.1 = -1) : (al (insT key v x p T ρ)).Perm ((p : Int) :: al T) := by
  have q := lb_ins (p := p) hu
  unfold al insT
  have : ρ = 0 ∨ ρ = 1 ∨ ρ = 2 := by omega
  rcases this with rfl | rfl | rfl
  · rw [if_pos rfl, if_neg (by decide), if_neg (by decide)]
    exact List.Perm.append_right _ q
  · rw [if_neg (by decide), if_pos rfl, if_neg (by decide)]
    exact (List.Perm.append_left _ (List.Perm.append_right _ q)).trans List.perm_middle
  · rw [if_neg (by decide), if_neg (by decide), if_pos rfl]
    exact (List.Perm.append_left _ ((List.Perm.append_left _ q).trans List.perm_middle)).trans List.perm_middle
theorem wf_ins {T : Int → Tr} {ρ : Int} (hw : wfT T) (hρ : 0 ≤ ρ ∧ ρ < 3) {s d : Int} (hu : rt (skc key v x (T ρ) s d [] []).2.1 = -1) (hp : (p : Int) < 48) (hn : (p : Int) ∉ al T) : wfT (insT key v x p T ρ) := by
  have q := al_ins (p := p) hρ hu
  refine ⟨q.nodup_iff.mpr (List.nodup_cons.mpr ⟨hn, hw.1⟩), fun k hk => ?_⟩
  rcases List.mem_cons.mp (q.mem_iff.mp hk) with e | e
  · omega
  · exact hw.2 k e
theorem tree_ins {h : Int → Int} {T : Int → Tr} {ρ : Int} (hw : wfT T) (ht : treeR h T) (hρ : 0 ≤ ρ ∧ ρ < 3) (hu : rt (skc key v x (T ρ) (96 + ρ) 0 [] []).2.1 = -1) (hp : (p : Int) < 48) (hn : (p : Int) ∉ al T) : treeR (fun y => if y = (skc key v x (T ρ) (96 + ρ) 0 [] []).1 then (p : Int) else h y) (insT key v x p T ρ) := by
  have hpe := ht.2 p (by omega) hp hn
  have hat := skc_at (key := key) (v := v) (x := x) (T ρ) (96 + ρ) 0 [] []
  refine ⟨fun ρ' a b => ?_, fun k a b hk => ?_⟩
  · by_cases e : ρ' = ρ
    · subst e
      unfold insT
      rw [if_pos rfl]
      exact hg_ins (T ρ') (96 + ρ') 0 [] [] (ht.1 ρ' a b) (lb_nd hw a b) (fun j hj => root_far hw a b (al_in a b hj)) (fun q => hn (al_in a b q)) ⟨by omega, by omega⟩ hpe.1 hpe.2 hu
    · unfold insT
      rw [if_neg e]
      have hne : ∀ i ∈ lb (T ρ'), ∀ j ∈ lb (T ρ), i ≠ j := fun i hi j hj q => e (lb_disj hw a b hρ.1 hρ.2 hi (q ▸ hj))
      refine hg_cong (ht.1 ρ' a b) ?_ (fun j hj => ?_)
      · rw [if_neg]
        rcases hat with q | ⟨i, hi, q⟩
        · omega
        · have := root_far hw a b (al_in hρ.1 hρ.2 hi)
          rcases q with q | q <;> omega
      · have hj48 := hw.2 j (al_in a b hj)
        have h2 : 2 * j ≠ (skc key v x (T ρ) (96 + ρ) 0 [] []).1 ∧ 2 * j + 1 ≠ (skc key v x (T ρ) (96 + ρ) 0 [] []).1 := by
          rcases hat with q | ⟨i, hi, q⟩
          · omega
          · have := hne j hj i hi
            rcases q with q | q <;> omega
        rw [if_neg h2.1, if_neg h2.2]
        exact ⟨rfl, rfl⟩
  · have hk2 : k ≠ (p : Int) ∧ k ∉ al T := ⟨fun e => hk ((al_ins (p := p) hρ hu).mem_iff.mpr (e ▸ List.mem_cons_self ..)), fun e => hk ((al_ins (p := p) hρ hu).mem_iff.mpr (List.mem_cons_of_mem _ e))⟩
    have hne : 2 * k ≠ (skc key v x (T ρ) (96 + ρ) 0 [] []).1 ∧ 2 * k + 1 ≠ (skc key v x (T ρ) (96 + ρ) 0 [] []).1 := by
      rcases hat with q | ⟨i, hi, q⟩
      · omega
      · have : i ≠ k := fun e => hk2.2 (e ▸ al_in hρ.1 hρ.2 hi)
        rcases q with q | q <;> omega
    dsimp only
    rw [if_neg hne.1, if_neg hne.2]
    exact ht.2 k a b hk2.2
theorem skc_slot {T : Int → Tr} {ρ : Int} (hw : wfT T) (hρ : 0 ≤ ρ ∧ ρ < 3) : 0 ≤ (skc key v x (T ρ) (96 + ρ) 0 [] []).1 ∧ (skc key v x (T ρ) (96 + ρ) 0 [] []).1 < 99 := by
  rcases skc_at (key := key) (v := v) (x := x) (T ρ) (96 + ρ) 0 [] [] with q | ⟨i, hi, q⟩
  · omega
  · have h1 := lb_nn hi
    have h2 := hw.2 i (al_in hρ.1 hρ.2 hi)
    rcases q with q | q <;> omega
theorem skc_rt {h : Int → Int} {T : Int → Tr} {ρ : Int} (ht : treeR h T) (hρ : 0 ≤ ρ ∧ ρ < 3) : h (skc key v x (T ρ) (96 + ρ) 0 [] []).1 = rt (skc key v x (T ρ) (96 + ρ) 0 [] []).2.1 := hg_rt (skc_hg (T ρ) _ _ _ _ (ht.1 ρ hρ.1 hρ.2))
end
