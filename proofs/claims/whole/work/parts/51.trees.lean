/-! ===== trees: knots with names, from the left with their depths ===== -/
abbrev Tr : Type := Lean.RArray Unit
def fd : Tr → Int → List (Int × Int)
  | .leaf _, _ => []
  | .branch k l r, d => fd l (d + 1) ++ ((k : Int), d) :: fd r (d + 1)
def lb : Tr → List Int
  | .leaf _ => []
  | .branch k l r => lb l ++ (k : Int) :: lb r
theorem fd_lb : ∀ (t : Tr) (d : Int), (fd t d).map Prod.fst = lb t
  | .leaf _, _ => rfl
  | .branch k l r, d => by rw [fd, lb, List.map_append, List.map_cons, fd_lb l, fd_lb r]
theorem lb_nn : ∀ {t : Tr} {k : Int}, k ∈ lb t → 0 ≤ k
  | .leaf _, _, h => absurd h List.not_mem_nil
  | .branch j l r, k, h => by
    rcases List.mem_append.mp h with h | h
    · exact lb_nn h
    · rcases List.mem_cons.mp h with h | h
      · omega
      · exact lb_nn h
/-- a tree hangs in a slot -/
def hg (h : Int → Int) : Tr → Int → Prop
  | .leaf _, s => h s = -1
  | .branch k l r, s => h s = (k : Int) ∧ hg h l (2 * (k : Int)) ∧ hg h r (2 * (k : Int) + 1)
theorem hg_cong {h h' : Int → Int} : ∀ {t : Tr} {s : Int}, hg h t s → h' s = h s → (∀ j ∈ lb t, h' (2 * j) = h (2 * j) ∧ h' (2 * j + 1) = h (2 * j + 1)) → hg h' t s
  | .leaf _, s, a, b, _ => by unfold hg at *; rw [b, a]
  | .branch k l r, s, a, b, c => by
    unfold hg at *
    have ck := c k (List.mem_append_right _ (List.mem_cons_self ..))
    refine ⟨by rw [b, a.1], hg_cong a.2.1 ck.1 (fun j hj => c j (List.mem_append_left _ hj)), hg_cong a.2.2 ck.2 (fun j hj => c j (List.mem_append_right _ (List.mem_cons_of_mem _ hj)))⟩
/-- all knots of a tree: slot, the tree from there, depth, what is to its left and right -/
abbrev mCx : Type := Int × Tr × Int × List (Int × Int) × List (Int × Int)
def cx : Tr → Int → Int → List (Int × Int) → List (Int × Int) → List mCx
  | .leaf _, _, _, _, _ => []
  | .branch k l r, s, d, A, B => (s, .branch k l r, d, A, B) :: (cx l (2 * (k : Int)) (d + 1) A (((k : Int), d) :: fd r (d + 1) ++ B) ++ cx r (2 * (k : Int) + 1) (d + 1) (A ++ fd l (d + 1) ++ [((k : Int), d)]) B)
def rt : Tr → Int
  | .leaf _ => -1
  | .branch k _ _ => (k : Int)
theorem cx_br : ∀ {t : Tr} {s d : Int} {A B : List (Int × Int)} {e : mCx}, e ∈ cx t s d A B → ∃ k l r, e.2.1 = .branch k l r
  | .leaf _, _, _, _, _, _, h => absurd h List.not_mem_nil
  | .branch k l r, s, d, A, B, e, h => by
    rcases List.mem_cons.mp h with h | h
    · subst h; exact ⟨k, l, r, rfl⟩
    · rcases List.mem_append.mp h with h | h
      · exact cx_br h
      · exact cx_br h
theorem cx_fd : ∀ {t : Tr} {s d : Int} {A B : List (Int × Int)} {s' d' : Int} {u : Tr} {A' B' : List (Int × Int)}, (s', u, d', A', B') ∈ cx t s d A B → A' ++ fd u d' ++ B' = A ++ fd t d ++ B
  | .leaf _, _, _, _, _, _, _, _, _, _, h => absurd h List.not_mem_nil
  | .branch k l r, s, d, A, B, s', d', u, A', B', h => by
    rcases List.mem_cons.mp h with h | h
    · cases h; rfl
    · rcases List.mem_append.mp h with h | h
      · rw [cx_fd h, fd]; simp
      · rw [cx_fd h, fd]; simp
theorem cx_mem : ∀ {t : Tr} {s d : Int} {A B : List (Int × Int)} {k : Int}, k ∈ lb t → ∃ (s' : Int) (j : Nat) (l r : Tr) (d' : Int) (A' B' : List (Int × Int)), (j : Int) = k ∧ (s', Lean.RArray.branch j l r, d', A', B') ∈ cx t s d A B
  | .leaf _, _, _, _, _, _, h => absurd h List.not_mem_nil
  | .branch k l r, s, d, A, B, x, h => by
    rcases List.mem_append.mp h with h | h
    · obtain ⟨s', j, l', r', d', A', B', e, hm⟩ := cx_mem (s := 2 * (k : Int)) (d := d + 1) (A := A) (B := ((k : Int), d) :: fd r (d + 1) ++ B) h
      exact ⟨s', j, l', r', d', A', B', e, List.mem_cons_of_mem _ (List.mem_append_left _ hm)⟩
    · rcases List.mem_cons.mp h with h | h
      · exact ⟨s, k, l, r, d, A, B, h.symm, List.mem_cons_self ..⟩
      · obtain ⟨s', j, l', r', d', A', B', e, hm⟩ := cx_mem (s := 2 * (k : Int) + 1) (d := d + 1) (A := A ++ fd l (d + 1) ++ [((k : Int), d)]) (B := B) h
        exact ⟨s', j, l', r', d', A', B', e, List.mem_cons_of_mem _ (List.mem_append_right _ hm)⟩
theorem cx_lb : ∀ {t : Tr} {s d : Int} {A B : List (Int × Int)} {s' d' : Int} {u : Tr} {A' B' : List (Int × Int)}, (s', u, d', A', B') ∈ cx t s d A B → ∀ k ∈ lb u, k ∈ lb t
  | .leaf _, _, _, _, _, _, _, _, _, _, h => absurd h List.not_mem_nil
  | .branch k l r, s, d, A, B, s', d', u, A', B', h => by
    rcases List.mem_cons.mp h with h | h
    · cases h; exact fun _ h => h
    · rcases List.mem_append.mp h with h | h
      · exact fun x hx => List.mem_append_left _ (cx_lb h x hx)
      · exact fun x hx => List.mem_append_right _ (List.mem_cons_of_mem _ (cx_lb h x hx))
theorem cx_hg {h : Int → Int} : ∀ {t : Tr} {s d : Int} {A B : List (Int × Int)} {s' d' : Int} {u : Tr} {A' B' : List (Int × Int)}, hg h t s → (s', u, d', A', B') ∈ cx t s d A B → hg h u s'
  | .leaf _, _, _, _, _, _, _, _, _, _, _, h => absurd h List.not_mem_nil
  | .branch k l r, s, d, A, B, s', d', u, A', B', g, h => by
    rcases List.mem_cons.mp h with h | h
    · cases h; exact g
    · unfold hg at g
      rcases List.mem_append.mp h with h | h
      · exact cx_hg g.2.1 h
      · exact cx_hg g.2.2 h
/-- what is below a knot is among all -/
theorem cx_kids : ∀ {t : Tr} {s d : Int} {A B : List (Int × Int)} {s' d' : Int} {k : Nat} {l r : Tr} {A' B' : List (Int × Int)}, (s', .branch k l r, d', A', B') ∈ cx t s d A B → (∀ e ∈ cx l (2 * (k : Int)) (d' + 1) A' (((k : Int), d') :: fd r (d' + 1) ++ B'), e ∈ cx t s d A B) ∧ (∀ e ∈ cx r (2 * (k : Int) + 1) (d' + 1) (A' ++ fd l (d' + 1) ++ [((k : Int), d')]) B', e ∈ cx t s d A B)
  | .leaf _, _, _, _, _, _, _, _, _, _, _, _, h => absurd h List.not_mem_nil
  | .branch k l r, s, d, A, B, s', d', k', l', r', A', B', h => by
    rcases List.mem_cons.mp h with h | h
    · cases h
      exact ⟨fun e he => List.mem_cons_of_mem _ (List.mem_append_left _ he), fun e he => List.mem_cons_of_mem _ (List.mem_append_right _ he)⟩
    · rcases List.mem_append.mp h with h | h
      · have q := cx_kids h
        exact ⟨fun e he => List.mem_cons_of_mem _ (List.mem_append_left _ (q.1 e he)), fun e he => List.mem_cons_of_mem _ (List.mem_append_left _ (q.2 e he))⟩
      · have q := cx_kids h
        exact ⟨fun e he => List.mem_cons_of_mem _ (List.mem_append_right _ (q.1 e he)), fun e he => List.mem_cons_of_mem _ (List.mem_append_right _ (q.2 e he))⟩
theorem cx_root {t : Tr} {s d : Int} {A B : List (Int × Int)} {k : Nat} {l r : Tr} (h : t = .branch k l r) : (s, t, d, A, B) ∈ cx t s d A B := by
  subst h; exact List.mem_cons_self ..
/-- a knot is the root, or hangs below another one -/
theorem cx_par : ∀ {t : Tr} {s d : Int} {A B : List (Int × Int)} {s' d' : Int} {u : Tr} {A' B' : List (Int × Int)}, (s', u, d', A', B') ∈ cx t s d A B → (s' = s ∧ u = t ∧ d' = d ∧ A' = A ∧ B' = B) ∨ ∃ (p : Nat) (l r : Tr) (sp dp : Int) (Ap Bp : List (Int × Int)), (sp, Lean.RArray.branch p l r, dp, Ap, Bp) ∈ cx t s d A B ∧ d' = dp + 1 ∧ ((s' = 2 * (p : Int) ∧ u = l ∧ A' = Ap ∧ B' = ((p : Int), dp) :: fd r (dp + 1) ++ Bp) ∨ (s' = 2 * (p : Int) + 1 ∧ u = r ∧ A' = Ap ++ fd l (dp + 1) ++ [((p : Int), dp)] ∧ B' = Bp))
  | .leaf _, _, _, _, _, _, _, _, _, _, h => absurd h List.not_mem_nil
  | .branch k l r, s, d, A, B, s', d', u, A', B', h => by
    rcases List.mem_cons.mp h with h | h
    · cases h; exact .inl ⟨rfl, rfl, rfl, rfl, rfl⟩
    · right
      rcases List.mem_append.mp h with h | h
      · rcases cx_par h with ⟨h1, h2, h3, h4, h5⟩ | ⟨p, l', r', sp, dp, Ap, Bp, hm, q⟩
        · exact ⟨k, l, r, s, d, A, B, List.mem_cons_self .., h3, .inl ⟨h1, h2, h4, h5⟩⟩
        · exact ⟨p, l', r', sp, dp, Ap, Bp, List.mem_cons_of_mem _ (List.mem_append_left _ hm), q⟩
      · rcases cx_par h with ⟨h1, h2, h3, h4, h5⟩ | ⟨p, l', r', sp, dp, Ap, Bp, hm, q⟩
        · exact ⟨k, l, r, s, d, A, B, List.mem_cons_self .., h3, .inr ⟨h1, h2, h4, h5⟩⟩
        · exact ⟨p, l', r', sp, dp, Ap, Bp, List.mem_cons_of_mem _ (List.mem_append_right _ hm), q⟩
theorem cx_perm : ∀ {t : Tr} {s d : Int} {A B : List (Int × Int)}, ((cx t s d A B).map fun e => rt e.2.1).Perm (lb t)
  | .leaf _, _, _, _, _ => List.Perm.refl _
  | .branch k l r, s, d, A, B => by
    rw [cx, lb, List.map_cons, List.map_append]
    refine List.Perm.trans ?_ (List.perm_middle).symm
    exact List.Perm.cons _ (List.Perm.append cx_perm cx_perm)
theorem inj_of_nodup {α β : Type} {f : α → β} : ∀ {l : List α}, (l.map f).Nodup → ∀ {a b : α}, a ∈ l → b ∈ l → f a = f b → a = b
  | [], _, _, _, h, _, _ => absurd h List.not_mem_nil
  | x :: l, hn, a, b, ha, hb, e => by
    rw [List.map_cons] at hn
    have hn' := List.nodup_cons.mp hn
    rcases List.mem_cons.mp ha with ha | ha
    · rcases List.mem_cons.mp hb with hb | hb
      · rw [ha, hb]
      · exact absurd (List.mem_map.mpr ⟨b, hb, by rw [← e, ha]⟩) hn'.1
    · rcases List.mem_cons.mp hb with hb | hb
      · exact absurd (List.mem_map.mpr ⟨a, ha, by rw [e, hb]⟩) hn'.1
      · exact inj_of_nodup hn'.2 ha hb e
/-- trees of the three realms -/
def al (T : Int → Tr) : List Int := lb (T 0) ++ (lb (T 1) ++ lb (T 2))
abbrev wfT (T : Int → Tr) : Prop := (al T).Nodup ∧ ∀ k ∈ al T, k < 48
def cxs (T : Int → Tr) : List mCx := cx (T 0) 96 0 [] [] ++ (cx (T 1) 97 0 [] [] ++ cx (T 2) 98 0 [] [])
theorem cxs_perm (T : Int → Tr) : ((cxs T).map fun e => rt e.2.1).Perm (al T) := by
  unfold cxs al
  rw [List.map_append, List.map_append]
  exact List.Perm.append cx_perm (List.Perm.append cx_perm cx_perm)
theorem cxs_inj {T : Int → Tr} (h : wfT T) {a b : mCx} (ha : a ∈ cxs T) (hb : b ∈ cxs T) (e : rt a.2.1 = rt b.2.1) : a = b := inj_of_nodup ((cxs_perm T).nodup_iff.mpr h.1) ha hb e
theorem cxs_of {T : Int → Tr} {e : mCx} (h : e ∈ cxs T) : ∃ ρ, 0 ≤ ρ ∧ ρ < 3 ∧ e ∈ cx (T ρ) (96 + ρ) 0 [] [] := by
  unfold cxs at h
  rcases List.mem_append.mp h with h | h
  · exact ⟨0, by decide, by decide, h⟩
  · rcases List.mem_append.mp h with h | h
    · exact ⟨1, by decide, by decide, h⟩
    · exact ⟨2, by decide, by decide, h⟩
theorem cxs_in {T : Int → Tr} {e : mCx} {ρ : Int} (h0 : 0 ≤ ρ) (h3 : ρ < 3) (h : e ∈ cx (T ρ) (96 + ρ) 0 [] []) : e ∈ cxs T := by
  unfold cxs
  have : ρ = 0 ∨ ρ = 1 ∨ ρ = 2 := by omega
  rcases this with rfl | rfl | rfl
  · exact List.mem_append_left _ h
  · exact List.mem_append_right _ (List.mem_append_left _ h)
  · exact List.mem_append_right _ (List.mem_append_right _ h)
theorem al_of {T : Int → Tr} {k : Int} (h : k ∈ al T) : ∃ ρ, 0 ≤ ρ ∧ ρ < 3 ∧ k ∈ lb (T ρ) := by
  unfold al at h
  rcases List.mem_append.mp h with h | h
  · exact ⟨0, by decide, by decide, h⟩
  · rcases List.mem_append.mp h with h | h
    · exact ⟨1, by decide, by decide, h⟩
    · exact ⟨2, by decide, by decide, h⟩
theorem al_in {T : Int → Tr} {k : Int} {ρ : Int} (h0 : 0 ≤ ρ) (h3 : ρ < 3) (h : k ∈ lb (T ρ)) : k ∈ al T := by
  unfold al
  have : ρ = 0 ∨ ρ = 1 ∨ ρ = 2 := by omega
  rcases this with rfl | rfl | rfl
  · exact List.mem_append_left _ h
  · exact List.mem_append_right _ (List.mem_append_left _ h)
  · exact List.mem_append_right _ (List.mem_append_right _ h)
theorem lb_nd {T : Int → Tr} (h : wfT T) {ρ : Int} (h0 : 0 ≤ ρ) (h3 : ρ < 3) : (lb (T ρ)).Nodup := by
  have a := List.nodup_append.mp h.1
  have b := List.nodup_append.mp a.2.1
  have : ρ = 0 ∨ ρ = 1 ∨ ρ = 2 := by omega
  rcases this with rfl | rfl | rfl
  · exact a.1
  · exact b.1
  · exact b.2.1
theorem lb_disj {T : Int → Tr} (h : wfT T) {ρ ρ' : Int} (h0 : 0 ≤ ρ) (h3 : ρ < 3) (h0' : 0 ≤ ρ') (h3' : ρ' < 3) {k : Int} (hk : k ∈ lb (T ρ)) (hk' : k ∈ lb (T ρ')) : ρ = ρ' := by
  have a := List.nodup_append.mp h.1
  have b := List.nodup_append.mp a.2.1
  have c1 : ρ = 0 ∨ ρ = 1 ∨ ρ = 2 := by omega
  have c2 : ρ' = 0 ∨ ρ' = 1 ∨ ρ' = 2 := by omega
  rcases c1 with rfl | rfl | rfl <;> rcases c2 with rfl | rfl | rfl <;> try rfl
  · exact absurd rfl (a.2.2 k hk k (List.mem_append_left _ hk'))
  · exact absurd rfl (a.2.2 k hk k (List.mem_append_right _ hk'))
  · exact absurd rfl (a.2.2 k hk' k (List.mem_append_left _ hk))
  · exact absurd rfl (b.2.2 k hk k hk')
  · exact absurd rfl (a.2.2 k hk' k (List.mem_append_right _ hk))
  · exact absurd rfl (b.2.2 k hk' k hk)
/-- a store's array holds the trees -/
abbrev treeR (h : Int → Int) (T : Int → Tr) : Prop := (∀ ρ, 0 ≤ ρ → ρ < 3 → hg h (T ρ) (96 + ρ)) ∧ (∀ k, 0 ≤ k → k < 48 → k ∉ al T → h (2 * k) = -1 ∧ h (2 * k + 1) = -1)
theorem hg_rt {h : Int → Int} {t : Tr} {s : Int} (g : hg h t s) : h s = rt t := by
  cases t with
  | leaf _ => exact g
  | branch k l r => exact g.1
/-- a slot is empty, or a knot hangs there -/
theorem slot_cases {h : Int → Int} {T : Int → Tr} (ht : treeR h T) {s : Int} (h0 : 0 ≤ s) (h99 : s < 99) : h s = -1 ∨ ∃ e ∈ cxs T, e.1 = s ∧ rt e.2.1 = h s := by
  have key : ∀ {u : Tr} {s d : Int} {A B : List (Int × Int)}, hg h u s → (∀ e ∈ cx u s d A B, e ∈ cxs T) → h s = -1 ∨ ∃ e ∈ cxs T, e.1 = s ∧ rt e.2.1 = h s := by
    intro u s d A B g hs
    cases u with
    | leaf _ => exact .inl g
    | branch k l r => exact .inr ⟨_, hs _ (List.mem_cons_self ..), rfl, g.1.symm⟩
  by_cases hs : 96 ≤ s
  · have e : s = 96 + (s - 96) := by omega
    have g := ht.1 (s - 96) (by omega) (by omega)
    rw [← e] at g
    refine key g (d := 0) (A := []) (B := []) (fun e' he => cxs_in (ρ := s - 96) (by omega) (by omega) ?_)
    rw [← e]; exact he
  · by_cases hk : s / 2 ∈ al T
    · obtain ⟨ρ, hρ, hρ3, hm⟩ := al_of hk
      obtain ⟨s', j, l, r, d', A', B', hj, hc⟩ := cx_mem (s := 96 + ρ) (d := 0) (A := []) (B := []) hm
      have g := cx_hg (ht.1 ρ hρ hρ3) hc
      have kd := cx_kids hc
      by_cases he : s % 2 = 0
      · have e : s = 2 * (j : Int) := by omega
        rw [e]
        exact key g.2.1 (fun e' he => cxs_in hρ hρ3 (kd.1 e' he))
      · have e : s = 2 * (j : Int) + 1 := by omega
        rw [e]
        exact key g.2.2 (fun e' he => cxs_in hρ hρ3 (kd.2 e' he))
    · have q := ht.2 (s / 2) (by omega) (by omega) hk
      left
      by_cases he : s % 2 = 0
      · have e : s = 2 * (s / 2) := by omega
        rw [e]; exact q.1
      · have e : s = 2 * (s / 2) + 1 := by omega
        rw [e]; exact q.2
theorem cxs_lb {T : Int → Tr} {e : mCx} (h : e ∈ cxs T) : rt e.2.1 ∈ al T := (cxs_perm T).mem_iff.mp (List.mem_map.mpr ⟨e, h, rfl⟩)
theorem rt_nn {T : Int → Tr} {e : mCx} (h : e ∈ cxs T) : 0 ≤ rt e.2.1 := by
  obtain ⟨ρ, _, _, hm⟩ := al_of (cxs_lb h)
  exact lb_nn hm
theorem cxs_slot {T : Int → Tr} (hw : wfT T) {e : mCx} (h : e ∈ cxs T) : 0 ≤ e.1 ∧ e.1 < 99 := by
  obtain ⟨ρ, h0, h3, hc⟩ := cxs_of h
  obtain ⟨s, u, d, A, B⟩ := e
  rcases cx_par hc with ⟨h1, _⟩ | ⟨p, l, r, sp, dp, Ap, Bp, hm, _, q⟩
  · show 0 ≤ s ∧ s < 99; omega
  · have hp := hw.2 _ (cxs_lb (cxs_in h0 h3 hm))
    have hp2 : (p : Int) < 48 := hp
    show 0 ≤ s ∧ s < 99
    rcases q with ⟨q, _⟩ | ⟨q, _⟩ <;> omega
theorem slot_rg {h : Int → Int} {T : Int → Tr} (hw : wfT T) (ht : treeR h T) {s : Int} (h0 : 0 ≤ s) (h99 : s < 99) : -1 ≤ h s ∧ h s < 48 := by
  rcases slot_cases ht h0 h99 with e | ⟨e, he, _, hr⟩
  · omega
  · have a := rt_nn he
    have b := hw.2 _ (cxs_lb he)
    omega
/-- where a knot hangs, there hangs no other, and it nowhere else -/
theorem slot_uniq {h : Int → Int} {T : Int → Tr} (hw : wfT T) (ht : treeR h T) {e : mCx} (he : e ∈ cxs T) {s : Int} (h0 : 0 ≤ s) (h99 : s < 99) (hs : h s = rt e.2.1) : s = e.1 := by
  rcases slot_cases ht h0 h99 with q | ⟨e', he', h1, h2⟩
  · have := rt_nn he; omega
  · rw [cxs_inj hw he he' (by rw [h2, hs]), h1]
theorem cxs_at {h : Int → Int} {T : Int → Tr} (ht : treeR h T) {e : mCx} (he : e ∈ cxs T) : h e.1 = rt e.2.1 := by
  obtain ⟨ρ, h0, h3, hc⟩ := cxs_of he
  obtain ⟨s, u, d, A, B⟩ := e
  exact hg_rt (cx_hg (ht.1 ρ h0 h3) hc)
section
variable {sc : Nat × (Nat → Int32)} {SH : List mCell} {S : mStore} {o g : Nat} {T : Int → Tr} {r : mR × mW}
theorem tslot_lp (h0 : sTree SH o g) (hw : wfT T) (ht : treeR (S g) T) {k v : Int} (hk : -1 ≤ k ∧ k < 48) (hv : (0 ≤ v ∧ v < 99 ∧ S g v = k) ∨ (v = -1 ∧ ∀ s, 0 ≤ s → s < 99 → S g s ≠ k)) : ∀ (j : Nat) (s : Int), 0 ≤ s → s + j = 99 → (∀ s', 0 ≤ s' → s' < s → S g s' ≠ k) → (0 ≤ v → s ≤ v ∧ ∀ s', s ≤ s' → s' < v → S g s' ≠ k) → G sc MX9_slotOf 2 [some (.ref o), some (.int (I k)), some (.int (I s))] [] SH S (rI v SH S)
  | 0, s, hs, hj, ha, hb => by
    refine qX9_slotOf_2 h0 ?_
    have : v = -1 := by
      rcases hv with hv | hv
      · have := hb hv.1; omega
      · exact hv.1
    simp (disch := omega) only [iL, iE, iQ, ipos, ineg, an, if_true, if_false]
    rw [this]
  | j + 1, s, hs, hj, ha, hb => by
    refine qX9_slotOf_2 h0 ?_
    have hr := slot_rg hw ht (s := s) hs (by omega)
    simp (disch := omega) only [iL, iE, iQ, ipos, ineg, an, if_true, if_false]
    by_cases e : S g s = k
    · rw [if_pos e]
      have : v = s := by
        rcases hv with hv | hv
        · have h1 := hb hv.1
          by_cases h2 : s < v
          · exact absurd e (h1.2 s (by omega) h2)
          · omega
        · exact absurd e (hv.2 s hs (by omega))
      rw [this]
    · rw [if_neg e]
      refine tslot_lp h0 hw ht hk hv j (s + 1) (by omega) (by omega) (fun s' a b => ?_) (fun hv0 => ?_)
      · by_cases h1 : s' = s
        · rw [h1]; exact e
        · exact ha s' a (by omega)
      · have h1 := hb hv0
        refine ⟨?_, fun s' a b => h1.2 s' (by omega) b⟩
        rcases hv with hv | hv
        · by_cases h2 : v = s
          · rw [h2] at hv; exact absurd hv.2.2 e
          · omega
        · omega
theorem tslot_ok (h0 : sTree SH o g) (hw : wfT T) (ht : treeR (S g) T) {e : mCx} (he : e ∈ cxs T) {u : Option Value} : G sc MX9_slotOf 0 [some (.ref o), some (.int (I (rt e.2.1))), u] [] SH S (rI e.1 SH S) := by
  refine qX9_slotOf_0 h0 ?_
  have hs := cxs_slot hw he
  have hr := hw.2 _ (cxs_lb he)
  have hn := rt_nn he
  refine tslot_lp h0 hw ht ⟨by omega, hr⟩ (.inl ⟨hs.1, hs.2, cxs_at ht he⟩) 99 0 (by omega) (by omega) (fun s' a b => by omega) (fun _ => ⟨hs.1, fun s' a b hh => ?_⟩)
  have := slot_uniq hw ht he (s := s') a (by omega) hh
  omega
theorem tslot_no (h0 : sTree SH o g) (hw : wfT T) (ht : treeR (S g) T) {k : Int} (hk : 0 ≤ k ∧ k < 48) (hn : k ∉ al T) {u : Option Value} : G sc MX9_slotOf 0 [some (.ref o), some (.int (I k)), u] [] SH S (rI (-1) SH S) := by
  refine qX9_slotOf_0 h0 ?_
  refine tslot_lp h0 hw ht ⟨by omega, by omega⟩ (.inr ⟨rfl, fun s a b hh => ?_⟩) 99 0 (by omega) (by omega) (fun s' a b => by omega) (fun h => by omega)
  rcases slot_cases ht a b with q | ⟨e', he', h1, h2⟩
  · omega
  · exact hn (by rw [← hh, ← h2]; exact cxs_lb he')
end
