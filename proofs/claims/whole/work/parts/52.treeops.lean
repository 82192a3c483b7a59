/-! ===== the class's Tree: walks ===== -/
def hdD (d : Int) : List Int → Int
  | [] => d
  | x :: _ => x
theorem hdD_app (d : Int) (t u : List Int) : hdD d (t ++ u) = hdD (hdD d u) t := by
  cases t <;> rfl
theorem hdD_hd (t : List Int) : hdD (-1) t = hd t := by cases t <;> rfl
theorem cx_dep : ∀ {t : Tr} {s d : Int} {A B : List (Int × Int)} {s' d' : Int} {u : Tr} {A' B' : List (Int × Int)}, (s', u, d', A', B') ∈ cx t s d A B → d ≤ d' ∧ d' - d + (lb u).length ≤ (lb t).length
  | .leaf _, _, _, _, _, _, _, _, _, _, h => absurd h List.not_mem_nil
  | .branch k l r, s, d, A, B, s', d', u, A', B', h => by
    rcases List.mem_cons.mp h with h | h
    · cases h; omega
    · rw [lb, List.length_append, List.length_cons]
      rcases List.mem_append.mp h with h | h
      · have := cx_dep h; omega
      · have := cx_dep h; omega
theorem lb_len {T : Int → Tr} (hw : wfT T) {ρ : Int} (h0 : 0 ≤ ρ) (h3 : ρ < 3) : (lb (T ρ)).length ≤ 48 := nodup_len (lb_nd hw h0 h3) (fun x hx => ⟨lb_nn hx, hw.2 x (al_in h0 h3 hx)⟩)
theorem cx_len {T : Int → Tr} (hw : wfT T) {ρ : Int} (h0 : 0 ≤ ρ) (h3 : ρ < 3) {s d : Int} {u : Tr} {A B : List (Int × Int)} (h : (s, u, d, A, B) ∈ cx (T ρ) (96 + ρ) 0 [] []) : 0 ≤ d ∧ d + (lb u).length ≤ 48 := by
  have a := cx_dep h
  have b := lb_len hw h0 h3
  omega
section
variable {sc : Nat × (Nat → Int32)} {SH : List mCell} {S : mStore} {o g : Nat} {T : Int → Tr} {r : mR × mW}
theorem tleft_lp (h0 : sTree SH o g) {s0 : Int} : ∀ (t : Tr) (s d n : Int), hg (S g) t s → (∀ k ∈ lb t, k < 48) → 0 ≤ n → n + (lb t).length ≤ 48 → G sc MX9_leftmost 24 [some (.ref o), some (.int (I s0)), some (.int (I d)), some (.int (I (rt t))), some (.int (I n))] [] SH S (rI (hdD d (lb t)) SH S)
  | .leaf _, s, d, n, _, _, hn, hl => by
    refine qX9_leftmost_24 h0 ?_
    simp only [rt, lb, hdD]
    simp (disch := omega) only [iL, iE, iQ, ipos, ineg, an, if_true, if_false, ite_self]
  | .branch k l r, s, d, n, hh, hb, hn, hl => by
    refine qX9_leftmost_24 h0 ?_
    have hk := hb k (List.mem_append_right _ (List.mem_cons_self ..))
    rw [lb, List.length_append, List.length_cons] at hl
    simp only [rt]
    simp (disch := omega) only [iL, iE, iQ, ipos, ineg, an, if_true, if_false]
    rw [hg_rt hh.2.1, lb, hdD_app]
    exact tleft_lp h0 l _ k (n + 1) hh.2.1 (fun j hj => hb j (List.mem_append_left _ hj)) (by omega) (by omega)
theorem tleft_ok (h0 : sTree SH o g) {t : Tr} {s : Int} (hs : 0 ≤ s ∧ s < 99) (hh : hg (S g) t s) (hb : ∀ k ∈ lb t, k < 48) (hl : (lb t).length ≤ 48) {u u' u'' : Option Value} : G sc MX9_leftmost 0 [some (.ref o), some (.int (I s)), u, u', u''] [] SH S (rI (hd (lb t)) SH S) := by
  refine qX9_leftmost_0 h0 ?_
  simp (disch := omega) only [iL, iE, iQ, ipos, ineg, an, if_true, if_false]
  rw [hg_rt hh, ← hdD_hd]
  exact tleft_lp h0 t s (-1) 0 hh hb (by omega) (by omega)
theorem tclimb (h0 : sTree SH o g) (hw : wfT T) (ht : treeR (S g) T) {ρ : Int} (hρ : 0 ≤ ρ) (hρ3 : ρ < 3) {k v : Int} : ∀ (j : Nat) {s d : Int} {u : Tr} {A B : List (Int × Int)} (n : Int), (s, u, d, A, B) ∈ cx (T ρ) (96 + ρ) 0 [] [] → d = j → 0 ≤ n → n + d < 48 → G sc MX9_after 26 [some (.ref o), some (.int (I k)), some (.int (I v)), some (.int (I s)), some (.int (I n))] [] SH S (rI (hd (B.map Prod.fst)) SH S) := by
  intro j
  induction j with
  | zero =>
    intro s d u A B n hc hd hn hnd
    have hs := cxs_slot hw (cxs_in hρ hρ3 hc)
    dsimp only at hs
    refine qX9_after_26 h0 ?_
    rcases cx_par hc with ⟨h1, _, _, _, h5⟩ | ⟨p, l, r, sp, dp, Ap, Bp, hm, hdp, _⟩
    · subst h1 h5
      simp (disch := omega) only [iL, iE, iQ, ipos, ineg, an, if_true, if_false]
      rfl
    · have := (cx_len hw hρ hρ3 hm).1; omega
  | succ j ih =>
    intro s d u A B n hc hdj hn hnd
    have hs := cxs_slot hw (cxs_in hρ hρ3 hc)
    dsimp only at hs
    refine qX9_after_26 h0 ?_
    rcases cx_par hc with ⟨h1, _, h3, _, h5⟩ | ⟨p, l, r, sp, dp, Ap, Bp, hm, hdp, q⟩
    · omega
    · have hp : (p : Int) < 48 := hw.2 _ (cxs_lb (cxs_in hρ hρ3 hm))
      rcases q with ⟨q1, _, _, q4⟩ | ⟨q1, _, _, q4⟩
      · subst q1 q4
        simp (disch := omega) only [iL, iE, iQ, ipos, ineg, an, if_true, if_false, idv2]
        have e : 2 * (p : Int) / 2 = p := by omega
        rw [e]
        rfl
      · subst q1 q4
        simp (disch := omega) only [iL, iE, iQ, ipos, ineg, an, if_true, if_false, idv2]
        have e : (2 * (p : Int) + 1) / 2 = p := by omega
        rw [e]
        exact ⟨_, _, tslot_ok h0 hw ht (cxs_in hρ hρ3 hm), ih (n + 1) hm (by omega) (by omega) (by omega)⟩
theorem tafter_e (h0 : sTree SH o g) (hw : wfT T) (ht : treeR (S g) T) {ρ : Int} (hρ : 0 ≤ ρ) (hρ3 : ρ < 3) {s d : Int} {k : Nat} {l r : Tr} {A B : List (Int × Int)} (hc : (s, .branch k l r, d, A, B) ∈ cx (T ρ) (96 + ρ) 0 [] []) {u u' u'' : Option Value} : G sc MX9_after 0 [some (.ref o), some (.int (I k)), u, u', u''] [] SH S (rI (hd (lb r ++ B.map Prod.fst)) SH S) := by
  refine qX9_after_0 h0 ?_
  have hk : (k : Int) < 48 := hw.2 _ (cxs_lb (cxs_in hρ hρ3 hc))
  have hlen := cx_len hw hρ hρ3 hc
  rw [lb, List.length_append, List.length_cons] at hlen
  have g1 := cx_hg (ht.1 ρ hρ hρ3) hc
  have hb : ∀ j ∈ lb r, j < 48 := fun j hj => hw.2 j (al_in hρ hρ3 (cx_lb hc j (List.mem_append_right _ (List.mem_cons_of_mem _ hj))))
  refine ⟨_, _, tleft_ok h0 (t := r) ⟨by omega, by omega⟩ g1.2.2 hb (by omega), ?_⟩
  cases r with
  | leaf _ =>
    simp only [lb, hd, List.nil_append]
    simp (disch := omega) only [iL, iE, iQ, ipos, ineg, an, if_true, if_false]
    exact ⟨_, _, tslot_ok h0 hw ht (cxs_in hρ hρ3 hc), tclimb h0 hw ht hρ hρ3 d.toNat 0 hc (by omega) (by omega) (by omega)⟩
  | branch k' l' r' =>
    have hne : lb (.branch k' l' r') ≠ [] := by rw [lb]; simp
    rw [hd_app hne]
    have hm : hd (lb (.branch k' l' r')) ∈ lb (.branch k' l' r') := by
      cases h : lb (.branch k' l' r') with
      | nil => exact absurd h hne
      | cons x t => exact List.mem_cons_self ..
    have h1 := hb _ hm
    have h2 := lb_nn hm
    simp (disch := omega) only [iL, iE, iQ, ipos, ineg, an, if_true, if_false]
theorem split_uniq {x : Int} : ∀ {A A' B B' : List Int}, (A ++ x :: B).Nodup → A ++ x :: B = A' ++ x :: B' → A = A' ∧ B = B'
  | [], [], B, B', _, e => ⟨rfl, (List.cons.inj e).2⟩
  | [], y :: A', B, B', hn, e => by
    have h1 := List.cons.inj e
    have h2 : (x :: B).Nodup := hn
    exact absurd (h1.2 ▸ List.mem_append_right _ (List.mem_cons_self ..)) (List.nodup_cons.mp h2).1
  | y :: A, [], B, B', hn, e => by
    have h1 := List.cons.inj e
    have h2 : (y :: (A ++ x :: B)).Nodup := hn
    exact absurd (h1.1 ▸ List.mem_append_right _ (List.mem_cons_self ..)) (List.nodup_cons.mp h2).1
  | y :: A, y' :: A', B, B', hn, e => by
    have h1 := List.cons.inj e
    have h2 : (y :: (A ++ x :: B)).Nodup := hn
    obtain ⟨h3, h4⟩ := split_uniq (List.nodup_cons.mp h2).2 h1.2
    exact ⟨by rw [h1.1, h3], h4⟩
theorem tafter_ok (h0 : sTree SH o g) (hw : wfT T) (ht : treeR (S g) T) {ρ : Int} (hρ : 0 ≤ ρ) (hρ3 : ρ < 3) {x : Int} {pre rest : List Int} (hx : lb (T ρ) = pre ++ x :: rest) {u u' u'' : Option Value} : G sc MX9_after 0 [some (.ref o), some (.int (I x)), u, u', u''] [] SH S (rI (hd rest) SH S) := by
  have hm : x ∈ lb (T ρ) := by rw [hx]; exact List.mem_append_right _ (List.mem_cons_self ..)
  obtain ⟨s, j, l, r, d, A, B, rfl, hc⟩ := cx_mem (s := 96 + ρ) (d := 0) (A := []) (B := []) hm
  have q := tafter_e (sc := sc) h0 hw ht hρ hρ3 hc (u := u) (u' := u') (u'' := u'')
  have e := congrArg (List.map Prod.fst) (cx_fd hc)
  rw [List.nil_append, List.append_nil, fd_lb, List.map_append, List.map_append, fd_lb, lb, hx] at e
  have hn := lb_nd hw hρ hρ3
  rw [hx] at hn
  have e2 : pre ++ (j : Int) :: rest = (A.map Prod.fst ++ lb l) ++ (j : Int) :: (lb r ++ B.map Prod.fst) := by rw [← e]; simp
  rw [(split_uniq hn e2).2]
  exact q
theorem tsize_lp (h0 : sTree SH o g) (hw : wfT T) (ht : treeR (S g) T) {ρ : Int} (hρ : 0 ≤ ρ) (hρ3 : ρ < 3) : ∀ (rest pre : List Int) (m : Int), lb (T ρ) = pre ++ rest → m = pre.length → G sc MX9_sizeOf 11 [some (.ref o), some (.int (I ρ)), some (.int (I m)), some (.int (I (hd rest)))] [] SH S (rI (lb (T ρ)).length SH S)
  | [], pre, m, he, hm => by
    refine qX9_sizeOf_11 h0 ?_
    have hl := lb_len hw hρ hρ3
    rw [he] at hl ⊢
    simp only [List.append_nil] at hl ⊢
    subst hm
    simp only [hd]
    simp (disch := omega) only [iL, iE, iQ, ipos, ineg, an, if_true, if_false, ite_self]
  | x :: rest, pre, m, he, hm => by
    refine qX9_sizeOf_11 h0 ?_
    have hl := lb_len hw hρ hρ3
    have hxm : x ∈ lb (T ρ) := by rw [he]; exact List.mem_append_right _ (List.mem_cons_self ..)
    have h1 := lb_nn hxm
    have h2 := hw.2 x (al_in hρ hρ3 hxm)
    rw [he, List.length_append, List.length_cons] at hl
    simp only [hd]
    simp (disch := omega) only [iL, iE, iQ, ipos, ineg, an, if_true, if_false]
    refine ⟨_, _, tafter_ok h0 hw ht hρ hρ3 he, tsize_lp h0 hw ht hρ hρ3 rest (pre ++ [x]) (m + 1) (by rw [he]; simp) ?_⟩
    rw [List.length_append, hm]; simp
theorem tsizeOf_ok (h0 : sTree SH o g) (hw : wfT T) (ht : treeR (S g) T) {ρ : Int} (hρ : 0 ≤ ρ) (hρ3 : ρ < 3) {u u' : Option Value} : G sc MX9_sizeOf 0 [some (.ref o), some (.int (I ρ)), u, u'] [] SH S (rI (lb (T ρ)).length SH S) := by
  refine qX9_sizeOf_0 h0 ⟨_, _, tleft_ok h0 (t := T ρ) ⟨by omega, by omega⟩ (ht.1 ρ hρ hρ3) (fun j hj => hw.2 j (al_in hρ hρ3 hj)) (lb_len hw hρ hρ3), ?_⟩
  exact tsize_lp h0 hw ht hρ hρ3 (lb (T ρ)) [] 0 rfl rfl
theorem tnth_lp (h0 : sTree SH o g) (hw : wfT T) (ht : treeR (S g) T) {ρ i : Int} (hρ : 0 ≤ ρ) (hρ3 : ρ < 3) (hi : i < 48) : ∀ (j : Nat) (rest pre : List Int) (n : Int), lb (T ρ) = pre ++ rest → 0 ≤ n → n + j = i → G sc MX9_nth 24 [some (.ref o), some (.int (I ρ)), some (.int (I i)), some (.int (I (hd rest))), some (.int (I n))] [] SH S (rI (nthL rest j) SH S)
  | 0, rest, pre, n, he, hn, hj => by
    refine qX9_nth_24 h0 ?_
    simp (disch := omega) only [iL, iE, iQ, ipos, ineg, an, if_true, if_false]
    cases rest <;> rfl
  | j + 1, [], pre, n, he, hn, hj => by
    refine qX9_nth_24 h0 ?_
    simp only [hd]
    simp (disch := omega) only [iL, iE, iQ, ipos, ineg, an, if_true, if_false]
    rfl
  | j + 1, x :: rest, pre, n, he, hn, hj => by
    refine qX9_nth_24 h0 ?_
    have hxm : x ∈ lb (T ρ) := by rw [he]; exact List.mem_append_right _ (List.mem_cons_self ..)
    have h1 := lb_nn hxm
    have h2 := hw.2 x (al_in hρ hρ3 hxm)
    simp only [hd]
    simp (disch := omega) only [iL, iE, iQ, ipos, ineg, an, if_true, if_false]
    exact ⟨_, _, tafter_ok h0 hw ht hρ hρ3 he, tnth_lp h0 hw ht hρ hρ3 hi j rest (pre ++ [x]) (n + 1) (by rw [he]; simp) (by omega) (by omega)⟩
theorem tnth_ok (h0 : sTree SH o g) (hw : wfT T) (ht : treeR (S g) T) {ρ i : Int} (hρ : 0 ≤ ρ) (hρ3 : ρ < 3) (hi : 0 ≤ i ∧ i < 48) {u u' : Option Value} : G sc MX9_nth 0 [some (.ref o), some (.int (I ρ)), some (.int (I i)), u, u'] [] SH S (rI (nthL (lb (T ρ)) i.toNat) SH S) := by
  refine qX9_nth_0 h0 ?_
  simp (disch := omega) only [iL, iE, iQ, ipos, ineg, an, if_true, if_false]
  refine ⟨_, _, tleft_ok h0 (t := T ρ) ⟨by omega, by omega⟩ (ht.1 ρ hρ hρ3) (fun j hj => hw.2 j (al_in hρ hρ3 hj)) (lb_len hw hρ hρ3), ?_⟩
  exact tnth_lp h0 hw ht hρ hρ3 hi.2 i.toNat (lb (T ρ)) [] 0 rfl (by omega) (by omega)
theorem tnth_no (h0 : sTree SH o g) {ρ i : Int} (hi : rg i) (hi2 : i < 0 ∨ 48 ≤ i) {u u' : Option Value} : G sc MX9_nth 0 [some (.ref o), some (.int (I ρ)), some (.int (I i)), u, u'] [] SH S (rI (-1) SH S) := by
  refine qX9_nth_0 h0 ?_
  obtain ⟨a1, a2⟩ := hi
  simp (disch := omega) only [iL, iE, iQ, ipos, ineg, an, if_true, if_false]
  split
  · trivial
  · trivial
theorem tabove_lp (h0 : sTree SH o g) (hw : wfT T) (ht : treeR (S g) T) {ρ : Int} (hρ : 0 ≤ ρ) (hρ3 : ρ < 3) {k : Int} : ∀ (j : Nat) {s d : Int} {u : Tr} {A B : List (Int × Int)} (m : Int), (s, u, d, A, B) ∈ cx (T ρ) (96 + ρ) 0 [] [] → d = j → 0 ≤ m → m + d < 48 → G sc MX9_above 8 [some (.ref o), some (.int (I k)), some (.int (I m)), some (.int (I s))] [] SH S (rI (m + d) SH S) := by
  intro j
  induction j with
  | zero =>
    intro s d u A B m hc hd hn hnd
    have hs := cxs_slot hw (cxs_in hρ hρ3 hc)
    dsimp only at hs
    refine qX9_above_8 h0 ?_
    rcases cx_par hc with ⟨h1, _, h3, _, h5⟩ | ⟨p, l, r, sp, dp, Ap, Bp, hm, hdp, _⟩
    · have e : m + d = m := by omega
      rw [e]
      subst h1
      simp (disch := omega) only [iL, iE, iQ, ipos, ineg, an, if_true, if_false]
    · have := (cx_len hw hρ hρ3 hm).1; omega
  | succ j ih =>
    intro s d u A B m hc hdj hn hnd
    have hs := cxs_slot hw (cxs_in hρ hρ3 hc)
    dsimp only at hs
    refine qX9_above_8 h0 ?_
    rcases cx_par hc with ⟨h1, _, h3, _, h5⟩ | ⟨p, l, r, sp, dp, Ap, Bp, hm, hdp, q⟩
    · omega
    · have hp : (p : Int) < 48 := hw.2 _ (cxs_lb (cxs_in hρ hρ3 hm))
      have e : s / 2 = p ∧ s < 96 := by rcases q with ⟨q1, _⟩ | ⟨q1, _⟩ <;> omega
      simp (disch := omega) only [iL, iE, iQ, ipos, ineg, an, if_true, if_false, idv2]
      rw [e.1]
      have q := ih (m + 1) hm (by omega) (by omega) (by omega)
      rw [show m + 1 + dp = m + d by omega] at q
      exact ⟨_, _, tslot_ok h0 hw ht (cxs_in hρ hρ3 hm), q⟩
theorem tabove_ok (h0 : sTree SH o g) (hw : wfT T) (ht : treeR (S g) T) {ρ : Int} (hρ : 0 ≤ ρ) (hρ3 : ρ < 3) {s d : Int} {k : Nat} {l r : Tr} {A B : List (Int × Int)} (hc : (s, .branch k l r, d, A, B) ∈ cx (T ρ) (96 + ρ) 0 [] []) {u u' : Option Value} : G sc MX9_above 0 [some (.ref o), some (.int (I k)), u, u'] [] SH S (rI d SH S) := by
  have hlen := cx_len hw hρ hρ3 hc
  rw [lb, List.length_append, List.length_cons] at hlen
  refine qX9_above_0 h0 ⟨_, _, tslot_ok h0 hw ht (cxs_in hρ hρ3 hc), ?_⟩
  have q := tabove_lp (sc := sc) h0 hw ht hρ hρ3 (k := k) d.toNat 0 hc (by omega) (by omega) (by omega)
  rw [Int.zero_add] at q
  exact q
end
