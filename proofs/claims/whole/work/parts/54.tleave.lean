/-! ===== the class's Tree: leave, size, clear, become ===== -/
section
variable {sc : Nat × (Nat → Int32)} {SH : List mCell} {S : mStore} {o g : Nat} {T : Int → Tr} {r : mR × mW}
theorem root_far {T : Int → Tr} (hw : wfT T) {ρ : Int} (hρ : 0 ≤ ρ) (hρ3 : ρ < 3) {i : Int} (hi : i ∈ al T) : 96 + ρ ≠ 2 * i ∧ 96 + ρ ≠ 2 * i + 1 := by
  have := hw.2 i hi
  omega
/-- where a knot hangs is not below itself -/
theorem slot_far {T : Int → Tr} (hw : wfT T) {ρ : Int} (hρ : 0 ≤ ρ) (hρ3 : ρ < 3) {s d : Int} {u : Tr} {A B : List (Int × Int)} (hc : (s, u, d, A, B) ∈ cx (T ρ) (96 + ρ) 0 [] []) : ∀ j ∈ lb u, s ≠ 2 * j ∧ s ≠ 2 * j + 1 := by
  intro j hj
  have hjt := cx_lb hc j hj
  rcases cx_par hc with ⟨h1, _⟩ | ⟨p, l, r, sp, dp, Ap, Bp, hm, _, q⟩
  · rw [h1]; exact root_far hw hρ hρ3 (al_in hρ hρ3 hjt)
  · have e := congrArg (List.map Prod.fst) (cx_fd hm)
    rw [List.nil_append, List.append_nil, fd_lb, List.map_append, List.map_append, fd_lb] at e
    have hn := lb_nd hw hρ hρ3
    rw [← e] at hn
    have h1 := (List.nodup_append.mp (List.nodup_append.mp hn).1).2.1
    unfold lb at h1
    have h2 := List.nodup_append.mp h1
    have h3 := List.nodup_cons.mp h2.2.1
    rcases q with ⟨q, q2, _⟩ | ⟨q, q2, _⟩
    · subst q2
      have := h2.2.2 j hj p (List.mem_cons_self ..)
      omega
    · subst q2
      have : (p : Int) ≠ j := fun e => h3.1 (e ▸ hj)
      omega
/-- from a change of the array to a change of the trees -/
theorem tree_del {h h' : Int → Int} (hw : wfT T) (ht : treeR h T) {ρ : Int} (hρ : 0 ≤ ρ) (hρ3 : ρ < 3) {k : Nat} {l r : Tr} {s d : Int} {A B : List (Int × Int)} (hc : (s, .branch k l r, d, A, B) ∈ cx (T ρ) (96 + ρ) 0 [] []) (hj : hg h' (jn l r) s) (hx : ∀ x, x ≠ s → (∀ j ∈ lb (.branch k l r), x ≠ 2 * j ∧ x ≠ 2 * j + 1) → h' x = h x) (h1 : h' (2 * (k : Int)) = -1) (h2 : h' (2 * (k : Int) + 1) = -1) : treeR h' (delT k T) := by
  have hself : (k : Int) ∈ lb (.branch k l r) := List.mem_append_right _ (List.mem_cons_self ..)
  have hkt := cx_lb hc k hself
  have hsl := cxs_slot hw (cxs_in hρ hρ3 hc)
  dsimp only at hsl
  have hpar : s = 96 + ρ ∨ ∃ p ∈ lb (T ρ), s = 2 * p ∨ s = 2 * p + 1 := by
    rcases cx_par hc with ⟨q, _⟩ | ⟨p, l', r', sp, dp, Ap, Bp, hm, _, q⟩
    · exact .inl q
    · refine .inr ⟨p, cx_lb hm p (List.mem_append_right _ (List.mem_cons_self ..)), ?_⟩
      rcases q with ⟨q, _⟩ | ⟨q, _⟩
      · exact .inl q
      · exact .inr q
  refine ⟨fun ρ' a b => ?_, fun k' a b hk' => ?_⟩
  · by_cases e : ρ' = ρ
    · subst e
      exact hg_del (ht.1 ρ' a b) (lb_nd hw a b) (fun i hi => root_far hw a b (al_in a b hi)) hc hj (fun x _ => hx x)
    · have hno : (k : Int) ∉ lb (T ρ') := fun q => e (lb_disj hw a b hρ hρ3 q hkt)
      show hg h' (del k (T ρ')) (96 + ρ')
      rw [del_no hno]
      have hoth : ∀ i ∈ lb (T ρ'), ∀ j ∈ lb (T ρ), i ≠ j := fun i hi j hj' e' => e (lb_disj hw a b hρ hρ3 hi (e' ▸ hj'))
      refine hg_cong (ht.1 ρ' a b) (hx _ ?_ (fun j hj' => root_far hw a b (al_in hρ hρ3 (cx_lb hc j hj')))) (fun i hi => ?_)
      · rcases hpar with q | ⟨p, hp, q⟩
        · omega
        · have := root_far hw a b (al_in hρ hρ3 hp)
          rcases q with q | q <;> omega
      · have hi48 := hw.2 i (al_in a b hi)
        have hs : 2 * i ≠ s ∧ 2 * i + 1 ≠ s := by
          rcases hpar with q | ⟨p, hp, q⟩
          · omega
          · have := hoth i hi p hp
            rcases q with q | q <;> omega
        refine ⟨hx _ hs.1 (fun j hj' => ?_), hx _ hs.2 (fun j hj' => ?_)⟩
        · have := hoth i hi j (cx_lb hc j hj'); omega
        · have := hoth i hi j (cx_lb hc j hj'); omega
  · rw [al_del hw] at hk'
    by_cases e : k' = k
    · subst e; exact ⟨h1, h2⟩
    · have hno : k' ∉ al T := fun q => hk' (List.mem_filter.mpr ⟨q, by simpa using e⟩)
      have hne : ∀ p ∈ lb (T ρ), p ≠ k' := fun p hp e' => hno (e' ▸ al_in hρ hρ3 hp)
      have hs : 2 * k' ≠ s ∧ 2 * k' + 1 ≠ s := by
        rcases hpar with q | ⟨p, hp, q⟩
        · omega
        · have := hne p hp
          rcases q with q | q <;> omega
      have q := ht.2 k' a b hno
      rw [hx _ hs.1 (fun j hj' => by have := hne j (cx_lb hc j hj'); omega), hx _ hs.2 (fun j hj' => by have := hne j (cx_lb hc j hj'); omega)]
      exact q
/-- the walk to the heir -/
theorem their_lp (h0 : sTree SH o g) {k s v w : Int} : ∀ {j : Nat} {l r' : Tr} {s' n : Int}, hg (S g) (.branch j l r') s' → (∀ i ∈ lb (.branch j l r'), i < 48) → 0 ≤ n → n + (lb (.branch j l r')).length ≤ 48 → (∀ n', G sc MX9_leave 129 [some (.ref o), some (.int (I k)), some (.int (I s)), some (.int (I v)), some (.int (I w)), some (.int (I (fr (.branch j l r') s'))), some (.int (I (mn (.branch j l r') 0))), some (.int (I n'))] [] SH S r) → G sc MX9_leave 88 [some (.ref o), some (.int (I k)), some (.int (I s)), some (.int (I v)), some (.int (I w)), some (.int (I s')), some (.int (I j)), some (.int (I n))] [] SH S r
  | j, .leaf _, r', s', n, hh, hb, hn, hl, hg => by
    refine qX9_leave_88 h0 ?_
    have hk := hb j (List.mem_append_right _ (List.mem_cons_self ..))
    rw [lb, List.length_append, List.length_cons] at hl
    rw [show S g (2 * (j : Int)) = -1 from hh.2.1]
    simp (disch := omega) only [iL, iE, iQ, ipos, ineg, an, if_true, if_false]
    exact hg n
  | j, .branch k2 l2 r2, r', s', n, hh, hb, hn, hl, hg => by
    refine qX9_leave_88 h0 ?_
    have hk := hb j (List.mem_append_right _ (List.mem_cons_self ..))
    have hk2 := hb k2 (List.mem_append_left _ (List.mem_append_right _ (List.mem_cons_self ..)))
    rw [lb, List.length_append, List.length_cons] at hl
    rw [show S g (2 * (j : Int)) = k2 from hh.2.1.1]
    simp (disch := omega) only [iL, iE, iQ, ipos, ineg, an, if_true, if_false]
    exact their_lp h0 hh.2.1 (fun i hi => hb i (List.mem_append_left _ hi)) (by omega) (by omega) hg
theorem mn_mem {k : Nat} {l r : Tr} : (mn (.branch k l r) 0 : Int) ∈ lb (.branch k l r) := by
  rw [lb_dm]; exact List.mem_cons_self ..
theorem tleave_ok (h0 : sTree SH o g) (hw : wfT T) (ht : treeR (S g) T) {k : Int} (hk : 0 ≤ k ∧ k < 48) {u u' u2 u3 u4 u5 : Option Value} : ∃ S', G sc MX9_leave 0 [some (.ref o), some (.int (I k)), u, u', u2, u3, u4, u5] [] SH S (rV SH S') ∧ treeR (S' g) (delT k T) ∧ (∀ j, j ≠ g → S' j = S j) := by
  by_cases hm : k ∈ al T
  · obtain ⟨ρ, hρ, hρ3, hm⟩ := al_of hm
    obtain ⟨s, j, l, r, d, A, B, rfl, hc⟩ := cx_mem (s := 96 + ρ) (d := 0) (A := []) (B := []) hm
    have hsl := cxs_slot hw (cxs_in hρ hρ3 hc)
    dsimp only at hsl
    have hh := cx_hg (ht.1 ρ hρ hρ3) hc
    have hlen := cx_len hw hρ hρ3 hc
    have hb : ∀ i ∈ lb (.branch j l r), i < 48 := fun i hi => hw.2 i (al_in hρ hρ3 (cx_lb hc i hi))
    have hsf := slot_far hw hρ hρ3 hc
    have hnd : (lb (.branch j l r)).Nodup := by
      have e := congrArg (List.map Prod.fst) (cx_fd hc)
      rw [List.nil_append, List.append_nil, fd_lb, List.map_append, List.map_append, fd_lb] at e
      have hn := lb_nd hw hρ hρ3
      rw [← e] at hn
      exact (List.nodup_append.mp (List.nodup_append.mp hn).1).2.1
    have hself : (j : Int) ∈ lb (.branch j l r) := List.mem_append_right _ (List.mem_cons_self ..)
    have hsj := hsf j hself
    have hnd0 := hnd
    unfold lb at hnd
    have n1 := List.nodup_append.mp hnd
    have n2 := List.nodup_cons.mp n1.2.1
    have hrun := tslot_ok (sc := sc) h0 hw ht (cxs_in hρ hρ3 hc) (u := none)
    dsimp only [rt] at hrun
    have rl : S g (2 * (j : Int)) = rt l := hg_rt hh.2.1
    have rr : S g (2 * (j : Int) + 1) = rt r := hg_rt hh.2.2
    cases l with
    | leaf _ =>
      have hr1 : -1 ≤ rt r ∧ rt r < 48 := by
        cases r with
        | leaf _ => simp only [rt]; omega
        | branch k2 l2 r2 => have := hb k2 (List.mem_append_right _ (List.mem_cons_of_mem _ (List.mem_append_right _ (List.mem_cons_self ..)))); simp only [rt]; omega
      refine ⟨up (up (up S g s (rt r)) g (2 * (j : Int)) (-1)) g (2 * (j : Int) + 1) (-1), ?_, ?_, fun x hx => by rw [up_ne hx, up_ne hx, up_ne hx]⟩
      · refine qX9_leave_0 h0 ⟨_, _, hrun, ?_⟩
        rw [rl, rr]
        simp only [rt]
        simp (disch := omega) only [iL, iE, iQ, ipos, ineg, an, if_true, if_false]
      · refine tree_del hw ht hρ hρ3 hc ?_ (fun x hx hx2 => ?_) ?_ ?_
        · refine hg_move hh.2.2 ?_ (fun i hi => ?_)
          · rw [up_at, if_neg hsj.2, up_at, if_neg hsj.1, up_at, if_pos rfl]; rfl
          · have hi : i ∈ lb r := hi
            have q := hsf i (List.mem_append_right _ (List.mem_cons_of_mem _ hi))
            have qj : (j : Int) ≠ i := fun e => n2.1 (e ▸ hi)
            rw [up_at, if_neg (by omega), up_at, if_neg (by omega), up_at, if_neg (fun e => q.1 e.symm), up_at, if_neg (by omega), up_at, if_neg (by omega), up_at, if_neg (fun e => q.2 e.symm)]
            exact ⟨rfl, rfl⟩
        · have q := hx2 j hself
          rw [up_at, if_neg q.2, up_at, if_neg q.1, up_at, if_neg hx]
        · rw [up_at, if_neg (by omega), up_at, if_pos rfl]
        · rw [up_at, if_pos rfl]
    | branch kl ll lr =>
      have hkl := hb kl (List.mem_append_left _ (List.mem_append_right _ (List.mem_cons_self ..)))
      cases r with
      | leaf _ =>
        refine ⟨up (up (up S g s kl) g (2 * (j : Int)) (-1)) g (2 * (j : Int) + 1) (-1), ?_, ?_, fun x hx => by rw [up_ne hx, up_ne hx, up_ne hx]⟩
        · refine qX9_leave_0 h0 ⟨_, _, hrun, ?_⟩
          rw [rl, rr]
          simp only [rt]
          simp (disch := omega) only [iL, iE, iQ, ipos, ineg, an, if_true, if_false]
        · refine tree_del hw ht hρ hρ3 hc ?_ (fun x hx hx2 => ?_) ?_ ?_
          · refine hg_move hh.2.1 ?_ (fun i hi => ?_)
            · rw [up_at, if_neg hsj.2, up_at, if_neg hsj.1, up_at, if_pos rfl]; rfl
            · have q := hsf i (List.mem_append_left _ hi)
              have qj : i ≠ (j : Int) := n1.2.2 i hi j (List.mem_cons_self ..)
              rw [up_at, if_neg (by omega), up_at, if_neg (by omega), up_at, if_neg (fun e => q.1 e.symm), up_at, if_neg (by omega), up_at, if_neg (by omega), up_at, if_neg (fun e => q.2 e.symm)]
              exact ⟨rfl, rfl⟩
          · have q := hx2 j hself
            rw [up_at, if_neg q.2, up_at, if_neg q.1, up_at, if_neg hx]
          · rw [up_at, if_neg (by omega), up_at, if_pos rfl]
          · rw [up_at, if_pos rfl]
      | branch kr rl' rr' =>
        have hbr : ∀ i ∈ lb (.branch kr rl' rr'), i < 48 := fun i hi => hb i (List.mem_append_right _ (List.mem_cons_of_mem _ hi))
        have hkr := hbr kr (List.mem_append_right _ (List.mem_cons_self ..))
        have hmm : (mn (.branch kr rl' rr') 0 : Int) ∈ lb (.branch kr rl' rr') := mn_mem
        have hm48 := hbr _ hmm
        have hfr : fr (.branch kr rl' rr') (2 * (j : Int) + 1) = 2 * (j : Int) + 1 ∨ ∃ i ∈ lb (.branch kr rl' rr'), fr (.branch kr rl' rr') (2 * (j : Int) + 1) = 2 * i := fr_at
        have hjr : ∀ i ∈ lb (.branch kr rl' rr'), (j : Int) ≠ i := fun i hi e => n2.1 (e ▸ hi)
        have hdm := dm_hg hh.2.2 n2.2 (fun i hi => ⟨by omega, by have := hjr i hi; omega⟩)
        have hlr : ∀ i ∈ lb (.branch kl ll lr), ∀ i' ∈ lb (.branch kr rl' rr'), i ≠ i' := fun i hi i' hi' => n1.2.2 i hi i' (List.mem_cons_of_mem _ hi')
        have hlj : ∀ i ∈ lb (.branch kl ll lr), i ≠ (j : Int) := fun i hi => n1.2.2 i hi j (List.mem_cons_self ..)
        have hsfl : ∀ i ∈ lb (.branch kl ll lr), s ≠ 2 * i ∧ s ≠ 2 * i + 1 := fun i hi => hsf i (List.mem_append_left _ hi)
        have hsfr : ∀ i ∈ lb (.branch kr rl' rr'), s ≠ 2 * i ∧ s ≠ 2 * i + 1 := fun i hi => hsf i (List.mem_append_right _ (List.mem_cons_of_mem _ hi))
        have hdr : ∀ i ∈ lb (dm (.branch kr rl' rr')), i ∈ lb (.branch kr rl' rr') ∧ i ≠ (mn (.branch kr rl' rr') 0 : Int) := fun i hi => by
          have q := n2.2
          rw [lb_dm] at q
          refine ⟨by rw [lb_dm]; exact List.mem_cons_of_mem _ hi, fun e => (List.nodup_cons.mp q).1 (e ▸ hi)⟩
        rw [lb, List.length_append, List.length_cons] at hlen
        generalize hF : fr (.branch kr rl' rr') (2 * (j : Int) + 1) = F at *
        generalize hH : (mn (.branch kr rl' rr') 0) = H at *
        have hrtd : rt (dm (.branch kr rl' rr')) = if 2 * (j : Int) + 1 = F then S g (2 * (H : Int) + 1) else S g (2 * (j : Int) + 1) := (hg_rt hdm).symm
        have hHj := hjr _ hmm
        have hsH := hsfr _ hmm
        have hF99 : 0 ≤ F ∧ F < 99 ∧ F ≠ 2 * (j : Int) ∧ F ≠ s := by
          rcases hfr with q | ⟨i, hi, q⟩
          · omega
          · have := hbr i hi
            have := lb_nn hi
            have := hjr i hi
            have := hsfr i hi
            omega
        refine ⟨up (up (up (up (up (up S g F (S g (2 * (H : Int) + 1))) g (2 * (H : Int)) kl) g (2 * (H : Int) + 1) (rt (dm (.branch kr rl' rr')))) g s H) g (2 * (j : Int)) (-1)) g (2 * (j : Int) + 1) (-1), ?_, ?_, fun x hx => by rw [up_ne hx, up_ne hx, up_ne hx, up_ne hx, up_ne hx, up_ne hx]⟩
        · refine qX9_leave_0 h0 ⟨_, _, hrun, ?_⟩
          rw [rl, rr]
          simp only [rt]
          simp (disch := omega) only [iL, iE, iQ, ipos, ineg, an, if_true, if_false]
          refine their_lp h0 hh.2.2 hbr (by omega) (by omega) (fun n' => ?_)
          rw [hF, hH]
          refine qX9_leave_129 h0 ?_
          simp (disch := omega) only [an]
          have e1 : up S g F (S g (2 * (H : Int) + 1)) g (2 * (j : Int)) = kl := by
            rw [up_at, if_neg (fun e => hF99.2.2.1 e.symm), rl]; rfl
          rw [e1]
          have e2 : up (up S g F (S g (2 * (H : Int) + 1))) g (2 * (H : Int)) kl g (2 * (j : Int) + 1) = rt (dm (.branch kr rl' rr')) := by
            rw [up_at, if_neg (by omega), up_at, hrtd]
          rw [e2]
          rfl
        · refine tree_del hw ht hρ hρ3 hc ?_ (fun x hx hx2 => ?_) ?_ ?_
          · rw [jn, hH]
            refine ⟨?_, hg_move hh.2.1 ?_ (fun i hi => ?_), hg_move hdm ?_ (fun i hi => ?_)⟩
            · rw [up_at, if_neg hsj.2, up_at, if_neg hsj.1, up_at, if_pos rfl]
            · rw [up_at, if_neg (by omega), up_at, if_neg (by omega), up_at, if_neg (fun e => hsH.1 e.symm), up_at, if_neg (by omega), up_at, if_pos rfl]; rfl
            · have a1 := hlj i hi
              have a2 := hsfl i hi
              have a3 := hlr i hi _ hmm
              have a4 : 2 * i ≠ F ∧ 2 * i + 1 ≠ F := by
                rcases hfr with q | ⟨i', hi', q⟩
                · omega
                · have := hlr i hi i' hi'; omega
              refine ⟨?_, ?_⟩
              · rw [up_at, if_neg (by omega), up_at, if_neg (by omega), up_at, if_neg (fun e => a2.1 e.symm), up_at, if_neg (by omega), up_at, if_neg (by omega), up_at, if_neg a4.1]
              · rw [up_at, if_neg (by omega), up_at, if_neg (by omega), up_at, if_neg (fun e => a2.2 e.symm), up_at, if_neg (by omega), up_at, if_neg (by omega), up_at, if_neg a4.2]
            · rw [up_at, if_neg (by omega), up_at, if_neg (by omega), up_at, if_neg (fun e => hsH.2 e.symm), up_at, if_pos rfl]
            · obtain ⟨a0, a3⟩ := hdr i hi
              have a1 := hjr i a0
              have a2 := hsfr i a0
              refine ⟨?_, ?_⟩
              · rw [up_at, if_neg (by omega), up_at, if_neg (by omega), up_at, if_neg (fun e => a2.1 e.symm), up_at, if_neg (by omega), up_at, if_neg (by omega), up_at]
              · rw [up_at, if_neg (by omega), up_at, if_neg (by omega), up_at, if_neg (fun e => a2.2 e.symm), up_at, if_neg (by omega), up_at, if_neg (by omega), up_at]
          · have q := hx2 j hself
            have qH := hx2 H (List.mem_append_right _ (List.mem_cons_of_mem _ hmm))
            have qF : x ≠ F := by
              rcases hfr with q' | ⟨i, hi, q'⟩
              · omega
              · have := hx2 i (List.mem_append_right _ (List.mem_cons_of_mem _ hi)); omega
            rw [up_at, if_neg q.2, up_at, if_neg q.1, up_at, if_neg hx, up_at, if_neg qH.2, up_at, if_neg qH.1, up_at, if_neg qF]
          · rw [up_at, if_neg (by omega), up_at, if_pos rfl]
          · rw [up_at, if_pos rfl]
  · refine ⟨S, ?_, ?_, fun _ _ => rfl⟩
    · refine qX9_leave_0 h0 ⟨_, _, tslot_no h0 hw ht hk hm, ?_⟩
      simp (disch := omega) only [iL, iE, iQ, ipos, ineg, an, if_true, if_false]
    · have e : ∀ ρ, 0 ≤ ρ → ρ < 3 → delT k T ρ = T ρ := fun ρ a b => del_no (fun q => hm (al_in a b q))
      refine ⟨fun ρ a b => by rw [e ρ a b]; exact ht.1 ρ a b, fun k' a b hk' => ht.2 k' a b (fun q => hk' ?_)⟩
      rw [al_del hw]
      exact List.mem_filter.mpr ⟨q, by have : k' ≠ k := fun e => hm (e ▸ q); simpa using this⟩
/-- how many of the first n are in a list -/
theorem tcount_lp (h0 : sTree SH o g) (hw : wfT T) (ht : treeR (S g) T) : ∀ (j : Nat) (s m : Int) (L : List Int), 0 ≤ s → s + j = 99 → 0 ≤ m → m ≤ s → L.Nodup → (∀ x ∈ L, s ≤ x ∧ x < 99) → (∀ x, s ≤ x → x < 99 → (S g x ≠ -1 ↔ x ∈ L)) → G sc MX9_size 4 [some (.ref o), some (.int (I m)), some (.int (I s))] [] SH S (rI (m + L.length) SH S)
  | 0, s, m, L, hs, hj, hm, hms, hn, hL, hx => by
    refine qX9_size_4 h0 ?_
    have e : L = [] := by
      cases L with
      | nil => rfl
      | cons y t => have := hL y (List.mem_cons_self ..); omega
    subst e
    simp (disch := omega) only [iL, iE, iQ, ipos, ineg, an, if_true, if_false]
    simp
  | j + 1, s, m, L, hs, hj, hm, hms, hn, hL, hx => by
    refine qX9_size_4 h0 ?_
    have hr := slot_rg hw ht (s := s) hs (by omega)
    simp (disch := omega) only [iL, iE, iQ, ipos, ineg, an, if_true, if_false]
    have hxs := hx s (by omega) (by omega)
    by_cases e : S g s = -1
    · rw [if_pos e]
      have hno : s ∉ L := fun q => hxs.mpr q e
      refine tcount_lp h0 hw ht j (s + 1) m L (by omega) (by omega) hm (by omega) hn (fun x hxl => ?_) (fun x a b => hx x (by omega) b)
      have := hL x hxl
      have : x ≠ s := fun q => hno (q ▸ hxl)
      omega
    · rw [if_neg e]
      have hin : s ∈ L := hxs.mp e
      have q := tcount_lp h0 hw ht j (s + 1) (m + 1) (L.filter (· ≠ s)) (by omega) (by omega) (by omega) (by omega) (hn.filter _) (fun x hxl => by
        have h1 := List.mem_filter.mp hxl
        have h2 : x ≠ s := by simpa using h1.2
        have := hL x h1.1
        omega) (fun x a b => by
        rw [hx x (by omega) b, List.mem_filter]
        have : x ≠ s := by omega
        simp [this])
      have hlen : (L.length : Int) = (L.filter (· ≠ s)).length + 1 := by
        obtain ⟨A, B, rfl⟩ := List.append_of_mem hin
        rw [filter_cut hn]
        simp only [List.length_append, List.length_cons]
        omega
      rw [show m + 1 + ((L.filter (· ≠ s)).length : Int) = m + L.length by omega] at q
      exact q
theorem tsize_ok (h0 : sTree SH o g) (hw : wfT T) (ht : treeR (S g) T) {u u' : Option Value} : G sc MX9_size 0 [some (.ref o), u, u'] [] SH S (rI (al T).length SH S) := by
  refine qX9_size_0 h0 ?_
  have hnd : ((cxs T).map fun e => e.1).Nodup := by
    have h1 := (cxs_perm T).nodup_iff.mpr hw.1
    have key : ∀ l : List mCx, (∀ e ∈ l, e ∈ cxs T) → (l.map fun e => rt e.2.1).Nodup → (l.map fun e => e.1).Nodup := by
      intro l
      induction l with
      | nil => intro _ _; exact List.nodup_nil
      | cons a l ih =>
        intro hl hn
        rw [List.map_cons] at hn ⊢
        have hn' := List.nodup_cons.mp hn
        refine List.nodup_cons.mpr ⟨fun hm => ?_, ih (fun e he => hl e (List.mem_cons_of_mem _ he)) hn'.2⟩
        obtain ⟨b, hb, e⟩ := List.mem_map.mp hm
        refine hn'.1 (List.mem_map.mpr ⟨b, hb, ?_⟩)
        rw [← cxs_at ht (hl a (List.mem_cons_self ..)), ← cxs_at ht (hl b (List.mem_cons_of_mem _ hb)), e]
    exact key _ (fun _ h => h) h1
  have hlen : ((cxs T).map fun e => e.1).length = (al T).length := by
    rw [← (cxs_perm T).length_eq, List.length_map, List.length_map]
  have q := tcount_lp (sc := sc) h0 hw ht 99 0 0 ((cxs T).map fun e => e.1) (by omega) (by omega) (by omega) (by omega) hnd (fun x hx => by
    obtain ⟨e, he, rfl⟩ := List.mem_map.mp hx
    exact cxs_slot hw he) (fun x a b => by
    constructor
    · intro hne
      rcases slot_cases ht a b with q | ⟨e, he, h1, h2⟩
      · exact absurd q hne
      · exact List.mem_map.mpr ⟨e, he, h1⟩
    · intro hm
      obtain ⟨e, he, rfl⟩ := List.mem_map.mp hm
      have h1 := cxs_at ht he
      have h2 := rt_nn he
      omega)
  rw [hlen, Int.zero_add] at q
  exact q
theorem wfT_nil : wfT (fun _ => .leaf ()) := ⟨List.nodup_nil, fun k h => absurd h List.not_mem_nil⟩
theorem tclr_ok (h0 : sTree SH o g) : ∃ S', G sc MX9_clear 0 [some (.ref o)] [] SH S (rV SH S') ∧ treeR (S' g) (fun _ => .leaf ()) ∧ (∀ j, j ≠ g → S' j = S j) := by
  refine ⟨fil S g (99 : Nat) (-1), qX9_clear_0 h0 ⟨_, fill_ok h0.2, rfl⟩, ⟨fun ρ a b => ?_, fun k a b _ => ⟨?_, ?_⟩⟩, fun j hj => fil_ne hj⟩
  · show fil S g (99 : Nat) (-1) g (96 + ρ) = -1
    rw [fil_at, if_pos ⟨by omega, by omega⟩]
  · rw [fil_at, if_pos ⟨by omega, by omega⟩]
  · rw [fil_at, if_pos ⟨by omega, by omega⟩]
theorem tree_cong {h h' : Int → Int} (hw : wfT T) (ht : treeR h T) (e : ∀ x, 0 ≤ x → x < 99 → h' x = h x) : treeR h' T := by
  refine ⟨fun ρ a b => hg_cong (ht.1 ρ a b) (e _ (by omega) (by omega)) (fun j hj => ?_), fun k a b hk => ?_⟩
  · have h1 := lb_nn hj
    have h2 := hw.2 j (al_in a b hj)
    exact ⟨e _ (by omega) (by omega), e _ (by omega) (by omega)⟩
  · have q := ht.2 k a b hk
    rw [e _ (by omega) (by omega), e _ (by omega) (by omega)]
    exact q
theorem tbec_ok {o' g' : Nat} (h0 : sTree SH o g) (h1 : sTree SH o' g') (hw : wfT T) (ht : treeR (S g') T) : ∃ S', G sc MX9_become 0 [some (.ref o), some (.ref o')] [] SH S (rV SH S') ∧ treeR (S' g) T ∧ (∀ j, j ≠ g → S' j = S j) := by
  refine ⟨_, qX9_become_0 h0 h1 rfl, tree_cong hw ht (fun x a b => ?_), fun j hj => cpy_ne hj⟩
  rw [cpy_at, if_pos ⟨a, b⟩]
end
