/-! ===== the reference's trees: a knot is taken out ===== -/
theorem cx_side : ∀ {t : Tr} {s d : Int} {A B : List (Int × Int)} {s' d' : Int} {u : Tr} {A' B' : List (Int × Int)}, (s', u, d', A', B') ∈ cx t s d A B → (∀ A0 y, A = A0 ++ [y] → y.2 < d) → (∀ y B0, B = y :: B0 → y.2 < d) → (∀ A0 y, A' = A0 ++ [y] → y.2 < d') ∧ (∀ y B0, B' = y :: B0 → y.2 < d')
  | .leaf _, _, _, _, _, _, _, _, _, _, h, _, _ => absurd h List.not_mem_nil
  | .branch k l r, s, d, A, B, s', d', u, A', B', h, hA, hB => by
    rcases List.mem_cons.mp h with h | h
    · cases h; exact ⟨hA, hB⟩
    · rcases List.mem_append.mp h with h | h
      · refine cx_side h (fun A0 y e => by have := hA A0 y e; omega) (fun y B0 e => ?_)
        have := (List.cons.inj e).1
        rw [← this]; show d < d + 1; omega
      · refine cx_side h (fun A0 y e => ?_) (fun y B0 e => by have := hB y B0 e; omega)
        have := (List.append_inj' e rfl).2
        rw [← (List.cons.inj this).1]; show d < d + 1; omega
theorem fd_lt : ∀ {t : Tr} {d : Int} {x : Int × Int}, x ∈ fd t d → x.2 < d + (lb t).length
  | .leaf _, _, _, h => absurd h List.not_mem_nil
  | .branch k l r, d, x, h => by
    rw [lb, List.length_append, List.length_cons]
    rcases List.mem_append.mp h with h | h
    · have := fd_lt h; omega
    · rcases List.mem_cons.mp h with h | h
      · rw [h]; show d < _; omega
      · have := fd_lt h; omega
theorem fd_len (t : Tr) (d : Int) : (fd t d).length = (lb t).length := by rw [← fd_lb t d, List.length_map]
theorem fd_del {k : Nat} {l r : Tr} {s' d' : Int} {A' B' : List (Int × Int)} : ∀ {t : Tr} {s d : Int} {A B : List (Int × Int)}, (s', .branch k l r, d', A', B') ∈ cx t s d A B → (lb t).Nodup → A ++ fd (del k t) d ++ B = A' ++ fd (jn l r) d' ++ B'
  | .leaf _, _, _, _, _, h, _ => absurd h List.not_mem_nil
  | .branch j a b, s, d, A, B, h, hn => by
    unfold lb at hn
    have h1 := List.nodup_append.mp hn
    have h2 := List.nodup_cons.mp h1.2.1
    have hself : (k : Int) ∈ lb (.branch k l r) := List.mem_append_right _ (List.mem_cons_self ..)
    rcases List.mem_cons.mp h with h | h
    · cases h; rw [del, if_pos rfl]
    · rcases List.mem_append.mp h with h | h
      · have hka := cx_lb h k hself
        have hne : (j : Int) ≠ k := fun e => h1.2.2 k hka j (List.mem_cons_self ..) e.symm
        have hkb : (k : Int) ∉ lb b := fun e => h1.2.2 k hka k (List.mem_cons_of_mem _ e) rfl
        rw [del, if_neg hne, del_no hkb, ← fd_del h h1.1, fd]; simp
      · have hkb := cx_lb h k hself
        have hne : (j : Int) ≠ k := fun e => h2.1 (e ▸ hkb)
        have hka : (k : Int) ∉ lb a := fun e => h1.2.2 k e k (List.mem_cons_of_mem _ hkb) rfl
        rw [del, if_neg hne, del_no hka, ← fd_del h h2.2, fd]; simp
theorem fnd_at {l A B : List (Int × Int)} {x : Int × Int} (hl : l = A ++ x :: B) (hn : (l.map Prod.fst).Nodup) {n : Nat} (hln : n = l.length) : fnd (fun i => decide (pf l i = x.1)) n 0 = A.length := by
  subst hl hln
  have hx : pf (A ++ x :: B) A.length = x.1 := by unfold pf; rw [gl_ge (by omega), gl_0 _ _ (by omega)]
  have hlen : (A ++ x :: B).length = A.length + B.length + 1 := by simp only [List.length_append, List.length_cons]; omega
  have hlt : ∀ i : Int, 0 ≤ i → i < A.length → pf (A ++ x :: B) i ≠ x.1 := fun i h0 h1 e => by
    unfold pf at e
    rw [gl_lt h0 h1] at e
    rw [List.map_append, List.map_cons] at hn
    exact (List.nodup_append.mp hn).2.2 _ (List.mem_map.mpr ⟨_, gl_mem h0 h1, e⟩) _ (List.mem_cons_self ..) rfl
  rcases fnd_rg (fun i => decide (pf (A ++ x :: B) i = x.1)) (A ++ x :: B).length 0 with h | h
  · have := fnd_no h (by decide) A.length (by omega) (by omega)
    simp [hx] at this
  · have h3 : pf (A ++ x :: B) (fnd (fun i => decide (pf (A ++ x :: B) i = x.1)) (A ++ x :: B).length 0) = x.1 := by simpa using h.2.2
    by_cases c1 : fnd (fun i => decide (pf (A ++ x :: B) i = x.1)) (A ++ x :: B).length 0 < A.length
    · exact absurd h3 (hlt _ h.1 c1)
    · by_cases c2 : (A.length : Int) < fnd (fun i => decide (pf (A ++ x :: B) i = x.1)) (A ++ x :: B).length 0
      · have := fnd_lt (q := fun i => decide (pf (A ++ x :: B) i = x.1)) (by decide) A.length (by omega) c2
        simp [hx] at this
      · omega
theorem fnd_none {l : List (Int × Int)} {k : Int} (hn : k ∉ l.map Prod.fst) {n : Nat} (hln : n = l.length) : fnd (fun i => decide (pf l i = k)) n 0 = -1 := by
  subst hln
  rcases fnd_rg (fun i => decide (pf l i = k)) l.length 0 with h | h
  · exact h
  · have h3 : pf l (fnd (fun i => decide (pf l i = k)) l.length 0) = k := by simpa using h.2.2
    exact absurd (List.mem_map.mpr ⟨_, gl_mem h.1 (by omega), h3⟩) hn
section
variable {sc : Nat × (Nat → Int32)} {SH : List mCell} {S : mStore} {t : Int}
theorem mtakes_l (h0 : sMod SH) (ht : 0 ≤ t ∧ t < 137300) {A B : List (Int × Int)} {k : Nat} {l r : Tr} {d : Int} (hr : rowl (S 91) t (A ++ fd (.branch k l r) d ++ B)) (hn : (A ++ fd (.branch k l r) d ++ B).length ≤ 48) (hd : ∀ y ∈ A ++ fd (.branch k l r) d ++ B, 0 ≤ y.2 ∧ y.2 < 48) (hA : ∀ A0 y, A = A0 ++ [y] → y.2 < d) (hB : ∀ y B0, B = y :: B0 → y.2 < d) {c : Int} (hc : c = A.length + (fd l (d + 1)).length) {u : Option Value} : ∃ S', G sc MX11_takesOut 0 [some (.ref 90), some (.int (I t)), some (.int (I c)), u] [] SH S (rV SH S') ∧ rowl (S' 91) t (A ++ fd (jn l r) d ++ B) ∧ rowF S S' t := by
  have e0 : A ++ fd (.branch k l r) d ++ B = A ++ fd l (d + 1) ++ ((k : Int), d) :: fd r (d + 1) ++ B := by rw [fd]; simp
  rw [e0] at hr hn hd
  have hlen : (A ++ fd l (d + 1) ++ ((k : Int), d) :: fd r (d + 1) ++ B).length = A.length + (fd l (d + 1)).length + 1 + (fd r (d + 1)).length + B.length := by simp only [List.length_append, List.length_cons]; omega
  have hcl : c = (A ++ fd l (d + 1)).length := by rw [hc, List.length_append]; omega
  have hM : ∀ y ∈ fd l (d + 1), d < y.2 := fun y hy => by have := fd_ge hy; omega
  have hN : ∀ y ∈ fd r (d + 1), d < y.2 := fun y hy => by have := fd_ge hy; omega
  obtain ⟨S1, g1, r1, f1⟩ := lift_l (sc := sc) h0 ht hr hn hd hM hN (fun A0 y e => by have := hA A0 y e; show y.2 ≤ d; omega) (fun y B0 e => by have := hB y B0 e; show y.2 ≤ d; omega) hcl (u := none) (u' := none) (u'' := none)
  rw [dec_fd, dec_fd] at r1
  have gx : gl (A ++ fd l (d + 1) ++ ((k : Int), d) :: fd r (d + 1) ++ B) c = ((k : Int), d) := by
    rw [gl_lt (by omega) (by simp only [List.length_append, List.length_cons]; omega), gl_ge (by rw [hcl]; exact Int.le_refl _), gl_0 _ _ (by omega)]
  have hdx : df (A ++ fd l (d + 1) ++ ((k : Int), d) :: fd r (d + 1) ++ B) c = d := by unfold df; rw [gx]
  have gM : ∀ i, (A.length : Int) ≤ i → i < c → gl (A ++ fd l (d + 1) ++ ((k : Int), d) :: fd r (d + 1) ++ B) i ∈ fd l (d + 1) := fun i h1 h2 => by
    rw [gl_lt (by omega) (by simp only [List.length_append, List.length_cons]; omega), gl_lt (by omega) (by rw [← hcl]; exact h2), gl_ge h1]
    exact gl_mem (by omega) (by omega)
  have gN : ∀ i, c < i → i < c + 1 + (fd r (d + 1)).length → gl (A ++ fd l (d + 1) ++ ((k : Int), d) :: fd r (d + 1) ++ B) i ∈ fd r (d + 1) := fun i h1 h2 => by
    rw [gl_lt (by omega) (by simp only [List.length_append, List.length_cons]; omega), gl_ge (by rw [← hcl]; omega), gl_s _ _ (by rw [← hcl]; omega)]
    exact gl_mem (by rw [← hcl]; omega) (by rw [← hcl]; omega)
  have gbeg : G sc MX11_begin 0 [some (.ref 90), some (.int (I t)), some (.int (I c)), none] [] SH S (rI A.length SH S) := by
    refine mbegin_ok h0 ht (by omega) hr (fun i h1 h2 => hd _ (gl_mem h1 h2)) ⟨by omega, by omega⟩ ⟨by omega, by omega⟩ (fun i h1 h2 => by rw [hdx]; exact hM _ (gM i h1 h2)) ?_
    rw [hdx]
    by_cases hAn : A = []
    · left; rw [hAn]; rfl
    · right
      obtain ⟨A0, y, hy⟩ : ∃ A0 y, A = A0 ++ [y] := ⟨_, _, (List.dropLast_concat_getLast hAn).symm⟩
      have q := hA _ _ hy
      have hl : 0 < A.length := List.length_pos_iff.mpr hAn
      have : gl (A ++ fd l (d + 1) ++ ((k : Int), d) :: fd r (d + 1) ++ B) (A.length - 1) = y := by
        rw [gl_lt (by omega) (by simp only [List.length_append, List.length_cons]; omega), gl_lt (by omega) (by rw [List.length_append]; omega), gl_lt (by omega) (by omega)]
        rw [hy, gl_ge (by simp)]
        exact gl_0 _ _ (by simp)
      unfold df
      rw [this]; omega
  have gend : G sc MX11_end 0 [some (.ref 90), some (.int (I t)), some (.int (I c)), none] [] SH S (rI (c + 1 + (fd r (d + 1)).length) SH S) := by
    refine mend_ok h0 ht (by omega) hr (fun i h1 h2 => hd _ (gl_mem h1 h2)) ⟨by omega, by omega⟩ ⟨by omega, by omega⟩ (fun i h1 h2 => by rw [hdx]; exact hN _ (gN i h1 h2)) ?_
    rw [hdx]
    cases hBn : B with
    | nil => left; rw [hBn] at hlen; simp only [List.length_nil] at hlen; omega
    | cons y B0 =>
      right
      have q := hB y B0 hBn
      unfold df
      rw [gl_ge (by simp only [List.length_append, List.length_cons]; omega), gl_0 _ _ (by simp only [List.length_append, List.length_cons]; omega)]
      omega
  cases l with
  | leaf e =>
    refine ⟨S1, qX11_takesOut_0 h0 ⟨_, _, gbeg, ?_⟩, ?_, f1⟩
    · have : c = A.length := by rw [hc]; simp [fd]
      simp (disch := omega) only [iL, iE, iQ, ipos, ineg, an, if_true, if_false]
      exact ⟨_, g1, rfl⟩
    · have e1 : A ++ fd (jn (.leaf e) r) d ++ B = A ++ fd (.leaf e) d ++ fd r d ++ B := by simp [fd, jn]
      rw [e1]; exact r1
  | branch kl ll lr =>
    have hlp : 0 < (fd (.branch kl ll lr) (d + 1)).length := by rw [fd]; simp; omega
    cases r with
    | leaf e =>
      refine ⟨S1, qX11_takesOut_0 h0 ⟨_, _, gbeg, ?_⟩, ?_, f1⟩
      · simp (disch := omega) only [iL, iE, iQ, ipos, ineg, an, if_true, if_false]
        refine ⟨_, _, gend, ?_⟩
        have : ((fd (.leaf e) (d + 1)).length : Int) = 0 := by simp [fd]
        simp (disch := omega) only [iL, iE, iQ, ipos, ineg, an, if_true, if_false]
        exact ⟨_, g1, rfl⟩
      · have e1 : A ++ fd (jn (.branch kl ll lr) (.leaf e)) d ++ B = A ++ fd (.branch kl ll lr) d ++ fd (.leaf e) d ++ B := by simp [fd, jn]
        rw [e1]; exact r1
    | branch kr rl rr =>
      have hrp : 0 < (fd (.branch kr rl rr) (d + 1)).length := by rw [fd]; simp; omega
      obtain ⟨m, v, B', m1, m2, m3, m4, m5⟩ := fd_min kr rl rr (d + 1)
      have e2 : A ++ fd (.branch kl ll lr) (d + 1) ++ ((k : Int), d) :: fd (.branch kr rl rr) (d + 1) ++ B = (A ++ fd (.branch kl ll lr) (d + 1) ++ [((k : Int), d)]) ++ [] ++ ((mn (.branch kr rl rr) 0 : Int), m) :: fd v (m + 1) ++ (B' ++ B) := by rw [m2]; simp
      have hr2 := hr
      rw [e2] at hr2 hn hd
      obtain ⟨S2, g2, r2, f2⟩ := lift_l (sc := sc) h0 ht hr2 hn hd (fun y hy => absurd hy List.not_mem_nil) (fun y hy => by have := fd_ge hy; show m < y.2; omega) (fun A0 y e => by
        have := (List.append_inj' e rfl).2
        rw [← (List.cons.inj this).1]; show d ≤ m; omega) (fun y B0 e => by
        cases hB' : B' with
        | nil => rw [hB', List.nil_append] at e; have := hB y B0 e; show y.2 ≤ m; omega
        | cons y' B1 => rw [hB'] at e; have := m3 y' B1 hB'; rw [← (List.cons.inj e).1]; show y'.2 ≤ m; omega) (c := c + 1) (by rw [hc]; simp only [List.length_append, List.length_cons, List.length_nil]; omega) (u := none) (u' := none) (u'' := none)
      rw [dec_fd] at r2
      have e3 : (A ++ fd (.branch kl ll lr) (d + 1) ++ [((k : Int), d)]) ++ dec [] ++ fd v m ++ (B' ++ B) = (A ++ fd (.branch kl ll lr) (d + 1)) ++ ((k : Int), d) :: (fd (dm (.branch kr rl rr)) (d + 1) ++ B) := by rw [m4]; simp [dec]
      rw [e3] at r2
      have hnx : S 91 (t + 1 + c + 1) = (mn (.branch kr rl rr) 0 : Int) := by
        have q := (hr.2 (c + 1) (by omega) (by omega)).1
        rw [show t + 1 + c + 1 = t + 1 + (c + 1) by omega, q]
        unfold pf
        rw [e2, gl_lt (by omega) (by simp only [List.length_append, List.length_cons, List.length_nil]; omega), gl_ge (by simp only [List.length_append, List.length_cons, List.length_nil]; omega), gl_0 _ _ (by simp only [List.length_append, List.length_cons, List.length_nil]; omega)]
      refine ⟨up S2 91 (t + 1 + c) (mn (.branch kr rl rr) 0), qX11_takesOut_0 h0 ⟨_, _, gbeg, ?_⟩, ?_, rowF_tr f2 (rowF_up (by omega))⟩
      · simp (disch := omega) only [iL, iE, iQ, ipos, ineg, an, if_true, if_false]
        refine ⟨_, _, gend, ?_⟩
        rw [hnx]
        simp (disch := omega) only [iL, iE, iQ, ipos, ineg, an, if_true, if_false]
        exact ⟨_, g2, rfl⟩
      · have e4 : A ++ fd (jn (.branch kl ll lr) (.branch kr rl rr)) d ++ B = (A ++ fd (.branch kl ll lr) (d + 1)) ++ ((mn (.branch kr rl rr) 0 : Int), d) :: (fd (dm (.branch kr rl rr)) (d + 1) ++ B) := by
          rw [jn]
          show A ++ fd (.branch (mn (.branch kr rl rr) 0) (.branch kl ll lr) (dm (.branch kr rl rr))) d ++ B = _
          rw [fd]; simp
        rw [e4]
        have hl2 : ((A ++ fd (.branch kl ll lr) (d + 1)) ++ ((mn (.branch kr rl rr) 0 : Int), d) :: (fd (dm (.branch kr rl rr)) (d + 1) ++ B)).length = ((A ++ fd (.branch kl ll lr) (d + 1)) ++ ((k : Int), d) :: (fd (dm (.branch kr rl rr)) (d + 1) ++ B)).length := by simp
        have hl3 : ((A ++ fd (.branch kl ll lr) (d + 1)) ++ ((k : Int), d) :: (fd (dm (.branch kr rl rr)) (d + 1) ++ B)).length ≤ 48 := by
          have h9 := congrArg List.length e3
          rw [← h9]
          simp only [List.length_append, List.length_cons, List.length_nil, fd_len, dec, List.map_nil] at hn ⊢
          omega
        refine ⟨by rw [hl2, up_at, if_neg (by omega)]; exact r2.1, fun i h1 h2 => ?_⟩
        rw [hl2] at h2
        have q := r2.2 i h1 h2
        rw [up_at, up_at, if_neg (show ¬ t + 49 + i = t + 1 + c by omega)]
        by_cases e5 : i = c
        · subst e5
          rw [if_pos rfl]
          unfold pf df at q ⊢
          rw [gl_ge (by rw [← hcl]; omega), gl_0 _ _ (by omega)] at q ⊢
          exact ⟨rfl, q.2⟩
        · rw [if_neg (by omega), q.1, q.2]
          unfold pf df
          by_cases e6 : i < c
          · rw [gl_lt (A := A ++ fd (.branch kl ll lr) (d + 1)) h1 (by rw [← hcl]; exact e6), gl_lt (A := A ++ fd (.branch kl ll lr) (d + 1)) (B := ((mn (.branch kr rl rr) 0 : Int), d) :: (fd (dm (.branch kr rl rr)) (d + 1) ++ B)) h1 (by rw [← hcl]; exact e6)]; exact ⟨rfl, rfl⟩
          · rw [gl_ge (by rw [← hcl]; omega), gl_ge (by rw [← hcl]; omega), gl_s _ _ (by rw [← hcl]; omega), gl_s _ _ (by rw [← hcl]; omega)]; exact ⟨rfl, rfl⟩
end
