/-! ===== the class's State: comparing and seeking ===== -/
/-- by which cell two differ, and how many are looked at -/
def cmpA (x y : Int) : Int × Int :=
  if nb x 12 ≠ nb y 12 then (nb x 12 - nb y 12, 1)
  else if nb x 8 ≠ nb y 8 then (nb x 8 - nb y 8, 2)
  else if nb x 4 ≠ nb y 4 then (nb x 4 - nb y 4, 3)
  else (nb x 0 - nb y 0, 4)
theorem cmpA_rg (x y : Int) : (-16 < (cmpA x y).1 ∧ (cmpA x y).1 < 16) ∧ 1 ≤ (cmpA x y).2 ∧ (cmpA x y).2 ≤ 4 := by
  have a1 := nb_rg x 12; have a2 := nb_rg x 8; have a3 := nb_rg x 4; have a4 := nb_rg x 0
  have b1 := nb_rg y 12; have b2 := nb_rg y 8; have b3 := nb_rg y 4; have b4 := nb_rg y 0
  unfold cmpA
  split
  · dsimp only; omega
  · split
    · dsimp only; omega
    · split
      · dsimp only; omega
      · dsimp only; omega
theorem up_up (S : mStore) (a : Nat) (i x y : Int) : up (up S a i x) a i y = up S a i y := by
  funext j k
  unfold up
  by_cases h : j = a ∧ k = i
  · rw [if_pos h, if_pos h]
  · rw [if_neg h, if_neg h, if_neg h]
theorem up_self {S : mStore} {a : Nat} {i x : Int} (h : S a i = x) : up S a i x = S := by
  funext j k
  unfold up
  split
  · rename_i e; rw [e.1, e.2, h]
  · rfl
/-- where a search ends: slot, what hangs there, depth, what is left and right of it -/
def skc (key v : Int → Int) (x : Int) : Tr → Int → Int → List (Int × Int) → List (Int × Int) → mCx
  | .leaf e, s, d, A, B => (s, .leaf e, d, A, B)
  | .branch k l r, s, d, A, B => if key k = -1 ∨ (cmpA x (v (key k))).1 = 0 then (s, .branch k l r, d, A, B)
    else if (cmpA x (v (key k))).1 < 0 then skc key v x l (2 * (k : Int)) (d + 1) A (((k : Int), d) :: fd r (d + 1) ++ B)
    else skc key v x r (2 * (k : Int) + 1) (d + 1) (A ++ fd l (d + 1) ++ [((k : Int), d)]) B
/-- the work of a search -/
def skw (key v : Int → Int) (x : Int) : Tr → Int
  | .leaf _ => 0
  | .branch k l r => if key k = -1 then 0 else (cmpA x (v (key k))).2 + (if (cmpA x (v (key k))).1 = 0 then 0 else if (cmpA x (v (key k))).1 < 0 then skw key v x l else skw key v x r)
section
variable {sc : Nat × (Nat → Int32)} {SH : List mCell} {S : mStore} {a : Nat} {P : aP} {A : aS}
theorem cmp_1 (h0 : sState SH a) {x y s : Int} (hs : 0 ≤ s ∧ s ≤ 12) {u : Option Value} {r : mR × mW} (h1 : nb x s = nb y s → G sc MX7_compared 3 [some (.ref a), some (.int (I x)), some (.int (I y)), some (.int (I (s + (-4)))), some (.int (I (nb x s - nb y s)))] [] SH (up S (a + 19) 3 (S (a + 19) 3 + 1)) r) (h2 : nb x s ≠ nb y s → r = rI (nb x s - nb y s) SH (up S (a + 19) 3 (S (a + 19) 3 + 1))) : G sc MX7_compared 3 [some (.ref a), some (.int (I x)), some (.int (I y)), some (.int (I s)), u] [] SH S r := by
  refine qX7_compared_3 h0 ?_
  have a1 := nb_rg x s
  have b1 := nb_rg y s
  change if I s < I 0 then _ else _ ∧ _ ∧ if I (nb x s - nb y s) = I 0 then _ else _
  simp (disch := omega) only [iL, iE, iQ, ipos, ineg, an, if_true, if_false]
  by_cases e : nb x s = nb y s
  · rw [if_pos (by omega)]; exact h1 e
  · rw [if_neg (by omega)]; exact h2 e
theorem cmp_end (h0 : sState SH a) {x y s : Int} (hs : s = -4) {u : Option Value} : G sc MX7_compared 3 [some (.ref a), some (.int (I x)), some (.int (I y)), some (.int (I s)), u] [] SH S (rI 0 SH S) := by
  refine qX7_compared_3 h0 ?_
  simp (disch := omega) only [iL, iE, iQ, ipos, ineg, an, if_true, if_false]
theorem cmp_ok (h0 : sState SH a) {x y : Int} {u u' : Option Value} : G sc MX7_compared 0 [some (.ref a), some (.int (I x)), some (.int (I y)), u, u'] [] SH S (rI (cmpA x y).1 SH (up S (a + 19) 3 (S (a + 19) 3 + (cmpA x y).2))) := by
  refine qX7_compared_0 h0 ?_
  unfold cmpA
  refine cmp_1 h0 (by decide) (fun e1 => ?_) (fun e1 => by rw [if_pos e1])
  rw [if_neg (fun q => q e1), show (12 : Int) + -4 = 8 from rfl]
  refine cmp_1 h0 (by decide) (fun e2 => ?_) (fun e2 => by rw [if_pos e2, up_at, if_pos rfl, up_up]; rw [show S (a + 19) 3 + 1 + 1 = S (a + 19) 3 + 2 by omega])
  rw [if_neg (fun q => q e2), show (8 : Int) + -4 = 4 from rfl, up_at, if_pos rfl, up_up]
  refine cmp_1 h0 (by decide) (fun e3 => ?_) (fun e3 => by rw [if_pos e3, up_at, if_pos rfl, up_up]; rw [show S (a + 19) 3 + 1 + 1 + 1 = S (a + 19) 3 + 3 by omega])
  rw [if_neg (fun q => q e3), show (4 : Int) + -4 = 0 from rfl, up_at, if_pos rfl, up_up]
  refine cmp_1 h0 (by decide) (fun e4 => ?_) (fun e4 => by rw [up_at, if_pos rfl, up_up]; rw [show S (a + 19) 3 + 1 + 1 + 1 + 1 = S (a + 19) 3 + 4 by omega])
  rw [show (0 : Int) + -4 = -4 from rfl, up_at, if_pos rfl, up_up, show S (a + 19) 3 + 1 + 1 + 1 + 1 = S (a + 19) 3 + 4 by omega, show nb x 0 - nb y 0 = 0 by omega]
  exact cmp_end h0 rfl
/-- the frame that a knot goes by -/
def keyA (A : aS) (st : Int) (k : Int) : Int := if st = 0 then A.w k else hd (A.C k)
theorem key_rg (hA : wfA P A) (st k : Int) : -1 ≤ keyA A st k ∧ keyA A st k < 48 := by
  unfold keyA
  split
  · exact hA.1.2.2 k
  · exact (wf_hd hA.2.1 k).1
abbrev seeS (S : mStore) (a : Nat) (A : aS) : Prop := (∀ k, 0 ≤ k → k < 48 → S (a + 2) k = A.w k) ∧ (∀ k, 0 ≤ k → k < 48 → S (a + 8) k = hd (A.C k)) ∧ (∀ k, 0 ≤ k → k < 48 → S (a + 13) k = A.v 0 k)
theorem seek_lp (h0 : sState SH a) (hA : wfA P A) {y : Nat} (hy : ar SH y 99) (hy2 : y ≠ a + 19) {st ρ x : Int} (hst : st = 0 ∨ st = 1) : ∀ (t : Tr) (s n d : Int) (A' B' : List (Int × Int)) {S : mStore} {u8 u9 : Option Value}, seeS S a A → hg (S y) t s → (∀ k ∈ lb t, k < 48) → 0 ≤ s → s < 99 → 0 ≤ n → n + (lb t).length ≤ 48 → G sc MX7_seek 39 [some (.ref a), some (.int (I st)), some (.int (I ρ)), some (.int (I x)), some (.ref y), some (.int (I s)), some (.int (I (rt t))), some (.int (I n)), u8, u9] [] SH S (rI (skc (keyA A st) (A.v 0) x t s d A' B').1 SH (up S (a + 19) 3 (S (a + 19) 3 + skw (keyA A st) (A.v 0) x t)))
  | .leaf _, s, n, d, A', B', S, u8, u9, hs, hh, hb, hs0, hs9, hn, hl => by
    have e : up S (a + 19) 3 (S (a + 19) 3 + skw (keyA A st) (A.v 0) x (.leaf ())) = S := up_self (by unfold skw; omega)
    refine qX7_seek_39 h0 hy ?_
    rw [e]
    simp only [rt, skc]
    simp (disch := omega) only [iL, iE, iQ, ipos, ineg, an, if_true, if_false, ite_self]
  | .branch k l r, s, n, d, A', B', S, u8, u9, hs, hh, hb, hs0, hs9, hn, hl => by
    have hk := hb k (List.mem_append_right _ (List.mem_cons_self ..))
    rw [lb, List.length_append, List.length_cons] at hl
    have hkr := key_rg hA st k
    have h39 : ∀ r', (if keyA A st k = -1 then r' = rI s SH S else ∃ v S1, G sc MX7_compared 0 [some (.ref a), some (.int (I x)), some (.int (I (A.v 0 (keyA A st k)))), none, none] [] SH S (rI v SH S1) ∧ (if I v = I 0 then r' = rI s SH S1 else (if I 0 ≤ I v then G sc MX7_seek 131 [some (.ref a), some (.int (I st)), some (.int (I ρ)), some (.int (I x)), some (.ref y), some (.int (I s)), some (.int (I k)), some (.int (I n)), some (.int (I (keyA A st k))), some (.int (I v))] [.int (I (2 * k + 1))] SH S1 r' else G sc MX7_seek 131 [some (.ref a), some (.int (I st)), some (.int (I ρ)), some (.int (I x)), some (.ref y), some (.int (I s)), some (.int (I k)), some (.int (I n)), some (.int (I (keyA A st k))), some (.int (I v))] [.int (I (2 * k))] SH S1 r'))) → G sc MX7_seek 39 [some (.ref a), some (.int (I st)), some (.int (I ρ)), some (.int (I x)), some (.ref y), some (.int (I s)), some (.int (I (rt (.branch k l r)))), some (.int (I n)), u8, u9] [] SH S r' := by
      intro r' hg
      refine qX7_seek_39 h0 hy ?_
      simp only [rt]
      rw [hs.1 k (by omega) (by omega), hs.2.1 k (by omega) (by omega)]
      rcases hst with rfl | rfl
      · have ek : keyA A 0 k = A.w k := if_pos rfl
        rw [ek] at hg hkr
        simp (disch := omega) only [iL, iE, iQ, ipos, ineg, an, if_true, if_false]
        by_cases e : A.w k = -1
        · rw [if_pos e] at hg ⊢
          exact hg
        · rw [if_neg e] at hg ⊢
          rw [hs.2.2 _ (by omega) (by omega)]
          exact hg
      · have ek : keyA A 1 k = hd (A.C k) := if_neg (by decide)
        rw [ek] at hg hkr
        simp (disch := omega) only [iL, iE, iQ, ipos, ineg, an, if_true, if_false]
        by_cases e : hd (A.C k) = -1
        · rw [if_pos e] at hg ⊢
          exact hg
        · rw [if_neg e] at hg ⊢
          rw [hs.2.2 _ (by omega) (by omega)]
          exact hg
    refine h39 _ ?_
    unfold skc skw
    by_cases e : keyA A st k = -1
    · rw [if_pos e, if_pos (.inl e), if_pos e, up_self (by omega)]
    · rw [if_neg e, if_neg e]
      refine ⟨_, _, cmp_ok h0, ?_⟩
      have hc := cmpA_rg x (A.v 0 (keyA A st k))
      have hs1 : seeS (up S (a + 19) 3 (S (a + 19) 3 + (cmpA x (A.v 0 (keyA A st k))).2)) a A := by
        unfold seeS
        rw [up_ne (by omega), up_ne (by omega), up_ne (by omega)]
        exact hs
      by_cases e2 : (cmpA x (A.v 0 (keyA A st k))).1 = 0
      · have hor : keyA A st k = -1 ∨ (cmpA x (A.v 0 (keyA A st k))).1 = 0 := .inr e2
        rw [if_pos hor, if_pos e2, e2]
        simp (disch := omega) only [iL, iE, iQ, ipos, ineg, an, if_true, if_false, Int.add_zero]
      · have hnor : ¬ (keyA A st k = -1 ∨ (cmpA x (A.v 0 (keyA A st k))).1 = 0) := fun q => q.elim e e2
        rw [if_neg hnor, if_neg e2]
        by_cases e3 : (cmpA x (A.v 0 (keyA A st k))).1 < 0
        · rw [if_pos e3, if_pos e3]
          simp (disch := omega) only [iL, iE, iQ, ipos, ineg, an, if_true, if_false]
          refine qX7_seek_131 h0 hy ?_
          simp (disch := omega) only [iL, iE, iQ, ipos, ineg, an, if_true, if_false]
          have hh1 : hg (up S (a + 19) 3 (S (a + 19) 3 + (cmpA x (A.v 0 (keyA A st k))).2) y) l (2 * (k : Int)) := by rw [up_ne hy2]; exact hh.2.1
          rw [hg_rt hh1]
          have q := seek_lp h0 hA hy hy2 (ρ := ρ) (x := x) hst l (2 * (k : Int)) (n + 1) (d + 1) A' (((k : Int), d) :: fd r (d + 1) ++ B') (u8 := some (.int (I (keyA A st k)))) (u9 := some (.int (I (cmpA x (A.v 0 (keyA A st k))).1))) hs1 hh1 (fun j hj => hb j (List.mem_append_left _ hj)) (by omega) (by omega) (by omega) (by omega)
          rw [up_at, if_pos rfl, up_up, Int.add_assoc] at q
          exact q
        · rw [if_neg e3, if_neg e3]
          simp (disch := omega) only [iL, iE, iQ, ipos, ineg, an, if_true, if_false]
          refine qX7_seek_131 h0 hy ?_
          simp (disch := omega) only [iL, iE, iQ, ipos, ineg, an, if_true, if_false]
          have hh1 : hg (up S (a + 19) 3 (S (a + 19) 3 + (cmpA x (A.v 0 (keyA A st k))).2) y) r (2 * (k : Int) + 1) := by rw [up_ne hy2]; exact hh.2.2
          rw [hg_rt hh1]
          have q := seek_lp h0 hA hy hy2 (ρ := ρ) (x := x) hst r (2 * (k : Int) + 1) (n + 1) (d + 1) (A' ++ fd l (d + 1) ++ [((k : Int), d)]) B' (u8 := some (.int (I (keyA A st k)))) (u9 := some (.int (I (cmpA x (A.v 0 (keyA A st k))).1))) hs1 hh1 (fun j hj => hb j (List.mem_append_right _ (List.mem_cons_of_mem _ hj))) (by omega) (by omega) (by omega) (by omega)
          rw [up_at, if_pos rfl, up_up, Int.add_assoc] at q
          exact q
theorem seek_ok (h0 : sState SH a) (hA : wfA P A) (hs : stateR S a A) {st ρ x : Int} (hst : st = 0 ∨ st = 1) (hρ : 0 ≤ ρ ∧ ρ < 3) {u4 u5 u6 u7 u8 u9 : Option Value} : G sc MX7_seek 0 [some (.ref a), some (.int (I st)), some (.int (I ρ)), some (.int (I x)), u4, u5, u6, u7, u8, u9] [] SH S (rI (skc (keyA A st) (A.v 0) x ((if st = 0 then A.tw else A.ts) ρ) (96 + ρ) 0 [] []).1 SH (up S (a + 19) 3 (A.v 6 3 + skw (keyA A st) (A.v 0) x ((if st = 0 then A.tw else A.ts) ρ)))) := by
  refine qX7_seek_0 h0 ?_
  have hss : seeS S a A := ⟨hs.1.1, hs.2.1.2.1, hs.2.2.2.2.1⟩
  have e6 : S (a + 19) 3 = A.v 6 3 := hs.2.2.2.2.2.2.2.2.2.2 3 (by omega) (by omega)
  rw [← e6]
  rcases hst with rfl | rfl
  · simp (disch := omega) only [iL, iE, iQ, ipos, ineg, an, if_true, if_false]
    rw [hg_rt (hs.2.2.2.1.1 ρ hρ.1 hρ.2)]
    exact seek_lp h0 hA h0.2.2.2.2.1.2 (by omega) (.inl rfl) (A.tw ρ) (96 + ρ) 0 0 [] [] hss (hs.2.2.2.1.1 ρ hρ.1 hρ.2) (fun j hj => hA.2.2.2.1.2 j (al_in hρ.1 hρ.2 hj)) (by omega) (by omega) (by omega) (by have := lb_len hA.2.2.2.1 hρ.1 hρ.2; omega)
  · simp (disch := omega) only [iL, iE, iQ, ipos, ineg, an, if_true, if_false]
    rw [hg_rt (hs.2.2.1.1 ρ hρ.1 hρ.2)]
    exact seek_lp h0 hA h0.2.2.2.1.2 (by omega) (.inr rfl) (A.ts ρ) (96 + ρ) 0 0 [] [] hss (hs.2.2.1.1 ρ hρ.1 hρ.2) (fun j hj => hA.2.2.1.2 j (al_in hρ.1 hρ.2 hj)) (by omega) (by omega) (by omega) (by have := lb_len hA.2.2.1 hρ.1 hρ.2; omega)
end
