/-! ===== the reference: a search goes down a tree ===== -/
/-- what a search leaves -/
abbrev sfound (S S' : mStore) (b : Int) (key : Int → Int) (e : mCx) (work : Int) : Prop := (∀ i, i ≠ b + 3 → S' 91 i = S 91 i) ∧ S' 91 (b + 3) = S 91 (b + 3) + work ∧ (∀ j, j ≠ 90 → j ≠ 91 → S' j = S j) ∧ (∀ i, i < 28 ∨ 31 < i → S' 90 i = S 90 i) ∧ (rt e.2.1 = -1 → S' 90 30 = -1 ∧ S' 90 31 = 0 ∧ S' 90 28 = e.2.2.2.1.length ∧ S' 90 29 = e.2.2.1) ∧ (rt e.2.1 ≠ -1 → key (rt e.2.1) = -1 → S' 90 30 = -1 ∧ S' 90 31 = 1) ∧ (rt e.2.1 ≠ -1 → key (rt e.2.1) ≠ -1 → S' 90 30 = foundA e ∧ S' 90 31 = 0)
section
variable {sc : Nat × (Nat → Int32)} {SH : List mCell} {b N : Int} {P : aP}
theorem rsea_lp (h0 : sMod SH) (hb : 0 ≤ b ∧ b ≤ 135000) (hN : N < 2147483648) {st x : Int} (hst : st = 0 ∨ st = 1) {t : Int} (ht : b + 1072 ≤ t ∧ t + 97 ≤ b + 1654) {l : List (Int × Int)} (hl : l.length ≤ 48) (hlp : ∀ y ∈ l, (0 ≤ y.1 ∧ y.1 < 48) ∧ 0 ≤ y.2 ∧ y.2 < 48) : ∀ (u : Tr) (s d : Int) (A' B' : List (Int × Int)) {S : mStore} {A : aS} {u6 u7 u8 : Option Value}, refR S b A N → wfA P A → soughtR S x → rowl (S 91) t l → l = A' ++ fd u d ++ B' → S 90 29 = d → S 90 30 = -1 → S 90 31 = 0 → ∃ S', G sc MX11_searches 26 [some (.ref 90), some (.int (I b)), some (.int (I t)), some (.int (I st)), some (.int (I A'.length)), some (.int (I (A'.length + (fd u d).length))), u6, u7, u8] [] SH S (rV SH S') ∧ sfound S S' b (keyA A st) (skc (keyA A st) (A.v 0) x u s d A' B') (skw (keyA A st) (A.v 0) x u)
  | .leaf _, s, d, A', B', S, A, u6, u7, u8, hr, hA, hx, hrow, he, h29, h30, h31 => by
    have hlen : l.length = A'.length + B'.length := by rw [he]; simp [fd]
    refine ⟨up S 90 28 A'.length, qX11_searches_26 h0 ?_, ⟨fun i _ => by rw [up_ne (by decide)], by rw [up_ne (by decide)]; unfold skw; omega, fun j hj _ => up_ne hj, fun i hi => by rw [up_at, if_neg (by omega)], fun _ => ⟨by rw [up_at, if_neg (by decide)]; exact h30, by rw [up_at, if_neg (by decide)]; exact h31, by rw [up_at, if_pos rfl]; rfl, by rw [up_at, if_neg (by decide)]; exact h29⟩, fun h => absurd rfl h, fun h => absurd rfl h⟩⟩
    simp only [fd, List.length_nil, Int.natCast_zero, Int.add_zero]
    simp (disch := omega) only [iL, iE, iQ, ipos, ineg, an, if_true, if_false]
  | .branch k ul ur, s, d, A', B', S, A, u6, u7, u8, hr, hA, hx, hrow, he, h29, h30, h31 => by
    have e2 : l = A' ++ fd ul (d + 1) ++ ((k : Int), d) :: (fd ur (d + 1) ++ B') := by rw [he, fd]; simp
    have hflen : (fd (.branch k ul ur) d).length = (fd ul (d + 1)).length + 1 + (fd ur (d + 1)).length := by rw [fd]; simp only [List.length_append, List.length_cons]; omega
    have hlen : l.length = A'.length + (fd ul (d + 1)).length + 1 + (fd ur (d + 1)).length + B'.length := by rw [e2]; simp only [List.length_append, List.length_cons]; omega
    have hmk : ((k : Int), d) ∈ l := by rw [e2]; exact List.mem_append_right _ (List.mem_cons_self ..)
    have hkb := (hlp _ hmk).1
    have hdb := (hlp _ hmk).2
    dsimp only at hkb hdb
    have gk : gl l (A'.length + (fd ul (d + 1)).length) = ((k : Int), d) := by rw [e2, gl_ge (by rw [List.length_append]; omega), gl_0 _ _ (by rw [List.length_append]; omega)]
    have gtop := rtop_ok (sc := sc) h0 (t := t) (n := l.length) ⟨by omega, by omega⟩ (by omega) hrow (fun i h1 h2 => (hlp _ (gl_mem h1 h2)).2) (lo := A'.length) (hi := A'.length + (fd (.branch k ul ur) d).length) (z := d) (j := A'.length + (fd ul (d + 1)).length) (by omega) (by omega) ⟨by omega, by omega⟩ (by unfold df; rw [gk]) (fun i h1 h2 => by
      unfold df
      rw [e2, gl_lt (by omega) (by rw [List.length_append]; omega), gl_ge h1]
      have := fd_ge (gl_mem (l := fd ul (d + 1)) (i := i - A'.length) (by omega) (by omega))
      omega) (u := none)
    have elb : S 91 (t + 1 + (A'.length + (fd ul (d + 1)).length)) = k := by
      rw [(hrow.2 _ (by omega) (by omega)).1]; unfold pf; rw [gk]
    have gco := rco_ok (sc := sc) h0 hb hN hr hA (k := (k : Int)) hst hkb (u := none)
    have hkr := key_rg hA st (k : Int)
    have hfk : foundA (s, .branch k ul ur, d, A', B') = A'.length + (fd ul (d + 1)).length := by unfold foundA; rw [fd_len]
    by_cases c1 : keyA A st k = -1
    · rw [if_pos c1] at gco
      have esk : skc (keyA A st) (A.v 0) x (.branch k ul ur) s d A' B' = (s, .branch k ul ur, d, A', B') := by unfold skc; exact if_pos (.inl c1)
      have ewk : skw (keyA A st) (A.v 0) x (.branch k ul ur) = 0 := by unfold skw; exact if_pos c1
      rw [esk, ewk]
      refine ⟨up S 90 31 1, qX11_searches_26 h0 ?_, ⟨fun i _ => by rw [up_ne (by decide)], by rw [up_ne (by decide)]; omega, fun j hj _ => up_ne hj, fun i hi => by rw [up_at, if_neg (by omega)], fun h => by simp only [rt] at h; omega, fun _ _ => ⟨by rw [up_at, if_neg (by decide)]; exact h30, by rw [up_at, if_pos rfl]⟩, fun _ h => absurd c1 h⟩⟩
      rw [h29]
      simp (disch := omega) only [iL, iE, iQ, ipos, ineg, an, if_true, if_false]
      refine ⟨_, _, gtop, ⟨by omega, by omega⟩, ?_⟩
      rw [elb]
      refine ⟨_, _, gco, ?_⟩
      rw [if_pos rfl, up_at, if_pos rfl, if_neg (by decide)]
      exact ⟨.inr trivial, rfl⟩
    · rw [if_neg c1] at gco
      have h310 : up S 90 31 0 = S := up_self h31
      have gcm := rcmp_ok (sc := sc) h0 hb (f := keyA A st k) (y := A.v 0 (keyA A st k)) ⟨by omega, hkr.2⟩ hx (fun c a e => hr.2.2.2.2.2.2.2.2.1 _ c (by omega) hkr.2 a e) (u := none) (u' := none)
      have hcr := cmpA_rg x (A.v 0 (keyA A st k))
      have hstart : ∀ r, (if (cmpA x (A.v 0 (keyA A st k))).1 = 0 then r = rV SH (up (up S 91 (b + 3) (S 91 (b + 3) + (cmpA x (A.v 0 (keyA A st k))).2)) 90 30 (A'.length + (fd ul (d + 1)).length)) else (if 0 ≤ (cmpA x (A.v 0 (keyA A st k))).1 then G sc MX11_searches 26 [some (.ref 90), some (.int (I b)), some (.int (I t)), some (.int (I st)), some (.int (I (A'.length + (fd ul (d + 1)).length + 1))), some (.int (I (A'.length + (fd (.branch k ul ur) d).length))), some (.int (I (A'.length + (fd ul (d + 1)).length))), some (.int (I (352 + 4 * keyA A st k))), some (.int (I (cmpA x (A.v 0 (keyA A st k))).1))] [] SH (up (up S 91 (b + 3) (S 91 (b + 3) + (cmpA x (A.v 0 (keyA A st k))).2)) 90 29 (d + 1)) r else G sc MX11_searches 26 [some (.ref 90), some (.int (I b)), some (.int (I t)), some (.int (I st)), some (.int (I A'.length)), some (.int (I (A'.length + (fd ul (d + 1)).length))), some (.int (I (A'.length + (fd ul (d + 1)).length))), some (.int (I (352 + 4 * keyA A st k))), some (.int (I (cmpA x (A.v 0 (keyA A st k))).1))] [] SH (up (up S 91 (b + 3) (S 91 (b + 3) + (cmpA x (A.v 0 (keyA A st k))).2)) 90 29 (d + 1)) r)) → G sc MX11_searches 26 [some (.ref 90), some (.int (I b)), some (.int (I t)), some (.int (I st)), some (.int (I A'.length)), some (.int (I (A'.length + (fd (.branch k ul ur) d).length))), u6, u7, u8] [] SH S r := fun r hrr => by
        refine qX11_searches_26 h0 ?_
        rw [h29]
        simp (disch := omega) only [iL, iE, iQ, ipos, ineg, an, if_true, if_false]
        refine ⟨_, _, gtop, ⟨by omega, by omega⟩, ?_⟩
        rw [elb]
        refine ⟨_, _, gco, ?_⟩
        rw [if_neg (by rw [I_eq ⟨by omega, by omega⟩ ⟨by omega, by omega⟩]; omega), h310, h31, if_pos rfl]
        refine ⟨.inl trivial, _, _, gcm, ?_⟩
        rw [show up S 91 (b + 3) (S 91 (b + 3) + (cmpA x (A.v 0 (keyA A st k))).2) 90 29 = d by rw [up_ne (by decide)]; exact h29]
        simp (disch := omega) only [iL, iE, iQ]
        exact hrr
      have hr1 : refR (up (up S 91 (b + 3) (S 91 (b + 3) + (cmpA x (A.v 0 (keyA A st k))).2)) 90 29 (d + 1)) b (A.sv 6 3 (S 91 (b + 3) + (cmpA x (A.v 0 (keyA A st k))).2)) N := refR_far (refR_v6 hr hA.2.1 (i := 3) (x := S 91 (b + 3) + (cmpA x (A.v 0 (keyA A st k))).2) (by decide)) (up_ne (by decide))
      have hx1 : soughtR (up (up S 91 (b + 3) (S 91 (b + 3) + (cmpA x (A.v 0 (keyA A st k))).2)) 90 29 (d + 1)) x := fun c a e => by rw [up_ne (by decide), up_ne (by decide)]; exact hx c a e
      have hrow1 : rowl (up (up S 91 (b + 3) (S 91 (b + 3) + (cmpA x (A.v 0 (keyA A st k))).2)) 90 29 (d + 1) 91) t l := rowl_cong hrow hl (fun i i1 i2 => by rw [up_ne (by decide), up_at, if_neg (by omega)])
      by_cases c2 : (cmpA x (A.v 0 (keyA A st k))).1 = 0
      · have esk : skc (keyA A st) (A.v 0) x (.branch k ul ur) s d A' B' = (s, .branch k ul ur, d, A', B') := by unfold skc; exact if_pos (.inr c2)
        have ewk : skw (keyA A st) (A.v 0) x (.branch k ul ur) = (cmpA x (A.v 0 (keyA A st k))).2 := by unfold skw; rw [if_neg c1, if_pos c2, Int.add_zero]
        rw [esk, ewk]
        refine ⟨_, hstart _ (by rw [if_pos c2]), ⟨fun i hi => by rw [up_ne (by decide), up_at, if_neg hi], by rw [up_ne (by decide), up_at, if_pos rfl], fun j hj hj2 => by rw [up_ne hj, up_ne hj2], fun i hi => by rw [up_at, if_neg (by omega), up_ne (by decide)], fun h => by simp only [rt] at h; omega, fun _ h => absurd h c1, fun _ _ => ⟨by rw [up_at, if_pos rfl, hfk], by rw [up_at, if_neg (by decide), up_ne (by decide)]; exact h31⟩⟩⟩
      · have hnor : ¬ (keyA A st k = -1 ∨ (cmpA x (A.v 0 (keyA A st k))).1 = 0) := fun q => q.elim c1 c2
        by_cases c3 : (cmpA x (A.v 0 (keyA A st k))).1 < 0
        · have esk : skc (keyA A st) (A.v 0) x (.branch k ul ur) s d A' B' = skc (keyA A st) (A.v 0) x ul (2 * (k : Int)) (d + 1) A' (((k : Int), d) :: fd ur (d + 1) ++ B') := by rw [skc, if_neg hnor, if_pos c3]
          have ewk : skw (keyA A st) (A.v 0) x (.branch k ul ur) = (cmpA x (A.v 0 (keyA A st k))).2 + skw (keyA A st) (A.v 0) x ul := by rw [skw, if_neg c1, if_neg c2, if_pos c3]
          obtain ⟨S', g', f1, f2, f3, f4, f5, f6, f7⟩ := rsea_lp h0 hb hN (x := x) hst ht hl hlp ul (2 * (k : Int)) (d + 1) A' (((k : Int), d) :: fd ur (d + 1) ++ B') (u6 := some (.int (I (A'.length + (fd ul (d + 1)).length)))) (u7 := some (.int (I (352 + 4 * keyA A st k)))) (u8 := some (.int (I (cmpA x (A.v 0 (keyA A st k))).1))) hr1 (wf_work hA) hx1 hrow1 (by rw [e2]; simp) (by rw [up_at, if_pos rfl]) (by rw [up_at, if_neg (by decide), up_ne (by decide)]; exact h30) (by rw [up_at, if_neg (by decide), up_ne (by decide)]; exact h31)
          rw [v0_6] at f2 f5 f6 f7
          rw [esk, ewk]
          refine ⟨S', hstart _ ?_, ⟨fun i hi => by rw [f1 i hi, up_ne (by decide), up_at, if_neg hi], by rw [f2, up_ne (by decide), up_at, if_pos rfl, Int.add_assoc]; rfl, fun j hj hj2 => by rw [f3 j hj hj2, up_ne hj, up_ne hj2], fun i hi => by rw [f4 i hi, up_at, if_neg (by omega), up_ne (by decide)], f5, f6, f7⟩⟩
          rw [if_neg c2, if_neg (by omega)]
          exact g'
        · have esk : skc (keyA A st) (A.v 0) x (.branch k ul ur) s d A' B' = skc (keyA A st) (A.v 0) x ur (2 * (k : Int) + 1) (d + 1) (A' ++ fd ul (d + 1) ++ [((k : Int), d)]) B' := by rw [skc, if_neg hnor, if_neg c3]
          have ewk : skw (keyA A st) (A.v 0) x (.branch k ul ur) = (cmpA x (A.v 0 (keyA A st k))).2 + skw (keyA A st) (A.v 0) x ur := by rw [skw, if_neg c1, if_neg c2, if_neg c3]
          obtain ⟨S', g', f1, f2, f3, f4, f5, f6, f7⟩ := rsea_lp h0 hb hN (x := x) hst ht hl hlp ur (2 * (k : Int) + 1) (d + 1) (A' ++ fd ul (d + 1) ++ [((k : Int), d)]) B' (u6 := some (.int (I (A'.length + (fd ul (d + 1)).length)))) (u7 := some (.int (I (352 + 4 * keyA A st k)))) (u8 := some (.int (I (cmpA x (A.v 0 (keyA A st k))).1))) hr1 (wf_work hA) hx1 hrow1 (by rw [e2]; simp) (by rw [up_at, if_pos rfl]) (by rw [up_at, if_neg (by decide), up_ne (by decide)]; exact h30) (by rw [up_at, if_neg (by decide), up_ne (by decide)]; exact h31)
          rw [v0_6] at f2 f5 f6 f7
          rw [esk, ewk]
          refine ⟨S', hstart _ ?_, ⟨fun i hi => by rw [f1 i hi, up_ne (by decide), up_at, if_neg hi], by rw [f2, up_ne (by decide), up_at, if_pos rfl, Int.add_assoc]; rfl, fun j hj hj2 => by rw [f3 j hj hj2, up_ne hj, up_ne hj2], fun i hi => by rw [f4 i hi, up_at, if_neg (by omega), up_ne (by decide)], f5, f6, f7⟩⟩
          rw [if_neg c2, if_pos (by omega)]
          have el1 : ((A' ++ fd ul (d + 1) ++ [((k : Int), d)]).length : Int) = A'.length + (fd ul (d + 1)).length + 1 := by simp only [List.length_append, List.length_cons, List.length_nil]; omega
          have el2 : ((A' ++ fd ul (d + 1) ++ [((k : Int), d)]).length : Int) + (fd ur (d + 1)).length = A'.length + (fd (.branch k ul ur) d).length := by rw [el1]; omega
          rw [el2, el1] at g'
          exact g'
end
