/-! ===== the class's State: what befalls a page ===== -/
def lookA (P : aP) (A : aS) (p : Int) : Int × aS :=
  if roomA P A (rt (skc (keyA A 1) (A.v 0) (A.v 0 (A.w p)) (A.ts (rlm P p)) (96 + rlm P p) 0 [] []).2.1) ≠ -1 then (5, lieIn (unlie (A.sv 6 3 (A.v 6 3 + skw (keyA A 1) (A.v 0) (A.v 0 (A.w p)) (A.ts (rlm P p)))) p) p (roomA P A (rt (skc (keyA A 1) (A.v 0) (A.v 0 (A.w p)) (A.ts (rlm P p)) (96 + rlm P p) 0 [] []).2.1)))
  else if I (A.v 3 p) = I (sumA (A.v 0 (A.w p))) then
    (if rt (skc (keyA A 0) (A.v 0) (A.v 0 (A.w p)) (A.tw (rlm P p)) (96 + rlm P p) 0 [] []).2.1 = -1 then (9, (A.sv 6 3 (A.v 6 3 + skw (keyA A 1) (A.v 0) (A.v 0 (A.w p)) (A.ts (rlm P p)) + skw (keyA A 0) (A.v 0) (A.v 0 (A.w p)) (A.tw (rlm P p)))).stw (insT (keyA A 0) (A.v 0) (A.v 0 (A.w p)) p.toNat A.tw (rlm P p)))
    else if A.w (rt (skc (keyA A 0) (A.v 0) (A.v 0 (A.w p)) (A.tw (rlm P p)) (96 + rlm P p) 0 [] []).2.1) = -1 then (7, A.sv 6 3 (A.v 6 3 + skw (keyA A 1) (A.v 0) (A.v 0 (A.w p)) (A.ts (rlm P p)) + skw (keyA A 0) (A.v 0) (A.v 0 (A.w p)) (A.tw (rlm P p))))
    else (8, pairA (A.sv 6 3 (A.v 6 3 + skw (keyA A 1) (A.v 0) (A.v 0 (A.w p)) (A.ts (rlm P p)) + skw (keyA A 0) (A.v 0) (A.v 0 (A.w p)) (A.tw (rlm P p)))) (rlm P p) (A.v 0 (A.w p)) p (rt (skc (keyA A 0) (A.v 0) (A.v 0 (A.w p)) (A.tw (rlm P p)) (96 + rlm P p) 0 [] []).2.1)))
  else (6, (A.sv 6 3 (A.v 6 3 + skw (keyA A 1) (A.v 0) (A.v 0 (A.w p)) (A.ts (rlm P p)))).sv 3 p (sumA (A.v 0 (A.w p))))
def befA (P : aP) (A : aS) (p : Int) : Int × aS :=
  if A.w p = -1 then (1, A.sv 3 p (-1))
  else if A.k (A.w p) ≠ -1 then (2, A)
  else if P 0 5 ≠ 0 ∧ ¬ (I (A.v 5 p) ≤ I 0) then (3, A.sv 5 p (A.v 5 p - 1))
  else if P 0 4 ≠ 0 ∧ A.v 0 (A.w p) = 0 then (4, (unlie A p).sv 3 p (-1))
  else lookA P A p
theorem roomL_mem (sh : Int) (len : Int → Int) : ∀ (t : List Int) (best most : Int), roomL sh len t best most = best ∨ (roomL sh len t best most ∈ t ∧ len (roomL sh len t best most) < sh)
  | [], best, most => .inl rfl
  | f :: t, best, most => by
    unfold roomL
    split
    · rename_i c
      rcases roomL_mem sh len t f (len f) with h | h
      · right; rw [h]; exact ⟨List.mem_cons_self .., c.1⟩
      · right; exact ⟨List.mem_cons_of_mem _ h.1, h.2⟩
    · rcases roomL_mem sh len t best most with h | h
      · exact .inl h
      · right; exact ⟨List.mem_cons_of_mem _ h.1, h.2⟩
theorem roomA_mem {P : aP} {A : aS} {k : Int} (h : roomA P A k ≠ -1) : roomA P A k ∈ A.C k ∧ ((A.L (roomA P A k)).length : Int) < P 0 1 := by
  revert h
  unfold roomA
  split
  · intro h; exact absurd rfl h
  · intro h
    rcases roomL_mem (P 0 1) (fun f => ((A.L f).length : Int)) (A.C k) (-1) 0 with q | q
    · exact absurd q h
    · exact q
theorem v0_6 (A : aS) (i y : Int) : (A.sv 6 i y).v 0 = A.v 0 := by
  show up A.v 6 i y 0 = A.v 0
  exact up_ne (by decide)
section
variable {sc : Nat × (Nat → Int32)} {SH : List mCell} {S : mStore} {a : Nat} {P : aP} {A : aS}
theorem rt_rg {h : Int → Int} {T : Int → Tr} {key v : Int → Int} {x ρ : Int} (hw : wfT T) (ht : treeR h T) (hρ : 0 ≤ ρ ∧ ρ < 3) : -1 ≤ rt (skc key v x (T ρ) (96 + ρ) 0 [] []).2.1 ∧ rt (skc key v x (T ρ) (96 + ρ) 0 [] []).2.1 < 48 := by
  have hsl := skc_slot (key := key) (v := v) (x := x) hw hρ
  rw [← skc_rt ht hρ]
  exact slot_rg hw ht hsl.1 hsl.2
theorem look_ok (h0 : sState SH a) (ha : 6 ≤ a) (hp : planR S 1 P) (hP : wfP P) (hs : stateR S a A) (hA : wfA P A) {p : Int} (hpp : 0 ≤ p ∧ p < P 0 7) (hwp : A.w p ≠ -1) (hkp : A.k (A.w p) = -1) (hcur : ∀ ρ, 0 ≤ ρ → ρ < 3 → p ∉ lb (A.tw ρ)) {u4 u5 u6 u7 u8 : Option Value} {f : Int} : ∃ S', G sc MX7_befall 108 [some (.ref a), some (.int (I p)), some (.int (I f)), some (.int (I (A.v 0 (A.w p)))), u4, u5, u6, u7, u8] [] SH S (rI (lookA P A p).1 SH S') ∧ stateR S' a (lookA P A p).2 ∧ (∀ j, j < a ∨ a + 20 ≤ j → S' j = S j) := by
  have hP7 := hP.2.2.2.2.2.1
  have hρ := rlm_rg hP hpp
  have bw := hA.1.2.2 p
  have g1 := realm_ok (sc := sc) (S := S) h0.2.2.2.2.2.2.2.2.2.2.2.2 hp hP hpp
  have g2 := seek_ok (sc := sc) h0 hA hs (st := 1) (x := A.v 0 (A.w p)) (.inr rfl) hρ (u4 := none) (u5 := none) (u6 := none) (u7 := none) (u8 := none) (u9 := none)
  rw [if_neg (by decide)] at g2
  have s2 := stateR_v6 hs 3 (A.v 6 3 + skw (keyA A 1) (A.v 0) (A.v 0 (A.w p)) (A.ts (rlm P p)))
  have hsl := skc_slot (key := keyA A 1) (v := A.v 0) (x := A.v 0 (A.w p)) hA.2.2.1 hρ
  have hrr := rt_rg (key := keyA A 1) (v := A.v 0) (x := A.v 0 (A.w p)) hA.2.2.1 hs.2.2.1 hρ
  have hrt : up S (a + 19) 3 (A.v 6 3 + skw (keyA A 1) (A.v 0) (A.v 0 (A.w p)) (A.ts (rlm P p))) (a + 10) (skc (keyA A 1) (A.v 0) (A.v 0 (A.w p)) (A.ts (rlm P p)) (96 + rlm P p) 0 [] []).1 = rt (skc (keyA A 1) (A.v 0) (A.v 0 (A.w p)) (A.ts (rlm P p)) (96 + rlm P p) 0 [] []).2.1 := skc_rt s2.2.2.1 hρ
  have hA2 : wfA P (A.sv 6 3 (A.v 6 3 + skw (keyA A 1) (A.v 0) (A.v 0 (A.w p)) (A.ts (rlm P p)))) := wf_v6 hA (fun h => absurd h (by decide)) (fun h => absurd h (by decide)) (fun h => absurd h (by decide))
  have hp2 : planR (up S (a + 19) 3 (A.v 6 3 + skw (keyA A 1) (A.v 0) (A.v 0 (A.w p)) (A.ts (rlm P p)))) 1 P := planR_far hp (fun j _ hj => up_ne (by omega))
  have g3 := room_ok (sc := sc) h0 hp2 hP s2 hA2 (k := rt (skc (keyA A 1) (A.v 0) (A.v 0 (A.w p)) (A.ts (rlm P p)) (96 + rlm P p) 0 [] []).2.1) hrr (u := none) (u' := none) (u2 := none) (u3 := none) (u4 := none)
  have e3 : roomA P (A.sv 6 3 (A.v 6 3 + skw (keyA A 1) (A.v 0) (A.v 0 (A.w p)) (A.ts (rlm P p)))) (rt (skc (keyA A 1) (A.v 0) (A.v 0 (A.w p)) (A.ts (rlm P p)) (96 + rlm P p) 0 [] []).2.1) = roomA P A (rt (skc (keyA A 1) (A.v 0) (A.v 0 (A.w p)) (A.ts (rlm P p)) (96 + rlm P p) 0 [] []).2.1) := rfl
  rw [e3] at g3
  unfold lookA
  by_cases c1 : roomA P A (rt (skc (keyA A 1) (A.v 0) (A.v 0 (A.w p)) (A.ts (rlm P p)) (96 + rlm P p) 0 [] []).2.1) = -1
  · rw [if_neg (fun q => q c1)]
    rw [c1] at g3
    have e16 : up S (a + 19) 3 (A.v 6 3 + skw (keyA A 1) (A.v 0) (A.v 0 (A.w p)) (A.ts (rlm P p))) (a + 16) p = A.v 3 p := by rw [up_ne (by omega)]; exact hs.2.2.2.2.2.2.2.1 p hpp.1 (by omega)
    by_cases c2 : I (A.v 3 p) = I (sumA (A.v 0 (A.w p)))
    · rw [if_pos c2]
      have g4 := seek_ok (sc := sc) h0 hA2 s2 (st := 0) (x := A.v 0 (A.w p)) (.inl rfl) hρ (u4 := none) (u5 := none) (u6 := none) (u7 := none) (u8 := none) (u9 := none)
      rw [if_pos rfl, v0_6] at g4
      have g4' : G sc MX7_seek 0 [some (.ref a), some (.int (I 0)), some (.int (I (rlm P p))), some (.int (I (A.v 0 (A.w p)))), none, none, none, none, none, none] [] SH (up S (a + 19) 3 (A.v 6 3 + skw (keyA A 1) (A.v 0) (A.v 0 (A.w p)) (A.ts (rlm P p)))) (rI (skc (keyA A 0) (A.v 0) (A.v 0 (A.w p)) (A.tw (rlm P p)) (96 + rlm P p) 0 [] []).1 SH (up S (a + 19) 3 (A.v 6 3 + skw (keyA A 1) (A.v 0) (A.v 0 (A.w p)) (A.ts (rlm P p)) + skw (keyA A 0) (A.v 0) (A.v 0 (A.w p)) (A.tw (rlm P p))))) := by
        have e : (A.sv 6 3 (A.v 6 3 + skw (keyA A 1) (A.v 0) (A.v 0 (A.w p)) (A.ts (rlm P p)))).v 6 3 = A.v 6 3 + skw (keyA A 1) (A.v 0) (A.v 0 (A.w p)) (A.ts (rlm P p)) := by
          show up A.v 6 3 _ 6 3 = _
          exact up_eq ..
        rw [e, up_up] at g4
        exact g4
      clear g4
      have s4 := stateR_v6 hs 3 (A.v 6 3 + skw (keyA A 1) (A.v 0) (A.v 0 (A.w p)) (A.ts (rlm P p)) + skw (keyA A 0) (A.v 0) (A.v 0 (A.w p)) (A.tw (rlm P p)))
      have hA4 : wfA P (A.sv 6 3 (A.v 6 3 + skw (keyA A 1) (A.v 0) (A.v 0 (A.w p)) (A.ts (rlm P p)) + skw (keyA A 0) (A.v 0) (A.v 0 (A.w p)) (A.tw (rlm P p)))) := wf_v6 hA (fun h => absurd h (by decide)) (fun h => absurd h (by decide)) (fun h => absurd h (by decide))
      have hsl2 := skc_slot (key := keyA A 0) (v := A.v 0) (x := A.v 0 (A.w p)) hA.2.2.2.1 hρ
      have hrr2 := rt_rg (key := keyA A 0) (v := A.v 0) (x := A.v 0 (A.w p)) hA.2.2.2.1 hs.2.2.2.1 hρ
      have hrt2 : up S (a + 19) 3 (A.v 6 3 + skw (keyA A 1) (A.v 0) (A.v 0 (A.w p)) (A.ts (rlm P p)) + skw (keyA A 0) (A.v 0) (A.v 0 (A.w p)) (A.tw (rlm P p))) (a + 12) (skc (keyA A 0) (A.v 0) (A.v 0 (A.w p)) (A.tw (rlm P p)) (96 + rlm P p) 0 [] []).1 = rt (skc (keyA A 0) (A.v 0) (A.v 0 (A.w p)) (A.tw (rlm P p)) (96 + rlm P p) 0 [] []).2.1 := skc_rt s4.2.2.2.1 hρ
      generalize hX : A.v 6 3 + skw (keyA A 1) (A.v 0) (A.v 0 (A.w p)) (A.ts (rlm P p)) + skw (keyA A 0) (A.v 0) (A.v 0 (A.w p)) (A.tw (rlm P p)) = X at *
      have hrun : ∀ r', (if rt (skc (keyA A 0) (A.v 0) (A.v 0 (A.w p)) (A.tw (rlm P p)) (96 + rlm P p) 0 [] []).2.1 = -1 then r' = rI 9 SH (up (up S (a + 19) 3 X) (a + 12) (skc (keyA A 0) (A.v 0) (A.v 0 (A.w p)) (A.tw (rlm P p)) (96 + rlm P p) 0 [] []).1 p) else (if A.w (rt (skc (keyA A 0) (A.v 0) (A.v 0 (A.w p)) (A.tw (rlm P p)) (96 + rlm P p) 0 [] []).2.1) = -1 then r' = rI 7 SH (up S (a + 19) 3 X) else ∃ S1, G sc MX7_pairUp 0 [some (.ref a), some (.int (I p)), some (.int (I (rt (skc (keyA A 0) (A.v 0) (A.v 0 (A.w p)) (A.tw (rlm P p)) (96 + rlm P p) 0 [] []).2.1))), some (.int (I (skc (keyA A 1) (A.v 0) (A.v 0 (A.w p)) (A.ts (rlm P p)) (96 + rlm P p) 0 [] []).1)), none, none] [] SH (up S (a + 19) 3 X) (rV SH S1) ∧ r' = rI 8 SH S1)) → G sc MX7_befall 108 [some (.ref a), some (.int (I p)), some (.int (I f)), some (.int (I (A.v 0 (A.w p)))), u4, u5, u6, u7, u8] [] SH S r' := by
        intro r' hr
        refine qX7_befall_108 h0 ⟨_, _, g1, _, _, g2, ⟨hsl.1, hsl.2⟩, ?_⟩
        rw [hrt]
        refine ⟨_, _, g3, ?_⟩
        simp (disch := omega) only [iL, iE, iQ, ipos, ineg, an, if_true, if_false]
        refine ⟨_, _, sum_ok, ?_⟩
        rw [e16, if_pos c2]
        refine ⟨_, _, realm_ok h0.2.2.2.2.2.2.2.2.2.2.2.2 hp2 hP hpp, _, _, g4', ⟨hsl2.1, hsl2.2⟩, ?_⟩
        rw [hrt2]
        by_cases d1 : rt (skc (keyA A 0) (A.v 0) (A.v 0 (A.w p)) (A.tw (rlm P p)) (96 + rlm P p) 0 [] []).2.1 = -1
        · rw [if_pos d1] at hr
          rw [d1, if_pos rfl]
          exact ⟨⟨hsl2.1, hsl2.2⟩, hr⟩
        · rw [if_neg d1] at hr
          have bo := hA.1.2.2 (rt (skc (keyA A 0) (A.v 0) (A.v 0 (A.w p)) (A.tw (rlm P p)) (96 + rlm P p) 0 [] []).2.1)
          have e5 : up S (a + 19) 3 X (a + 2) (rt (skc (keyA A 0) (A.v 0) (A.v 0 (A.w p)) (A.tw (rlm P p)) (96 + rlm P p) 0 [] []).2.1) = A.w (rt (skc (keyA A 0) (A.v 0) (A.v 0 (A.w p)) (A.tw (rlm P p)) (96 + rlm P p) 0 [] []).2.1) := s4.1.1 _ (by omega) (by omega)
          rw [e5]
          simp (disch := omega) only [iL, iE, iQ, ipos, ineg, an, if_true, if_false]
          exact hr
      by_cases d1 : rt (skc (keyA A 0) (A.v 0) (A.v 0 (A.w p)) (A.tw (rlm P p)) (96 + rlm P p) 0 [] []).2.1 = -1
      · simp only [if_pos d1] at hrun ⊢
        refine ⟨_, hrun _ rfl, ?_, fun j hj => by rw [up_ne (by omega), up_ne (by omega)]⟩
        refine stateR_tw s4 ?_ (fun j hj => up_ne hj)
        have hnat : (p.toNat : Int) = p := Int.toNat_of_nonneg hpp.1
        have q := tree_ins (p := p.toNat) (key := keyA A 0) (v := A.v 0) (x := A.v 0 (A.w p)) hA.2.2.2.1 s4.2.2.2.1 hρ d1 (by omega) (by
          rw [hnat]
          intro h
          obtain ⟨ρ, a1, a2, a3⟩ := al_of h
          exact hcur ρ a1 a2 a3)
        rw [hnat] at q
        have e2 : up (up S (a + 19) 3 X) (a + 12) (skc (keyA A 0) (A.v 0) (A.v 0 (A.w p)) (A.tw (rlm P p)) (96 + rlm P p) 0 [] []).1 p (a + 12) = fun y => if y = (skc (keyA A 0) (A.v 0) (A.v 0 (A.w p)) (A.tw (rlm P p)) (96 + rlm P p) 0 [] []).1 then p else up S (a + 19) 3 X (a + 12) y := by
          funext y; rw [up_at]
        rw [e2]
        exact q
      · simp only [if_neg d1] at hrun ⊢
        by_cases d2 : A.w (rt (skc (keyA A 0) (A.v 0) (A.v 0 (A.w p)) (A.tw (rlm P p)) (96 + rlm P p) 0 [] []).2.1) = -1
        · simp only [if_pos d2] at hrun ⊢
          exact ⟨_, hrun _ rfl, s4, fun j hj => up_ne (by omega)⟩
        · simp only [if_neg d2] at hrun ⊢
          have hin := cxs_lb (cxs_in hρ.1 hρ.2 (skc_cx (key := keyA A 0) (v := A.v 0) (x := A.v 0 (A.w p)) (A.tw (rlm P p)) (96 + rlm P p) 0 [] [] d1))
          obtain ⟨ρ', b1, b2, b3⟩ := al_of hin
          have hko := (hA.2.2.2.2.2.2.2.2.2.1 ρ' _ b1 b2 b3).2.2.2 d2
          have q := pair_ok (sc := sc) (u := none) (u' := none) h0 s4 hA4 (ρ := rlm P p) (x := A.v 0 (A.w p)) (p := p) (o := rt (skc (keyA A 0) (A.v 0) (A.v 0 (A.w p)) (A.tw (rlm P p)) (96 + rlm P p) 0 [] []).2.1) hρ ⟨hpp.1, by omega⟩ ⟨by omega, by omega⟩ hwp d2 hko
          rw [v0_6] at q
          obtain ⟨S5, g5, r5, f5⟩ := q
          exact ⟨S5, hrun _ ⟨S5, g5, rfl⟩, r5, fun j hj => by rw [f5 j hj, up_ne (by omega)]⟩
    · rw [if_neg c2]
      refine ⟨_, qX7_befall_108 h0 ⟨_, _, g1, _, _, g2, ⟨hsl.1, hsl.2⟩, ?_⟩, stateR_v3 s2 p _, fun j hj => by rw [up_ne (by omega), up_ne (by omega)]⟩
      rw [hrt]
      refine ⟨_, _, g3, ?_⟩
      simp (disch := omega) only [iL, iE, iQ, ipos, ineg, an, if_true, if_false]
      refine ⟨_, _, sum_ok, ?_⟩
      rw [e16, if_neg c2]
  · rw [if_pos c1]
    have hm := roomA_mem c1
    have hb := wf_bd hA.2.1 hm.1
    obtain ⟨S4, S5, g4, g5, r5, f5⟩ := move_ok (sc := sc) h0 s2 hA2.1 (p := p) (f := roomA P A (rt (skc (keyA A 1) (A.v 0) (A.v 0 (A.w p)) (A.ts (rlm P p)) (96 + rlm P p) 0 [] []).2.1)) ⟨hpp.1, by omega⟩ hb hwp
    refine ⟨S5, qX7_befall_108 h0 ⟨_, _, g1, _, _, g2, ⟨hsl.1, hsl.2⟩, ?_⟩, r5, fun j hj => by rw [f5 j hj, up_ne (by omega)]⟩
    rw [hrt]
    refine ⟨_, _, g3, ?_⟩
    simp (disch := omega) only [iL, iE, iQ, ipos, ineg, an, if_true, if_false]
    exact ⟨_, g4, _, g5, rfl⟩
end
