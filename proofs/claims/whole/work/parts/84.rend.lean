/-! ===== the reference: a round ends ===== -/
theorem up_swap {S : mStore} {a c : Nat} {i j x y : Int} (h : a ≠ c ∨ i ≠ j) : up (up S a i x) c j y = up (up S c j y) a i x := by
  funext q k
  unfold up
  by_cases e1 : q = c ∧ k = j
  · rw [if_pos e1]
    by_cases e2 : q = a ∧ k = i
    · omega
    · rw [if_neg e2, if_pos e1]
  · rw [if_neg e1, if_neg e1]
theorem up_same (S : mStore) (a : Nat) (i : Int) : up S a i (S a i) = S := by
  funext q k
  unfold up
  by_cases e1 : q = a ∧ k = i
  · rw [if_pos e1, e1.1, e1.2]
  · rw [if_neg e1]
theorem sv_swap {A : aS} {a c : Nat} {i j x y : Int} (h : a ≠ c ∨ i ≠ j) : (A.sv a i x).sv c j y = (A.sv c j y).sv a i x := by
  show ((A.L, A.w, A.C, A.k, A.ts, A.tw, up (up A.v a i x) c j y) : aS) = (A.L, A.w, A.C, A.k, A.ts, A.tw, up (up A.v c j y) a i x)
  rw [up_swap h]
theorem sv_same (A : aS) (a : Nat) (i : Int) : A.sv a i (A.v a i) = A := by
  show ((A.L, A.w, A.C, A.k, A.ts, A.tw, up A.v a i (A.v a i)) : aS) = A
  rw [up_same]
theorem sv_sv (A : aS) (a : Nat) (i x y : Int) : (A.sv a i x).sv a i y = A.sv a i y := by
  show ((A.L, A.w, A.C, A.k, A.ts, A.tw, up (up A.v a i x) a i y) : aS) = (A.L, A.w, A.C, A.k, A.ts, A.tw, up A.v a i y)
  rw [up_up]
theorem sv_at (A : aS) (a : Nat) (i x j : Int) : (A.sv a i x).v a j = if j = i then x else A.v a j := up_at A.v a i x j
theorem sv_ne (A : aS) {a c : Nat} (i x : Int) (h : c ≠ a) : (A.sv a i x).v c = A.v c := up_ne h
section
variable {sc : Nat × (Nat → Int32)} {SH : List mCell} {b N : Int} {P : aP}
theorem rend_lp (h0 : sMod SH) (hb : 0 ≤ b ∧ b ≤ 135000) : ∀ (m : Nat) (k : Int) {S : mStore}, 0 ≤ k → k + m = 48 → ∃ S', (∀ r, G sc MX11_endsRound 31 [some (.ref 90), some (.int (I b)), some (.int (I 48))] [] SH S' r → G sc MX11_endsRound 31 [some (.ref 90), some (.int (I b)), some (.int (I k))] [] SH S r) ∧ (∀ i, b + 304 + k ≤ i → i < b + 352 → S' 91 i = 0) ∧ (∀ i, ¬ (b + 304 + k ≤ i ∧ i < b + 352) → S' 91 i = S 91 i) ∧ (∀ j, j ≠ 91 → S' j = S j)
  | 0, k, S, hk, hm => ⟨S, fun r h => by rw [show k = 48 by omega]; exact h, fun i h1 h2 => by omega, fun _ _ => rfl, fun _ _ => rfl⟩
  | m + 1, k, S, hk, hm => by
    obtain ⟨S', g, z, f, fj⟩ := rend_lp h0 hb m (k + 1) (S := up S 91 (b + 304 + k) 0) (by omega) (by omega)
    refine ⟨S', fun r h => ?_, fun i h1 h2 => ?_, fun i hi => ?_, fun j hj => by rw [fj j hj, up_ne hj]⟩
    · refine qX11_endsRound_31 h0 ?_
      simp (disch := omega) only [iL, iE, iQ, ipos, ineg, an, if_true, if_false]
      exact g r h
    · by_cases e : i = b + 304 + k
      · rw [f i (by omega), up_at, if_pos e]
      · exact z i (by omega) h2
    · rw [f i (by omega), up_at, if_neg (by omega)]
theorem rend144 {S : mStore} {C : aS} (h0 : sMod SH) (hb : 0 ≤ b ∧ b ≤ 135000) (hr : refR S b C N) (hC : wfR C.C C.k) {l : Int} : ∃ S', G sc MX11_endsRound 144 [some (.ref 90), some (.int (I b)), some (.int (I l))] [] SH S (rV SH S') ∧ refR S' b ((((C.sv 6 10 0).sv 6 11 0).sv 6 9 0).sv 6 1 (C.v 6 1 + 1)) N ∧ modG S S' b := by
  have e1 : S 91 (b + 1) = C.v 6 1 := hr.1 1 (by decide) (by decide)
  have r1 := refR_v6 hr hC (i := 1) (x := C.v 6 1 + 1) (by decide)
  have r2 := refR_v6 r1 hC (i := 10) (x := 0) (by decide)
  have r3 := refR_v6 r2 hC (i := 11) (x := 0) (by decide)
  have r4 := refR_v6 r3 hC (i := 9) (x := 0) (by decide)
  refine ⟨up (up (up (up S 91 (b + 1) (C.v 6 1 + 1)) 91 (b + 10) 0) 91 (b + 11) 0) 91 (b + 9) 0, qX11_endsRound_144 h0 ?_, ?_, ?_⟩
  · rw [e1]
    exact ⟨⟨by omega, by omega⟩, ⟨by omega, by omega⟩, ⟨by omega, by omega⟩, ⟨by omega, by omega⟩, ⟨by omega, by omega⟩, rfl⟩
  · rw [sv_swap (c := 6) (j := 1) (by omega), sv_swap (c := 6) (j := 1) (by omega), sv_swap (c := 6) (j := 1) (by omega)]
    exact r4
  · exact modG_tr (modG_tr (modG_tr (modG_up ⟨by omega, by omega⟩) (modG_up ⟨by omega, by omega⟩)) (modG_up ⟨by omega, by omega⟩)) (modG_up ⟨by omega, by omega⟩)
theorem rend_ok {S : mStore} {A : aS} (h0 : sMod SH) (hb : 0 ≤ b ∧ b ≤ 135000) (hm : modP S P) (hP : wfP P) (hr : refR S b A N) (hA : wfA P A) {u : Option Value} : ∃ S', G sc MX11_endsRound 0 [some (.ref 90), some (.int (I b)), u] [] SH S (rV SH S') ∧ refR S' b (endA P A) N ∧ modG S S' b := by
  obtain ⟨S2, g2, z2, f2, j2⟩ := rend_lp (sc := sc) h0 hb 48 0 (S := up (up (up S 91 (b + 1363) 0) 91 (b + 1363 + 97) 0) 91 (b + 1363 + 97 * 2) 0) (by decide) (by decide)
  have hS2 : ∀ i, ¬ (b + 304 ≤ i ∧ i < b + 352) → S2 91 i = if i = b + 1363 + 97 * 2 then 0 else if i = b + 1363 + 97 then 0 else if i = b + 1363 then 0 else S 91 i := fun i hi => by rw [f2 i (by omega), up3]
  have r2 : refR S2 b (A.stw (fun _ => .leaf ())) N := by
    refine refR_tw hr hA.2.1 (fun p h1 h2 => ?_) (fun ρ h1 h2 => ⟨?_, fun i h3 h4 => ?_⟩) (fun ρ => by simp [lb]) (fun i h1 h2 h3 => ?_)
    · rw [z2 _ (by omega) (by omega), if_neg (by simp [al, lb])]
    · have : ρ = 0 ∨ ρ = 1 ∨ ρ = 2 := by omega
      have hlen : (fd (Lean.RArray.leaf () : Tr) 0).length = 0 := rfl
      rw [hlen, hS2 _ (by omega)]
      rcases this with e | e | e
      · rw [if_neg (by omega), if_neg (by omega), if_pos (by omega)]; rfl
      · rw [if_neg (by omega), if_pos (by omega)]; rfl
      · rw [if_pos (by omega)]; rfl
    · have hlen : ((fd (Lean.RArray.leaf () : Tr) 0).length : Int) = 0 := rfl
      omega
    · rw [hS2 i (by omega), if_neg (by omega), if_neg (by omega), if_neg (by omega)]
  have m2 : modG S S2 b := ⟨fun i hi => by rw [hS2 i (by omega), if_neg (by omega), if_neg (by omega), if_neg (by omega)], fun j hj => by rw [j2 j hj, up_ne hj, up_ne hj, up_ne hj]⟩
  have e14 : S2 90 14 = P 0 2 := by rw [m2.2 90 (by decide)]; exact hm.1 2 (by decide) (by decide)
  have e15 : S2 90 15 = P 0 3 := by rw [m2.2 90 (by decide)]; exact hm.1 3 (by decide) (by decide)
  have e10 : S2 91 (b + 10) = A.v 6 10 := r2.1 10 (by decide) (by decide)
  have e11 : S2 91 (b + 11) = A.v 6 11 := r2.1 11 (by decide) (by decide)
  have e0 : S2 91 (b + 0) = A.v 6 0 := r2.1 0 (by decide) (by decide)
  have hP2 := hP.2.2.1
  have h6 := hA.2.2.2.2.2.2.2.2.2.2.2.2.1
  have start : ∀ r, G sc MX11_endsRound 31 [some (.ref 90), some (.int (I b)), some (.int (I 48))] [] SH S2 r → G sc MX11_endsRound 0 [some (.ref 90), some (.int (I b)), u] [] SH S r := fun r h => by
    refine qX11_endsRound_0 h0 (qX11_endsRound_2 h0 ?_)
    simp (disch := omega) only [iL, iE, iQ, ipos, ineg, an, if_true, if_false]
    refine qX11_endsRound_2 h0 ?_
    simp (disch := omega) only [iL, iE, iQ, ipos, ineg, an, if_true, if_false]
    refine qX11_endsRound_2 h0 ?_
    simp (disch := omega) only [iL, iE, iQ, ipos, ineg, an, if_true, if_false]
    refine qX11_endsRound_2 h0 ?_
    simp (disch := omega) only [iL, iE, iQ, ipos, ineg, an, if_true, if_false]
    rw [show b + 1363 + 97 * 0 = b + 1363 by omega, show b + 1363 + 97 * (0 + 1) = b + 1363 + 97 by omega, show b + 1363 + 97 * (0 + 1 + 1) = b + 1363 + 97 * 2 by omega]
    exact g2 r h
  have fin : ∀ S3, refR S3 b ((A.stw (fun _ => .leaf ())).sv 6 0 (rateA P A)) N → modG S2 S3 b → (∀ r, G sc MX11_endsRound 144 [some (.ref 90), some (.int (I b)), some (.int (I 48))] [] SH S3 r → G sc MX11_endsRound 31 [some (.ref 90), some (.int (I b)), some (.int (I 48))] [] SH S2 r) → ∃ S', G sc MX11_endsRound 0 [some (.ref 90), some (.int (I b)), u] [] SH S (rV SH S') ∧ refR S' b (endA P A) N ∧ modG S S' b := fun S3 r3 m3 g3 => by
    obtain ⟨S4, g4, r4, m4⟩ := rend144 (sc := sc) h0 hb r3 hA.2.1 (l := 48)
    refine ⟨S4, start _ (g3 _ g4), ?_, modG_tr (modG_tr m2 m3) m4⟩
    rw [sv_at, if_neg (by decide)] at r4
    exact r4
  unfold rateA at fin
  by_cases c1 : I (4 * A.v 6 10) < I (A.v 6 11)
  · simp only [if_pos c1] at fin
    by_cases c2 : I (A.v 6 10) = I 0
    · simp only [if_pos c2] at fin
      have ed : idv (A.v 6 0) 2 = A.v 6 0 / 2 := idv2 (by omega) (by omega)
      have gg : G sc MX11_greater 0 [some (.int (I (P 0 2))), some (.int (I (A.v 6 0 / 2)))] [] SH S2 (rI (if A.v 6 0 / 2 ≤ P 0 2 then P 0 2 else A.v 6 0 / 2) SH S2) := by
        refine qX11_greater_0 ?_
        simp (disch := omega) only [iL, iE, iQ]
        by_cases c : P 0 2 ≤ A.v 6 0 / 2
        · rw [if_pos c]
          by_cases d : A.v 6 0 / 2 ≤ P 0 2
          · rw [if_pos d, show A.v 6 0 / 2 = P 0 2 by omega]
          · rw [if_neg d]
        · rw [if_neg c, if_pos (by omega)]
      refine fin _ (refR_v6 r2 hA.2.1 (i := 0) (by decide)) (modG_up ⟨by omega, by omega⟩) (fun r h => qX11_endsRound_31 h0 ?_)
      rw [e10, e11, e14, e0, ed]
      rw [if_pos (by decide), if_pos c1, if_pos c2]
      exact ⟨⟨by omega, by omega⟩, ⟨by omega, by omega⟩, ⟨by omega, by omega⟩, ⟨by omega, by omega⟩, _, _, gg, ⟨by omega, by omega⟩, h⟩
    · simp only [if_neg c2] at fin
      have es : (A.stw (fun _ => .leaf ())).sv 6 0 (A.v 6 0) = A.stw (fun _ => .leaf ()) := sv_same _ 6 0
      rw [es] at fin
      refine fin S2 r2 (modG_rf _ _) (fun r h => qX11_endsRound_31 h0 ?_)
      rw [e10, e11]
      rw [if_pos (by decide), if_pos c1, if_neg c2]
      exact ⟨⟨by omega, by omega⟩, ⟨by omega, by omega⟩, ⟨by omega, by omega⟩, h⟩
  · simp only [if_neg c1] at fin
    have gg : G sc MX11_lesser 0 [some (.int (I (P 0 3))), some (.int (I (2 * A.v 6 0)))] [] SH S2 (rI (if P 0 3 ≤ 2 * A.v 6 0 then P 0 3 else 2 * A.v 6 0) SH S2) := by
      refine qX11_lesser_0 ?_
      simp (disch := omega) only [iL, iE, iQ]
      by_cases c : 2 * A.v 6 0 ≤ P 0 3
      · rw [if_pos c]
        by_cases d : P 0 3 ≤ 2 * A.v 6 0
        · rw [if_pos d, show 2 * A.v 6 0 = P 0 3 by omega]
        · rw [if_neg d]
      · rw [if_neg c, if_pos (by omega)]
    refine fin _ (refR_v6 r2 hA.2.1 (i := 0) (by decide)) (modG_up ⟨by omega, by omega⟩) (fun r h => qX11_endsRound_31 h0 ?_)
    rw [e10, e11, e15, e0]
    rw [if_pos (by decide), if_neg c1]
    exact ⟨⟨by omega, by omega⟩, ⟨by omega, by omega⟩, ⟨by omega, by omega⟩, _, _, gg, ⟨by omega, by omega⟩, h⟩
end
