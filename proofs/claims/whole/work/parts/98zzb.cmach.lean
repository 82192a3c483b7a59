/-! ===== machine of the class ===== -/
def P0d : aP := fun j i => if j = 0 then (if i = 0 then 24 else if i = 1 then 4 else if i = 2 then 1 else if i = 3 then 8 else 0) else 0
def D0d (m : Int) : aD := (P0d, 0, 0, newA m)
theorem wf_P0 : wfP P0d := by
  refine ⟨by decide, by decide, by decide, by decide, by decide, by decide, fun g h1 h2 => ?_, fun p h1 h2 => ?_⟩
  · have h2' : g < 0 := h2
    omega
  · have h2' : p < 0 := h2
    omega
theorem ok_D0 {m : Int} (hm : 1 ≤ m ∧ m ≤ 16) : okE (D0d m) ∧ gh m (D0d m) := by
  refine ⟨⟨wf_P0, wf_new hm wf_P0, ⟨Int.le_refl _, by show (0 : Int) < 32; decide⟩, ⟨Int.le_refl _, by show (0 : Int) ≤ 24; decide⟩, by show (0 : Int) ≤ 12 * 0; decide⟩, rfl, rfl, rfl, rfl, fun _ _ => rfl, fun f _ => ?_, fun p _ => ?_, fun f q => absurd rfl q, fun g h1 h2 => ?_, fun q => ?_, fun _ => rfl⟩
  · show vnew m 0 f = 0
    unfold vnew
    rw [if_neg (by decide), if_neg (fun q => absurd q.1 (by decide))]
  · show vnew m 1 p = 0
    unfold vnew
    rw [if_neg (by decide), if_neg (fun q => absurd q.1 (by decide))]
  · have h2' : g < 0 := h2
    omega
  · have q' : (0 : Int) < 0 := q
    omega
def mchX (W : aW) (n : Int) : aD × aT := mksT (W.2.2.2 0) n 701 (D0d (W.1 0 2)) (0, 0, -1)
def mchF (W : aW) (n : Int) : aO × aW :=
  if ¬(0 ≤ n ∧ n ≤ W.2.2.2 1 0) then (.inr 1, W)
  else if (mchX W n).2.2.1 ≠ 0 then (.inl (mchX W n).2.2.1, badW W (mchX W n).2)
  else (.inl 0, ((mchX W n).1.1, ((mchX W n).1.2.2.2.sv 6 0 ((mchX W n).1.1 0 2), [], 0, W.2.1.2.2.2), none, up (up W.2.2.2 1 0 0) 1 1 (-1)))
theorem ok_mks {b : Int → Int} {n m : Int} (hm : 1 ≤ m ∧ m ≤ 16) : ∀ (k : Nat) (D : aD) (T : aT), (T.2.1 = 0 → okE D ∧ gh m D) → (mksT b n k D T).2.2.1 = 0 → okE (mksT b n k D T).1 ∧ gh m (mksT b n k D T).1 := by
  intro k
  induction k with
  | zero => intro D T h hz; exact h hz
  | succ k ih =>
    intro D T h hz
    by_cases c : T.2.1 ≠ 0 ∨ tkK b n T.1 = 0
    · rw [mksT_no c] at hz ⊢; exact h hz
    · have hf : T.2.1 = 0 := Decidable.not_not.mp (fun q => c (.inl q))
      rw [mksT_yes c] at hz ⊢
      exact ih _ _ (fun q => ok_clB hm hf (h hf).1 (h hf).2 (endT_ok q).1) hz
theorem ok_mch {W : aW} (hW : wfW W) {n : Int} (hz : (mchX W n).2.2.1 = 0) : okE (mchX W n).1 ∧ gh (W.1 0 2) (mchX W n).1 := by
  have hp := hW.1.2.2.1
  exact ok_mks ⟨hp.1, by omega⟩ 701 (D0d (W.1 0 2)) (0, 0, -1) (fun _ => ok_D0 ⟨hp.1, by omega⟩) hz
theorem wf_mchA {W : aW} (hW : wfW W) {n : Int} (hz : (mchX W n).2.2.1 = 0) : wfA (mchX W n).1.1 ((mchX W n).1.2.2.2.sv 6 0 ((mchX W n).1.1 0 2)) ∧ okT ((mchX W n).1.2.2.2.sv 6 0 ((mchX W n).1.1 0 2)) := by
  obtain ⟨oD, hg⟩ := ok_mch hW hz
  have hp := oD.1.2.2.1
  refine ⟨wf_v6 oD.2.1 (fun _ => ⟨hp.1, by omega⟩) (fun q => absurd q (by decide)) (fun q => absurd q (by decide)), ?_⟩
  unfold okT
  show 0 ≤ up (mchX W n).1.2.2.2.v 6 0 ((mchX W n).1.1 0 2) 6 2 ∧ up (mchX W n).1.2.2.2.v 6 0 ((mchX W n).1.1 0 2) 6 2 ≤ 9999
  rw [up_at, if_neg (by decide), hg.2.2.2.2.1 6 (by decide)]
  have e : vnew (W.1 0 2) 6 2 = 0 := by unfold vnew; rw [if_neg (by decide), if_neg (fun q => absurd q.2 (by decide))]
  rw [e]; decide
theorem wf_mchF {W : aW} (hW : wfW W) (n : Int) : wfW (mchF W n).2 := by
  unfold mchF
  by_cases c : 0 ≤ n ∧ n ≤ W.2.2.2 1 0
  · rw [if_neg (fun q => q c)]
    by_cases d : (mchX W n).2.2.1 ≠ 0
    · rw [if_pos d]; exact wf_bad hW
    · rw [if_neg d]
      have d' := Decidable.not_not.mp d
      have w := wf_mchA hW d'
      have t := (wf_tx hW).2.2.2.2
      exact ⟨(ok_mch hW d').1.1, ⟨w.1, fun A hA => (by cases hA), by show (0 : Nat) ≤ 40; decide, ⟨by show (0 : Int) ≤ 0; decide, by show (0 : Int) ≤ 8; decide⟩, fun i h1 h2 => by have h2' : i < 0 := h2; omega⟩, ⟨w.2, fun A hA => (by cases hA)⟩, fun B hB => (by cases hB), t⟩
  · rw [if_pos c]; exact hW
section
variable {sc : Nat × (Nat → Int32)} {SH : List mCell} {F : Nat → Nat → Option Nat} {S : mStore} {e : Nat} {W : aW} {P : aP}
theorem pbec_ok (h0 : sPlan SH 1) (h1 : sPlan SH 6) (hp : planR S 6 P) (hP : wfP P) : ∃ S', G sc MX5_become 0 [some (.ref 1), some (.ref 6)] [] SH S (rV SH S') ∧ planR S' 1 P ∧ (∀ j, j < 1 ∨ 6 ≤ j → S' j = S j) := by
  have h6 := hP.2.2.2.2.1
  have h7 := hP.2.2.2.2.2.1
  have h45 := hP.2.2.2.1
  obtain ⟨p0, p1, p2, p3, p4⟩ := hp
  have ne : ∀ (Z : mStore) (i x : Int), up Z 1 i x 6 = Z 6 := fun Z i x => up_ne (by decide)
  generalize hU : up (up (up (up (up (up (up (up S 1 0 (S 6 0)) 1 1 (S 6 1)) 1 2 (S 6 2)) 1 3 (S 6 3)) 1 4 (S 6 4)) 1 5 (S 6 5)) 1 6 (S 6 6)) 1 7 (S 6 7) = U
  have u1 : ∀ i, 0 ≤ i → i < 8 → U 1 i = S 6 i := fun i i0 i8 => by
    rw [← hU]
    rcases (show i = 0 ∨ i = 1 ∨ i = 2 ∨ i = 3 ∨ i = 4 ∨ i = 5 ∨ i = 6 ∨ i = 7 by omega) with rfl | rfl | rfl | rfl | rfl | rfl | rfl | rfl
    · rw [up_at, if_neg (by decide), up_at, if_neg (by decide), up_at, if_neg (by decide), up_at, if_neg (by decide), up_at, if_neg (by decide), up_at, if_neg (by decide), up_at, if_neg (by decide), up_eq]
    · rw [up_at, if_neg (by decide), up_at, if_neg (by decide), up_at, if_neg (by decide), up_at, if_neg (by decide), up_at, if_neg (by decide), up_at, if_neg (by decide), up_eq]
    · rw [up_at, if_neg (by decide), up_at, if_neg (by decide), up_at, if_neg (by decide), up_at, if_neg (by decide), up_at, if_neg (by decide), up_eq]
    · rw [up_at, if_neg (by decide), up_at, if_neg (by decide), up_at, if_neg (by decide), up_at, if_neg (by decide), up_eq]
    · rw [up_at, if_neg (by decide), up_at, if_neg (by decide), up_at, if_neg (by decide), up_eq]
    · rw [up_at, if_neg (by decide), up_at, if_neg (by decide), up_eq]
    · rw [up_at, if_neg (by decide), up_eq]
    · rw [up_eq]
  have uj : ∀ j, j ≠ 1 → U j = S j := fun j hj => by rw [← hU, up_ne hj, up_ne hj, up_ne hj, up_ne hj, up_ne hj, up_ne hj, up_ne hj, up_ne hj]
  refine ⟨cpy (cpy (cpy (cpy U 7 2 4) 8 3 4) 9 4 4) 10 5 48, qX5_become_0 h0 h1 ?_, ⟨fun i i0 i8 => ?_, fun i i0 i8 => ?_, fun i i0 i8 => ?_, fun i i0 i8 => ?_, fun i i0 i8 => ?_⟩, fun j hj => ?_⟩
  · simp only [ne]
    rw [hU]
    have e4 : S 6 4 = P 0 4 := p0 4 (by decide) (by decide)
    have e5 : S 6 5 = P 0 5 := p0 5 (by decide) (by decide)
    exact ⟨by rw [e4]; exact h45.1.elim (fun q => .inl (by rw [q])) (fun q => .inr (by rw [q])), by rw [e5]; exact h45.2.elim (fun q => .inl (by rw [q])) (fun q => .inr (by rw [q])), rfl⟩
  · rw [cpy_ne (by decide), cpy_ne (by decide), cpy_ne (by decide), cpy_ne (by decide), u1 i i0 i8]; exact p0 i i0 i8
  · show cpy (cpy (cpy (cpy U 7 2 4) 8 3 4) 9 4 4) 10 5 48 2 i = _
    rw [cpy_ne (by decide), cpy_ne (by decide), cpy_ne (by decide), cpy_at, if_pos ⟨i0, by omega⟩, uj 7 (by decide)]; exact p1 i i0 i8
  · show cpy (cpy (cpy (cpy U 7 2 4) 8 3 4) 9 4 4) 10 5 48 3 i = _
    rw [cpy_ne (by decide), cpy_ne (by decide), cpy_at, if_pos ⟨i0, by omega⟩, cpy_ne (by decide), uj 8 (by decide)]; exact p2 i i0 i8
  · show cpy (cpy (cpy (cpy U 7 2 4) 8 3 4) 9 4 4) 10 5 48 4 i = _
    rw [cpy_ne (by decide), cpy_at, if_pos ⟨i0, by omega⟩, cpy_ne (by decide), cpy_ne (by decide), uj 9 (by decide)]; exact p3 i i0 i8
  · show cpy (cpy (cpy (cpy U 7 2 4) 8 3 4) 9 4 4) 10 5 48 5 i = _
    rw [cpy_at, if_pos ⟨i0, by omega⟩, cpy_ne (by decide), cpy_ne (by decide), cpy_ne (by decide), uj 10 (by decide)]; exact p4 i i0 i8
  · rw [cpy_ne (by omega), cpy_ne (by omega), cpy_ne (by omega), cpy_ne (by omega), uj j (by omega)]
theorem machine_cl (h : clR SH F e S W) (hW : wfW W) {n : Int} (hr : rg n) : CL sc MX10_machine [some (.ref 0), some (.int (I n))] SH F e S (mchF W n).1 (mchF W n).2 := by
  obtain ⟨g0, g1, g2, hp, hs⟩ := clS h
  have hP := hW.1
  have hfd := hW.2.2.2.2.1
  have hp2 := hW.1.2.2.1
  have e1 : S 11 1 = W.2.2.2 1 0 := h.2.2.2.2.2.1
  have s0 : sText SH := g0.2.2.1
  have s1 : sPlan SH 6 := g0.2.1
  have s2 : sState SH 65 := g0.2.2.2.2.2.1
  have s3 : sMaker SH := g0.2.2.2.2.2.2.1
  unfold mchF
  by_cases c : 0 ≤ n ∧ n ≤ W.2.2.2 1 0
  · rw [if_neg (fun q => q c)]
    have hn : 0 ≤ n ∧ n ≤ 700 := ⟨c.1, by omega⟩
    have hb : ∀ i, 0 ≤ W.2.2.2 0 i ∧ W.2.2.2 0 i < 256 := hW.2.2.2.2.2
    have hμ : 1 ≤ W.1 0 2 ∧ W.1 0 2 ≤ 16 := ⟨hp2.1, by omega⟩
    have tap : tapR S (W.2.2.2 0) n := fun i a d => h.2.2.2.2.1 i a (by omega)
    have b0 := bgS_fr S n
    have go := open_ok (sc := sc) g0 e1 c hfd.2
    -- the draft is cleared
    generalize hU : up (up (up (up (up (up (up (up (bgS S n) 6 0 24) 6 1 4) 6 2 1) 6 3 8) 6 4 0) 6 5 0) 6 6 0) 6 7 0 = U
    have gc : G sc MX5_clear 0 [some (.ref 6)] [] SH (bgS S n) (rV SH U) := qX5_clear_0 s1 ⟨.inl rfl, .inl rfl, by rw [hU]⟩
    have uj : ∀ j, j ≠ 6 → U j = bgS S n j := fun j hj => by rw [← hU, up_ne hj, up_ne hj, up_ne hj, up_ne hj, up_ne hj, up_ne hj, up_ne hj, up_ne hj]
    have pU : planR U 6 P0d := by
      refine ⟨fun i i0 i8 => ?_, fun i i0 i8 => ?_, fun i i0 i8 => ?_, fun i i0 i8 => ?_, fun i i0 i8 => ?_⟩
      · rw [← hU]
        rcases (show i = 0 ∨ i = 1 ∨ i = 2 ∨ i = 3 ∨ i = 4 ∨ i = 5 ∨ i = 6 ∨ i = 7 by omega) with rfl | rfl | rfl | rfl | rfl | rfl | rfl | rfl <;> rfl
      · have : i < 0 := i8
        omega
      · have : i < 0 := i8
        omega
      · have : i < 0 := i8
        omega
      · have : i < 0 := i8
        omega
    have u12 : U 1 2 = W.1 0 2 := by
      rw [uj 1 (by decide), b0.1 1 (by decide)]
      exact hp.1 2 (by decide) (by decide)
    obtain ⟨V, gv, rv, fv⟩ := clear_ok (sc := sc) (S := U) s2 (by decide) u12
    have tV : clT (up (up V 85 3 0) 85 4 0) (W.2.2.2 0) n (0, 0, -1) := clT_far (bgS_cl hn tap) (by rw [up_ne (by decide), up_ne (by decide), fv 11 (by decide), uj 11 (by decide)]) (by rw [up_ne (by decide), up_ne (by decide), fv 12 (by decide), uj 12 (by decide)])
    have dV : dcR (up (up V 85 3 0) 85 4 0) (D0d (W.1 0 2)) := ⟨planR_far pU (fun j _ _ => by rw [up_ne (by omega), up_ne (by omega), fv j (by omega)]), stateR_far rv (fun j _ _ => by rw [up_ne (by omega), up_ne (by omega)]), by rw [up_at, if_neg (by decide), up_eq]; rfl, by rw [up_eq]; rfl⟩
    obtain ⟨S1, T1, gm, t1, hT1, f1, d1⟩ := mk_lp (sc := sc) s0 s1 s2 s3 hn hb hμ 701 0 (D0d (W.1 0 2)) (0, 0, -1) _ tV (fun _ => ⟨⟨dV, ok_D0 hμ⟩, by show n < 0 + ((701 : Nat) : Int); omega, by show ((0 : Nat) : Int) ≤ 0; decide⟩) (by decide)
    have gmk : G sc MX3_makeAll 0 [some (.ref 85), none] [] SH (bgS S n) (rV SH S1) := qX3_makeAll_0 s0 s1 s2 s3 ⟨_, gc, _, gv, gm⟩
    have hT1' : T1.2 = (mchX W n).2.2 := hT1
    have fr : ∀ j, j < 6 ∨ (11 < j ∧ j < 65) ∨ 85 < j → S1 j = S j := fun j hj => by rw [f1.1 j hj, up_ne (by omega), up_ne (by omega), fv j (by omega), uj j (by omega), b0.1 j (by omega)]
    have z6 : S1 11 6 = (mchX W n).2.2.1 := by rw [t1.2.2.1, hT1']
    have z7 : S1 11 7 = (mchX W n).2.2.2 := by rw [t1.2.2.2.1, hT1']
    have zr : 0 ≤ (mchX W n).2.2.1 ∧ (mchX W n).2.2.1 ≤ 5 := by have := t1.2.2.2.2.1.2.1; rw [hT1'] at this; exact this
    have cl7 : ∀ (S' : mStore) {D M : mStore}, (∀ j, j < 6 ∨ (11 < j ∧ j < 65) ∨ 85 < j → j ≠ 0 → j ≠ 16 → S' j = S j) → S' 0 11 = S 0 11 → D 0 = W.2.1.2.2.2 0 → D 1 = W.2.1.2.2.2 1 → (∀ i, 0 ≤ i → i < 3 → S' 16 i = D 2 i) → M 1 0 = 0 → S' 11 1 = 0 → S' 0 12 = M 1 1 → clR SH F e S' (W.1, (W.2.1.1, W.2.1.2.1, W.2.1.2.2.1, D), W.2.2.1, M) := fun S' D M hf q0 q1 q2 q3 q4 q5 q6 => by
      obtain ⟨h1, h2, ⟨r1, r2, r3, r4, r5, r6, r7⟩, h4, h5, h6, h7⟩ := h
      have hl := h1.2.2.2.2.1
      refine ⟨h1, planR_far h2 (fun j _ _ => hf j (by omega) (by omega) (by omega)), ⟨stateR_far r1 (fun j _ _ => hf j (by omega) (by omega) (by omega)), by rw [hf (13 + 24) (by decide) (by decide) (by decide)]; exact r2, by rw [hf (13 + 24) (by decide) (by decide) (by decide)]; exact r3, ?_, by rw [hf 13 (by decide) (by decide) (by decide)]; exact r5, ?_, q3⟩, ⟨fun hn => by rw [q0]; exact h4.1 hn, fun B' hB' => ⟨by rw [q0]; exact (h4.2 B' hB').1, ?_⟩⟩, fun i i0 i1 => ?_, q5.trans q4.symm, q6⟩
      · rw [hf (13 + 24) (by decide) (by decide) (by decide)]
        exact hist_same r4 (fun _ _ _ h => h) h1 (by decide) (fun j hj _ => hf j (by omega) (by omega) (by omega))
      · show ∀ i, 0 ≤ i → i < W.2.1.2.2.1 → S' (13 + 1) i = D 0 i ∧ S' (13 + 2) i = D 1 i
        rw [hf (13 + 1) (by decide) (by decide) (by decide), hf (13 + 2) (by decide) (by decide) (by decide), q1, q2]; exact r6
      · have q := (h4.2 B' hB').2
        exact bkR_far h1 (by decide) q (by decide) (fun _ _ _ h => h) (fun j _ _ => hf j (by omega) (by omega) (by omega)) (hist_same q.2.2.2.1 (fun _ _ _ h => h) h1 (by decide) (fun j hj hl => hf j (by omega) (by omega) (by omega)))
      · have i1' : i < M 1 0 := i1
        omega
    by_cases d : (mchX W n).2.2.1 ≠ 0
    · rw [if_pos d]
      have gcl := close_bad (sc := sc) g0 z6 ⟨by omega, zr.2⟩ z7
      have e16 : S1 16 = S 16 := fr 16 (by decide)
      refine ⟨SH, F, e, up (clsS S1 (mchX W n).2.2.2) 16 0 (S1 16 0 + 1), qX10_machine_0 g0 (.inl ⟨_, go, _, gmk, _, gcl, ?_⟩), cl7 (up (clsS S1 (mchX W n).2.2.2) 16 0 (S1 16 0 + 1)) (D := up W.2.1.2.2.2 2 0 (W.2.1.2.2.2 2 0 + 1)) (M := up (up W.2.2.2 1 0 0) 1 1 (mchX W n).2.2.2) (fun j a1 a2 a3 => by unfold clsS; rw [up_ne a3, up_ne a2, up_ne (by omega)]; exact fr j a1) (by unfold clsS; rw [up_ne (by decide), up_at, if_neg (by decide), up_ne (by decide), fr 0 (by decide)]) (up_ne (by decide)) (up_ne (by decide)) (fun i i0 i3 => ?_) (by rw [up_at, if_neg (by decide), up_eq]) (by unfold clsS; rw [up_ne (by decide), up_ne (by decide), up_eq]) (by unfold clsS; rw [up_ne (by decide), up_eq, up_eq]), Nat.le_succ _, fun j a1 a2 => by unfold clsS; rw [up_ne (by omega), up_ne (by omega), up_ne (by omega), fr j (by omega)]⟩
      · have q6 : up (clsS S1 (mchX W n).2.2.2) 16 0 (S1 16 0 + 1) 11 6 = (mchX W n).2.2.1 := by
          unfold clsS; rw [up_ne (by decide), up_ne (by decide), up_at, if_neg (by decide), z6]
        rw [q6, if_neg (by rw [I_eq ⟨by omega, by omega⟩ ⟨by decide, by decide⟩]; exact d)]
        rfl
      · have r7 := h.2.2.1.2.2.2.2.2.2
        rw [up_at, up_at]
        unfold clsS
        rw [up_ne (by decide), up_ne (by decide), e16, show S 16 0 = _ from r7 0 (by decide) (by decide), show S 16 i = _ from r7 i i0 i3]
    · rw [if_neg d]
      have d' : (mchX W n).2.2.1 = 0 := Decidable.not_not.mp d
      have gcl := close_ok (sc := sc) g0 (z6.trans d')
      obtain ⟨dc, oD, hg⟩ := d1 (by rw [hT1']; exact d')
      have dc : dcR S1 (mchX W n).1 := dc
      have w := wf_mchA hW d'
      have fc : ∀ j, j ≠ 0 → j ≠ 11 → clsS S1 (-1) j = S1 j := fun j a1 a2 => by unfold clsS; rw [up_ne a1, up_ne a2]
      obtain ⟨S2, g2', p2, f2⟩ := pbec_ok (sc := sc) g2 s1 (S := clsS S1 (-1)) (planR_far dc.1 (fun j _ _ => fc j (by omega) (by omega))) oD.1
      have e12 : S2 1 2 = (mchX W n).1.1 0 2 := p2.1 2 (by decide) (by decide)
      have st2 : stateR (up S2 (65 + 19) 0 (S2 1 2)) 65 ((mchX W n).1.2.2.2.sv 6 0 ((mchX W n).1.1 0 2)) := by
        rw [e12]
        exact stateR_v6 (stateR_far dc.2.1 (fun j _ _ => by rw [f2 j (by omega), fc j (by omega) (by omega)])) 0 _
      obtain ⟨S3, g3, r3, f3⟩ := bec_ok (sc := sc) (a := 17) (a1 := 65) g1 s2 (.inl (by decide)) st2 w.1
      have g4 : G sc MX0_clear 0 [some (.ref 37)] [] SH S3 (rV SH (up (up S3 37 2 0) 37 3 0)) := qX0_clear_0 (shR_act h.1 (.inl ⟨rfl, rfl, rfl⟩)).1 rfl
      have fj : ∀ j, 6 ≤ j → j < 17 ∨ 37 ≤ j → j ≠ 37 → j ≠ 13 → j ≠ 11 → j ≠ 84 → up (up (up (up S3 37 2 0) 37 3 0) 13 5 0) 0 11 0 j = S1 j := fun j a1 a2 a3 a4 a5 a6 => by rw [up_ne (by omega), up_ne a4, up_ne a3, up_ne a3, f3 j (by omega), up_ne (by omega), f2 j (by omega), fc j (by omega) a5]
      refine ⟨SH, F, e, up (up (up (up S3 37 2 0) 37 3 0) 13 5 0) 0 11 0, qX10_machine_0 g0 (.inl ⟨_, go, _, gmk, _, gcl, ?_⟩), ⟨h.1, planR_far p2 (fun j _ _ => by rw [up_ne (by omega), up_ne (by omega), up_ne (by omega), up_ne (by omega), f3 j (by omega), up_ne (by omega)]), ⟨stateR_far r3 (fun j _ _ => by rw [up_ne (by omega), up_ne (by omega), up_ne (by omega), up_ne (by omega)]), ?_, ?_, fun k A hk => (by cases hk), ?_, fun i i0 i1 => ?_, fun i i0 i3 => ?_⟩, ⟨fun _ => up_eq _ _ _ _, fun B hB => (by cases hB)⟩, fun i i0 i1 => ?_, ?_, ?_⟩, Nat.le_succ _, fun j a1 a2 => by rw [fj j (by omega) (by omega) (by omega) (by omega) (by omega) (by omega), fr j (by omega)]⟩
      · have q6 : clsS S1 (-1) 11 6 = 0 := by
          unfold clsS; rw [up_ne (by decide), up_at, if_neg (by decide), z6, d']
        rw [q6, if_pos rfl]
        exact ⟨_, g2', by decide, _, g3, _, g4, .inl rfl, rfl⟩
      · show 0 ≤ up (up (up (up S3 37 2 0) 37 3 0) 13 5 0) 0 11 0 37 2 ∧ up (up (up (up S3 37 2 0) 37 3 0) 13 5 0) 0 11 0 37 2 < 41
        rw [up_ne (by decide), up_ne (by decide), up_at, if_neg (by decide), up_eq]; decide
      · show up (up (up (up S3 37 2 0) 37 3 0) 13 5 0) 0 11 0 37 3 = 0
        rw [up_ne (by decide), up_ne (by decide), up_eq]
      · show up (up (up (up S3 37 2 0) 37 3 0) 13 5 0) 0 11 0 13 5 = 0
        rw [up_ne (by decide), up_eq]
      · have i1' : i < 0 := i1
        omega
      · show up (up (up (up S3 37 2 0) 37 3 0) 13 5 0) 0 11 0 16 i = W.2.1.2.2.2 2 i
        rw [fj 16 (by decide) (by decide) (by decide) (by decide) (by decide) (by decide), fr 16 (by decide)]
        exact h.2.2.1.2.2.2.2.2.2 i i0 i3
      · have i1' : i < up (up W.2.2.2 1 0 0) 1 1 (-1) 1 0 := i1
        rw [up_at, if_neg (by decide), up_eq] at i1'
        omega
      · show up (up (up (up S3 37 2 0) 37 3 0) 13 5 0) 0 11 0 11 1 = up (up W.2.2.2 1 0 0) 1 1 (-1) 1 0
        rw [up_ne (by decide), up_ne (by decide), up_ne (by decide), up_ne (by decide), f3 11 (by decide), up_ne (by decide), f2 11 (by decide)]
        unfold clsS
        rw [up_ne (by decide), up_eq, up_at, if_neg (by decide), up_eq]
      · show up (up (up (up S3 37 2 0) 37 3 0) 13 5 0) 0 11 0 0 12 = up (up W.2.2.2 1 0 0) 1 1 (-1) 1 1
        rw [up_at, if_neg (by decide), up_ne (by decide), up_ne (by decide), up_ne (by decide), f3 0 (by decide), up_ne (by decide), f2 0 (by decide)]
        unfold clsS
        rw [up_eq, up_eq]
  · rw [if_pos c]
    exact CL_exc h (qX10_machine_0 g0 (.inr ⟨_, _, _, open_no g0 e1 hr ⟨hfd.1, hfd.2⟩ c, rfl⟩))
end
