/-! ===== doing an order ===== -/
def obA (P : aP) (o : aR) (A : aS) : Int × aS :=
  if o.1 = 8 then putA P A o.2.1 (pcell (cellsA A o.2.1) o.2.2.1 o.2.2.2)
  else if o.1 = 9 then putA P A o.2.1 (cellsA A o.2.2.1)
  else if o.1 = 10 then dropA A o.2.1
  else if o.1 = 11 then scanN P o.2.1.toNat A
  else if 9999 < A.v 6 2 + o.2.1 then (-1, A) else tickA P o.2.1.toNat A
def okO (P : aP) (o : aR) : Prop := (o.1 = 8 ∧ (0 ≤ o.2.1 ∧ o.2.1 < P 0 7) ∧ (0 ≤ o.2.2.1 ∧ o.2.2.1 < 4) ∧ (0 ≤ o.2.2.2 ∧ o.2.2.2 ≤ 15)) ∨ (o.1 = 9 ∧ (0 ≤ o.2.1 ∧ o.2.1 < P 0 7) ∧ (0 ≤ o.2.2.1 ∧ o.2.2.1 < P 0 7)) ∨ (o.1 = 10 ∧ (0 ≤ o.2.1 ∧ o.2.1 < P 0 7)) ∨ (o.1 = 11 ∧ 1 ≤ o.2.1 ∧ o.2.1 ≤ 100) ∨ (o.1 = 12 ∧ 1 ≤ o.2.1 ∧ o.2.1 ≤ 20)
theorem pgV_ok {b : Int → Int} {n : Int} {P : aP} {T : aT} (hP : wfP P) (h : (pgT b n P T).2.2.1 = 0) : 0 ≤ pgV P (pgT b n P T) ∧ pgV P (pgT b n P T) < P 0 7 := by
  have q := (pgT_ok h).2.1
  have e : pgV P (pgT b n P T) = plc P (pgT b n P T).1.1 (pgT b n P T).1.2.1 := by unfold pgV; rw [if_pos h]
  have hh := hP.2.2.2.2.2.2.1 (pgT b n P T).1.1 q.1.1 q.1.2.1
  rw [e]
  unfold plc
  rw [if_pos ⟨⟨q.1.1, q.1.2.1⟩, q.2.1, q.2.2.1⟩]
  omega
theorem ok_ord {b : Int → Int} {n : Int} {P : aP} {T : aT} (hP : wfP P) (h : (ordT b n P T).2.2.1 = 0) : okO P (ordT b n P T).1 := by
  have hz := (endT_ok h).1
  show okO P (ordB b n P T).1
  unfold ordB at hz ⊢
  by_cases d : tkW b n T.1 = 8
  · rw [if_pos d] at hz ⊢
    have z1 := (numT_ok hz).1
    have z2 := (numT_ok z1).1
    have n1 := num_rg z1
    exact .inl ⟨rfl, pgV_ok hP z2, ⟨n1.1, by dsimp only; omega⟩, num_rg hz⟩
  rw [if_neg d] at hz ⊢
  by_cases d : tkW b n T.1 = 9
  · rw [if_pos d] at hz ⊢
    exact .inr (.inl ⟨rfl, pgV_ok hP (pgT_ok hz).1, pgV_ok hP hz⟩)
  rw [if_neg d] at hz ⊢
  by_cases d : tkW b n T.1 = 10
  · rw [if_pos d] at hz ⊢
    exact .inr (.inr (.inl ⟨rfl, pgV_ok hP hz⟩))
  rw [if_neg d] at hz ⊢
  by_cases d : tkW b n T.1 = 11
  · rw [if_pos d] at hz ⊢
    exact .inr (.inr (.inr (.inl ⟨rfl, num_rg hz⟩)))
  rw [if_neg d] at hz ⊢
  by_cases d : tkW b n T.1 = 12
  · rw [if_pos d] at hz ⊢
    exact .inr (.inr (.inr (.inr ⟨rfl, num_rg hz⟩)))
  rw [if_neg d] at hz
  by_cases f : T.2.1 = 0
  · rw [failA_z f] at hz; exact absurd hz (by dsimp only; decide)
  · rw [failA_n f] at hz; exact absurd hz f
theorem ok_ords {b : Int → Int} {n : Int} {P : aP} (hP : wfP P) : ∀ (k : Nat) (T : aT) (o : aR), o ∈ (ords b n P k T).1 → okO P o
  | 0, T, o, h => by cases h
  | k + 1, T, o, h => by
    by_cases c : T.2.1 ≠ 0 ∨ tkK b n T.1 = 0
    · rw [ords_no c] at h; cases h
    · by_cases z : (ordT b n P T).2.2.1 = 0
      · rw [ords_yes c z] at h
        rcases List.mem_cons.mp h with q | q
        · rw [q]; exact ok_ord hP z
        · exact ok_ords hP k _ o q
      · rw [ords_bad c z] at h; cases h
theorem ob_rg {P : aP} {o : aR} {A : aS} (hP : wfP P) (hA : wfA P A) (ho : okO P o) : rg (obA P o A).1 := by
  unfold obA
  split
  · exact put_rg _ _ _ _
  · split
    · exact put_rg _ _ _ _
    · split
      · exact drop_rg _ _
      · split
        · rename_i c
          have := scanN_rg P o.2.1.toNat A
          have : o.2.1 ≤ 100 := by rcases ho with q | q | q | q | q <;> omega
          exact ⟨by omega, by omega⟩
        · split
          · exact ⟨by dsimp only; decide, by dsimp only; decide⟩
          · rename_i c1 c2 c3 c4 c5
            have := tickA_rg P hP o.2.1.toNat A hA
            have : o.2.1 ≤ 20 := by rcases ho with q | q | q | q | q <;> omega
            exact ⟨by omega, by omega⟩
theorem wf_ob {P : aP} {o : aR} {A : aS} (hP : wfP P) (hA : wfA P A) (ht : okT A) (ho : okO P o) : wfA P (obA P o A).2 ∧ okT (obA P o A).2 := by
  unfold obA
  rcases ho with q | q | q | q | q
  · rw [if_pos q.1]
    exact ⟨wf_put hP hA q.2.1 (pcell_rg (cellsA_rg hA _) ⟨q.2.2.2.1, by omega⟩ q.2.2.1), okT_eq ht (tm_put _ _ _ _)⟩
  · rw [if_neg (by omega), if_pos q.1]
    exact ⟨wf_put hP hA q.2.1 (cellsA_rg hA _), okT_eq ht (tm_put _ _ _ _)⟩
  · rw [if_neg (by omega), if_neg (by omega), if_pos q.1]
    exact ⟨wf_drop hP hA q.2, okT_eq ht (tm_drop _ _)⟩
  · rw [if_neg (by omega), if_neg (by omega), if_neg (by omega), if_pos q.1]
    exact ⟨wf_scanN hP _ hA, okT_eq ht (tm_scanN _ _ _)⟩
  · rw [if_neg (by omega), if_neg (by omega), if_neg (by omega), if_neg (by omega)]
    by_cases c : 9999 < A.v 6 2 + o.2.1
    · rw [if_pos c]; exact ⟨hA, ht⟩
    · rw [if_neg c]
      refine ⟨wf_tick hP _ hA, ?_⟩
      unfold okT at *
      rw [tm_tick]
      omega
section
variable {sc : Nat × (Nat → Int32)} {SH : List mCell} {S : mStore} {P : aP} {o : aR} {A : aS}
theorem obey_ok (h0 : sGP SH) (h1 : sState SH 17) (hp : planR S 1 P) (hP : wfP P) (hs : stateR S 17 A) (hA : wfA P A) (ht : okT A) (hr : ordR S o) (ho : okO P o) {u : Option Value} : ∃ S', G sc MX10_obey 0 [some (.ref 0), u] [] SH S (rI (obA P o A).1 SH S') ∧ stateR S' 17 (obA P o A).2 ∧ (∀ j, j < 17 ∨ 37 ≤ j → S' j = S j) := by
  have hP7 := hP.2.2.2.2.2.1
  have r0 : rg (0 : Int) := ⟨by decide, by decide⟩
  have hx : rg (S 86 2) := by rcases hr with q | q | q | q | q <;> exact ⟨by omega, by omega⟩
  unfold obA
  rcases hr with q | q | q | q | q
  · rw [if_pos q.1]
    have hk : (0 ≤ o.2.1 ∧ o.2.1 < P 0 7) := by rcases ho with k | k | k | k | k <;> omega
    obtain ⟨S2, g2, r2, f2⟩ := putCell_ok (sc := sc) (u := none) h1 (by decide) hp hP hs hA (p := o.2.1) (c := o.2.2.1) (x := o.2.2.2) ⟨by omega, by omega⟩
    refine ⟨S2, qX10_obey_0 h0 (swp_at 0 hx r0 (by omega) rfl ⟨_, _, ?_, rfl⟩), r2, fun j hj => f2 j (by omega)⟩
    rw [q.2.2.1, q.2.2.2.1, q.2.2.2.2]; exact g2
  · rw [if_neg (by omega), if_pos q.1]
    have hk : (0 ≤ o.2.1 ∧ o.2.1 < P 0 7) ∧ (0 ≤ o.2.2.1 ∧ o.2.2.1 < P 0 7) := by rcases ho with k | k | k | k | k <;> omega
    obtain ⟨S2, g2, r2, f2⟩ := put_ok (sc := sc) (u := none) (u' := none) h1 (by decide) hp hP hs hA (p := o.2.1) (x := cellsA A o.2.2.1) ⟨by omega, by omega⟩
    refine ⟨S2, qX10_obey_0 h0 (swp_at 1 hx r0 (by omega) rfl ⟨cellsA A o.2.2.1, S, ?_, _, S2, ?_, rfl⟩), r2, fun j hj => f2 j (by omega)⟩
    · rw [q.2.2.2]; exact cells_ok h1 hs hA ⟨by omega, by omega⟩
    · rw [q.2.2.1]; exact g2
  · rw [if_neg (by omega), if_neg (by omega), if_pos q.1]
    have hk : (0 ≤ o.2.1 ∧ o.2.1 < P 0 7) := by rcases ho with k | k | k | k | k <;> omega
    obtain ⟨S2, g2, r2, f2⟩ := drop_ok (sc := sc) (u := none) h1 hs hA (p := o.2.1) ⟨by omega, by omega⟩
    refine ⟨S2, qX10_obey_0 h0 (swp_at 2 hx r0 (by omega) rfl ⟨_, _, ?_, rfl⟩), r2, fun j hj => f2 j (by omega)⟩
    rw [q.2.2]; exact g2
  · rw [if_neg (by omega), if_neg (by omega), if_neg (by omega), if_pos q.1]
    have hk : 1 ≤ o.2.1 ∧ o.2.1 ≤ 100 := by rcases ho with k | k | k | k | k <;> omega
    obtain ⟨S2, g2, r2, f2⟩ := scanMany_ok (sc := sc) (u1 := none) (u2 := none) h1 (by decide) hp hP hs hA (n := o.2.1.toNat) (by omega)
    rw [show ((o.2.1.toNat : Nat) : Int) = o.2.1 by omega] at g2
    refine ⟨S2, qX10_obey_0 h0 (swp_at 3 hx r0 (by omega) rfl ⟨_, _, ?_, rfl⟩), r2, fun j hj => f2 j (by omega)⟩
    rw [q.2.2]; exact g2
  · rw [if_neg (by omega), if_neg (by omega), if_neg (by omega), if_neg (by omega)]
    have hk : 1 ≤ o.2.1 ∧ o.2.1 ≤ 20 := by rcases ho with k | k | k | k | k <;> omega
    have qt := time_ok (sc := sc) h1 hs (n := o.2.1)
    unfold okT at ht
    by_cases c : 9999 < A.v 6 2 + o.2.1
    · rw [if_pos c]
      rw [if_pos (by rw [I_lt ⟨by decide, by decide⟩ ⟨by omega, by omega⟩]; exact c)] at qt
      refine ⟨S, qX10_obey_0 h0 (swp_at 4 hx r0 (by omega) rfl ⟨0, S, by rw [q.2.2]; exact qt, ?_⟩), hs, fun _ _ => rfl⟩
      rw [if_pos rfl]
    · rw [if_neg c]
      rw [if_neg (by rw [I_lt ⟨by decide, by decide⟩ ⟨by omega, by omega⟩]; exact c)] at qt
      obtain ⟨S2, g2, r2, f2⟩ := tick_ok (sc := sc) (u1 := none) (u2 := none) (u3 := none) (u4 := none) h1 (by decide) hp hP hs hA (n := o.2.1.toNat) (by omega)
      rw [show ((o.2.1.toNat : Nat) : Int) = o.2.1 by omega] at g2
      refine ⟨S2, qX10_obey_0 h0 (swp_at 4 hx r0 (by omega) rfl ⟨1, S, by rw [q.2.2]; exact qt, ?_⟩), r2, fun j hj => f2 j (by omega)⟩
      rw [if_neg (by decide), q.2.2]
      exact ⟨_, _, g2, rfl⟩
theorem ob8 (q : o.1 = 8) : obA P o A = putA P A o.2.1 (pcell (cellsA A o.2.1) o.2.2.1 o.2.2.2) := by unfold obA; rw [if_pos q]
theorem ob9 (q : o.1 = 9) : obA P o A = putA P A o.2.1 (cellsA A o.2.2.1) := by unfold obA; rw [if_neg (by omega), if_pos q]
theorem ob10 (q : o.1 = 10) : obA P o A = dropA A o.2.1 := by unfold obA; rw [if_neg (by omega), if_neg (by omega), if_pos q]
theorem ob11 (q : o.1 = 11) : obA P o A = scanN P o.2.1.toNat A := by unfold obA; rw [if_neg (by omega), if_neg (by omega), if_neg (by omega), if_pos q]
theorem ob12 (q : o.1 = 12) : obA P o A = if 9999 < A.v 6 2 + o.2.1 then (-1, A) else tickA P o.2.1.toNat A := by unfold obA; rw [if_neg (by omega), if_neg (by omega), if_neg (by omega), if_neg (by omega)]
theorem isDone_ok {N k : Int} (h0 : sMod SH) (hm : modP S P) (hP : wfP P) (hs : refR S 0 A N) (hA : wfA P A) (ht : okT A) (hN : N < 2000000000) (hk : 0 ≤ k ∧ k < 149) (hr : ordA S k o) (ho : okO P o) {u : Option Value} : ∃ S', G sc MX11_isDone 0 [some (.ref 90), some (.int (I (4 * k))), u] [] SH S (rI (if (obA P o A).1 = -1 then 0 else 1) SH S') ∧ refR S' 0 (obA P o A).2 (N + 320) ∧ modF S S' 0 := by
  have hP7 := hP.2.2.2.2.2.1
  have r0 : rg (8 : Int) := ⟨by decide, by decide⟩
  have hb : (0 : Int) ≤ 0 ∧ (0 : Int) ≤ 135000 := ⟨by decide, by decide⟩
  obtain ⟨q1, q2, q3, q4⟩ := hr
  have hx : rg (S 107 (4 * k)) := by rw [q1]; rcases ho with q | q | q | q | q <;> exact ⟨by omega, by omega⟩
  have i1 : (0 : Int) ≤ 4 * k + 1 ∧ 4 * k + 1 < 600 := ⟨by omega, by omega⟩
  have i0 : (0 : Int) ≤ 4 * k ∧ 4 * k < 600 := ⟨by omega, by omega⟩
  have i2 : (0 : Int) ≤ 4 * k + 2 ∧ 4 * k + 2 < 600 := ⟨by omega, by omega⟩
  have i3 : (0 : Int) ≤ 4 * k + 3 ∧ 4 * k + 3 < 600 := ⟨by omega, by omega⟩
  have yn : ∀ (v : Int) (S2 : mStore), rg v → (if I v = I (-1) then ((I 0 = I 0 ∨ I 0 = I 1) ∧ rI (if v = -1 then 0 else 1) SH S2 = rI 0 SH S2) else ((I 1 = I 0 ∨ I 1 = I 1) ∧ rI (if v = -1 then 0 else 1) SH S2 = rI 1 SH S2)) := fun v S2 hv => by
    by_cases c : v = -1
    · rw [if_pos (by rw [c]), if_pos c]; exact ⟨.inl rfl, rfl⟩
    · rw [if_neg (by rw [I_eq hv ⟨by decide, by decide⟩]; exact c), if_neg c]; exact ⟨.inr rfl, rfl⟩
  rcases ho with q | q | q | q | q
  · rw [ob8 q.1]
    obtain ⟨S2, g2, r2, f2⟩ := rwc_ok (sc := sc) h0 (b := 0) hb hm hP hs hA (p := o.2.1) q.2.1 q.2.2.1 (n := o.2.2.2) ⟨q.2.2.2.1, by omega⟩
    refine ⟨S2, qX11_isDone_0 h0 ⟨i1, i0, swp_at 0 hx r0 (by omega) rfl ⟨i2, i3, _, S2, ?_, yn _ _ (put_rg _ _ _ _)⟩⟩, refR_N r2 (by omega), f2⟩
    rw [q2, q3 (.inl q.1), q4 q.1]; exact g2
  · rw [ob9 q.1]
    obtain ⟨S1, g1, s1, f1⟩ := rsay_ok (sc := sc) (u := none) h0 (b := 0) hb hs hA (p := o.2.2.1) ⟨by omega, by omega⟩
    have m1 : modP S1 P := ⟨by rw [f1 90 (by decide)]; exact hm.1, by rw [f1 95 (by decide)]; exact hm.2.1, by rw [f1 96 (by decide)]; exact hm.2.2.1, by rw [f1 97 (by decide)]; exact hm.2.2.2.1, by rw [f1 98 (by decide)]; exact hm.2.2.2.2⟩
    obtain ⟨S2, g2, r2, f2⟩ := rput_ok (sc := sc) (u3 := none) (u4 := none) (u5 := none) (u6 := none) h0 (b := 0) hb m1 hP (refR_far hs (f1 91 (by decide))) hA (p := o.2.1) q.2.1 s1
    refine ⟨S2, qX11_isDone_0 h0 ⟨i1, i0, swp_at 1 hx r0 (by omega) rfl ⟨i2, S1, ?_, _, S2, ?_, yn _ _ (put_rg _ _ _ _)⟩⟩, refR_N r2 (by omega), ⟨fun i hi => by rw [f2.1 i hi, f1 91 (by decide)], fun j j1 j2 j3 j4 => by rw [f2.2 j j2, f1 j j4], fun i _ => by rw [f2.2 90 (by decide), f1 90 (by decide)]⟩⟩
    · rw [q3 (.inr q.1)]; exact g1
    · rw [q2]; exact g2
  · rw [ob10 q.1]
    obtain ⟨S2, g2, r2, f2⟩ := rdrop_ok (sc := sc) (u := none) h0 (b := 0) hb hs hA (p := o.2.1) ⟨by omega, by omega⟩
    refine ⟨S2, qX11_isDone_0 h0 ⟨i1, i0, swp_at 2 hx r0 (by omega) rfl ⟨_, S2, ?_, yn _ _ (drop_rg _ _)⟩⟩, refR_N r2 (by omega), modG_F f2⟩
    rw [q2]; exact g2
  · rw [ob11 q.1]
    obtain ⟨S2, g2, r2, f2⟩ := rscans_ok (sc := sc) (u3 := none) (u4 := none) (u5 := none) h0 (b := 0) hb hP hm hs hA (n := o.2.1.toNat) (by omega) (by omega)
    rw [show ((o.2.1.toNat : Nat) : Int) = o.2.1 by omega] at g2 r2
    have hrr := scanN_rg P o.2.1.toNat A
    refine ⟨S2, qX11_isDone_0 h0 ⟨i1, i0, swp_at 3 hx r0 (by omega) rfl ⟨(scanN P o.2.1.toNat A).1, S2, by rw [q2]; exact g2, .inr rfl, ?_⟩⟩, refR_N r2 (by omega), f2⟩
    rw [if_neg (by omega)]
  · rw [ob12 q.1]
    have e2 : S 91 2 = A.v 6 2 := by
      have := hs.1 2 (by decide) (by decide)
      exact this
    unfold okT at ht
    by_cases c : 9999 < A.v 6 2 + o.2.1
    · rw [if_pos c]
      refine ⟨S, qX11_isDone_0 h0 ⟨i1, i0, swp_no 4 rfl hx (by decide) (by decide) (by omega) ⟨by decide, ?_⟩⟩, refR_N hs (by omega), fun _ _ => rfl, fun _ _ _ _ _ => rfl, fun _ _ => rfl⟩
      rw [q2, e2, if_neg (by rw [I_le ⟨by omega, by omega⟩ ⟨by decide, by decide⟩]; omega)]
      exact ⟨.inl rfl, rfl⟩
    · rw [if_neg c]
      obtain ⟨S2, g2, r2, f2⟩ := rticks_ok (sc := sc) (u3 := none) (u4 := none) h0 (b := 0) hb hP hm hs hA (n := o.2.1.toNat) (by omega) (by omega)
      rw [show ((o.2.1.toNat : Nat) : Int) = o.2.1 by omega] at g2 r2
      have hrr := tickA_rg P hP o.2.1.toNat A hA
      refine ⟨S2, qX11_isDone_0 h0 ⟨i1, i0, swp_no 4 rfl hx (by decide) (by decide) (by omega) ⟨by decide, ?_⟩⟩, refR_N r2 (by omega), f2⟩
      rw [q2, e2, if_pos (by rw [I_le ⟨by omega, by omega⟩ ⟨by decide, by decide⟩]; omega)]
      refine ⟨_, _, g2, .inr rfl, ?_⟩
      rw [if_neg (by omega)]
end
