/-! ===== orders of the reference ===== -/
section
variable {sc : Nat × (Nat → Int32)} {SH : List mCell} {S S' : mStore} {N : Int} {W : aW} {A : aS}
theorem mdR_mod0 (hW : ∀ A, A ∈ W.2.1.2.1 → wfR A.C A.k) (hI : ∀ B, W.2.2.1 = some B → wfB W.1 B) (hWW : wfW W) (h : mdR S N W) (hr : refR S' 0 A N) (hF : modF S S' 0) : mdR S' N (setA W A) := by
  obtain ⟨Z, z1, z2⟩ : ∃ Z : mStore, Z 91 = S' 91 ∧ ∀ j, j ≠ 91 → Z j = S j := ⟨fun j => if j = 91 then S' 91 else S j, if_pos rfl, fun j hj => if_neg hj⟩
  have e1 : mdR Z N (setA W A) := mdR_set hW hI h (refR_far hr z1) (fun i hi => by rw [z1]; exact hF.1 i (by omega)) z2
  obtain ⟨m, bb, im, t, f, a⟩ := e1
  have e90 : ∀ i, i < 28 → S' 90 i = Z 90 i := fun i hi => by rw [z2 90 (by decide)]; exact hF.2.2 i (by omega)
  have ej : ∀ j, 92 ≤ j → j ≤ 99 → S' j = Z j := fun j h1 h2 => by rw [z2 j (by omega)]; exact hF.2.1 j (by omega) (by omega) (by omega) (by omega)
  have q : ∀ {z y iA iF iN w r : Int} {B : aB}, iA < 28 → iF < 28 → iN < 28 → mbR Z z y iA iF iN w r N B → mbR S' z y iA iF iN w r N B := by
    rintro z y iA iF iN w r B q1 q2 q3 ⟨r1, r2, r3, r4, r5, r6, r7⟩
    exact ⟨refR_far r1 z1.symm, by rw [e90 iA q1]; exact r2, by rw [e90 iF q2]; exact r3, fun k A hk => by rw [e90 iF q2]; exact refR_far (r4 k A hk) z1.symm, by rw [e90 iN q3]; exact r5, by rw [ej 92 (by decide) (by decide), ej 93 (by decide) (by decide)]; exact r6, by rw [ej 94 (by decide) (by decide)]; exact r7⟩
  exact ⟨⟨fun i h1 h2 => by rw [e90 _ (by omega)]; exact m.1 i h1 h2, by rw [ej _ (by decide) (by decide)]; exact m.2.1, by rw [ej _ (by decide) (by decide)]; exact m.2.2.1, by rw [ej _ (by decide) (by decide)]; exact m.2.2.2.1, by rw [ej _ (by decide) (by decide)]; exact m.2.2.2.2⟩, q (by decide) (by decide) (by decide) bb, ⟨fun hn => by rw [e90 _ (by decide)]; exact im.1 hn, fun B hB => ⟨by rw [e90 _ (by decide)]; exact (im.2 B hB).1, q (by decide) (by decide) (by decide) (im.2 B hB).2⟩⟩, by rw [ej 99 (by decide) (by decide)]; exact t, by rw [e90 _ (by decide)]; exact f, by rw [e90 _ (by decide)]; exact a⟩
theorem mdR_r0 (h : mdR S N W) : mdR (up S 94 0 (S 94 0 + 1)) N (W.1, (W.2.1.1, W.2.1.2.1, W.2.1.2.2.1, up W.2.1.2.2.2 2 0 (W.2.1.2.2.2 2 0 + 1)), W.2.2) := by
  obtain ⟨m, b, i, t, f, a⟩ := h
  obtain ⟨r1, r2, r3, r4, r5, r6, r7⟩ := b
  refine ⟨⟨by rw [up_ne (by decide)]; exact m.1, by rw [up_ne (by decide)]; exact m.2.1, by rw [up_ne (by decide)]; exact m.2.2.1, by rw [up_ne (by decide)]; exact m.2.2.2.1, by rw [up_ne (by decide)]; exact m.2.2.2.2⟩, ⟨refR_far r1 (up_ne (by decide)), by rw [up_ne (by decide)]; exact r2, by rw [up_ne (by decide)]; exact r3, fun k A hk => by rw [up_ne (by decide)]; exact refR_far (r4 k A hk) (up_ne (by decide)), by rw [up_ne (by decide)]; exact r5, by rw [up_ne (by decide), up_ne (by decide)]; exact r6, fun i h1 h2 => ?_⟩, ⟨fun hn => by rw [up_ne (by decide)]; exact i.1 hn, fun B hB => ⟨by rw [up_ne (by decide)]; exact (i.2 B hB).1, ?_⟩⟩, by rw [up_ne (by decide)]; exact t, by rw [up_ne (by decide)]; exact f, by rw [up_ne (by decide)]; exact a⟩
  · show up S 94 0 (S 94 0 + 1) 94 (0 + i) = up W.2.1.2.2.2 2 0 (W.2.1.2.2.2 2 0 + 1) 2 i
    rw [Int.zero_add, up_at, up_at]
    have q1 := r7 0 (by decide) (by decide)
    have q2 := r7 i h1 h2
    rw [Int.zero_add] at q1 q2
    rw [q1, q2]
  · obtain ⟨s1, s2, s3, s4, s5, s6, s7⟩ := (i.2 B hB).2
    refine ⟨refR_far s1 (up_ne (by decide)), by rw [up_ne (by decide)]; exact s2, by rw [up_ne (by decide)]; exact s3, fun k A hk => by rw [up_ne (by decide)]; exact refR_far (s4 k A hk) (up_ne (by decide)), by rw [up_ne (by decide)]; exact s5, by rw [up_ne (by decide), up_ne (by decide)]; exact s6, fun i h1 h2 => ?_⟩
    rw [up_at, if_neg (by omega)]
    exact s7 i h1 h2
theorem wf_setA (hW : wfW W) (hA : wfA W.1 A) (ht : okT A) : wfW (setA W A) := by
  obtain ⟨hP, ⟨b1, b2, b3, b4, b5⟩, ⟨t1, t2⟩, i, f, t⟩ := hW
  exact ⟨hP, ⟨hA, b2, b3, b4, b5⟩, ⟨ht, t2⟩, i, f, t⟩
theorem ordA_F {k : Int} {o : aR} (h : ordA S k o) (hF : S' 107 = S 107) : ordA S' k o := by unfold ordA at *; rw [hF]; exact h
theorem do_md (h0 : sMod SH) (hW : wfW W) {m : Nat} (hm : m ≤ 141) {l : Int} : ∀ (L : List aR) (i : Nat) (S : mStore) (A : aS) (N : Int), mdR S N (setA W A) → refR S 1654 W.2.1.1 N → wfA W.1 A → okT A → S 90 55 = m → i + L.length = m → (∀ (k : Nat) (o : aR), L[k]? = some o → ordA S ((i : Int) + k) o ∧ okO W.1 o) → (m = 0 → A = W.2.1.1) → N + 320 * (L.length : Int) < 2000000000 → ∃ S', G sc MX11_orders 78 [some (.ref 90), some (.int (I l)), some (.int (I i))] [] SH S (rI (resD W m (doA W.1 L A i)).1 SH S') ∧ mdR S' (N + 320 * (L.length : Int)) (resD W m (doA W.1 L A i)).2 ∧ (∀ j, j < 90 ∨ 110 ≤ j → S' j = S j) ∧ S' 90 4 = S 90 4
  | [], i, S, A, N, h, hk, hA, ht, h5, hi, ho, hz, hN => by
    have hi' : i = m := hi
    subst hi'
    show ∃ S', G sc MX11_orders 78 _ [] SH S (rI (i : Int) SH S') ∧ mdR S' (N + 320 * ((0 : Nat) : Int)) (if i = 0 then W else actW W A) ∧ _
    rw [show N + 320 * ((0 : Nat) : Int) = N by omega]
    by_cases d : i = 0
    · rw [if_pos d]
      rw [hz d] at h
      refine ⟨S, qX11_orders_78 h0 ?_, h, fun _ _ => rfl, rfl⟩
      rw [h5, if_pos (by rw [I_le ⟨by omega, by omega⟩ ⟨by omega, by omega⟩]; omega), if_pos (by rw [I_le ⟨by omega, by omega⟩ ⟨by decide, by decide⟩]; omega)]
    · rw [if_neg d]
      obtain ⟨S1, g1, m1, f1, f2, f3⟩ := keeps_md (sc := sc) (W := setA W A) h0 (wf_setA hW hA ht) h (.inr rfl) hk hW.2.1.1
      refine ⟨S1, qX11_orders_78 h0 ?_, m1, fun j hj => f2 j (by omega), f3 4 (by decide) (by decide)⟩
      rw [h5, if_pos (by rw [I_le ⟨by omega, by omega⟩ ⟨by omega, by omega⟩]; omega), if_neg (by rw [I_le ⟨by omega, by omega⟩ ⟨by decide, by decide⟩]; omega)]
      exact ⟨_, g1, by rw [f3 55 (by decide) (by decide), h5]⟩
  | o :: L, i, S, A, N, h, hk, hA, ht, h5, hi, ho, hz, hN => by
    rw [List.length_cons] at hi hN
    obtain ⟨oa, oo⟩ := ho 0 o rfl
    rw [show (i : Int) + ((0 : Nat) : Int) = i by omega] at oa
    have hP := hW.1
    have mP : modP S W.1 := h.1
    have hr : refR S 0 A N := h.2.1.1
    obtain ⟨S2, g2, r2, f2⟩ := isDone_ok (sc := sc) (u := none) h0 mP hP hr hA ht (by omega) ⟨by omega, by omega⟩ oa oo
    have w := wf_ob hP hA ht oo
    have hh : ∀ B, B ∈ (setA W A).2.1.2.1 → wfR B.C B.k := fun B hB => (hW.2.1.2.1 B hB).2.1
    have hI : ∀ B, (setA W A).2.2.1 = some B → wfB (setA W A).1 B := fun B hB => (hW.2.2.2.1 B hB).1
    have m2 : mdR S2 (N + 320) (setA W (obA W.1 o A).2) := by
      have q := mdR_mod0 (W := setA W A) hh hI (wf_setA hW hA ht) (mdR_N h (show N ≤ N + 320 by omega)) r2 f2
      exact q
    have k2 : refR S2 1654 W.2.1.1 (N + 320) := refR_N (refR_F hk hW.2.1.1.2.1 (fun i h1 h2 _ => f2.1 i (by omega))) (by omega)
    have st : ∀ r, (if I (if (obA W.1 o A).1 = -1 then 0 else 1) = I 0 then (∃ S104, G sc MX11_copies 0 [some (.ref 90), some (.int (I 1654)), some (.int (I 0)), some (.int (I 1654)), none] [] SH S2 (rV SH S104) ∧ (((0 : Int) ≤ 1 ∧ (1 : Int) < 6) ∧ (((0 : Int) ≤ 1 ∧ (1 : Int) < 6) ∧ r = rI ((-100) - i) SH (up S104 94 1 ((S104 94 1) + 1))))) else G sc MX11_orders 78 [some (.ref 90), some (.int (I l)), some (.int (I ((i : Int) + 1)))] [] SH S2 r) → G sc MX11_orders 78 [some (.ref 90), some (.int (I l)), some (.int (I i))] [] SH S r := fun r q => by
      refine qX11_orders_78 h0 ?_
      rw [h5, if_neg (by rw [I_le ⟨by omega, by omega⟩ ⟨by omega, by omega⟩]; omega)]
      exact ⟨_, _, g2, q⟩
    rw [List.length_cons]
    by_cases d : (obA W.1 o A).1 = -1
    · rw [doA_no d]
      have m3 : mdR (cpr S2 1654 0 1654) (N + 320) W := by
        have q := mdR_set (W := setA W (obA W.1 o A).2) (fun B hB => (hW.2.1.2.1 B hB).2.1) (fun B hB => (hW.2.2.2.1 B hB).1) m2 (refR_cpr k2 hW.2.1.1.2.1) (fun i hi => cpr_out (by omega)) (fun j hj => cpr_ne hj)
        exact q
      have m4 := (refuses_md (sc := sc) h0 hW m3).2
      refine ⟨_, st _ ?_, mdR_N m4 (by omega), fun j hj => ?_, ?_⟩
      · rw [if_pos d, if_pos rfl]
        exact ⟨_, rcopies_ok h0 (by decide) ⟨by decide, by decide⟩ ⟨by decide, by decide⟩ (.inr (by decide)), by decide, by decide, rfl⟩
      · rw [up_ne (by omega), cpr_ne (by omega), f2.2.1 j (by omega) (by omega) (by omega) (by omega)]
      · rw [up_ne (by decide), cpr_ne (by decide), f2.2.2 4 (by decide)]
    · rw [doA_yes d]
      obtain ⟨S3, g3, m3, f3, t3⟩ := do_md h0 hW hm (l := l) L (i + 1) S2 _ (N + 320) m2 k2 w.1 w.2 (by rw [f2.2.2 55 (by decide)]; exact h5) (by omega) (fun k o' hk' => by
        have q := ho (k + 1) o' hk'
        rw [show ((i + 1 : Nat) : Int) + (k : Int) = (i : Int) + ((k + 1 : Nat) : Int) by omega]
        exact ⟨ordA_F q.1 (f2.2.1 107 (by decide) (by decide) (by decide) (by decide)), q.2⟩) (fun q => by omega) (by omega)
      rw [show ((i + 1 : Nat) : Int) = (i : Int) + 1 by omega] at g3 m3
      refine ⟨S3, st _ (by rw [if_neg d, if_neg (by decide)]; exact g3), mdR_N m3 (by omega), fun j hj => by rw [f3 j hj, f2.2.1 j (by omega) (by omega) (by omega) (by omega)], by rw [t3, f2.2.2 4 (by decide)]⟩
end
