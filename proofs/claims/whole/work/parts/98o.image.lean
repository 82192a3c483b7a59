/-! ===== the reference: image, restore ===== -/
section
variable {sc : Nat × (Nat → Int32)} {SH : List mCell} {S S' : mStore} {W : aW} {N : Int}
theorem img_lp1 (h0 : sMod SH) : ∀ (n : Nat) (k : Int) {S : mStore}, k + n = 8 → 0 ≤ k → ∃ S', (∀ i, k ≤ i → i < 8 → S' 92 (8 + i) = S 92 i ∧ S' 93 (8 + i) = S 93 i) ∧ (∀ i, i < 8 + k ∨ 16 ≤ i → S' 92 i = S 92 i ∧ S' 93 i = S 93 i) ∧ (∀ j, j ≠ 92 → j ≠ 93 → S' j = S j) ∧ ∀ r, G sc MX11_image 99 [some (.ref 90), some (.int (I 0))] [] SH S' r → G sc MX11_image 55 [some (.ref 90), some (.int (I k))] [] SH S r
  | 0, k, S, hk, h1 => by
    refine ⟨S, fun i a b => by omega, fun i _ => ⟨rfl, rfl⟩, fun _ _ _ => rfl, fun r g => qX11_image_55 h0 ?_⟩
    rw [if_pos (by rw [I_le ⟨by decide, by decide⟩ ⟨by omega, by omega⟩]; omega)]
    exact g
  | n + 1, k, S, hk, h1 => by
    have e93 : up S 92 (8 + k) (S 92 k) 93 k = S 93 k := by rw [up_ne (show (93 : Nat) ≠ 92 by decide)]
    have x92 : ∀ i, up (up S 92 (8 + k) (S 92 k)) 93 (8 + k) (S 93 k) 92 i = if i = 8 + k then S 92 k else S 92 i := fun i => by rw [up_ne (show (92 : Nat) ≠ 93 by decide), up_at]
    have x93 : ∀ i, up (up S 92 (8 + k) (S 92 k)) 93 (8 + k) (S 93 k) 93 i = if i = 8 + k then S 93 k else S 93 i := fun i => by rw [up_at, up_ne (show (93 : Nat) ≠ 92 by decide)]
    obtain ⟨S', a1, a2, a3, go⟩ := img_lp1 h0 n (k + 1) (S := up (up S 92 (8 + k) (S 92 k)) 93 (8 + k) (S 93 k)) (by omega) (by omega)
    refine ⟨S', fun i p q => ?_, fun i p => ?_, fun j p q => by rw [a3 j p q, up_ne q, up_ne p], fun r g => qX11_image_55 h0 ?_⟩
    · by_cases d : i = k
      · subst d
        rw [(a2 (8 + i) (by omega)).1, (a2 (8 + i) (by omega)).2, x92, x93, if_pos rfl, if_pos rfl]
        exact ⟨rfl, rfl⟩
      · rw [(a1 i (by omega) q).1, (a1 i (by omega) q).2, x92, x93, if_neg (by omega), if_neg (by omega)]
        exact ⟨rfl, rfl⟩
    · rw [(a2 i (by omega)).1, (a2 i (by omega)).2, x92, x93, if_neg (by omega), if_neg (by omega)]
      exact ⟨rfl, rfl⟩
    · rw [if_neg (by rw [I_le ⟨by decide, by decide⟩ ⟨by omega, by omega⟩]; omega), e93]
      exact ⟨⟨by omega, by omega⟩, ⟨by omega, by omega⟩, ⟨by omega, by omega⟩, ⟨by omega, by omega⟩, go r g⟩
theorem img_lp2 (h0 : sMod SH) : ∀ (n : Nat) (k : Int) {S : mStore}, k + n = 3 → 0 ≤ k → ∃ S', (∀ i, k ≤ i → i < 3 → S' 94 (3 + i) = S 94 i) ∧ (∀ i, i < 3 + k ∨ 6 ≤ i → S' 94 i = S 94 i) ∧ (∀ j, j ≠ 94 → S' j = S j) ∧ G sc MX11_image 99 [some (.ref 90), some (.int (I k))] [] SH S (rV SH (up S' 90 11 1))
  | 0, k, S, hk, h1 => by
    refine ⟨S, fun i a b => by omega, fun i _ => rfl, fun _ _ => rfl, qX11_image_99 h0 ?_⟩
    rw [if_pos (by rw [I_le ⟨by decide, by decide⟩ ⟨by omega, by omega⟩]; omega)]
  | n + 1, k, S, hk, h1 => by
    obtain ⟨S', a1, a2, a3, go⟩ := img_lp2 h0 n (k + 1) (S := up S 94 (3 + k) (S 94 k)) (by omega) (by omega)
    refine ⟨S', fun i p q => ?_, fun i p => ?_, fun j p => by rw [a3 j p, up_ne p], qX11_image_99 h0 ?_⟩
    · by_cases d : i = k
      · subst d
        rw [a2 (3 + i) (by omega), up_at, if_pos rfl]
      · rw [a1 i (by omega) q, up_at, if_neg (by omega)]
    · rw [a2 i (by omega), up_at, if_neg (by omega)]
    · rw [if_neg (by rw [I_le ⟨by decide, by decide⟩ ⟨by omega, by omega⟩]; omega)]
      exact ⟨⟨by omega, by omega⟩, ⟨by omega, by omega⟩, go⟩
theorem image_md (h0 : sMod SH) (hW : wfW W) (h : mdR S N W) {u : Option Value} : MDV sc MX11_image [some (.ref 90), u] SH S N (imgW W) := by
  have hd := mdR_thr (x := 0) hW h
  obtain ⟨m, b, im, t, f, a⟩ := hd
  obtain ⟨r1, r2, r3, r4, r5, r6, r7⟩ := b
  generalize hS0 : up S 90 4 0 = S0 at *
  have c1 := rcopies_ok (sc := sc) (u := none) h0 (S := S0) (x := 0) (y := 69468) (n := 1654) (by decide) ⟨by decide, by decide⟩ ⟨by decide, by decide⟩ (.inl (by decide))
  have c2 := rcopies_ok (sc := sc) (u := none) h0 (S := cpr S0 0 69468 1654) (x := 3308) (y := 71122) (n := 66160) (by decide) ⟨by decide, by decide⟩ ⟨by decide, by decide⟩ (.inl (by decide))
  generalize hS2 : cpr (cpr S0 0 69468 1654) 3308 71122 66160 = S2 at *
  have j2 : ∀ j, j ≠ 91 → S2 j = S0 j := fun j hj => by rw [← hS2, cpr_ne hj, cpr_ne hj]
  have k2 : ∀ i, i < 69468 → S2 91 i = S0 91 i := fun i hi => by rw [← hS2, cpr_out (by omega), cpr_out (by omega)]
  have l2 : ∀ i, 0 ≤ i → i < 1654 → S2 91 (69468 + i) = S0 91 i := fun i a b => by rw [← hS2, cpr_out (by omega), cpr_in (by omega)]; congr 1; omega
  have m2 : ∀ i, 0 ≤ i → i < 66160 → S2 91 (71122 + i) = S0 91 (3308 + i) := fun i a b => by rw [← hS2, cpr_in (by omega), cpr_out (by omega)]; congr 1; omega
  have e8 : up S2 90 8 (S2 90 5) 90 6 = S2 90 6 := by rw [up_at, if_neg (by decide)]
  have e9 : up (up S2 90 8 (S2 90 5)) 90 9 (S2 90 6) 90 7 = S2 90 7 := by rw [up_at, if_neg (by decide), up_at, if_neg (by decide)]
  obtain ⟨S4, a1, a2, a3, go⟩ := img_lp1 (sc := sc) h0 8 0 (S := up (up (up S2 90 8 (S2 90 5)) 90 9 (S2 90 6)) 90 10 (S2 90 7)) (by decide) (by decide)
  obtain ⟨S5, b1, b2, b3, go2⟩ := img_lp2 (sc := sc) h0 3 0 (S := S4) (by decide) (by decide)
  have x90 : ∀ i, i ≠ 8 → i ≠ 9 → i ≠ 10 → i ≠ 11 → up S5 90 11 1 90 i = S0 90 i := fun i q8 q9 q10 q11 => by
    rw [up_at, if_neg q11, b3 90 (by decide), a3 90 (by decide) (by decide), up_at, if_neg q10, up_at, if_neg q9, up_at, if_neg q8, j2 90 (by decide)]
  have y8 : up S5 90 11 1 90 8 = S0 90 5 := by
    rw [up_at, if_neg (by decide), b3 90 (by decide), a3 90 (by decide) (by decide), up_at, if_neg (by decide), up_at, if_neg (by decide), up_eq, j2 90 (by decide)]
  have y9 : up S5 90 11 1 90 9 = S0 90 6 := by
    rw [up_at, if_neg (by decide), b3 90 (by decide), a3 90 (by decide) (by decide), up_at, if_neg (by decide), up_eq, j2 90 (by decide)]
  have y10 : up S5 90 11 1 90 10 = S0 90 7 := by
    rw [up_at, if_neg (by decide), b3 90 (by decide), a3 90 (by decide) (by decide), up_eq, j2 90 (by decide)]
  have x91 : up S5 90 11 1 91 = S2 91 := by
    rw [up_ne (by decide), b3 91 (by decide), a3 91 (by decide) (by decide), up_ne (by decide), up_ne (by decide), up_ne (by decide)]
  have xj : ∀ j, j ≠ 90 → j ≠ 91 → j ≠ 92 → j ≠ 93 → j ≠ 94 → up S5 90 11 1 j = S0 j := fun j q0 q1 q2 q3 q4 => by
    rw [up_ne q0, b3 j q4, a3 j q2 q3, up_ne q0, up_ne q0, up_ne q0, j2 j q1]
  have z92 : ∀ i, up (up (up S2 90 8 (S2 90 5)) 90 9 (S2 90 6)) 90 10 (S2 90 7) 92 i = S0 92 i := fun i => by rw [up_ne (by decide), up_ne (by decide), up_ne (by decide), j2 92 (by decide)]
  have z93 : ∀ i, up (up (up S2 90 8 (S2 90 5)) 90 9 (S2 90 6)) 90 10 (S2 90 7) 93 i = S0 93 i := fun i => by rw [up_ne (by decide), up_ne (by decide), up_ne (by decide), j2 93 (by decide)]
  have z94 : ∀ i, S4 94 i = S0 94 i := fun i => by rw [a3 94 (by decide) (by decide), up_ne (by decide), up_ne (by decide), up_ne (by decide), j2 94 (by decide)]
  have x92 : ∀ i, i < 8 → up S5 90 11 1 92 i = S0 92 i ∧ up S5 90 11 1 93 i = S0 93 i := fun i hi => by
    rw [up_ne (by decide), up_ne (by decide), b3 92 (by decide), b3 93 (by decide), (a2 i (by omega)).1, (a2 i (by omega)).2, z92, z93]; exact ⟨rfl, rfl⟩
  have w92 : ∀ i, 0 ≤ i → i < 8 → up S5 90 11 1 92 (8 + i) = S0 92 i ∧ up S5 90 11 1 93 (8 + i) = S0 93 i := fun i p q => by
    rw [up_ne (by decide), up_ne (by decide), b3 92 (by decide), b3 93 (by decide), (a1 i p q).1, (a1 i p q).2, z92, z93]; exact ⟨rfl, rfl⟩
  have x94 : ∀ i, i < 3 → up S5 90 11 1 94 i = S0 94 i := fun i hi => by rw [up_ne (by decide), b2 i (by omega), z94]
  have w94 : ∀ i, 0 ≤ i → i < 3 → up S5 90 11 1 94 (3 + i) = S0 94 i := fun i p q => by rw [up_ne (by decide), b1 i p q, z94]
  have hn8 := hW.2.1.2.2.2.1
  have hC := hW.2.1.1.2.1
  have hCk : ∀ (k : Nat) (A : aS), W.2.1.2.1[k]? = some A → wfR A.C A.k := fun k A hk => (hW.2.1.2.1 A (List.mem_of_getElem? hk)).2.1
  refine ⟨up S5 90 11 1, qX11_image_0 h0 ?_, ⟨⟨fun i h1 h2 => by rw [x90 _ (by omega) (by omega) (by omega) (by omega)]; exact m.1 i h1 h2, by rw [xj _ (by decide) (by decide) (by decide) (by decide) (by decide)]; exact m.2.1, by rw [xj _ (by decide) (by decide) (by decide) (by decide) (by decide)]; exact m.2.2.1, by rw [xj _ (by decide) (by decide) (by decide) (by decide) (by decide)]; exact m.2.2.2.1, by rw [xj _ (by decide) (by decide) (by decide) (by decide) (by decide)]; exact m.2.2.2.2⟩, ⟨?_, ?_, ?_, ?_, ?_, ?_, ?_⟩, ⟨fun hn => (by cases hn), fun B hB => ⟨up_eq _ _ _ _, ?_⟩⟩, ?_, ?_, ?_⟩, fun j hj => ?_⟩
  · rw [hS0]
    refine ⟨_, c1, _, c2, ?_⟩
    rw [e8, e9]
    exact go _ go2
  · exact refR_shift r1 hC (fun i p q => by rw [x91, k2 _ (by omega)])
  · rw [x90 _ (by decide) (by decide) (by decide) (by decide)]; exact r2
  · rw [x90 _ (by decide) (by decide) (by decide) (by decide)]; exact r3
  · intro k A hk
    rw [x90 _ (by decide) (by decide) (by decide) (by decide)]
    exact refR_shift (r4 k A hk) (hCk k A hk) (fun i p q => by rw [x91, k2 _ (by omega)])
  · rw [x90 _ (by decide) (by decide) (by decide) (by decide)]; exact r5
  · intro i p q
    have q' : i < W.2.1.2.2.1 := q
    rw [(x92 _ (by omega)).1, (x92 _ (by omega)).2]; exact r6 i p q
  · intro i p q
    rw [x94 _ (by omega)]; exact r7 i p q
  · cases hB
    refine ⟨refR_shift r1 hC (fun i p q => by rw [x91, l2 i p q, Int.zero_add]), by rw [y8]; exact r2, by rw [y9]; exact r3, fun k A hk => ?_, by rw [y10]; exact r5, fun i p q => ?_, fun i p q => ?_⟩
    · rw [y9]
      exact refR_shift (r4 k A hk) (hCk k A hk) (fun i p q => by rw [x91, show (71122 : Int) + 1654 * ((S0 90 6 + (k : Int)) % 40) + i = 71122 + (1654 * ((S0 90 6 + (k : Int)) % 40) + i) by omega, m2 _ (by omega) (by omega)]; congr 1; omega)
    · rw [(w92 i p (by omega)).1, (w92 i p (by omega)).2]
      have := r6 i p q
      rw [Int.zero_add] at this
      exact this
    · rw [w94 i p q]
      have := r7 i p q
      rw [Int.zero_add] at this
      exact this
  · show ∀ i, 0 ≤ i → i < W.2.2.2 1 0 → up S5 90 11 1 99 i = _
    rw [xj _ (by decide) (by decide) (by decide) (by decide) (by decide)]; exact t
  · show up S5 90 11 1 90 25 = _
    rw [x90 _ (by decide) (by decide) (by decide) (by decide)]; exact f
  · show up S5 90 11 1 90 26 = _
    rw [x90 _ (by decide) (by decide) (by decide) (by decide)]; exact a
  · rw [xj j (by omega) (by omega) (by omega) (by omega) (by omega), ← hS0, up_ne (by omega)]
theorem rst_lp1 (h0 : sMod SH) : ∀ (n : Nat) (k : Int) {S : mStore}, k + n = 8 → 0 ≤ k → ∃ S', (∀ i, k ≤ i → i < 8 → S' 92 i = S 92 (8 + i) ∧ S' 93 i = S 93 (8 + i)) ∧ (∀ i, i < k ∨ 8 ≤ i → S' 92 i = S 92 i ∧ S' 93 i = S 93 i) ∧ (∀ j, j ≠ 92 → j ≠ 93 → S' j = S j) ∧ ∀ r, G sc MX11_restore 108 [some (.ref 90), some (.int (I 0))] [] SH S' r → G sc MX11_restore 64 [some (.ref 90), some (.int (I k))] [] SH S r
  | 0, k, S, hk, h1 => by
    refine ⟨S, fun i a b => by omega, fun i _ => ⟨rfl, rfl⟩, fun _ _ _ => rfl, fun r g => qX11_restore_64 h0 ?_⟩
    rw [if_pos (by rw [I_le ⟨by decide, by decide⟩ ⟨by omega, by omega⟩]; omega)]
    exact g
  | n + 1, k, S, hk, h1 => by
    have e93 : up S 92 k (S 92 (8 + k)) 93 (8 + k) = S 93 (8 + k) := by rw [up_ne (show (93 : Nat) ≠ 92 by decide)]
    have x92 : ∀ i, up (up S 92 k (S 92 (8 + k))) 93 k (S 93 (8 + k)) 92 i = if i = k then S 92 (8 + k) else S 92 i := fun i => by rw [up_ne (show (92 : Nat) ≠ 93 by decide), up_at]
    have x93 : ∀ i, up (up S 92 k (S 92 (8 + k))) 93 k (S 93 (8 + k)) 93 i = if i = k then S 93 (8 + k) else S 93 i := fun i => by rw [up_at, up_ne (show (93 : Nat) ≠ 92 by decide)]
    obtain ⟨S', a1, a2, a3, go⟩ := rst_lp1 h0 n (k + 1) (S := up (up S 92 k (S 92 (8 + k))) 93 k (S 93 (8 + k))) (by omega) (by omega)
    refine ⟨S', fun i p q => ?_, fun i p => ?_, fun j p q => by rw [a3 j p q, up_ne q, up_ne p], fun r g => qX11_restore_64 h0 ?_⟩
    · by_cases d : i = k
      · subst d
        rw [(a2 i (by omega)).1, (a2 i (by omega)).2, x92, x93, if_pos rfl, if_pos rfl]
        exact ⟨rfl, rfl⟩
      · rw [(a1 i (by omega) q).1, (a1 i (by omega) q).2, x92, x93, if_neg (by omega), if_neg (by omega)]
        exact ⟨rfl, rfl⟩
    · rw [(a2 i (by omega)).1, (a2 i (by omega)).2, x92, x93, if_neg (by omega), if_neg (by omega)]
      exact ⟨rfl, rfl⟩
    · rw [if_neg (by rw [I_le ⟨by decide, by decide⟩ ⟨by omega, by omega⟩]; omega), e93]
      exact ⟨⟨by omega, by omega⟩, ⟨by omega, by omega⟩, ⟨by omega, by omega⟩, ⟨by omega, by omega⟩, go r g⟩
theorem rst_lp2 (h0 : sMod SH) : ∀ (n : Nat) (k : Int) {S : mStore}, k + n = 3 → 0 ≤ k → ∃ S', (∀ i, k ≤ i → i < 3 → S' 94 i = S 94 (3 + i)) ∧ (∀ i, i < k ∨ 3 ≤ i → S' 94 i = S 94 i) ∧ (∀ j, j ≠ 94 → S' j = S j) ∧ G sc MX11_restore 108 [some (.ref 90), some (.int (I k))] [] SH S (rI 1 SH S')
  | 0, k, S, hk, h1 => by
    refine ⟨S, fun i a b => by omega, fun i _ => rfl, fun _ _ => rfl, qX11_restore_108 h0 ?_⟩
    rw [if_pos (by rw [I_le ⟨by decide, by decide⟩ ⟨by omega, by omega⟩]; omega)]
    exact ⟨.inr rfl, rfl⟩
  | n + 1, k, S, hk, h1 => by
    obtain ⟨S', a1, a2, a3, go⟩ := rst_lp2 h0 n (k + 1) (S := up S 94 k (S 94 (3 + k))) (by omega) (by omega)
    refine ⟨S', fun i p q => ?_, fun i p => ?_, fun j p => by rw [a3 j p, up_ne p], qX11_restore_108 h0 ?_⟩
    · by_cases d : i = k
      · subst d
        rw [a2 i (by omega), up_at, if_pos rfl]
      · rw [a1 i (by omega) q, up_at, if_neg (by omega)]
    · rw [a2 i (by omega), up_at, if_neg (by omega)]
    · rw [if_neg (by rw [I_le ⟨by decide, by decide⟩ ⟨by omega, by omega⟩]; omega)]
      exact ⟨⟨by omega, by omega⟩, ⟨by omega, by omega⟩, go⟩
theorem restore_md (h0 : sMod SH) (hW : wfW W) (h : mdR S N W) {y : Int} {u : Option Value} : MD sc MX11_restore [some (.ref 90), u] SH S N y (restF W).1 (restF W).2 := by
  have hd := mdR_thr (x := 0) hW h
  unfold restF
  cases hq : W.2.2.1 with
  | none =>
    refine MD_val hW h (qX11_restore_0 h0 ?_)
    rw [hd.2.2.1.1 hq, if_pos rfl]
    exact ⟨.inl rfl, rfl⟩
  | some B =>
    obtain ⟨m, -, im, t, f, a⟩ := hd
    obtain ⟨e11, r1, r2, r3, r4, r5, r6, r7⟩ := im.2 B hq
    have hB := (hW.2.2.2.1 B hq).1
    have e4 : up S 90 4 0 90 4 = 0 := up_eq _ _ _ _
    generalize hS0 : up S 90 4 0 = S0 at *
    have c1 := rcopies_ok (sc := sc) (u := none) h0 (S := S0) (x := 69468) (y := 0) (n := 1654) (by decide) ⟨by decide, by decide⟩ ⟨by decide, by decide⟩ (.inr (by decide))
    have c2 := rcopies_ok (sc := sc) (u := none) h0 (S := cpr S0 69468 0 1654) (x := 71122) (y := 3308) (n := 66160) (by decide) ⟨by decide, by decide⟩ ⟨by decide, by decide⟩ (.inr (by decide))
    generalize hS2 : cpr (cpr S0 69468 0 1654) 71122 3308 66160 = S2 at *
    have j2 : ∀ j, j ≠ 91 → S2 j = S0 j := fun j hj => by rw [← hS2, cpr_ne hj, cpr_ne hj]
    have k2 : ∀ i, 69468 ≤ i → S2 91 i = S0 91 i := fun i hi => by rw [← hS2, cpr_out (by omega), cpr_out (by omega)]
    have l2 : ∀ i, 0 ≤ i → i < 1654 → S2 91 i = S0 91 (69468 + i) := fun i a b => by rw [← hS2, cpr_out (by omega), cpr_in (by omega)]; congr 1; omega
    have m2 : ∀ i, 0 ≤ i → i < 66160 → S2 91 (3308 + i) = S0 91 (71122 + i) := fun i a b => by rw [← hS2, cpr_in (by omega), cpr_out (by omega)]; congr 1; omega
    have e8 : up S2 90 5 (S2 90 8) 90 9 = S2 90 9 := by rw [up_at, if_neg (by decide)]
    have e9 : up (up S2 90 5 (S2 90 8)) 90 6 (S2 90 9) 90 10 = S2 90 10 := by rw [up_at, if_neg (by decide), up_at, if_neg (by decide)]
    obtain ⟨S4, a1, a2, a3, go⟩ := rst_lp1 (sc := sc) h0 8 0 (S := up (up (up S2 90 5 (S2 90 8)) 90 6 (S2 90 9)) 90 7 (S2 90 10)) (by decide) (by decide)
    obtain ⟨S5, b1, b2, b3, go2⟩ := rst_lp2 (sc := sc) h0 3 0 (S := S4) (by decide) (by decide)
    have x90 : ∀ i, i ≠ 5 → i ≠ 6 → i ≠ 7 → S5 90 i = S0 90 i := fun i q8 q9 q10 => by
      rw [b3 90 (by decide), a3 90 (by decide) (by decide), up_at, if_neg q10, up_at, if_neg q9, up_at, if_neg q8, j2 90 (by decide)]
    have y5 : S5 90 5 = S0 90 8 := by
      rw [b3 90 (by decide), a3 90 (by decide) (by decide), up_at, if_neg (by decide), up_at, if_neg (by decide), up_eq, j2 90 (by decide)]
    have y6 : S5 90 6 = S0 90 9 := by
      rw [b3 90 (by decide), a3 90 (by decide) (by decide), up_at, if_neg (by decide), up_eq, j2 90 (by decide)]
    have y7 : S5 90 7 = S0 90 10 := by
      rw [b3 90 (by decide), a3 90 (by decide) (by decide), up_eq, j2 90 (by decide)]
    have x91 : S5 91 = S2 91 := by
      rw [b3 91 (by decide), a3 91 (by decide) (by decide), up_ne (by decide), up_ne (by decide), up_ne (by decide)]
    have xj : ∀ j, j ≠ 90 → j ≠ 91 → j ≠ 92 → j ≠ 93 → j ≠ 94 → S5 j = S0 j := fun j q0 q1 q2 q3 q4 => by
      rw [b3 j q4, a3 j q2 q3, up_ne q0, up_ne q0, up_ne q0, j2 j q1]
    have z92 : ∀ i, up (up (up S2 90 5 (S2 90 8)) 90 6 (S2 90 9)) 90 7 (S2 90 10) 92 i = S0 92 i := fun i => by rw [up_ne (by decide), up_ne (by decide), up_ne (by decide), j2 92 (by decide)]
    have z93 : ∀ i, up (up (up S2 90 5 (S2 90 8)) 90 6 (S2 90 9)) 90 7 (S2 90 10) 93 i = S0 93 i := fun i => by rw [up_ne (by decide), up_ne (by decide), up_ne (by decide), j2 93 (by decide)]
    have z94 : ∀ i, S4 94 i = S0 94 i := fun i => by rw [a3 94 (by decide) (by decide), up_ne (by decide), up_ne (by decide), up_ne (by decide), j2 94 (by decide)]
    have x92 : ∀ i, 8 ≤ i → S5 92 i = S0 92 i ∧ S5 93 i = S0 93 i := fun i hi => by
      rw [b3 92 (by decide), b3 93 (by decide), (a2 i (by omega)).1, (a2 i (by omega)).2, z92, z93]; exact ⟨rfl, rfl⟩
    have w92 : ∀ i, 0 ≤ i → i < 8 → S5 92 i = S0 92 (8 + i) ∧ S5 93 i = S0 93 (8 + i) := fun i p q => by
      rw [b3 92 (by decide), b3 93 (by decide), (a1 i p q).1, (a1 i p q).2, z92, z93]; exact ⟨rfl, rfl⟩
    have x94 : ∀ i, 3 ≤ i → S5 94 i = S0 94 i := fun i hi => by rw [b2 i (by omega), z94]
    have w94 : ∀ i, 0 ≤ i → i < 3 → S5 94 i = S0 94 (3 + i) := fun i p q => by rw [b1 i p q, z94]
    have hn8 := hB.2.2.2.1
    have hC := hB.1.2.1
    have hCk : ∀ (k : Nat) (A : aS), B.2.1[k]? = some A → wfR A.C A.k := fun k A hk => (hB.2.1 A (List.mem_of_getElem? hk)).2.1
    refine ⟨1, S5, qX11_restore_0 h0 ?_, ⟨⟨fun i h1 h2 => by rw [x90 _ (by omega) (by omega) (by omega)]; exact m.1 i h1 h2, by rw [xj _ (by decide) (by decide) (by decide) (by decide) (by decide)]; exact m.2.1, by rw [xj _ (by decide) (by decide) (by decide) (by decide) (by decide)]; exact m.2.2.1, by rw [xj _ (by decide) (by decide) (by decide) (by decide) (by decide)]; exact m.2.2.2.1, by rw [xj _ (by decide) (by decide) (by decide) (by decide) (by decide)]; exact m.2.2.2.2⟩, ⟨?_, ?_, ?_, ?_, ?_, ?_, ?_⟩, ⟨fun hn => (by cases hn), fun B' hB' => ?_⟩, ?_, ?_, ?_⟩, fun y e => by cases e; exact ⟨rfl, by rw [x90 _ (by decide) (by decide) (by decide)]; exact e4⟩, fun k e => (by cases e), fun j hj => ?_⟩
    · rw [hS0, e11, if_neg (by decide)]
      refine ⟨_, c1, _, c2, ?_⟩
      rw [e8, e9]
      exact go _ go2
    · exact refR_shift r1 hC (fun i p q => by rw [x91, Int.zero_add, l2 i p q])
    · rw [y5]; exact r2
    · rw [y6]; exact r3
    · intro k A hk
      rw [y6]
      exact refR_shift (r4 k A hk) (hCk k A hk) (fun i p q => by rw [x91, show (3308 : Int) + 1654 * ((S0 90 9 + (k : Int)) % 40) + i = 3308 + (1654 * ((S0 90 9 + (k : Int)) % 40) + i) by omega, m2 _ (by omega) (by omega)]; congr 1; omega)
    · rw [y7]; exact r5
    · intro i p q
      have q' : i < B.2.2.1 := q
      rw [Int.zero_add, (w92 i p (by omega)).1, (w92 i p (by omega)).2]; exact r6 i p q
    · intro i p q
      rw [Int.zero_add, w94 i p q]; exact r7 i p q
    · cases hB'
      refine ⟨by rw [x90 _ (by decide) (by decide) (by decide)]; exact e11, refR_shift r1 hC (fun i p q => by rw [x91, k2 _ (by omega)]), by rw [x90 _ (by decide) (by decide) (by decide)]; exact r2, by rw [x90 _ (by decide) (by decide) (by decide)]; exact r3, fun k A hk => ?_, by rw [x90 _ (by decide) (by decide) (by decide)]; exact r5, fun i p q => ?_, fun i p q => ?_⟩
      · rw [x90 _ (by decide) (by decide) (by decide)]
        exact refR_shift (r4 k A hk) (hCk k A hk) (fun i p q => by rw [x91, k2 _ (by omega)])
      · rw [(x92 _ (by omega)).1, (x92 _ (by omega)).2]; exact r6 i p q
      · rw [x94 _ (by omega)]; exact r7 i p q
    · show ∀ i, 0 ≤ i → i < W.2.2.2 1 0 → S5 99 i = _
      rw [xj _ (by decide) (by decide) (by decide) (by decide) (by decide)]; exact t
    · show S5 90 25 = _
      rw [x90 _ (by decide) (by decide) (by decide)]; exact f
    · show S5 90 26 = _
      rw [x90 _ (by decide) (by decide) (by decide)]; exact a
    · rw [xj j (by omega) (by omega) (by omega) (by omega) (by omega), ← hS0, up_ne (by omega)]
end
