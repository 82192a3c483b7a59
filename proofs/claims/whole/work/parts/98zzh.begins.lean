/-! ===== the reference begins, and forgets its draft ===== -/
section
variable {sc : Nat × (Nat → Int32)} {SH : List mCell}
theorem beg2 (h0 : sMod SH) : ∀ (k : Nat) (l : Int) (S : mStore), l + k = 1654 → 0 ≤ l → ∃ Z, (∀ i, Z 91 i = if l ≤ i ∧ i < 1654 then 0 else S 91 i) ∧ (∀ j, j ≠ 91 → Z j = S j) ∧ ∀ r, G sc MX11_begins 34 [some (.ref 90), some (.int (I 0))] [] SH (up Z 91 0 (S 90 14)) r → G sc MX11_begins 2 [some (.ref 90), some (.int (I l))] [] SH S r
  | 0, l, S, hl, l0 => by
    refine ⟨S, fun i => by rw [if_neg (by omega)], fun _ _ => rfl, fun r q => qX11_begins_2 h0 ?_⟩
    rw [if_pos (by rw [I_le ⟨by decide, by decide⟩ ⟨by omega, by omega⟩]; omega)]
    exact ⟨by decide, q⟩
  | k + 1, l, S, hl, l0 => by
    obtain ⟨Z, z1, z2, z3⟩ := beg2 h0 k (l + 1) (up S 91 l 0) (by omega) (by omega)
    refine ⟨Z, fun i => ?_, fun j hj => by rw [z2 j hj, up_ne hj], fun r q => qX11_begins_2 h0 ?_⟩
    · rw [z1 i, up_at]
      by_cases c : l + 1 ≤ i ∧ i < 1654
      · rw [if_pos c, if_pos ⟨by omega, c.2⟩]
      · rw [if_neg c]
        by_cases d : i = l
        · rw [if_pos d, if_pos ⟨by omega, by omega⟩]
        · rw [if_neg d, if_neg (by omega)]
    · rw [if_neg (by rw [I_le ⟨by decide, by decide⟩ ⟨by omega, by omega⟩]; omega)]
      refine ⟨⟨l0, by omega⟩, z3 r ?_⟩
      rw [up_ne (show (90 : Nat) ≠ 91 by decide)]
      exact q
theorem beg34 (h0 : sMod SH) : ∀ (k : Nat) (l : Int) (S : mStore), l + k = 48 → 0 ≤ l → ∃ Z, (∀ i, Z 91 i = if (16 + l ≤ i ∧ i < 64) ∨ (160 + l ≤ i ∧ i < 208) then -1 else S 91 i) ∧ (∀ j, j ≠ 91 → Z j = S j) ∧ ∀ r, G sc MX11_begins 69 [some (.ref 90), some (.int (I 0))] [] SH Z r → G sc MX11_begins 34 [some (.ref 90), some (.int (I l))] [] SH S r
  | 0, l, S, hl, l0 => by
    refine ⟨S, fun i => by rw [if_neg (by omega)], fun _ _ => rfl, fun r q => qX11_begins_34 h0 ?_⟩
    rw [if_pos (by rw [I_le ⟨by decide, by decide⟩ ⟨by omega, by omega⟩]; omega)]
    exact q
  | k + 1, l, S, hl, l0 => by
    obtain ⟨Z, z1, z2, z3⟩ := beg34 h0 k (l + 1) (up (up S 91 (16 + l) (-1)) 91 (160 + l) (-1)) (by omega) (by omega)
    refine ⟨Z, fun i => ?_, fun j hj => by rw [z2 j hj, up_ne hj, up_ne hj], fun r q => qX11_begins_34 h0 ?_⟩
    · rw [z1 i, up_at, up_at]
      by_cases c : (16 + (l + 1) ≤ i ∧ i < 64) ∨ (160 + (l + 1) ≤ i ∧ i < 208)
      · rw [if_pos c, if_pos (by omega)]
      · rw [if_neg c]
        by_cases d : i = 160 + l
        · rw [if_pos d, if_pos (by omega)]
        · rw [if_neg d]
          by_cases e : i = 16 + l
          · rw [if_pos e, if_pos (by omega)]
          · rw [if_neg e, if_neg (by omega)]
    · rw [if_neg (by rw [I_le ⟨by decide, by decide⟩ ⟨by omega, by omega⟩]; omega)]
      exact ⟨⟨by omega, by omega⟩, ⟨by omega, by omega⟩, z3 r q⟩
theorem beg69 (h0 : sMod SH) : ∀ (k : Nat) (l : Int) (S : mStore), l + k = 48 → 0 ≤ l → ∃ Z, (∀ i, Z 91 i = if 976 + l ≤ i ∧ i < 1024 then -1 else S 91 i) ∧ (∀ j, j ≠ 91 → Z j = S j) ∧ G sc MX11_begins 69 [some (.ref 90), some (.int (I l))] [] SH S (rV SH Z)
  | 0, l, S, hl, l0 => by
    refine ⟨S, fun i => by rw [if_neg (by omega)], fun _ _ => rfl, qX11_begins_69 h0 ?_⟩
    rw [if_pos (by rw [I_le ⟨by decide, by decide⟩ ⟨by omega, by omega⟩]; omega)]
  | k + 1, l, S, hl, l0 => by
    obtain ⟨Z, z1, z2, z3⟩ := beg69 h0 k (l + 1) (up S 91 (976 + l) (-1)) (by omega) (by omega)
    refine ⟨Z, fun i => ?_, fun j hj => by rw [z2 j hj, up_ne hj], qX11_begins_69 h0 ?_⟩
    · rw [z1 i, up_at]
      by_cases c : 976 + (l + 1) ≤ i ∧ i < 1024
      · rw [if_pos c, if_pos ⟨by omega, c.2⟩]
      · rw [if_neg c]
        by_cases d : i = 976 + l
        · rw [if_pos d, if_pos ⟨by omega, by omega⟩]
        · rw [if_neg d, if_neg (by omega)]
    · rw [if_neg (by rw [I_le ⟨by decide, by decide⟩ ⟨by omega, by omega⟩]; omega)]
      exact ⟨⟨by omega, by omega⟩, z3⟩
theorem begins_ok (h0 : sMod SH) {S : mStore} {m N : Int} (hm : S 90 14 = m) (hN : 0 ≤ N) {u : Option Value} : ∃ S', G sc MX11_begins 0 [some (.ref 90), u] [] SH S (rV SH S') ∧ refR S' 0 (newA m) N ∧ (∀ i, 1654 ≤ i → S' 91 i = S 91 i) ∧ (∀ j, j ≠ 91 → S' j = S j) := by
  obtain ⟨Z1, a1, a2, a3⟩ := beg2 (sc := sc) h0 1654 0 S (by decide) (by decide)
  rw [hm] at a3
  obtain ⟨Z2, b1, b2, b3⟩ := beg34 (sc := sc) h0 48 0 (up Z1 91 0 m) (by decide) (by decide)
  obtain ⟨Z3, c1, c2, c3⟩ := beg69 (sc := sc) h0 48 0 Z2 (by decide) (by decide)
  have ev : ∀ i, 0 ≤ i → i < 1654 → Z3 91 i = if 976 ≤ i ∧ i < 1024 then -1 else if (16 ≤ i ∧ i < 64) ∨ (160 ≤ i ∧ i < 208) then -1 else if i = 0 then m else 0 := fun i i0 i1 => by
    rw [c1, b1, up_at, a1, Int.add_zero, Int.add_zero, Int.add_zero]
    rw [if_pos (show 0 ≤ i ∧ i < 1654 from ⟨i0, i1⟩)]
  have e0 : ∀ i, 0 ≤ i → i < 1654 → i ≠ 0 → ¬(976 ≤ i ∧ i < 1024) → ¬((16 ≤ i ∧ i < 64) ∨ (160 ≤ i ∧ i < 208)) → Z3 91 i = 0 := fun i i0 i1 q1 q2 q3 => by rw [ev i i0 i1, if_neg q2, if_neg q3, if_neg q1]
  have vn : ∀ (j : Nat) (i : Int), j ≠ 3 → ¬(j = 6 ∧ i = 0) → vnew m j i = 0 := fun j i q1 q2 => by unfold vnew; rw [if_neg q1, if_neg q2]
  refine ⟨Z3, qX11_begins_0 h0 (a3 _ (b3 _ c3)), ⟨fun i i0 i1 => ?_, fun p p0 p1 => ?_, fun p p0 p1 => ?_, fun p p0 p1 => ?_, fun p p0 p1 => ?_, fun p p0 p1 => ?_, fun p p0 p1 => ?_, fun p p0 p1 => ?_, fun f c f0 f1 c0 c1 => ?_, fun f f0 f1 => ?_, fun f i f0 f1 i0 i1 => ?_, fun f f0 f1 => ?_, ⟨?_, fun f f0 f1 q => absurd rfl q, fun x => List.Pairwise.nil⟩, fun ρ r0 r1 => ?_, fun ρ r0 r1 => ?_, fun f => by show (0 : Nat) ≤ 8; decide, fun ρ => ⟨by show (0 : Nat) ≤ 48; decide, by show (0 : Nat) ≤ 48; decide⟩⟩, fun i hi => ?_, fun j hj => by rw [c2 j hj, b2 j hj, up_ne hj, a2 j hj]⟩
  · show Z3 91 (0 + i) = vnew m 6 i
    by_cases z : i = 0
    · rw [z, Int.add_zero, ev 0 (by decide) (by decide), if_neg (by decide), if_neg (by decide), if_pos rfl]
      unfold vnew
      rw [if_neg (by decide), if_pos ⟨rfl, rfl⟩]
    · rw [e0 _ (by omega) (by omega) (by omega) (by omega) (by omega), vn 6 i (by decide) (fun q => z q.2)]
  · show Z3 91 (0 + 16 + p) = -1
    rw [ev _ (by omega) (by omega), if_neg (by omega), if_pos (by omega)]
  · show Z3 91 (0 + 64 + p) = vnew m 1 p
    rw [e0 _ (by omega) (by omega) (by omega) (by omega) (by omega), vn 1 p (by decide) (fun q => absurd q.1 (by decide))]
  · show Z3 91 (0 + 112 + p) = vnew m 2 p
    rw [e0 _ (by omega) (by omega) (by omega) (by omega) (by omega), vn 2 p (by decide) (fun q => absurd q.1 (by decide))]
  · show Z3 91 (0 + 160 + p) = vnew m 3 p
    rw [ev _ (by omega) (by omega), if_neg (by omega), if_pos (by omega)]
    unfold vnew
    rw [if_pos rfl]
  · show Z3 91 (0 + 208 + p) = vnew m 4 p
    rw [e0 _ (by omega) (by omega) (by omega) (by omega) (by omega), vn 4 p (by decide) (fun q => absurd q.1 (by decide))]
  · show Z3 91 (0 + 256 + p) = vnew m 5 p
    rw [e0 _ (by omega) (by omega) (by omega) (by omega) (by omega), vn 5 p (by decide) (fun q => absurd q.1 (by decide))]
  · show Z3 91 (0 + 304 + p) = if p ∈ al (fun _ => .leaf ()) then 1 else 0
    rw [e0 _ (by omega) (by omega) (by omega) (by omega) (by omega), if_neg (fun q => by cases q)]
  · show Z3 91 (0 + 352 + 4 * f + c) = nb (vnew m 0 f) (12 - 4 * c)
    rw [e0 _ (by omega) (by omega) (by omega) (by omega) (by omega), vn 0 f (by decide) (fun q => absurd q.1 (by decide)), nb_z (by omega)]
  · show Z3 91 (0 + 544 + f) = 0
    exact e0 _ (by omega) (by omega) (by omega) (by omega) (by omega)
  · have i1' : i < 0 := i1
    omega
  · show Z3 91 (0 + 976 + f) = -1
    rw [ev _ (by omega) (by omega), if_pos (by omega)]
  · rw [e0 _ (by decide) (by decide) (by decide) (by decide) (by decide)]; omega
  · have q := e0 (0 + 1072 + 97 * ρ) (by omega) (by omega) (by omega) (by omega) (by omega)
    exact ⟨q, fun i h1 h2 => by have h2' : i < 0 := h2; omega⟩
  · have q := e0 (0 + 1363 + 97 * ρ) (by omega) (by omega) (by omega) (by omega) (by omega)
    exact ⟨q, fun i h1 h2 => by have h2' : i < 0 := h2; omega⟩
  · rw [c1, if_neg (by omega), b1, if_neg (by omega), up_at, if_neg (by omega), a1, if_neg (by omega)]
theorem wo_lp (h0 : sMod SH) : ∀ (k : Nat) (l : Int) (S : mStore), l + k = 48 → 0 ≤ l → ∃ Z, G sc MX11_without1 49 [some (.ref 90), some (.int (I l))] [] SH S (rV SH Z) ∧ (∀ i, Z 104 i = if l ≤ i ∧ i < 48 then -1 else S 104 i) ∧ (∀ i, Z 106 i = if l ≤ i ∧ i < 48 then 0 else S 106 i) ∧ (∀ j, j ≠ 104 → j ≠ 106 → Z j = S j)
  | 0, l, S, hl, l0 => by
    refine ⟨S, qX11_without1_49 h0 ?_, fun i => by rw [if_neg (by omega)], fun i => by rw [if_neg (by omega)], fun _ _ _ => rfl⟩
    rw [if_pos (by rw [I_le ⟨by decide, by decide⟩ ⟨by omega, by omega⟩]; omega)]
  | k + 1, l, S, hl, l0 => by
    obtain ⟨Z, z0, z1, z2, z3⟩ := wo_lp h0 k (l + 1) (up (up S 104 l (-1)) 106 l 0) (by omega) (by omega)
    refine ⟨Z, qX11_without1_49 h0 ?_, fun i => ?_, fun i => ?_, fun j j1 j2 => by rw [z3 j j1 j2, up_ne j2, up_ne j1]⟩
    · rw [if_neg (by rw [I_le ⟨by decide, by decide⟩ ⟨by omega, by omega⟩]; omega)]
      exact ⟨⟨l0, by omega⟩, ⟨l0, by omega⟩, z0⟩
    · rw [z1 i, up_ne (by decide), up_at]
      by_cases c : l + 1 ≤ i ∧ i < 48
      · rw [if_pos c, if_pos ⟨by omega, c.2⟩]
      · rw [if_neg c]
        by_cases d : i = l
        · rw [if_pos d, if_pos ⟨by omega, by omega⟩]
        · rw [if_neg d, if_neg (by omega)]
    · rw [z2 i, up_at, up_ne (by decide)]
      by_cases c : l + 1 ≤ i ∧ i < 48
      · rw [if_pos c, if_pos ⟨by omega, c.2⟩]
      · rw [if_neg c]
        by_cases d : i = l
        · rw [if_pos d, if_pos ⟨by omega, by omega⟩]
        · rw [if_neg d, if_neg (by omega)]
theorem without_ok (h0 : sMod SH) {S : mStore} {b : Int → Int} {n : Int} {T : aT} (h : mdT S b n T) {m : Int} {u : Option Value} : ∃ S', G sc MX11_without1 0 [some (.ref 90), u] [] SH S (rV SH S') ∧ mdT S' b n T ∧ drF S S' ∧ drR S' (D0d m) := by
  generalize hU : up (up (up (up (up (up (up (up (up S 90 40 24) 90 41 4) 90 42 1) 90 43 8) 90 48 0) 90 47 0) 90 46 0) 90 45 0) 90 44 0 = U
  obtain ⟨Z, z0, z1, z2, z3⟩ := wo_lp (sc := sc) h0 48 0 U (by decide) (by decide)
  have uj : ∀ j, j ≠ 90 → U j = S j := fun j hj => by rw [← hU, up_ne hj, up_ne hj, up_ne hj, up_ne hj, up_ne hj, up_ne hj, up_ne hj, up_ne hj, up_ne hj]
  have ui : ∀ i, i < 40 ∨ 48 < i → U 90 i = S 90 i := fun i hi => by rw [← hU, up_at, if_neg (by omega), up_at, if_neg (by omega), up_at, if_neg (by omega), up_at, if_neg (by omega), up_at, if_neg (by omega), up_at, if_neg (by omega), up_at, if_neg (by omega), up_at, if_neg (by omega), up_at, if_neg (by omega)]
  have pn : ∀ g i, plc P0d g i = -1 := fun g i => by
    unfold plc
    rw [if_neg]
    rintro ⟨⟨h1, h2⟩, -⟩
    have h2' : g < 0 := h2
    omega
  refine ⟨Z, qX11_without1_0 h0 (by rw [hU]; exact z0), mdT_far h (fun f hf => by rw [z3 90 (by decide) (by decide), ui f (by omega)]) (by rw [z3 99 (by decide) (by decide), uj 99 (by decide)]), ⟨fun j a1 a2 a3 a4 a5 a6 => by rw [z3 j a4 a6, uj j a1], fun f hf => by rw [z3 90 (by decide) (by decide), ui f (by omega)]⟩, ⟨fun i i0 i7 => ?_, ?_, ?_, fun g h1 h2 => ?_, fun g i h1 h2 h3 h4 => ?_, fun f c h1 h2 => ?_⟩⟩
  · rw [z3 90 (by decide) (by decide), ← hU]
    rcases (show i = 0 ∨ i = 1 ∨ i = 2 ∨ i = 3 ∨ i = 4 ∨ i = 5 ∨ i = 6 by omega) with rfl | rfl | rfl | rfl | rfl | rfl | rfl <;> rfl
  · rw [z3 90 (by decide) (by decide), ← hU]; rfl
  · rw [z3 90 (by decide) (by decide), ← hU]; rfl
  · have h2' : g < 0 := h2
    omega
  · show Z 104 (12 * g + i) = drW P0d (newA m) g i ∧ Z 106 (12 * g + i) = drV P0d (newA m) g i
    unfold drW drV
    rw [pn g i, if_pos rfl, if_pos rfl, z1, z2, if_pos ⟨by omega, by omega⟩, if_pos ⟨by omega, by omega⟩]
    exact ⟨rfl, rfl⟩
  · have h2' : f < 0 := h2
    omega
end
