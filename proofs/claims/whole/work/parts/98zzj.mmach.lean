/-! ===== machine of the reference ===== -/
section
variable {sc : Nat × (Nat → Int32)} {SH : List mCell} {D : aD} {μ : Int}
theorem bc_in (h0 : sMod SH) {g s x : Int} (hg : 0 ≤ g ∧ g < 4) (hs : 0 ≤ s ∧ s + x ≤ 48) (hx : x ≤ 12) {u : Option Value} : ∀ (k : Nat) (l : Int) (S : mStore), l + k = x → 0 ≤ l → S 90 19 = s + l → S 95 g = x → ∃ Z, (∀ i, Z 98 i = if s + l ≤ i ∧ i < s + x then g else S 98 i) ∧ Z 90 19 = s + x ∧ (∀ i, i ≠ 19 → Z 90 i = S 90 i) ∧ (∀ j, j ≠ 90 → j ≠ 98 → Z j = S j) ∧ ∀ r, G sc MX11_becomes 63 [some (.ref 90), some (.int (I (g + 1))), some (.int (I x)), u] [] SH Z r → G sc MX11_becomes 107 [some (.ref 90), some (.int (I g)), some (.int (I l)), u] [] SH S r
  | 0, l, S, hl, l0, h19, h95 => by
    refine ⟨S, fun i => by rw [if_neg (by omega)], by rw [h19]; omega, fun _ _ => rfl, fun _ _ _ => rfl, fun r q => qX11_becomes_107 h0 ⟨hg, ?_⟩⟩
    rw [h95, if_pos (by rw [I_le ⟨by omega, by omega⟩ ⟨by omega, by omega⟩]; omega), show l = x by omega]
    exact q
  | k + 1, l, S, hl, l0, h19, h95 => by
    have e : up S 98 (s + l) g 90 19 = s + l := by rw [up_ne (by decide)]; exact h19
    obtain ⟨Z, z1, z2, z3, z4, z5⟩ := bc_in h0 hg hs hx (u := u) k (l + 1) (up (up S 98 (s + l) g) 90 19 (s + l + 1)) (by omega) (by omega) (by rw [up_eq]; omega) (by rw [up_ne (by decide), up_ne (by decide)]; exact h95)
    refine ⟨Z, fun i => ?_, z2, fun i hi => by rw [z3 i hi, up_at, if_neg hi, up_ne (by decide)], fun j j1 j2 => by rw [z4 j j1 j2, up_ne j1, up_ne j2], fun r q => qX11_becomes_107 h0 ⟨hg, ?_⟩⟩
    · rw [z1 i, up_ne (by decide), up_at]
      by_cases c : s + (l + 1) ≤ i ∧ i < s + x
      · rw [if_pos c, if_pos ⟨by omega, c.2⟩]
      · rw [if_neg c]
        by_cases d : i = s + l
        · rw [if_pos d, if_pos ⟨by omega, by omega⟩]
        · rw [if_neg d, if_neg (by omega)]
    · rw [h95, if_neg (by rw [I_le ⟨by omega, by omega⟩ ⟨by omega, by omega⟩]; omega), h19, e]
      exact ⟨⟨by omega, by omega⟩, z5 r q⟩
theorem bc_out (h0 : sMod SH) (hP : wfP D.1) (hg : gh μ D) {u3 : Option Value} : ∀ (k : Nat) (g : Int) (S : mStore) (u2 : Option Value), g + k = D.1 0 6 → 0 ≤ g → S 90 18 = D.1 0 6 → S 90 19 = (if g = D.1 0 6 then D.1 0 7 else D.1 3 g) → (∀ i, 0 ≤ i → i < D.1 0 6 → S 102 i = D.1 1 i ∧ S 103 i = D.1 2 i) → (∀ i, 0 ≤ i → i < g → S 95 i = D.1 1 i ∧ S 96 i = D.1 2 i ∧ S 97 i = D.1 3 i) → (∀ i, 0 ≤ i → i < (if g = D.1 0 6 then D.1 0 7 else D.1 3 g) → S 98 i = D.1 4 i) → ∃ Z u, Z 90 19 = D.1 0 7 ∧ (∀ i, i ≠ 19 → Z 90 i = S 90 i) ∧ (∀ i, 0 ≤ i → i < D.1 0 6 → Z 95 i = D.1 1 i ∧ Z 96 i = D.1 2 i ∧ Z 97 i = D.1 3 i) ∧ (∀ i, 0 ≤ i → i < D.1 0 7 → Z 98 i = D.1 4 i) ∧ (∀ j, j ≠ 90 → j ≠ 95 → j ≠ 96 → j ≠ 97 → j ≠ 98 → Z j = S j) ∧ ∀ r, (∃ S101, G sc MX11_begins 0 [some (.ref 90), none] [] SH Z (rV SH S101) ∧ G sc MX11_becomes 155 [some (.ref 90), some (.int (I 0)), u, u3] [] SH S101 r) → G sc MX11_becomes 63 [some (.ref 90), some (.int (I g)), u2, u3] [] SH S r
  | 0, g, S, u2, hk, g0, h18, h19, hd, h95, h98 => by
    have p6 := hP.2.2.2.2.1
    have eg : g = D.1 0 6 := by omega
    rw [if_pos eg] at h19 h98
    refine ⟨S, u2, h19, fun _ _ => rfl, fun i i0 i1 => h95 i i0 (by omega), h98, fun _ _ _ _ _ _ => rfl, fun r q => qX11_becomes_63 h0 ?_⟩
    rw [h18, if_pos (by rw [I_le ⟨by omega, by omega⟩ ⟨by omega, by omega⟩]; omega)]
    exact q
  | k + 1, g, S, u2, hk, g0, h18, h19, hd, h95, h98 => by
    have p6 := hP.2.2.2.2.1
    have p7 := hP.2.2.2.2.2.1
    have gl : g < D.1 0 6 := by omega
    have ng : ¬ g = D.1 0 6 := by omega
    rw [if_neg ng] at h19 h98
    have pg := hP.2.2.2.2.2.2.1 g g0 gl
    have nx := hg.2.2.2.2.2.2.2.2.1 g g0 gl
    generalize hU : up (up (up S 95 g (D.1 1 g)) 96 g (D.1 2 g)) 97 g (D.1 3 g) = U
    have u90 : U 90 = S 90 := by rw [← hU, up_ne (by decide), up_ne (by decide), up_ne (by decide)]
    have u95 : ∀ i, U 95 i = if i = g then D.1 1 g else S 95 i := fun i => by rw [← hU, up_ne (by decide), up_ne (by decide), up_at]
    have u96 : ∀ i, U 96 i = if i = g then D.1 2 g else S 96 i := fun i => by rw [← hU, up_ne (by decide), up_at, up_ne (by decide)]
    have u97 : ∀ i, U 97 i = if i = g then D.1 3 g else S 97 i := fun i => by rw [← hU, up_at, up_ne (by decide), up_ne (by decide)]
    have uj : ∀ j, j ≠ 95 → j ≠ 96 → j ≠ 97 → U j = S j := fun j a1 a2 a3 => by rw [← hU, up_ne a3, up_ne a2, up_ne a1]
    obtain ⟨Z, z1, z2, z3, z4, z5⟩ := bc_in (sc := sc) h0 (g := g) (s := D.1 3 g) (x := D.1 1 g) (u := u3) ⟨g0, by omega⟩ ⟨pg.2.2.1, by omega⟩ pg.1.2 (D.1 1 g).toNat 0 U (by omega) (Int.le_refl _) (by rw [u90, h19]; omega) (by rw [u95, if_pos rfl])
    obtain ⟨Y, uY, y1, y2, y3, y4, y5, y6⟩ := bc_out h0 hP hg (u3 := u3) k (g + 1) Z (some (.int (I (D.1 1 g)))) (by omega) (by omega) (by rw [z3 18 (by decide), u90]; exact h18) (by rw [z2]; exact nx) (fun i i0 i1 => by rw [z4 102 (by decide) (by decide), z4 103 (by decide) (by decide), uj 102 (by decide) (by decide) (by decide), uj 103 (by decide) (by decide) (by decide)]; exact hd i i0 i1) (fun i i0 i1 => by
      rw [z4 95 (by decide) (by decide), z4 96 (by decide) (by decide), z4 97 (by decide) (by decide), u95, u96, u97]
      by_cases c : i = g
      · rw [if_pos c, if_pos c, if_pos c, c]; exact ⟨rfl, rfl, rfl⟩
      · rw [if_neg c, if_neg c, if_neg c]; exact h95 i i0 (by omega)) (fun i i0 i1 => by
      rw [← nx] at i1
      rw [z1 i, Int.add_zero]
      by_cases c : D.1 3 g ≤ i ∧ i < D.1 3 g + D.1 1 g
      · rw [if_pos c]
        have q := pg.2.2.2.2 (i - D.1 3 g) (by omega) (by omega)
        rw [show D.1 3 g + (i - D.1 3 g) = i by omega] at q
        exact q.symm
      · rw [if_neg c, uj 98 (by decide) (by decide) (by decide)]; exact h98 i i0 (by omega))
    refine ⟨Y, uY, y1, fun i hi => by rw [y2 i hi, z3 i hi, u90], y3, y4, fun j a1 a2 a3 a4 a5 => by rw [y5 j a1 a2 a3 a4 a5, z4 j a1 a5, uj j a2 a3 a4], fun r q => qX11_becomes_63 h0 ?_⟩
    have hdg := hd g g0 gl
    rw [h18, if_neg (by rw [I_le ⟨by omega, by omega⟩ ⟨by omega, by omega⟩]; omega), hdg.1, show up S 95 g (D.1 1 g) 103 g = D.1 2 g by rw [up_ne (by decide)]; exact hdg.2, show up (up S 95 g (D.1 1 g)) 96 g (D.1 2 g) 90 19 = D.1 3 g by rw [up_ne (by decide), up_ne (by decide)]; exact h19, hU]
    exact ⟨⟨g0, by omega⟩, ⟨g0, by omega⟩, ⟨g0, by omega⟩, ⟨g0, by omega⟩, ⟨g0, by omega⟩, z5 r (y6 r q)⟩
theorem bc_said (h0 : sMod SH) {p l f x : Int} (hl : 0 ≤ l ∧ l < 48) (hf : 0 ≤ f ∧ f < 48) : ∀ (k : Nat) (c : Int) (S : mStore), c + k = 4 → 0 ≤ c → S 104 l = f → (∀ i, 0 ≤ i → i < 4 → S 105 (4 * f + i) = nb x (12 - 4 * i)) → (∀ i, 0 ≤ i → i < c → S 101 i = nb x (12 - 4 * i)) → ∃ Z, saidR Z x ∧ (∀ j, j ≠ 101 → Z j = S j) ∧ ∀ r, G sc MX11_becomes 217 [some (.ref 90), some (.int (I p)), some (.int (I l)), some (.int (I 4))] [] SH Z r → G sc MX11_becomes 217 [some (.ref 90), some (.int (I p)), some (.int (I l)), some (.int (I c))] [] SH S r
  | 0, c, S, hc, c0, h4, h5, h1 => by
    rw [show c = 4 by omega]
    exact ⟨S, fun i i0 i1 => h1 i i0 (by omega), fun _ _ => rfl, fun r q => q⟩
  | k + 1, c, S, hc, c0, h4, h5, h1 => by
    obtain ⟨Z, z1, z2, z3⟩ := bc_said h0 (p := p) hl hf k (c + 1) (up S 101 c (S 105 (4 * f + c))) (by omega) (by omega) (by rw [up_ne (by decide)]; exact h4) (by rw [up_ne (by decide)]; exact h5) (fun i i0 i1 => by
      rw [up_at]
      by_cases d : i = c
      · rw [if_pos d, d]; exact h5 c c0 (by omega)
      · rw [if_neg d]; exact h1 i i0 (by omega))
    refine ⟨Z, z1, fun j hj => by rw [z2 j hj, up_ne hj], fun r q => qX11_becomes_217 h0 ?_⟩
    rw [if_neg (by rw [I_le ⟨by decide, by decide⟩ ⟨by omega, by omega⟩]; omega), h4]
    exact ⟨hl, ⟨by omega, by omega⟩, ⟨c0, by omega⟩, z3 r q⟩
theorem bc_pages (h0 : sMod SH) (oD : okE D) (hg : gh μ D) {m N : Int} (hm : 1 ≤ m ∧ m ≤ 16) : ∀ (k : Nat) (p : Int) (S : mStore) (u2 u3 : Option Value), p + k = D.1 0 7 → 0 ≤ p → S 90 19 = D.1 0 7 → (∀ i, 0 ≤ i → i < D.1 0 6 → S 97 i = D.1 3 i) → (∀ i, 0 ≤ i → i < D.1 0 7 → S 98 i = D.1 4 i) → (∀ g i, 0 ≤ g → g < 4 → 0 ≤ i → i < 12 → S 104 (12 * g + i) = drW D.1 D.2.2.2 g i ∧ S 106 (12 * g + i) = drV D.1 D.2.2.2 g i) → (∀ f c, 0 ≤ f → f < D.2.2.1 → 0 ≤ c → c < 4 → S 105 (4 * f + c) = nb (D.2.2.2.v 0 f) (12 - 4 * c)) → refR S 0 (bpA D.2.2.2 m p) N → ∃ Z, G sc MX11_becomes 155 [some (.ref 90), some (.int (I p)), u2, u3] [] SH S (rV SH (up (up (up (up Z 90 11 0) 90 7 0) 90 6 0) 90 5 0)) ∧ refR Z 0 (bpA D.2.2.2 m (D.1 0 7)) N ∧ (∀ i, 1654 ≤ i → Z 91 i = S 91 i) ∧ (∀ j, j ≠ 91 → j ≠ 101 → Z j = S j)
  | 0, p, S, u2, u3, hk, p0, h19, h97, h98, hw, hc, hr => by
    have p7 := oD.1.2.2.2.2.2.1
    rw [show p = D.1 0 7 by omega] at hr ⊢
    refine ⟨S, qX11_becomes_155 h0 ?_, hr, fun _ _ => rfl, fun _ _ _ => rfl⟩
    rw [h19, if_pos (by rw [I_le ⟨by omega, by omega⟩ ⟨by omega, by omega⟩]; omega)]
  | k + 1, p, S, u2, u3, hk, p0, h19, h97, h98, hw, hc, hr => by
    have oP := oD.1
    have p6 := oP.2.2.2.2.1
    have p7 := oP.2.2.2.2.2.1
    have pp := oP.2.2.2.2.2.2.2 p p0 (by omega)
    have pg := oP.2.2.2.2.2.2.1 (D.1 4 p) pp.1 pp.2.1
    have wC : wfR (newA m).C (newA m).k := (wf_new (m := m) hm oP).2.1
    have e98 : S 98 p = D.1 4 p := h98 p p0 (by omega)
    have e97 : S 97 (D.1 4 p) = D.1 3 (D.1 4 p) := h97 _ pp.1 pp.2.1
    have epl : plc D.1 (D.1 4 p) (p - D.1 3 (D.1 4 p)) = p := by
      unfold plc
      rw [if_pos ⟨⟨pp.1, pp.2.1⟩, by omega, by omega⟩]
      omega
    have ww := hw (D.1 4 p) (p - D.1 3 (D.1 4 p)) pp.1 (by omega) (by omega) (by omega)
    rw [show 12 * D.1 4 p + (p - D.1 3 (D.1 4 p)) = 12 * D.1 4 p + p - D.1 3 (D.1 4 p) by omega] at ww
    unfold drW drV at ww
    rw [epl, if_neg (by omega), if_neg (by omega)] at ww
    generalize hl : 12 * D.1 4 p + p - D.1 3 (D.1 4 p) = l at ww
    have lr : 0 ≤ l ∧ l < 48 := by omega
    have r1 : refR (up S 91 (64 + p) (D.2.2.2.v 1 p)) 0 ((bpA D.2.2.2 m p).sv 1 p (D.2.2.2.v 1 p)) N := by
      have q := refR_v1 (x := D.2.2.2.v 1 p) hr wC (i := p) ⟨p0, by omega⟩
      rw [show (0 : Int) + 64 + p = 64 + p by omega] at q
      exact q
    have hwr := oD.2.1.1.2.2 p
    have st : ∀ r, (if I (D.2.2.2.w p) = I (-1) then G sc MX11_becomes 155 [some (.ref 90), some (.int (I (p + 1))), some (.int (I l)), u3] [] SH (up S 91 (64 + p) (D.2.2.2.v 1 p)) r else G sc MX11_becomes 217 [some (.ref 90), some (.int (I p)), some (.int (I l)), some (.int (I 0))] [] SH (up S 91 (64 + p) (D.2.2.2.v 1 p)) r) → G sc MX11_becomes 155 [some (.ref 90), some (.int (I p)), u2, u3] [] SH S r := fun r q => by
      refine qX11_becomes_155 h0 ?_
      rw [h19, if_neg (by rw [I_le ⟨by omega, by omega⟩ ⟨by omega, by omega⟩]; omega), e98, e97, hl, ww.2, show up S 91 (64 + p) (D.2.2.2.v 1 p) 104 l = D.2.2.2.w p by rw [up_ne (by decide)]; exact ww.1]
      exact ⟨⟨p0, by omega⟩, ⟨p0, by omega⟩, ⟨by omega, by omega⟩, lr, ⟨by omega, by omega⟩, lr, q⟩
    by_cases z : D.2.2.2.w p = -1
    · have eb := bp_no (m := m) oD ⟨p0, by omega⟩ z
      rw [← eb] at r1
      obtain ⟨Z, z1, z2, z3, z4⟩ := bc_pages h0 oD hg hm k (p + 1) (up S 91 (64 + p) (D.2.2.2.v 1 p)) (some (.int (I l))) u3 (by omega) (by omega) (by rw [up_ne (by decide)]; exact h19) (by rw [up_ne (by decide)]; exact h97) (by rw [up_ne (by decide)]; exact h98) (by rw [up_ne (by decide), up_ne (by decide)]; exact hw) (by rw [up_ne (by decide)]; exact hc) r1
      refine ⟨Z, st _ ?_, z2, fun i hi => by rw [z3 i hi, up_at, if_neg (by omega)], fun j j1 j2 => by rw [z4 j j1 j2, up_ne j1]⟩
      rw [if_pos (by rw [z])]
      exact z1
    · obtain ⟨eb, eE⟩ := bp_yes (m := m) oD hg ⟨p0, by omega⟩ z
      have gn := gh_none oD.2.1 p7.2 hg z
      have oL := oD.2.2.2.1
      have p00 := oP.1
      obtain ⟨Y, y1, y2, y3⟩ := bc_said (sc := sc) h0 (p := p) (l := l) (f := D.2.2.2.w p) (x := D.2.2.2.v 0 (D.2.2.2.w p)) lr ⟨gn.2.2, by omega⟩ 4 0 (up S 91 (64 + p) (D.2.2.2.v 1 p)) (by decide) (by decide) (by rw [up_ne (by decide)]; exact ww.1) (fun i i0 i1 => by rw [up_ne (by decide)]; exact hc _ i gn.2.2 gn.1 i0 i1) (fun i i0 i1 => by omega)
      obtain ⟨X1, g1, q1, f1⟩ := rli_ok (sc := sc) h0 (b := 0) ⟨by decide, by decide⟩ (refR_far r1 (y2 91 (by decide))) wC (p := p) (f := D.2.2.2.w p) ⟨p0, by omega⟩ ⟨gn.2.2, by omega⟩ (by rw [show ((bpA D.2.2.2 m p).sv 1 p (D.2.2.2.v 1 p)).L (D.2.2.2.w p) = (bpA D.2.2.2 m p).L (D.2.2.2.w p) from rfl, eE]; decide)
      obtain ⟨X2, g2, q2, f2⟩ := rlay_ok (sc := sc) (u := none) h0 (b := 0) ⟨by decide, by decide⟩ q1 wC (x := D.2.2.2.v 0 (D.2.2.2.w p)) (f := D.2.2.2.w p) (fun i i0 i1 => by rw [f1.2 101 (by decide)]; exact y1 i i0 i1) ⟨gn.2.2, by omega⟩
      rw [← eb] at q2
      have xj : ∀ j, j ≠ 91 → j ≠ 101 → X2 j = S j := fun j j1 j2 => by rw [f2.2 j j1, f1.2 j j1, y2 j j2, up_ne j1]
      have x1j : ∀ j, j ≠ 91 → j ≠ 101 → X1 j = S j := fun j j1 j2 => by rw [f1.2 j j1, y2 j j2, up_ne j1]
      have yj : ∀ j, j ≠ 91 → j ≠ 101 → Y j = S j := fun j j1 j2 => by rw [y2 j j2, up_ne j1]
      obtain ⟨Z, z1, z2, z3, z4⟩ := bc_pages h0 oD hg hm k (p + 1) X2 (some (.int (I l))) (some (.int (I 4))) (by omega) (by omega) (by rw [xj 90 (by decide) (by decide)]; exact h19) (by rw [xj 97 (by decide) (by decide)]; exact h97) (by rw [xj 98 (by decide) (by decide)]; exact h98) (by rw [xj 104 (by decide) (by decide), xj 106 (by decide) (by decide)]; exact hw) (by rw [xj 105 (by decide) (by decide)]; exact hc) q2
      refine ⟨Z, st _ ?_, z2, fun i hi => by rw [z3 i hi, f2.1 i (by omega), f1.1 i (by omega), y2 91 (by decide), up_at, if_neg (by omega)], fun j j1 j2 => by rw [z4 j j1 j2, xj j j1 j2]⟩
      rw [if_neg (by rw [I_eq ⟨by omega, by omega⟩ ⟨by decide, by decide⟩]; exact z)]
      refine y3 _ (qX11_becomes_217 h0 ?_)
      rw [if_pos (by decide), yj 104 (by decide) (by decide), ww.1]
      refine ⟨lr, X1, g1, lr, X2, ?_, z1⟩
      rw [x1j 104 (by decide) (by decide), ww.1]
      exact g2
theorem becomes_ok (h0 : sMod SH) {S : mStore} {N : Int} (hN : 0 ≤ N) (hD : drR S D) (oD : okE D) (hg : gh μ D) {u1 u2 u3 : Option Value} : ∃ S', G sc MX11_becomes 0 [some (.ref 90), u1, u2, u3] [] SH S (rV SH S') ∧ modP S' D.1 ∧ refR S' 0 (D.2.2.2.sv 6 0 (D.1 0 2)) N ∧ (S' 90 5 = 0 ∧ S' 90 6 = 0 ∧ S' 90 7 = 0 ∧ S' 90 11 = 0) ∧ (∀ i, i < 5 ∨ (8 ≤ i ∧ i < 11) ∨ 20 ≤ i → S' 90 i = S 90 i) ∧ (∀ j, j < 90 ∨ (92 ≤ j ∧ j ≤ 94) ∨ j = 99 ∨ 110 ≤ j → S' j = S j) := by
  obtain ⟨d1, d2, d3, d4, d5, d6⟩ := hD
  have oP := oD.1
  have p2 := oP.2.2.1
  have p6 := oP.2.2.2.2.1
  have p7 := oP.2.2.2.2.2.1
  generalize hU : up (up (up (up (up (up (up (up S 90 12 (S 90 40)) 90 13 (S 90 41)) 90 14 (S 90 42)) 90 15 (S 90 43)) 90 16 (S 90 44)) 90 17 (S 90 45)) 90 18 (S 90 46)) 90 19 0 = U
  have uj : ∀ j, j ≠ 90 → U j = S j := fun j hj => by rw [← hU, up_ne hj, up_ne hj, up_ne hj, up_ne hj, up_ne hj, up_ne hj, up_ne hj, up_ne hj]
  have ui : ∀ i, i < 12 ∨ 19 < i → U 90 i = S 90 i := fun i hi => by rw [← hU, up_at, if_neg (by omega), up_at, if_neg (by omega), up_at, if_neg (by omega), up_at, if_neg (by omega), up_at, if_neg (by omega), up_at, if_neg (by omega), up_at, if_neg (by omega), up_at, if_neg (by omega)]
  have uP : ∀ i, 0 ≤ i → i < 7 → U 90 (12 + i) = D.1 0 i := fun i i0 i1 => by
    rw [← d1 i i0 i1, ← hU]
    rcases (show i = 0 ∨ i = 1 ∨ i = 2 ∨ i = 3 ∨ i = 4 ∨ i = 5 ∨ i = 6 by omega) with rfl | rfl | rfl | rfl | rfl | rfl | rfl <;> rfl
  have u19 : U 90 19 = (if (0 : Int) = D.1 0 6 then D.1 0 7 else D.1 3 0) := by
    rw [← hU, up_eq]
    by_cases c : (0 : Int) = D.1 0 6
    · rw [if_pos c]; exact (hg.2.2.2.2.2.2.2.2.2.2 c.symm).symm
    · rw [if_neg c]; exact (hg.2.2.2.2.2.2.2.2.2.1 (by omega)).symm
  obtain ⟨Z, u, z1, z2, z3, z4, z5, z6⟩ := bc_out (sc := sc) h0 oP hg (u3 := u3) (D.1 0 6).toNat 0 U u2 (by omega) (Int.le_refl _) (uP 6 (by decide) (by decide)) u19 (by rw [uj 102 (by decide), uj 103 (by decide)]; exact d4) (fun i i0 i1 => by omega) (fun i i0 i1 => by
    have e : (if (0 : Int) = D.1 0 6 then D.1 0 7 else D.1 3 0) = 0 := by rw [← u19, ← hU, up_eq]
    rw [e] at i1
    omega)
  have z14 : Z 90 14 = D.1 0 2 := by rw [z2 14 (by decide)]; exact uP 2 (by decide) (by decide)
  obtain ⟨B, b1, b2, b3, b4⟩ := begins_ok (sc := sc) (u := none) h0 z14 hN
  rw [← bp_0 oD hg] at b2
  have hm : 1 ≤ D.1 0 2 ∧ D.1 0 2 ≤ 16 := ⟨p2.1, by omega⟩
  have bz : ∀ j, j ≠ 90 → j ≠ 91 → j ≠ 95 → j ≠ 96 → j ≠ 97 → j ≠ 98 → B j = S j := fun j a0 a1 a2 a3 a4 a5 => by rw [b4 j a1, z5 j a0 a2 a3 a4 a5, uj j a0]
  obtain ⟨Y, y1, y2, y3, y4⟩ := bc_pages (sc := sc) h0 oD hg hm (D.1 0 7).toNat 0 B u u3 (by omega) (Int.le_refl _) (by rw [b4 90 (by decide)]; exact z1) (fun i i0 i1 => by rw [b4 97 (by decide)]; exact (z3 i i0 i1).2.2) (fun i i0 i1 => by rw [b4 98 (by decide)]; exact z4 i i0 i1) (by rw [bz 104 (by decide) (by decide) (by decide) (by decide) (by decide) (by decide), bz 106 (by decide) (by decide) (by decide) (by decide) (by decide) (by decide)]; exact d5) (by rw [bz 105 (by decide) (by decide) (by decide) (by decide) (by decide) (by decide)]; exact d6) b2
  rw [bp_end oD hg] at y2
  have yz : ∀ j, j ≠ 91 → j ≠ 101 → Y j = Z j := fun j j1 j2 => by rw [y4 j j1 j2, b4 j j1]
  generalize hE : up (up (up (up Y 90 11 0) 90 7 0) 90 6 0) 90 5 0 = E at y1
  have ej : ∀ j, j ≠ 90 → E j = Y j := fun j hj => by rw [← hE, up_ne hj, up_ne hj, up_ne hj, up_ne hj]
  have ei : ∀ i, i ≠ 5 → i ≠ 6 → i ≠ 7 → i ≠ 11 → E 90 i = Z 90 i := fun i a1 a2 a3 a4 => by rw [← hE, up_at, if_neg a1, up_at, if_neg a2, up_at, if_neg a3, up_at, if_neg a4, yz 90 (by decide) (by decide)]
  refine ⟨E, qX11_becomes_0 h0 ?_, ⟨fun i i0 i1 => ?_, fun i i0 i1 => ?_, fun i i0 i1 => ?_, fun i i0 i1 => ?_, fun i i0 i1 => ?_⟩, refR_far y2 (ej 91 (by decide)), ⟨?_, ?_, ?_, ?_⟩, fun i hi => ?_, fun j hj => ?_⟩
  · show G sc MX11_becomes 63 [some (.ref 90), some (.int (I 0)), u2, u3] [] SH (up (up (up (up (up (up (up (up S 90 12 (S 90 40)) 90 13 (S 90 41)) 90 14 (S 90 42)) 90 15 (S 90 43)) 90 16 (S 90 44)) 90 17 (S 90 45)) 90 18 (S 90 46)) 90 19 0) (rV SH E)
    rw [hU]
    exact z6 _ ⟨_, b1, y1⟩
  · rw [ei _ (by omega) (by omega) (by omega) (by omega)]
    by_cases c : i = 7
    · rw [c]; exact z1
    · rw [z2 _ (by omega)]; exact uP i i0 (by omega)
  · rw [ej 95 (by decide), yz 95 (by decide) (by decide)]; exact (z3 i i0 i1).1
  · rw [ej 96 (by decide), yz 96 (by decide) (by decide)]; exact (z3 i i0 i1).2.1
  · rw [ej 97 (by decide), yz 97 (by decide) (by decide)]; exact (z3 i i0 i1).2.2
  · rw [ej 98 (by decide), yz 98 (by decide) (by decide)]; exact z4 i i0 i1
  · rw [← hE, up_eq]
  · rw [← hE, up_at, if_neg (by decide), up_eq]
  · rw [← hE, up_at, if_neg (by decide), up_at, if_neg (by decide), up_eq]
  · rw [← hE, up_at, if_neg (by decide), up_at, if_neg (by decide), up_at, if_neg (by decide), up_eq]
  · rw [ei i (by omega) (by omega) (by omega) (by omega), z2 i (by omega), ui i (by omega)]
  · rw [ej j (by omega), yz j (by omega) (by omega), z5 j (by omega) (by omega) (by omega) (by omega) (by omega), uj j (by omega)]
end
section
variable {sc : Nat × (Nat → Int32)} {SH : List mCell} {S : mStore} {N : Int} {W : aW}
theorem mks_pl {b : Int → Int} {n : Int} : ∀ (k : Nat) (D : aD) (T : aT), (mksT b n k D T).2.2.1 = 0 → (mksT b n k D T).2.2.2 = T.2.2 := by
  have cp : ∀ (D : aD) (T : aT), T.2.1 = 0 → (clB b n D T).2.2.1 = 0 → (clB b n D T).2.2.2 = T.2.2 := fun D T hf hz => by
    have nof : ∀ k s, (failA k s T).2.1 = 0 → k = 0 := fun k s q => by rw [failA_z hf] at q; exact q
    unfold clB at *
    by_cases d : tkW b n T.1 = 0
    · rw [if_pos d] at *
      by_cases k : 0 < D.2.2.1
      · rw [if_pos k] at hz; exact absurd (nof _ _ hz) (by decide)
      rw [if_neg k] at *
      by_cases k2 : ian D.2.1 1 ≠ 0
      · rw [if_pos k2] at hz; exact absurd (nof _ _ hz) (by decide)
      rw [if_neg k2] at *
      exact num_pl hz
    rw [if_neg d] at *
    by_cases d : tkW b n T.1 = 1
    · rw [if_pos d] at *
      by_cases k2 : ian D.2.1 2 ≠ 0
      · rw [if_pos k2] at hz; exact absurd (nof _ _ hz) (by decide)
      rw [if_neg k2] at *
      exact num_pl hz
    rw [if_neg d] at *
    by_cases d : tkW b n T.1 = 2
    · rw [if_pos d] at *
      by_cases k2 : ian D.2.1 4 ≠ 0
      · rw [if_pos k2] at hz; exact absurd (nof _ _ hz) (by decide)
      rw [if_neg k2] at *
      exact (num_pl hz).trans (num_pl (numT_ok hz).1)
    rw [if_neg d] at *
    by_cases d : tkW b n T.1 = 3
    · rw [if_pos d] at *
      by_cases k2 : ian D.2.1 8 ≠ 0
      · rw [if_pos k2] at hz; exact absurd (nof _ _ hz) (by decide)
      rw [if_neg k2] at *
      rfl
    rw [if_neg d] at *
    by_cases d : tkW b n T.1 = 4
    · rw [if_pos d] at *
      by_cases k2 : ian D.2.1 16 ≠ 0
      · rw [if_pos k2] at hz; exact absurd (nof _ _ hz) (by decide)
      rw [if_neg k2] at *
      rfl
    rw [if_neg d] at *
    by_cases d : tkW b n T.1 = 5
    · rw [if_pos d] at *
      by_cases k : 4 ≤ D.1 0 6
      · rw [if_pos k] at hz; exact absurd (nof _ _ hz) (by decide)
      rw [if_neg k] at *
      unfold gsT at *
      by_cases c : (numT b n 1 12 (goT b n T)).2.2.1 = 0 ∧ tkK b n (numT b n 1 12 (goT b n T)).2.1 = 2
      · rw [if_pos c] at *
        exact (num_pl hz).trans (num_pl c.1)
      · rw [if_neg c] at *
        exact num_pl hz
    rw [if_neg d] at *
    by_cases d : tkW b n T.1 = 6
    · rw [if_pos d] at *
      by_cases k : D.1 0 0 ≤ D.2.2.1
      · rw [if_pos k] at hz; exact absurd (nof _ _ hz) (by decide)
      rw [if_neg k] at *
      unfold pg1 at *
      by_cases y : (pgT b n D.1 (goT b n T)).2.2.1 ≠ 0
      · rw [if_pos y] at hz; exact absurd hz y
      rw [if_neg y] at *
      have y' : (pgT b n D.1 (goT b n T)).2.2.1 = 0 := Decidable.not_not.mp y
      by_cases l : D.2.2.2.w (pgV D.1 (pgT b n D.1 (goT b n T))) ≠ -1
      · rw [if_pos l, failA_z y'] at hz; exact absurd hz (by dsimp only; decide)
      rw [if_neg l] at *
      have nq : ∀ (k : Nat) (x : Int) (U : aT), (nqT b n k x U).2.2.1 = 0 → (nqT b n k x U).2.2.2 = U.2.2 := fun k => by
        induction k with
        | zero => exact fun x U _ => rfl
        | succ k ih => exact fun x U q => (ih _ _ q).trans (num_pl (nq_ok k _ _ q))
      exact (nq 4 0 _ hz).trans (pg_pl y')
    rw [if_neg d] at *
    by_cases d : tkW b n T.1 = 7
    · rw [if_pos d] at *
      unfold ad1 at *
      by_cases y : (numT b n 0 11 (pgT b n D.1 (goT b n T)).2).2.2.1 ≠ 0
      · rw [if_pos y] at hz; exact absurd hz y
      rw [if_neg y] at *
      have y' : (numT b n 0 11 (pgT b n D.1 (goT b n T)).2).2.2.1 = 0 := Decidable.not_not.mp y
      by_cases l : plc D.1 (pgT b n D.1 (goT b n T)).1.1 (numT b n 0 11 (pgT b n D.1 (goT b n T)).2).1 = -1 ∨ plc D.1 (pgT b n D.1 (goT b n T)).1.1 (numT b n 0 11 (pgT b n D.1 (goT b n T)).2).1 < pgV D.1 (pgT b n D.1 (goT b n T))
      · rw [if_pos l, failA_z y'] at hz; exact absurd hz (by dsimp only; decide)
      rw [if_neg l] at *
      exact (num_pl y').trans (pg_pl (numT_ok y').1)
    rw [if_neg d] at *
    exact absurd (nof _ _ hz) (by decide)
  intro k
  induction k with
  | zero => exact fun _ _ _ => rfl
  | succ k ih =>
    intro D T hz
    by_cases c : T.2.1 ≠ 0 ∨ tkK b n T.1 = 0
    · rw [mksT_no c]
    · have hf : T.2.1 = 0 := Decidable.not_not.mp (fun q => c (.inl q))
      rw [mksT_yes c] at hz ⊢
      rw [ih _ _ hz]
      have z1 : (clD b n D T).2.2.1 = 0 := by
        by_cases q : (clD b n D T).2.2.1 = 0
        · exact q
        · rw [mksT_no (.inl q)] at hz; exact absurd hz q
      have e := endT_ok z1
      show (endT b n (clB b n D T).2).2.2 = T.2.2
      rw [e.2.2]
      exact cp D T hf e.1
theorem machine_md (h0 : sMod SH) (hW : wfW W) (h : mdR S N W) (hN : 0 ≤ N) {n : Int} (hr : rg n) : MD sc MX11_machine [some (.ref 90), some (.int (I n))] SH S N 1 (mchF W n).1 (mchF W n).2 := by
  have hP := hW.1
  have hp2 := hW.1.2.2.1
  have hfd := hW.2.2.2.2.1
  have e1 : S 90 25 = W.2.2.2 1 0 := h.2.2.2.2.1
  unfold mchF
  by_cases c : 0 ≤ n ∧ n ≤ W.2.2.2 1 0
  · rw [if_neg (fun q => q c)]
    have hn : 0 ≤ n ∧ n ≤ 700 := ⟨c.1, by omega⟩
    have hb : ∀ i, 0 ≤ W.2.2.2 0 i ∧ W.2.2.2 0 i < 256 := hW.2.2.2.2.2
    have hμ : 1 ≤ W.1 0 2 ∧ W.1 0 2 ≤ 16 := ⟨hp2.1, by omega⟩
    obtain ⟨S1, g1, t1, t4, t25, f1, j1⟩ := reads_yes (sc := sc) h0 hb e1 c hfd.2 (fun i a d => h.2.2.2.1 i a (by omega))
    obtain ⟨S2, g2, t2, f2, d2⟩ := without_ok (sc := sc) (u := none) h0 t1 (m := W.1 0 2)
    obtain ⟨S3, t3, f3, d3, st3⟩ := mksM (sc := sc) (l := n) h0 hn hb hμ 701 (D0d (W.1 0 2)) (0, 0, -1) S2 t2 (fun _ => ⟨⟨d2, ok_D0 hμ⟩, by show n < 0 + ((701 : Nat) : Int); omega⟩)
    have t3' : mdT S3 (W.2.2.2 0) n (mchX W n).2 := t3
    have zr := t3'.2.2.2.2.1.2.1
    have f23 := drF_tr f2 f3
    have fj : ∀ j, j < 90 ∨ (91 ≤ j ∧ j ≤ 99) ∨ 110 ≤ j → S3 j = S j := fun j hj => by rw [f23.1 j (by omega) (by omega) (by omega) (by omega) (by omega) (by omega), j1 j (by omega)]
    have f90 : ∀ i, 5 ≤ i → i ≤ 24 → S3 90 i = S 90 i := fun i p q => by rw [f23.2 i (by omega), f1 i (by omega)]
    have e25 : S3 90 25 = 0 := by rw [f23.2 25 (by decide), t25]
    have e4 : S3 90 4 = 0 := by rw [f23.2 4 (by decide), t4]
    have st : ∀ r, G sc MX11_machine 39 [some (.ref 90), some (.int (I n))] [] SH S3 r → G sc MX11_machine 0 [some (.ref 90), some (.int (I n))] [] SH S r := fun r q => by
      refine qX11_machine_0 h0 ⟨_, _, g1, ?_⟩
      rw [if_neg (by decide)]
      exact ⟨_, g2, st3 r q⟩
    by_cases d : (mchX W n).2.2.1 ≠ 0
    · rw [if_pos d]
      have m3 : mdR S3 N (W.1, W.2.1, W.2.2.1, up (up W.2.2.2 1 0 0) 1 1 (mchX W n).2.2.2) := mdR_tp hW h (fj 91 (by decide)) f90 (fun j a d => fj j (by omega)) (fun i a d => by
        rw [up_at, if_neg (by decide), up_eq] at d
        omega) (by rw [up_at, if_neg (by decide), up_eq]; exact e25) (by rw [up_eq]; exact t3'.2.2.2.1)
      have m4 := mdR_r0 m3
      refine ⟨(mchX W n).2.2.1, up S3 94 0 (S3 94 0 + 1), st _ (qX11_machine_39 h0 ?_), m4, fun y e => ?_, fun k e => (by cases e), fun j hj => by rw [up_ne (by omega), fj j (by omega)]⟩
      · rw [t3'.2.2.1, if_neg (by rw [I_eq ⟨by omega, by omega⟩ ⟨by decide, by decide⟩]; exact d)]
        exact ⟨by decide, by decide, by rw [up_ne (show (90 : Nat) ≠ 94 by decide), t3'.2.2.1]⟩
      · cases e
        exact ⟨rfl, by rw [up_ne (by decide)]; exact e4⟩
    · rw [if_neg d]
      have d' : (mchX W n).2.2.1 = 0 := Decidable.not_not.mp d
      obtain ⟨oD, hg⟩ := ok_mch hW d'
      obtain ⟨S4, g4, p4, r4, ⟨q5, q6, q7, q11⟩, i4, j4⟩ := becomes_ok (sc := sc) (u1 := none) (u2 := none) (u3 := none) h0 hN (d3 d') oD hg
      have e26 : S3 90 26 = -1 := by
        rw [t3'.2.2.2.1]
        exact mks_pl 701 (D0d (W.1 0 2)) (0, 0, -1) d'
      refine ⟨0, S4, st _ (qX11_machine_39 h0 ?_), ⟨p4, ⟨r4, q5, by rw [q6]; decide, fun k A hk => (by cases hk), q7, fun i i0 i1 => ?_, fun i i0 i3 => ?_⟩, ⟨fun _ => q11, fun B hB => (by cases hB)⟩, fun i i0 i1 => ?_, ?_, ?_⟩, fun y e => ?_, fun k e => (by cases e), fun j hj => by rw [j4 j (by omega), fj j (by omega)]⟩
      · rw [t3'.2.2.1, d', if_pos rfl]
        exact ⟨_, g4, rfl⟩
      · have i1' : i < 0 := i1
        omega
      · show S4 94 (0 + i) = W.2.1.2.2.2 2 i
        rw [j4 94 (by decide), fj 94 (by decide)]
        exact h.2.1.2.2.2.2.2.2 i i0 i3
      · have i1' : i < up (up W.2.2.2 1 0 0) 1 1 (-1) 1 0 := i1
        rw [up_at, if_neg (by decide), up_eq] at i1'
        omega
      · show S4 90 25 = up (up W.2.2.2 1 0 0) 1 1 (-1) 1 0
        rw [i4 25 (by decide), e25, up_at, if_neg (by decide), up_eq]
      · show S4 90 26 = up (up W.2.2.2 1 0 0) 1 1 (-1) 1 1
        rw [i4 26 (by decide), e26, up_eq]
      · cases e
        exact ⟨rfl, by rw [i4 4 (by decide)]; exact e4⟩
  · rw [if_pos c]
    refine ⟨0, up (up S 90 4 0) 90 4 1, qX11_machine_0 h0 ⟨_, _, reads_no h0 e1 hr ⟨hfd.1, hfd.2⟩ c, ?_⟩, mdR_thr hW (mdR_thr hW h), fun y e => (by cases e), fun k e => by cases e; rw [up_eq]; rfl, fun j hj => by rw [up_ne (by omega), up_ne (by omega)]⟩
    rw [if_pos rfl]
end
