/-! ===== the draft of the reference ===== -/
def drW (P : aP) (A : aS) (g i : Int) : Int := if plc P g i = -1 then -1 else A.w (plc P g i)
def drV (P : aP) (A : aS) (g i : Int) : Int := if plc P g i = -1 then 0 else A.v 1 (plc P g i)
def drR (S : mStore) (D : aD) : Prop := (∀ i, 0 ≤ i → i < 7 → S 90 (40 + i) = D.1 0 i) ∧ S 90 47 = D.2.1 ∧ S 90 48 = D.2.2.1 ∧ (∀ g, 0 ≤ g → g < D.1 0 6 → S 102 g = D.1 1 g ∧ S 103 g = D.1 2 g) ∧ (∀ g i, 0 ≤ g → g < 4 → 0 ≤ i → i < 12 → S 104 (12 * g + i) = drW D.1 D.2.2.2 g i ∧ S 106 (12 * g + i) = drV D.1 D.2.2.2 g i) ∧ (∀ f c, 0 ≤ f → f < D.2.2.1 → 0 ≤ c → c < 4 → S 105 (4 * f + c) = nb (D.2.2.2.v 0 f) (12 - 4 * c))
abbrev drF (S S' : mStore) : Prop := (∀ j, j ≠ 90 → j ≠ 102 → j ≠ 103 → j ≠ 104 → j ≠ 105 → j ≠ 106 → S' j = S j) ∧ (∀ f, f < 26 ∨ (27 ≤ f ∧ f ≤ 32) ∨ 49 ≤ f → S' 90 f = S 90 f)
theorem drF_rf (S : mStore) : drF S S := ⟨fun _ _ _ _ _ _ _ => rfl, fun _ _ => rfl⟩
theorem drF_tr {S S1 S2 : mStore} (h : drF S S1) (h2 : drF S1 S2) : drF S S2 := ⟨fun j a1 a2 a3 a4 a5 a6 => (h2.1 j a1 a2 a3 a4 a5 a6).trans (h.1 j a1 a2 a3 a4 a5 a6), fun f hf => (h2.2 f hf).trans (h.2 f hf)⟩
theorem drF_mx {S S1 : mStore} (h : mxF S S1) : drF S S1 := ⟨fun j a1 _ _ _ _ _ => h.1 j a1, fun f hf => h.2 f (by omega) (by omega) (by omega) (by omega) (by omega) (by omega) (by omega)⟩
theorem drF_up {S : mStore} {a : Nat} {i x : Int} (h : 102 ≤ a ∧ a ≤ 106) : drF S (up S a i x) := ⟨fun j a1 a2 a3 a4 a5 a6 => up_ne (by omega), fun f hf => by rw [up_ne (by omega)]⟩
theorem drF_90 {S : mStore} {i x : Int} (h : 40 ≤ i ∧ i ≤ 48) : drF S (up S 90 i x) := ⟨fun j a1 a2 a3 a4 a5 a6 => up_ne a1, fun f hf => by rw [up_at, if_neg (by omega)]⟩
theorem drR_mx {S S1 : mStore} {D : aD} (h : drR S D) (f : mxF S S1) : drR S1 D := by
  have e : ∀ i, 40 ≤ i → S1 90 i = S 90 i := fun i hi => f.2 i (by omega) (by omega) (by omega) (by omega) (by omega) (by omega) (by omega)
  unfold drR at *
  rw [f.1 102 (by decide), f.1 103 (by decide), f.1 104 (by decide), f.1 105 (by decide), f.1 106 (by decide), e 47 (by decide), e 48 (by decide)]
  exact ⟨fun i a c => by rw [e _ (by omega)]; exact h.1 i a c, h.2⟩
theorem drR_47 {S : mStore} {D : aD} (h : drR S D) (x : Int) : drR (up S 90 47 x) (D.1, x, D.2.2) := by
  obtain ⟨a1, a2, a3, a4, a5, a6⟩ := h
  refine ⟨fun i b1 b2 => by rw [up_at, if_neg (by omega)]; exact a1 i b1 b2, by rw [up_eq], by rw [up_at, if_neg (by decide)]; exact a3, ?_, ?_, ?_⟩
  · rw [up_ne (by decide), up_ne (by decide)]; exact a4
  · rw [up_ne (by decide), up_ne (by decide)]; exact a5
  · rw [up_ne (by decide)]; exact a6
theorem plc_P {P P' : aP} (e6 : P' 0 6 = P 0 6) (e1 : P' 1 = P 1) (e3 : P' 3 = P 3) (g i : Int) : plc P' g i = plc P g i := by unfold plc; rw [e6, e1, e3]
theorem drR_4x {S : mStore} {D : aD} (h : drR S D) {i : Int} (hi : 0 ≤ i ∧ i < 6) (x : Int) : drR (up S 90 (40 + i) x) (up D.1 0 i x, D.2) := by
  obtain ⟨a1, a2, a3, a4, a5, a6⟩ := h
  have e6 : up D.1 0 i x 0 6 = D.1 0 6 := by rw [up_at, if_neg (by omega)]
  refine ⟨fun j b1 b2 => ?_, by rw [up_at, if_neg (by omega)]; exact a2, by rw [up_at, if_neg (by omega)]; exact a3, ?_, ?_, ?_⟩
  · show up S 90 (40 + i) x 90 (40 + j) = up D.1 0 i x 0 j
    rw [up_at, up_at]
    by_cases c : j = i
    · rw [if_pos (by omega), if_pos c]
    · rw [if_neg (by omega), if_neg c]; exact a1 j b1 b2
  · show ∀ g, 0 ≤ g → g < up D.1 0 i x 0 6 → up S 90 (40 + i) x 102 g = up D.1 0 i x 1 g ∧ up S 90 (40 + i) x 103 g = up D.1 0 i x 2 g
    rw [e6, up_ne (show (102 : Nat) ≠ 90 by decide), up_ne (show (103 : Nat) ≠ 90 by decide), up_ne (show (1 : Nat) ≠ 0 by decide), up_ne (show (2 : Nat) ≠ 0 by decide)]; exact a4
  · intro g i' h1 h2 h3 h4
    rw [up_ne (by decide), up_ne (by decide)]
    unfold drW drV
    rw [plc_P e6 (up_ne (by decide)) (up_ne (by decide))]
    exact a5 g i' h1 h2 h3 h4
  · rw [up_ne (by decide)]; exact a6
theorem plc_addG {D : aD} {m k ρ : Int} (oD : okE D) (hg : gh m D) (hk : 1 ≤ k) {g i : Int} (h1 : 0 ≤ g ∧ g < 4) (h2 : 0 ≤ i ∧ i < 12) : drW (addG D.1 k ρ) D.2.2.2 g i = drW D.1 D.2.2.2 g i ∧ drV (addG D.1 k ρ) D.2.2.2 g i = drV D.1 D.2.2.2 g i := by
  have p6 := oD.1.2.2.2.2.1
  have p7 := oD.1.2.2.2.2.2.1
  unfold drW drV
  have e : plc (addG D.1 k ρ) g i = if g = D.1 0 6 ∧ i < k then D.1 0 7 + i else plc D.1 g i := by
    unfold plc
    rw [addG_06, addG_1, addG_3]
    by_cases c : g = D.1 0 6
    · rw [if_pos c, if_pos c]
      by_cases d : i < k
      · rw [if_pos ⟨⟨by omega, by omega⟩, by omega, d⟩, if_pos ⟨c, d⟩]
      · rw [if_neg (fun q => d q.2.2), if_neg (fun q => d q.2), if_neg (fun q => by have := q.1.2; omega)]
    · rw [if_neg c, if_neg c]
      have nc : ¬(g = D.1 0 6 ∧ i < k) := fun q => c q.1
      by_cases d : (0 ≤ g ∧ g < D.1 0 6) ∧ 0 ≤ i ∧ i < D.1 1 g
      · have d2 : (0 ≤ g ∧ g < D.1 0 6 + 1) ∧ 0 ≤ i ∧ i < D.1 1 g := ⟨⟨d.1.1, by omega⟩, d.2⟩
        rw [if_pos d2, if_neg nc, if_pos d]
      · have d2 : ¬((0 ≤ g ∧ g < D.1 0 6 + 1) ∧ 0 ≤ i ∧ i < D.1 1 g) := fun q => d ⟨⟨q.1.1, by have := q.1.2; omega⟩, q.2⟩
        rw [if_neg d2, if_neg nc, if_neg d]
  by_cases c : g = D.1 0 6 ∧ i < k
  · rw [if_pos c] at e
    have e2 : plc D.1 g i = -1 := by unfold plc; rw [if_neg (fun q => by have := q.1.2; omega)]
    have w : D.2.2.2.w (D.1 0 7 + i) = -1 := Decidable.byContradiction (fun q => by have := (oD.2.1.2.2.2.2.1 _ q).2.1; omega)
    have v : D.2.2.2.v 1 (D.1 0 7 + i) = 0 := hg.2.2.2.2.2.2.1 _ (by omega)
    have ne : ¬(D.1 0 7 + i = -1) := by omega
    rw [e, e2]
    exact ⟨by rw [if_neg ne, if_pos rfl, w], by rw [if_neg ne, if_pos rfl, v]⟩
  · rw [if_neg c] at e
    rw [e]
    exact ⟨rfl, rfl⟩
theorem plc_inj {P : aP} (hP : wfP P) {g i g' i' : Int} (h : plc P g i ≠ -1) (e : plc P g' i' = plc P g i) : g' = g ∧ i' = i := by
  have a := plc_rg hP h
  have a' := plc_rg hP (fun q => h (by rw [← e]; exact q))
  have b := hP.2.2.2.2.2.2.1 g a.1.1 a.1.2
  have b' := hP.2.2.2.2.2.2.1 g' a'.1.1 a'.1.2
  have c := b.2.2.2.2 i a.2.1.1 a.2.1.2
  have c' := b'.2.2.2.2 i' a'.2.1.1 a'.2.1.2
  have ee : P 3 g' + i' = P 3 g + i := by rw [← a'.2.2.1, ← a.2.2.1, e]
  rw [ee, c] at c'
  have hg : g' = g := c'.symm
  rw [hg] at ee
  exact ⟨hg, by omega⟩
theorem adv_v : ∀ (k : Nat) (p : Int) (A : aS), (∀ q, A.v 1 q = 0 ∨ A.v 1 q = 1) → (∀ q, (advAll k p A).2.v 1 q = if p ≤ q ∧ q < p + k then 1 else A.v 1 q) ∧ (advAll k p A).2.w = A.w ∧ (advAll k p A).2.v 0 = A.v 0
  | 0, p, A, h => ⟨fun q => by rw [if_neg (by omega)]; rfl, rfl, rfl⟩
  | k + 1, p, A, h => by
    have e : (advAll (k + 1) p A) = (if A.v 1 p = 0 then ((advAll k (p + 1) (A.sv 1 p 1)).1 + 1, (advAll k (p + 1) (A.sv 1 p 1)).2) else advAll k (p + 1) A) := rfl
    rw [e]
    by_cases c : A.v 1 p = 0
    · rw [if_pos c]
      have q := adv_v k (p + 1) (A.sv 1 p 1) (fun q => by
        show up A.v 1 p 1 1 q = 0 ∨ up A.v 1 p 1 1 q = 1
        rw [up_at]; split
        · exact .inr rfl
        · exact h q)
      refine ⟨fun y => ?_, q.2.1, by rw [q.2.2]; show up A.v 1 p 1 0 = A.v 0; exact up_ne (by decide)⟩
      rw [q.1 y]
      by_cases d : p + 1 ≤ y ∧ y < p + 1 + k
      · rw [if_pos d, if_pos ⟨by omega, by omega⟩]
      · rw [if_neg d]
        show up A.v 1 p 1 1 y = _
        rw [up_at]
        by_cases f : y = p
        · rw [if_pos f, if_pos ⟨by omega, by omega⟩]
        · rw [if_neg f, if_neg (by omega)]
    · rw [if_neg c]
      have q := adv_v k (p + 1) A h
      refine ⟨fun y => ?_, q.2.1, q.2.2⟩
      rw [q.1 y]
      by_cases d : p + 1 ≤ y ∧ y < p + 1 + k
      · rw [if_pos d, if_pos ⟨by omega, by omega⟩]
      · rw [if_neg d]
        by_cases f : y = p
        · rw [if_pos ⟨by omega, by omega⟩, f]; exact (h p).elim (fun z => absurd z c) id
        · rw [if_neg (by omega)]
theorem bit5 : (∀ t : Fin 32, ian (isr (t.val : Int) 0) 1 = 0 ↔ ian (t.val : Int) 1 = 0) ∧ (∀ t : Fin 32, ian (isr (t.val : Int) 1) 1 = 0 ↔ ian (t.val : Int) 2 = 0) ∧ (∀ t : Fin 32, ian (isr (t.val : Int) 2) 1 = 0 ↔ ian (t.val : Int) 4 = 0) ∧ (∀ t : Fin 32, ian (isr (t.val : Int) 3) 1 = 0 ↔ ian (t.val : Int) 8 = 0) ∧ (∀ t : Fin 32, ian (isr (t.val : Int) 4) 1 = 0 ↔ ian (t.val : Int) 16 = 0) := by decide +kernel
theorem isl5b : isl 1 0 = 1 ∧ isl 1 1 = 2 ∧ isl 1 2 = 4 ∧ isl 1 3 = 8 ∧ isl 1 4 = 16 := by decide +kernel
/-- the k-th bit, told by its mask -/
def bitm (k m : Int) : Prop := isl 1 k = m ∧ ∀ t, 0 ≤ t → t < 32 → (ian (isr t k) 1 = 0 ↔ ian t m = 0)
theorem bits_ok : bitm 0 1 ∧ bitm 1 2 ∧ bitm 2 4 ∧ bitm 3 8 ∧ bitm 4 16 := by
  have q : ∀ t : Int, 0 ≤ t → t < 32 → ∃ f : Fin 32, (f.val : Int) = t := fun t h1 h2 => ⟨⟨t.toNat, by omega⟩, by show ((t.toNat : Nat) : Int) = t; omega⟩
  refine ⟨⟨isl5b.1, fun t h1 h2 => ?_⟩, ⟨isl5b.2.1, fun t h1 h2 => ?_⟩, ⟨isl5b.2.2.1, fun t h1 h2 => ?_⟩, ⟨isl5b.2.2.2.1, fun t h1 h2 => ?_⟩, ⟨isl5b.2.2.2.2, fun t h1 h2 => ?_⟩⟩
  · obtain ⟨f, rfl⟩ := q t h1 h2; exact bit5.1 f
  · obtain ⟨f, rfl⟩ := q t h1 h2; exact bit5.2.1 f
  · obtain ⟨f, rfl⟩ := q t h1 h2; exact bit5.2.2.1 f
  · obtain ⟨f, rfl⟩ := q t h1 h2; exact bit5.2.2.2.1 f
  · obtain ⟨f, rfl⟩ := q t h1 h2; exact bit5.2.2.2.2 f
section
variable {sc : Nat × (Nat → Int32)} {SH : List mCell} {S : mStore} {b : Int → Int} {n : Int} {T U : aT} {D : aD}
theorem mdT_up {a : Nat} {i x : Int} (h : mdT S b n T) (ha : 100 ≤ a) : mdT (up S a i x) b n T := mdT_far h (fun f _ => by rw [up_ne (by omega)]) (up_ne (by omega))
theorem mdT_90 {i x : Int} (h : mdT S b n T) (hi : 40 ≤ i) : mdT (up S 90 i x) b n T := mdT_far h (fun f hf => by rw [up_at, if_neg (by omega)]) (up_ne (by decide))
theorem once_no (h0 : sMod SH) (hn : n ≤ 700) (h : mdT S b n T) (hf : T.2.1 = 0) {k m : Int} (hk : bitm k m) (ht : 0 ≤ S 90 47 ∧ S 90 47 < 32) (hm : ian (S 90 47) m ≠ 0) : ∃ S', G sc MX11_once 0 [some (.ref 90), some (.int (I k))] [] SH S (rI 0 SH S') ∧ mdT S' b n (failA 5 (tkS b n T.1) T) ∧ mxF S S' := by
  obtain ⟨S', g, c, f⟩ := wants_no (sc := sc) h0 hn h hf (k := 5) (by decide)
  refine ⟨S', qX11_once_0 h0 ?_, c, f⟩
  rw [if_neg (by rw [I_eq (ian_rg _ _) ⟨by decide, by decide⟩, hk.2 _ ht.1 ht.2]; exact hm)]
  refine ⟨_, _, g, ?_⟩
  rw [if_pos rfl]
  exact ⟨.inl rfl, rfl⟩
theorem once_yes (h0 : sMod SH) (hn : 0 ≤ n ∧ n ≤ 700) (hb : ∀ i, 0 ≤ b i ∧ b i < 256) (h : mdT S b n T) (hf : T.2.1 = 0) {k m : Int} (hk : bitm k m) (ht : 0 ≤ S 90 47 ∧ S 90 47 < 32) (hm : ian (S 90 47) m = 0) : ∃ S', G sc MX11_once 0 [some (.ref 90), some (.int (I k))] [] SH S (rI 1 SH S') ∧ mdT S' b n (goT b n T) ∧ mxF (up S 90 47 (iro (S 90 47) m)) S' := by
  obtain ⟨S', g, c, f⟩ := goM (sc := sc) (S := up S 90 47 (iro (S 90 47) m)) h0 hn hb (mdT_90 h (by decide)) hf (u := none)
  refine ⟨S', qX11_once_0 h0 ?_, c, f⟩
  rw [if_pos (by rw [(hk.2 _ ht.1 ht.2).mpr hm])]
  refine ⟨_, _, wants_yes h0 h hf, ?_⟩
  rw [if_neg (by decide), hk.1]
  exact ⟨_, g, .inr rfl, rfl⟩
end
