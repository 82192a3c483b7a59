/-! ===== what a machine's text tells: the draft, and how the class makes it ===== -/
/-- plan, what is told, how many are placed, state -/
abbrev aD : Type := aP × Int × Int × aS
def addG (P : aP) (m ρ : Int) : aP := fun j i => if j = 0 ∧ i = 6 then P 0 6 + 1 else if j = 0 ∧ i = 7 then P 0 7 + m else if j = 1 ∧ i = P 0 6 then m else if j = 2 ∧ i = P 0 6 then ρ else if j = 3 ∧ i = P 0 6 then P 0 7 else if j = 4 ∧ P 0 7 ≤ i ∧ i < P 0 7 + m then P 0 6 else P j i
def gsT (b : Int → Int) (n : Int) (U : aT) : (Int × Int) × aT := if (numT b n 1 12 U).2.2.1 = 0 ∧ tkK b n (numT b n 1 12 U).2.1 = 2 then (((numT b n 1 12 U).1, (numT b n 0 2 (numT b n 1 12 U).2).1), (numT b n 0 2 (numT b n 1 12 U).2).2) else (((numT b n 1 12 U).1, 0), (numT b n 1 12 U).2)
def nqT (b : Int → Int) (n : Int) : Nat → Int → aT → Int × aT
  | 0, x, U => (x, U)
  | k + 1, x, U => nqT b n k (16 * x + (numT b n 0 15 U).1) (numT b n 0 15 U).2
def pg1 (b : Int → Int) (n : Int) (D : aD) (U : aT) : aD × aT :=
  if (pgT b n D.1 U).2.2.1 ≠ 0 then (D, (pgT b n D.1 U).2)
  else if D.2.2.2.w (pgV D.1 (pgT b n D.1 U)) ≠ -1 then (D, failA 4 (tkS b n (pgT b n D.1 U).1.2.2) (pgT b n D.1 U).2)
  else ((D.1, D.2.1, D.2.2.1 + 1, (lieIn D.2.2.2 (pgV D.1 (pgT b n D.1 U)) D.2.2.1).sv 0 D.2.2.1 (nqT b n 4 0 (pgT b n D.1 U).2).1), (nqT b n 4 0 (pgT b n D.1 U).2).2)
def ad1 (b : Int → Int) (n : Int) (D : aD) (U : aT) : aD × aT :=
  if (numT b n 0 11 (pgT b n D.1 U).2).2.2.1 ≠ 0 then (D, (numT b n 0 11 (pgT b n D.1 U).2).2)
  else if plc D.1 (pgT b n D.1 U).1.1 (numT b n 0 11 (pgT b n D.1 U).2).1 = -1 ∨ plc D.1 (pgT b n D.1 U).1.1 (numT b n 0 11 (pgT b n D.1 U).2).1 < pgV D.1 (pgT b n D.1 U) then (D, failA 3 (tkS b n (pgT b n D.1 U).2.1) (numT b n 0 11 (pgT b n D.1 U).2).2)
  else ((D.1, D.2.1, D.2.2.1, (advAll (plc D.1 (pgT b n D.1 U).1.1 (numT b n 0 11 (pgT b n D.1 U).2).1 - pgV D.1 (pgT b n D.1 U) + 1).toNat (pgV D.1 (pgT b n D.1 U)) D.2.2.2).2), (numT b n 0 11 (pgT b n D.1 U).2).2)
def clB (b : Int → Int) (n : Int) (D : aD) (T : aT) : aD × aT :=
  if tkW b n T.1 = 0 then (if 0 < D.2.2.1 then (D, failA 4 (tkS b n T.1) T) else if ian D.2.1 1 ≠ 0 then (D, failA 5 (tkS b n T.1) T) else ((up D.1 0 0 (numT b n 1 48 (goT b n T)).1, iro D.2.1 1, D.2.2), (numT b n 1 48 (goT b n T)).2))
  else if tkW b n T.1 = 1 then (if ian D.2.1 2 ≠ 0 then (D, failA 5 (tkS b n T.1) T) else ((up D.1 0 1 (numT b n 2 8 (goT b n T)).1, iro D.2.1 2, D.2.2), (numT b n 2 8 (goT b n T)).2))
  else if tkW b n T.1 = 2 then (if ian D.2.1 4 ≠ 0 then (D, failA 5 (tkS b n T.1) T) else ((up (up D.1 0 2 (numT b n 1 16 (goT b n T)).1) 0 3 (numT b n (numT b n 1 16 (goT b n T)).1 16 (numT b n 1 16 (goT b n T)).2).1, iro D.2.1 4, D.2.2), (numT b n (numT b n 1 16 (goT b n T)).1 16 (numT b n 1 16 (goT b n T)).2).2))
  else if tkW b n T.1 = 3 then (if ian D.2.1 8 ≠ 0 then (D, failA 5 (tkS b n T.1) T) else ((up D.1 0 4 1, iro D.2.1 8, D.2.2), goT b n T))
  else if tkW b n T.1 = 4 then (if ian D.2.1 16 ≠ 0 then (D, failA 5 (tkS b n T.1) T) else ((up D.1 0 5 1, iro D.2.1 16, D.2.2), goT b n T))
  else if tkW b n T.1 = 5 then (if 4 ≤ D.1 0 6 then (D, failA 2 (tkS b n T.1) T) else ((addG D.1 (gsT b n (goT b n T)).1.1 (gsT b n (goT b n T)).1.2, D.2), (gsT b n (goT b n T)).2))
  else if tkW b n T.1 = 6 then (if D.1 0 0 ≤ D.2.2.1 then (D, failA 2 (tkS b n T.1) T) else pg1 b n D (goT b n T))
  else if tkW b n T.1 = 7 then ad1 b n D (goT b n T)
  else (D, failA 1 (tkS b n T.1) T)
def clD (b : Int → Int) (n : Int) (D : aD) (T : aT) : aD × aT := ((clB b n D T).1, endT b n (clB b n D T).2)
abbrev dcR (S : mStore) (D : aD) : Prop := planR S 6 D.1 ∧ stateR S 65 D.2.2.2 ∧ S 85 3 = D.2.1 ∧ S 85 4 = D.2.2.1
abbrev dxF (S S' : mStore) : Prop := (∀ j, j < 6 ∨ (11 < j ∧ j < 65) ∨ 85 < j → S' j = S j) ∧ S' 11 1 = S 11 1
/-- what holds of a draft between clauses (the numbers that the calls need) -/
abbrev okE (D : aD) : Prop := wfP D.1 ∧ wfA D.1 D.2.2.2 ∧ (0 ≤ D.2.1 ∧ D.2.1 < 32) ∧ (0 ≤ D.2.2.1 ∧ D.2.2.1 ≤ D.1 0 0) ∧ D.1 0 7 ≤ 12 * D.1 0 6
theorem dxF_rf (S : mStore) : dxF S S := ⟨fun _ _ => rfl, rfl⟩
theorem dxF_tr {S S1 S2 : mStore} (h : dxF S S1) (h2 : dxF S1 S2) : dxF S S2 := ⟨fun j hj => (h2.1 j hj).trans (h.1 j hj), h2.2.trans h.2⟩
theorem dxF_tx {S S1 : mStore} (h : txF S S1) : dxF S S1 := ⟨fun j hj => h.1 j (by omega), h.2⟩
theorem dxF_up {S : mStore} {a : Nat} {i x : Int} (h : (6 ≤ a ∧ a < 11) ∨ (65 ≤ a ∧ a ≤ 85)) : dxF S (up S a i x) := ⟨fun j hj => up_ne (by omega), by rw [up_ne (by omega)]⟩
theorem dcR_tx {S S1 : mStore} {D : aD} (h : dcR S D) (f : txF S S1) : dcR S1 D := ⟨planR_far h.1 (fun j _ _ => f.1 j (by omega)), stateR_far h.2.1 (fun j _ _ => f.1 j (by omega)), by rw [f.1 85 (by decide)]; exact h.2.2.1, by rw [f.1 85 (by decide)]; exact h.2.2.2⟩
theorem addG_06 (P : aP) (m ρ : Int) : addG P m ρ 0 6 = P 0 6 + 1 := by unfold addG; rw [if_pos ⟨rfl, rfl⟩]
theorem addG_07 (P : aP) (m ρ : Int) : addG P m ρ 0 7 = P 0 7 + m := by unfold addG; rw [if_neg (by decide), if_pos ⟨rfl, rfl⟩]
theorem addG_0 (P : aP) (m ρ : Int) {i : Int} (h6 : i ≠ 6) (h7 : i ≠ 7) : addG P m ρ 0 i = P 0 i := by unfold addG; rw [if_neg (fun q => h6 q.2), if_neg (fun q => h7 q.2), if_neg (fun q => absurd q.1 (by decide)), if_neg (fun q => absurd q.1 (by decide)), if_neg (fun q => absurd q.1 (by decide)), if_neg (fun q => absurd q.1 (by decide))]
theorem addG_1 (P : aP) (m ρ i : Int) : addG P m ρ 1 i = if i = P 0 6 then m else P 1 i := by
  unfold addG
  rw [if_neg (fun q => absurd q.1 (by decide)), if_neg (fun q => absurd q.1 (by decide))]
  by_cases c : i = P 0 6
  · rw [if_pos ⟨rfl, c⟩, if_pos c]
  · rw [if_neg (fun q => c q.2), if_neg (fun q => absurd q.1 (by decide)), if_neg (fun q => absurd q.1 (by decide)), if_neg (fun q => absurd q.1 (by decide)), if_neg c]
theorem addG_2 (P : aP) (m ρ i : Int) : addG P m ρ 2 i = if i = P 0 6 then ρ else P 2 i := by
  unfold addG
  rw [if_neg (fun q => absurd q.1 (by decide)), if_neg (fun q => absurd q.1 (by decide)), if_neg (fun q => absurd q.1 (by decide))]
  by_cases c : i = P 0 6
  · rw [if_pos ⟨rfl, c⟩, if_pos c]
  · rw [if_neg (fun q => c q.2), if_neg (fun q => absurd q.1 (by decide)), if_neg (fun q => absurd q.1 (by decide)), if_neg c]
theorem addG_3 (P : aP) (m ρ i : Int) : addG P m ρ 3 i = if i = P 0 6 then P 0 7 else P 3 i := by
  unfold addG
  rw [if_neg (fun q => absurd q.1 (by decide)), if_neg (fun q => absurd q.1 (by decide)), if_neg (fun q => absurd q.1 (by decide)), if_neg (fun q => absurd q.1 (by decide))]
  by_cases c : i = P 0 6
  · rw [if_pos ⟨rfl, c⟩, if_pos c]
  · rw [if_neg (fun q => c q.2), if_neg (fun q => absurd q.1 (by decide)), if_neg c]
theorem addG_4 (P : aP) (m ρ i : Int) : addG P m ρ 4 i = if P 0 7 ≤ i ∧ i < P 0 7 + m then P 0 6 else P 4 i := by
  unfold addG
  rw [if_neg (fun q => absurd q.1 (by decide)), if_neg (fun q => absurd q.1 (by decide)), if_neg (fun q => absurd q.1 (by decide)), if_neg (fun q => absurd q.1 (by decide)), if_neg (fun q => absurd q.1 (by decide))]
  by_cases c : P 0 7 ≤ i ∧ i < P 0 7 + m
  · rw [if_pos ⟨rfl, c⟩, if_pos c]
  · rw [if_neg (fun q => c q.2), if_neg c]
theorem ian_rg (x y : Int) : rg (ian x y) := by unfold ian; exact ⟨Int32.le_toInt _, Int32.toInt_lt _⟩
theorem isl4 {x : Int} (h0 : 0 ≤ x) (h : x < 4096) : isl x 4 = 16 * x := by
  unfold isl
  have e : (I x <<< (I 4 &&& 31)).toBitVec.toNat = 16 * x.toNat := by
    show ((I x).toBitVec <<< ((I 4 &&& 31).toBitVec.smod 32)).toNat = _
    rw [BitVec.shiftLeft_eq', BitVec.toNat_shiftLeft, show ((I 4 &&& 31).toBitVec.smod 32).toNat = 4 by decide, I_nat h0 (by omega), Nat.shiftLeft_eq]
    rw [Nat.mod_eq_of_lt (by omega)]
    omega
  rw [toInt_nat e (by omega)]
  omega
theorem iro4 {x v : Int} (hx : 0 ≤ x ∧ x < 4096) (hv : 0 ≤ v ∧ v < 16) : iro (isl x 4) v = 16 * x + v := by
  rw [isl4 hx.1 hx.2, iro_nn (by omega) (by omega) hv.1 (by omega)]
  have q := or_mid (s := 0) (h := x.toNat) (n := v.toNat) (l := 0) (by decide) (by omega)
  rw [show (2 : Nat) ^ (0 + 4) * x.toNat + 0 = (16 * x).toNat by rw [show (2 : Nat) ^ (0 + 4) = 16 from rfl]; omega, show (2 : Nat) ^ 0 * v.toNat = v.toNat by rw [Nat.pow_zero, Nat.one_mul]] at q
  rw [q]
  rw [show (2 : Nat) ^ (0 + 4) = 16 from rfl]
  omega
section
variable {sc : Nat × (Nat → Int32)} {SH : List mCell} {S : mStore} {b : Int → Int} {n : Int} {T U : aT} {D : aD}
theorem tell_bad (h0 : sText SH) (h1 : sPlan SH 6) (h2 : sState SH 65) (h3 : sMaker SH) (h : clT S b n T) (hf : T.2.1 ≠ 0) {m : Int} : ∃ S', G sc MX3_tellOnce 0 [some (.ref 85), some (.int (I m))] [] SH S (rV SH S') ∧ clT S' b n T ∧ dxF S S' := by
  refine ⟨up S 85 3 (iro (S 85 3) m), qX3_tellOnce_0 h0 h1 h2 h3 ?_, clT_far h (up_ne (by decide)) (up_ne (by decide)), dxF_up (.inr (by decide))⟩
  by_cases c : I (ian (S 85 3) m) = I 0
  · rw [if_pos c]
  · rw [if_neg c]
    exact ⟨_, fail_bad h0 h hf, rfl⟩
theorem tell_no (h0 : sText SH) (h1 : sPlan SH 6) (h2 : sState SH 65) (h3 : sMaker SH) (hn : n ≤ 700) (h : clT S b n (goT b n T)) (hf : T.2.1 = 0) (e3 : S 11 3 = tkS b n T.1) (hT : okX n T) {m : Int} (hm : ian (S 85 3) m ≠ 0) : ∃ S', G sc MX3_tellOnce 0 [some (.ref 85), some (.int (I m))] [] SH S (rV SH S') ∧ clT S' b n (failA 5 (tkS b n T.1) T) ∧ dxF S S' := by
  obtain ⟨S2, g2, c2, f2⟩ := clT_go (sc := sc) h hf e3 hT h0 hn (k := 5) (by decide)
  refine ⟨up S2 85 3 (iro (S2 85 3) m), qX3_tellOnce_0 h0 h1 h2 h3 ?_, clT_far c2 (up_ne (by decide)) (up_ne (by decide)), dxF_tr (dxF_tx f2) (dxF_up (.inr (by decide)))⟩
  rw [if_neg (by rw [I_eq (ian_rg _ _) ⟨by decide, by decide⟩]; exact hm)]
  exact ⟨_, g2, rfl⟩
theorem tell_yes (h0 : sText SH) (h1 : sPlan SH 6) (h2 : sState SH 65) (h3 : sMaker SH) {m : Int} (hm : ian (S 85 3) m = 0) : G sc MX3_tellOnce 0 [some (.ref 85), some (.int (I m))] [] SH S (rV SH (up S 85 3 (iro (S 85 3) m))) := by
  refine qX3_tellOnce_0 h0 h1 h2 h3 ?_
  rw [if_pos (by rw [hm])]
theorem addG_lp {a : Nat} (h0 : sPlan SH a) {m ρ g s : Int} (hm : m ≤ 12) (hs : 0 ≤ s ∧ s + m ≤ 48) (hg : 0 ≤ g ∧ g < 4) : ∀ (k : Nat) (l : Int) (S : mStore), l + k = m → 0 ≤ l → S a 6 = g → S a 7 = s → ∃ S', G sc MX5_addGuest 55 [some (.ref a), some (.int (I m)), some (.int (I ρ)), some (.int (I l))] [] SH S (rV SH S') ∧ S' a 6 = g + 1 ∧ S' a 7 = s + m ∧ (∀ i, i ≠ 6 → i ≠ 7 → S' a i = S a i) ∧ (∀ i, S' (a + 4) i = if s + l ≤ i ∧ i < s + m then g else S (a + 4) i) ∧ (∀ j, j ≠ a → j ≠ a + 4 → S' j = S j)
  | 0, l, S, hl, l0, h6, h7 => by
    refine ⟨up (up S a 7 (s + m)) a 6 (g + 1), qX5_addGuest_55 h0 ?_, by rw [up_eq], by rw [up_at, if_neg (by decide), up_eq], fun i i6 i7 => by rw [up_at, if_neg i6, up_at, if_neg i7], fun i => by rw [up_ne (by omega), up_ne (by omega), if_neg (by omega)], fun j j1 j2 => by rw [up_ne j1, up_ne j1]⟩
    rw [if_pos (by rw [I_le ⟨by omega, by omega⟩ ⟨by omega, by omega⟩]; omega), h7, show up S a 7 (s + m) a 6 = g by rw [up_at, if_neg (by decide)]; exact h6]
  | k + 1, l, S, hl, l0, h6, h7 => by
    obtain ⟨S', g', q6, q7, qa, q4, qj⟩ := addG_lp h0 (ρ := ρ) hm hs hg k (l + 1) (up S (a + 4) (s + l) g) (by omega) (by omega) (by rw [up_ne (by omega)]; exact h6) (by rw [up_ne (by omega)]; exact h7)
    refine ⟨S', qX5_addGuest_55 h0 ?_, q6, q7, fun i i6 i7 => by rw [qa i i6 i7, up_ne (by omega)], fun i => ?_, fun j j1 j2 => by rw [qj j j1 j2, up_ne j2]⟩
    · rw [if_neg (by rw [I_le ⟨by omega, by omega⟩ ⟨by omega, by omega⟩]; omega), h7, h6]
      exact ⟨⟨by omega, by omega⟩, g'⟩
    · rw [q4 i, up_at]
      by_cases c : s + (l + 1) ≤ i ∧ i < s + m
      · rw [if_pos c, if_pos ⟨by omega, c.2⟩]
      · rw [if_neg c]
        by_cases d : i = s + l
        · rw [if_pos d, if_pos ⟨by omega, by omega⟩]
        · rw [if_neg d, if_neg (by omega)]
theorem addG_ok {a : Nat} {P : aP} (h0 : sPlan SH a) (hp : planR S a P) (hP : wfP P) {m ρ : Int} (hm : 1 ≤ m ∧ m ≤ 12) (hg : P 0 6 < 4) (hs : P 0 7 + m ≤ 48) {u : Option Value} : ∃ S', G sc MX5_addGuest 0 [some (.ref a), some (.int (I m)), some (.int (I ρ)), u] [] SH S (rV SH S') ∧ planR S' a (addG P m ρ) ∧ (∀ j, j < a ∨ a + 5 ≤ j → S' j = S j) := by
  have hP6 := hP.2.2.2.2.1
  have hP7 := hP.2.2.2.2.2.1
  obtain ⟨p0, p1, p2, p3, p4⟩ := hp
  have e6 : S a 6 = P 0 6 := p0 6 (by decide) (by decide)
  have e7 : S a 7 = P 0 7 := p0 7 (by decide) (by decide)
  obtain ⟨S', g', q6, q7, qa, q4, qj⟩ := addG_lp (sc := sc) h0 (m := m) (ρ := ρ) (g := P 0 6) (s := P 0 7) hm.2 ⟨hP7.1, hs⟩ ⟨hP6.1, hg⟩ m.toNat 0 (up (up (up S (a + 1) (P 0 6) m) (a + 2) (P 0 6) ρ) (a + 3) (P 0 6) (P 0 7)) (by omega) (Int.le_refl _) (by rw [up_ne (by omega), up_ne (by omega), up_ne (by omega)]; exact e6) (by rw [up_ne (by omega), up_ne (by omega), up_ne (by omega)]; exact e7)
  have a06 := addG_06 P m ρ
  have a07 := addG_07 P m ρ
  refine ⟨S', qX5_addGuest_0 h0 ?_, ⟨fun i i0 i8 => ?_, fun i i0 i8 => ?_, fun i i0 i8 => ?_, fun i i0 i8 => ?_, fun i i0 i8 => ?_⟩, fun j hj => by rw [qj j (by omega) (by omega), up_ne (by omega), up_ne (by omega), up_ne (by omega)]⟩
  · rw [e6, e7, if_neg (by rw [I_le ⟨by decide, by decide⟩ ⟨by omega, by omega⟩]; omega), if_pos (by rw [I_le ⟨by omega, by omega⟩ ⟨by decide, by decide⟩]; omega), show up S (a + 1) (P 0 6) m a 6 = P 0 6 by rw [up_ne (by omega)]; exact e6, show up (up S (a + 1) (P 0 6) m) (a + 2) (P 0 6) ρ a 6 = P 0 6 by rw [up_ne (by omega), up_ne (by omega)]; exact e6, show up (up S (a + 1) (P 0 6) m) (a + 2) (P 0 6) ρ a 7 = P 0 7 by rw [up_ne (by omega), up_ne (by omega)]; exact e7]
    exact ⟨⟨by omega, by omega⟩, ⟨by omega, by omega⟩, ⟨by omega, by omega⟩, g'⟩
  · by_cases c : i = 6
    · rw [c, q6, a06]
    by_cases d : i = 7
    · rw [d, q7, a07]
    rw [qa i c d, up_ne (by omega), up_ne (by omega), up_ne (by omega), p0 i i0 i8, addG_0 P m ρ c d]
  · rw [a06] at i8
    rw [qj (a + 1) (by omega) (by omega), up_ne (by omega), up_ne (by omega), up_at, addG_1]
    by_cases c : i = P 0 6
    · rw [if_pos c, if_pos c]
    · rw [if_neg c, if_neg c]; exact p1 i i0 (by omega)
  · rw [a06] at i8
    rw [qj (a + 2) (by omega) (by omega), up_ne (by omega), up_at, addG_2]
    by_cases c : i = P 0 6
    · rw [if_pos c, if_pos c]
    · rw [if_neg c, if_neg c, up_ne (by omega)]; exact p2 i i0 (by omega)
  · rw [a06] at i8
    rw [qj (a + 3) (by omega) (by omega), up_at, addG_3]
    by_cases c : i = P 0 6
    · rw [if_pos c, if_pos c]
    · rw [if_neg c, if_neg c, up_ne (by omega), up_ne (by omega)]; exact p3 i i0 (by omega)
  · rw [a07] at i8
    rw [q4 i, up_ne (by omega), up_ne (by omega), up_ne (by omega), Int.add_zero, addG_4]
    by_cases c : P 0 7 ≤ i ∧ i < P 0 7 + m
    · rw [if_pos c, if_pos c]
    · rw [if_neg c, if_neg c]; exact p4 i i0 (by omega)
end
