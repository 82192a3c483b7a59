/-! ===== the class's text, by where it is, its fault and the fault's place ===== -/
abbrev aT : Type := Int × Int × Int
def failA (k a : Int) (T : aT) : aT := if T.2.1 = 0 then (T.1, k, a) else T
def goT (b : Int → Int) (n : Int) (T : aT) : aT := (tkE b n T.1, T.2.1, T.2.2)
def numT (b : Int → Int) (n lo hi : Int) (T : aT) : Int × aT := if T.2.1 ≠ 0 then (0, T) else if tkK b n T.1 ≠ 2 then (0, failA 1 (tkS b n T.1) T) else if lo ≤ tkV b n T.1 ∧ tkV b n T.1 ≤ hi then (tkV b n T.1, goT b n T) else (0, failA 2 (tkS b n T.1) T)
def endT (b : Int → Int) (n : Int) (T : aT) : aT := if T.2.1 ≠ 0 then T else if tkK b n T.1 = 3 then goT b n T else failA 1 (tkS b n T.1) T
def okX (n : Int) (T : aT) : Prop := (0 ≤ T.1 ∧ T.1 ≤ n) ∧ (0 ≤ T.2.1 ∧ T.2.1 ≤ 5) ∧ (-1 ≤ T.2.2 ∧ T.2.2 ≤ 700)
def clT (S : mStore) (b : Int → Int) (n : Int) (T : aT) : Prop := S 11 2 = n ∧ tapR S b n ∧ S 11 6 = T.2.1 ∧ S 11 7 = T.2.2 ∧ okX n T ∧ (T.2.1 = 0 → S 11 4 = T.1)
abbrev txF (S S' : mStore) : Prop := (∀ j, j ≠ 11 → S' j = S j) ∧ S' 11 1 = S 11 1
theorem txF_rf (S : mStore) : txF S S := ⟨fun _ _ => rfl, rfl⟩
theorem txF_tr {S S1 S2 : mStore} (h : txF S S1) (h2 : txF S1 S2) : txF S S2 := ⟨fun j hj => (h2.1 j hj).trans (h.1 j hj), h2.2.trans h.2⟩
theorem ok_fail {n k a : Int} {T : aT} (h : okX n T) (hk : 0 ≤ k ∧ k ≤ 5) (ha : 0 ≤ a ∧ a ≤ 700) : okX n (failA k a T) := by
  unfold failA
  split
  · exact ⟨h.1, hk, by show -1 ≤ a ∧ a ≤ 700; omega⟩
  · exact h
theorem ok_go {b : Int → Int} {n : Int} {T : aT} (h : okX n T) : okX n (goT b n T) := by
  have := tk_rg b (n := n) h.1.2
  have h1 := h.1
  exact ⟨by show 0 ≤ tkE b n T.1 ∧ tkE b n T.1 ≤ n; omega, h.2⟩
theorem ok_num {b : Int → Int} {n lo hi : Int} {T : aT} (hn : n ≤ 700) (h : okX n T) : okX n (numT b n lo hi T).2 := by
  have := tk_rg b (n := n) h.1.2
  have h1 := h.1
  unfold numT
  split
  · exact h
  · split
    · exact ok_fail h (by decide) (by omega)
    · split
      · exact ok_go h
      · exact ok_fail h (by decide) (by omega)
theorem ok_end {b : Int → Int} {n : Int} {T : aT} (hn : n ≤ 700) (h : okX n T) : okX n (endT b n T) := by
  have := tk_rg b (n := n) h.1.2
  have h1 := h.1
  unfold endT
  split
  · exact h
  · split
    · exact ok_go h
    · exact ok_fail h (by decide) (by omega)
theorem failA_z {k a : Int} {T : aT} (h : T.2.1 = 0) : failA k a T = (T.1, k, a) := by unfold failA; rw [if_pos h]
theorem failA_n {k a : Int} {T : aT} (h : T.2.1 ≠ 0) : failA k a T = T := by unfold failA; rw [if_neg h]
theorem numT_bad {b : Int → Int} {n lo hi : Int} {T : aT} (h : T.2.1 ≠ 0) : numT b n lo hi T = (0, T) := by unfold numT; rw [if_pos h]
theorem numT_ok {b : Int → Int} {n lo hi : Int} {T : aT} (h : (numT b n lo hi T).2.2.1 = 0) : T.2.1 = 0 ∧ tkK b n T.1 = 2 ∧ (lo ≤ tkV b n T.1 ∧ tkV b n T.1 ≤ hi) ∧ numT b n lo hi T = (tkV b n T.1, goT b n T) := by
  unfold numT at *
  by_cases c1 : T.2.1 ≠ 0
  · rw [if_pos c1] at h; exact absurd h c1
  rw [if_neg c1] at *
  have c1' : T.2.1 = 0 := Decidable.not_not.mp c1
  by_cases c2 : tkK b n T.1 ≠ 2
  · rw [if_pos c2, failA_z c1'] at h; exact absurd h (by dsimp only; decide)
  rw [if_neg c2] at *
  by_cases c3 : lo ≤ tkV b n T.1 ∧ tkV b n T.1 ≤ hi
  · rw [if_pos c3] at *
    exact ⟨c1', Decidable.not_not.mp c2, c3, rfl⟩
  · rw [if_neg c3, failA_z c1'] at h; exact absurd h (by dsimp only; decide)
theorem num_rg {b : Int → Int} {n lo hi : Int} {T : aT} (h : (numT b n lo hi T).2.2.1 = 0) : lo ≤ (numT b n lo hi T).1 ∧ (numT b n lo hi T).1 ≤ hi := by
  have := numT_ok h
  rw [this.2.2.2]; exact this.2.2.1
theorem num_z {b : Int → Int} {n lo hi : Int} {T : aT} (h : (numT b n lo hi T).2.2.1 ≠ 0) : (numT b n lo hi T).1 = 0 := by
  unfold numT at *
  split
  · rfl
  · rename_i c1
    rw [if_neg c1] at h
    split
    · rfl
    · rename_i c2
      rw [if_neg c2] at h
      split
      · rename_i c3
        rw [if_pos c3] at h
        exact absurd (Decidable.not_not.mp c1) h
      · rfl
section
variable {sc : Nat × (Nat → Int32)} {SH : List mCell} {S : mStore} {b : Int → Int} {n : Int} {T : aT}
theorem clT_far (h : clT S b n T) {S' : mStore} (h1 : S' 11 = S 11) (h2 : S' 12 = S 12) : clT S' b n T := by
  unfold clT tapR at *
  rw [h1, h2]; exact h
theorem fail_bad (h0 : sText SH) (h : clT S b n T) (hf : T.2.1 ≠ 0) {k : Int} : G sc MX8_fail 0 [some (.ref 11), some (.int (I k))] [] SH S (rV SH S) := by
  have hr := h.2.2.2.2.1.2.1
  refine qX8_fail_0 h0 ?_
  rw [h.2.2.1, if_neg (by rw [I_eq ⟨by omega, by omega⟩ ⟨by decide, by decide⟩]; exact hf)]
theorem fail_ok (h0 : sText SH) (h : clT S b n T) {k a : Int} (hk : 1 ≤ k ∧ k ≤ 5) (ha : 0 ≤ a ∧ a ≤ 700) (h3 : S 11 3 = a) : ∃ S', G sc MX8_fail 0 [some (.ref 11), some (.int (I k))] [] SH S (rV SH S') ∧ clT S' b n (failA k a T) ∧ txF S S' := by
  by_cases c : T.2.1 = 0
  · refine ⟨up (up S 11 6 k) 11 7 a, qX8_fail_0 h0 ?_, ?_, fun j hj => by rw [up_ne hj, up_ne hj], by rw [up_at, if_neg (by decide), up_at, if_neg (by decide)]⟩
    · rw [h.2.2.1, c, if_pos rfl, up_at S, if_neg (by decide), h3]
    · rw [failA_z c]
      refine ⟨by rw [up_at, if_neg (by decide), up_at, if_neg (by decide)]; exact h.1, fun i p q => by rw [up_ne (by decide), up_ne (by decide)]; exact h.2.1 i p q, by rw [up_at, if_neg (by decide), up_eq], by rw [up_eq], ⟨h.2.2.2.2.1.1, by show 0 ≤ k ∧ k ≤ 5; omega, by show -1 ≤ a ∧ a ≤ 700; omega⟩, fun q => ?_⟩
      have q' : k = 0 := q
      omega
  · rw [failA_n c]
    exact ⟨S, fail_bad h0 h c, h, txF_rf S⟩
theorem step_to (h0 : sText SH) (hn : 0 ≤ n ∧ n ≤ 700) (hb : ∀ i, 0 ≤ b i ∧ b i < 256) (h : clT S b n T) (hf : T.2.1 = 0) : ∃ S', G sc MX8_step 0 [some (.ref 11), none] [] SH S (rV SH S') ∧ clT S' b n (goT b n T) ∧ S' 11 3 = tkS b n T.1 ∧ S' 11 5 = tkK b n T.1 ∧ S' 11 4 = tkE b n T.1 ∧ txF S S' := by
  obtain ⟨S', g, e3, e5, e4, ef, ej⟩ := step_ok (sc := sc) h0 hn hb h.1 (h.2.2.2.2.2 hf) h.2.2.2.2.1.1 h.2.1 (u := none)
  exact ⟨S', g, ⟨by rw [ef 2 (by decide) (by decide) (by decide)]; exact h.1, fun i p q => by rw [ej 12 (by decide)]; exact h.2.1 i p q, by rw [ef 6 (by decide) (by decide) (by decide)]; exact h.2.2.1, by rw [ef 7 (by decide) (by decide) (by decide)]; exact h.2.2.2.1, ok_go h.2.2.2.2.1, fun _ => e4⟩, e3, e5, e4, ej, ef 1 (by decide) (by decide) (by decide)⟩
theorem atCl_bad (h0 : sText SH) (h : clT S b n T) (hf : T.2.1 ≠ 0) : G sc MX8_atClause 0 [some (.ref 11)] [] SH S (rI 0 SH S) := by
  have hr := h.2.2.2.2.1.2.1
  refine qX8_atClause_0 h0 ?_
  rw [h.2.2.1, if_neg (by rw [I_eq ⟨by omega, by omega⟩ ⟨by decide, by decide⟩]; exact hf)]
  exact ⟨.inl rfl, rfl⟩
theorem atCl_ok (h0 : sText SH) (hn : 0 ≤ n ∧ n ≤ 700) (hb : ∀ i, 0 ≤ b i ∧ b i < 256) (h : clT S b n T) (hf : T.2.1 = 0) : ∃ S', G sc MX8_atClause 0 [some (.ref 11)] [] SH S (rI (if tkK b n T.1 = 0 then 0 else 1) SH S') ∧ clT S' b n (goT b n T) ∧ S' 11 3 = tkS b n T.1 ∧ S' 11 5 = tkK b n T.1 ∧ S' 11 4 = tkE b n T.1 ∧ txF S S' := by
  obtain ⟨S', g, hc, e3, e5, e4, fr⟩ := step_to (sc := sc) h0 hn hb h hf
  have hr := tk_rg b (n := n) h.2.2.2.2.1.1.2
  refine ⟨S', qX8_atClause_0 h0 ?_, hc, e3, e5, e4, fr⟩
  rw [h.2.2.1, hf, if_pos rfl]
  refine ⟨_, g, ?_⟩
  rw [e5]
  by_cases c : tkK b n T.1 = 0
  · rw [if_pos (by rw [c]), if_pos c]; exact ⟨.inl rfl, rfl⟩
  · rw [if_neg (by rw [I_eq ⟨by omega, by omega⟩ ⟨by decide, by decide⟩]; exact c), if_neg c]; exact ⟨.inr rfl, rfl⟩
theorem num_bad (h0 : sText SH) (h : clT S b n T) (hf : T.2.1 ≠ 0) {lo hi : Int} {u u' : Option Value} : G sc MX8_numberIn 0 [some (.ref 11), some (.int (I lo)), some (.int (I hi)), u, u'] [] SH S (rI 0 SH S) := by
  have hr := h.2.2.2.2.1.2.1
  refine qX8_numberIn_0 h0 ?_
  rw [h.2.2.1, if_neg (by rw [I_eq ⟨by omega, by omega⟩ ⟨by decide, by decide⟩]; exact hf)]
theorem sby_dig {c : Int} (h : 48 ≤ c ∧ c ≤ 57) : sby c = c := by unfold sby; rw [if_pos (by omega)]
theorem num_lp (h0 : sText SH) (hn : 0 ≤ n ∧ n ≤ 700) {lo hi s e : Int} (h4 : S 11 4 = e) (ht : tapR S b n) (hs : 0 ≤ s ∧ e ≤ n ∧ e - s ≤ 3) (hd : ∀ j, s ≤ j → j < e → 48 ≤ b j ∧ b j ≤ 57) {r : mR × mW} : ∀ (k : Nat) (j : Nat), s + j + k = e → G sc MX8_numberIn 89 [some (.ref 11), some (.int (I lo)), some (.int (I hi)), some (.int (I (vlA b s (j + k)))), some (.int (I e))] [] SH S r → G sc MX8_numberIn 53 [some (.ref 11), some (.int (I lo)), some (.int (I hi)), some (.int (I (vlA b s j))), some (.int (I (s + j)))] [] SH S r
  | k, j, hk, go => by
    have hv := vl_999 (b := b) (s := s) (k := j) (by omega) (fun x p q => hd x p (by omega))
    refine qX8_numberIn_53 h0 ?_
    rw [if_neg (by rw [I_eq ⟨by omega, by omega⟩ ⟨by decide, by decide⟩]; omega), h4]
    match k, hk with
    | 0, hk =>
      rw [if_pos (by rw [I_le ⟨by omega, by omega⟩ ⟨by omega, by omega⟩]; omega)]
      rw [Nat.add_zero, show e = s + j by omega] at go
      exact go
    | k + 1, hk =>
      rw [if_neg (by rw [I_le ⟨by omega, by omega⟩ ⟨by omega, by omega⟩]; omega)]
      refine ⟨⟨by omega, by omega⟩, ?_⟩
      rw [ht _ (by omega) (by omega), sby_dig (hd (s + j) (by omega) (by omega))]
      have nx := num_lp h0 hn (lo := lo) (hi := hi) h4 ht hs hd (r := r) k (j + 1) (by omega) (by rw [show j + 1 + k = j + (k + 1) by omega]; exact go)
      rw [show s + ((j + 1 : Nat) : Int) = s + j + 1 by omega] at nx
      exact nx
theorem numIn_ok (h0 : sText SH) (hn : 0 ≤ n ∧ n ≤ 700) (hb : ∀ i, 0 ≤ b i ∧ b i < 256) (h : clT S b n T) {lo hi : Int} (hlo : 0 ≤ lo ∧ lo ≤ 9998) (hhi : 0 ≤ hi ∧ hi ≤ 9998) {u u' : Option Value} : ∃ S', G sc MX8_numberIn 0 [some (.ref 11), some (.int (I lo)), some (.int (I hi)), u, u'] [] SH S (rI (numT b n lo hi T).1 SH S') ∧ clT S' b n (numT b n lo hi T).2 ∧ txF S S' ∧ ((numT b n lo hi T).2.2.1 = 0 → S' 11 3 = tkS b n T.1) := by
  by_cases hf : T.2.1 = 0
  · obtain ⟨S', g, hc, e3, e5, e4, fr⟩ := step_to (sc := sc) h0 hn hb h hf
    have hT := h.2.2.2.2.1
    have hT1 := hT.1
    have hr := tk_rg b (n := n) hT.1.2
    have st : ∀ r, (if I (S' 11 5) = I 2 then (if I ((S' 11 4) - (S' 11 3)) ≤ I 3 then G sc MX8_numberIn 53 [some (.ref 11), some (.int (I lo)), some (.int (I hi)), some (.int (I 0)), some (.int (I (S' 11 3)))] [] SH S' r else G sc MX8_numberIn 53 [some (.ref 11), some (.int (I lo)), some (.int (I hi)), some (.int (I (-1))), some (.int (I (S' 11 3)))] [] SH S' r) else (∃ S102, G sc MX8_fail 0 [some (.ref 11), some (.int (I 1))] [] SH S' (rV SH S102) ∧ r = rI 0 SH S102)) → G sc MX8_numberIn 0 [some (.ref 11), some (.int (I lo)), some (.int (I hi)), u, u'] [] SH S r := fun r q => by
      refine qX8_numberIn_0 h0 ?_
      rw [h.2.2.1, hf, if_pos rfl]
      exact ⟨_, g, q⟩
    have hfa : ∀ k, 1 ≤ k ∧ k ≤ 5 → ∃ S2, G sc MX8_fail 0 [some (.ref 11), some (.int (I k))] [] SH S' (rV SH S2) ∧ clT S2 b n (failA k (tkS b n T.1) T) ∧ txF S S2 := fun k hk => by
      obtain ⟨S2, g2, c2, f2⟩ := fail_ok (sc := sc) h0 hc hk (a := tkS b n T.1) (by omega) e3
      have hf' : (goT b n T).2.1 = 0 := hf
      rw [failA_z hf'] at c2
      refine ⟨S2, g2, ?_, txF_tr fr f2⟩
      rw [failA_z hf]
      exact ⟨c2.1, c2.2.1, c2.2.2.1, c2.2.2.2.1, ⟨hT.1, c2.2.2.2.2.1.2⟩, fun q => absurd q (by show ¬ k = 0; omega)⟩
    by_cases c1 : tkK b n T.1 = 2
    · have hd : ∀ j, tkS b n T.1 ≤ j → j < tkE b n T.1 → 48 ≤ b j ∧ b j ≤ 57 := fun j p q => kd_num.mp (by rw [tk_all hT.1.2 (.inr c1) p q]; exact c1)
      have fin : ∀ (v w : Int) r, -1 ≤ v → v ≤ 9999 → ((lo ≤ v ∧ v ≤ hi) ↔ (lo ≤ tkV b n T.1 ∧ tkV b n T.1 ≤ hi)) → ((lo ≤ v ∧ v ≤ hi) → r = rI v SH S') → (¬(lo ≤ v ∧ v ≤ hi) → (∃ S102, G sc MX8_fail 0 [some (.ref 11), some (.int (I 2))] [] SH S' (rV SH S102) ∧ r = rI 0 SH S102)) → G sc MX8_numberIn 89 [some (.ref 11), some (.int (I lo)), some (.int (I hi)), some (.int (I v)), some (.int (I w))] [] SH S' r := fun v w r v1 v2 hv g1 g2 => by
        refine qX8_numberIn_89 h0 ?_
        by_cases d1 : v < lo
        · rw [if_pos (by rw [I_lt ⟨by omega, by omega⟩ ⟨by omega, by omega⟩]; exact d1)]
          exact g2 (by omega)
        · rw [if_neg (by rw [I_lt ⟨by omega, by omega⟩ ⟨by omega, by omega⟩]; exact d1)]
          by_cases d2 : v ≤ hi
          · rw [if_pos (by rw [I_le ⟨by omega, by omega⟩ ⟨by omega, by omega⟩]; exact d2)]
            exact g1 (by omega)
          · rw [if_neg (by rw [I_le ⟨by omega, by omega⟩ ⟨by omega, by omega⟩]; exact d2)]
            exact g2 (by omega)
      have ev : tkV b n T.1 = nmA b (tkS b n T.1) (tkE b n T.1) := by unfold tkV; rw [if_pos c1]
      have to89 : ∀ r, (∀ v w, -1 ≤ v → v ≤ 9999 → ((lo ≤ v ∧ v ≤ hi) ↔ (lo ≤ tkV b n T.1 ∧ tkV b n T.1 ≤ hi)) → ((lo ≤ tkV b n T.1 ∧ tkV b n T.1 ≤ hi) → v = tkV b n T.1) → G sc MX8_numberIn 89 [some (.ref 11), some (.int (I lo)), some (.int (I hi)), some (.int (I v)), some (.int (I w))] [] SH S' r) → G sc MX8_numberIn 0 [some (.ref 11), some (.int (I lo)), some (.int (I hi)), u, u'] [] SH S r := fun r q => by
        refine st r ?_
        rw [e5, c1, if_pos rfl, e4, e3]
        by_cases d : tkE b n T.1 - tkS b n T.1 ≤ 3
        · rw [if_pos (by rw [I_le ⟨by omega, by omega⟩ ⟨by decide, by decide⟩]; exact d)]
          have hv := vl_999 (b := b) (s := tkS b n T.1) (k := (tkE b n T.1 - tkS b n T.1).toNat) (by omega) (fun x p q => hd x p (by omega))
          have en : nmA b (tkS b n T.1) (tkE b n T.1) = vlA b (tkS b n T.1) (tkE b n T.1 - tkS b n T.1).toNat := by unfold nmA; rw [if_pos d]
          have := num_lp (sc := sc) h0 hn (lo := lo) (hi := hi) e4 hc.2.1 (s := tkS b n T.1) ⟨by omega, by omega, d⟩ hd (r := r) (tkE b n T.1 - tkS b n T.1).toNat 0 (by omega) (by rw [Nat.zero_add]; exact q _ _ (by omega) (by omega) (by rw [ev, en]) (fun _ => by rw [ev, en]))
          rw [show tkS b n T.1 + ((0 : Nat) : Int) = tkS b n T.1 by omega] at this
          exact this
        · rw [if_neg (by rw [I_le ⟨by omega, by omega⟩ ⟨by decide, by decide⟩]; exact d)]
          have en : nmA b (tkS b n T.1) (tkE b n T.1) = 9999 := by unfold nmA; rw [if_neg d]
          refine qX8_numberIn_53 h0 ?_
          rw [if_pos rfl]
          exact q _ _ (by decide) (by decide) (by rw [ev, en]; omega) (fun z => by rw [ev, en] at z; omega)
      by_cases c3 : lo ≤ tkV b n T.1 ∧ tkV b n T.1 ≤ hi
      · have en : numT b n lo hi T = (tkV b n T.1, goT b n T) := by unfold numT; rw [if_neg (fun q => q hf), if_neg (fun q => q c1), if_pos c3]
        rw [en]
        exact ⟨S', to89 _ (fun v w v1 v2 hv hw => fin v w _ v1 v2 hv (fun _ => by rw [hw c3]) (fun z => absurd (hv.mpr c3) z)), hc, fr, fun _ => e3⟩
      · have en : numT b n lo hi T = (0, failA 2 (tkS b n T.1) T) := by unfold numT; rw [if_neg (fun q => q hf), if_neg (fun q => q c1), if_neg c3]
        rw [en]
        obtain ⟨S2, g2, c2, f2⟩ := hfa 2 (by decide)
        refine ⟨S2, to89 _ (fun v w v1 v2 hv hw => fin v w _ v1 v2 hv (fun z => absurd (hv.mp z) c3) (fun _ => ⟨_, g2, rfl⟩)), c2, f2, fun q => ?_⟩
        rw [failA_z hf] at q
        exact absurd q (by dsimp only; decide)
    · have en : numT b n lo hi T = (0, failA 1 (tkS b n T.1) T) := by unfold numT; rw [if_neg (fun q => q hf), if_pos c1]
      rw [en]
      obtain ⟨S2, g2, c2, f2⟩ := hfa 1 (by decide)
      refine ⟨S2, st _ ?_, c2, f2, fun q => ?_⟩
      · rw [e5, if_neg (by rw [I_eq ⟨by omega, by omega⟩ ⟨by decide, by decide⟩]; exact c1)]
        exact ⟨_, g2, rfl⟩
      · rw [failA_z hf] at q
        exact absurd q (by dsimp only; decide)
  · rw [numT_bad hf]
    exact ⟨S, num_bad h0 h hf, h, txF_rf S, fun q => absurd q hf⟩
end
