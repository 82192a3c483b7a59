/-! ===== Acts: the states that are kept ===== -/
/-- a list of states lies from a place on in one of the two rows -/
def histR (S : mStore) (F : Nat → Nat → Option Nat) (c : Nat) (o : Int) (L : List aS) : Prop := ∀ (k : Nat) (A : aS), L[k]? = some A → ∃ x, F c ((o + k) % 41).toNat = some x ∧ stateR S x A
abbrev actC (c s q : Nat) : Prop := (c = 0 ∧ s = 38 ∧ q = 37) ∨ (c = 1 ∧ s = 64 ∧ q = 63)
section
variable {sc : Nat × (Nat → Int32)} {SH SH' : List mCell} {F F' : Nat → Nat → Option Nat} {S S' : mStore} {e e' c s q x : Nat} {P : aP} {A : aS}
theorem shR_act (h : shR SH F e) (hc : actC c s q) : sAct SH q s ∧ SH[s]? = some (mS 41 (F c)) := by
  obtain ⟨⟨g, _, _⟩, ⟨h8, h64⟩, _⟩ := h
  rcases hc with ⟨rfl, rfl, rfl⟩ | ⟨rfl, rfl, rfl⟩
  · exact ⟨g.2.2.2.1.2.2.2.2.2, h8⟩
  · exact ⟨g.2.2.2.2.1.2.2.2.2.2, h64⟩
theorem stateAt_end {f : Nat → Option Nat} {z : Int} {v1 : Option Value} (ha : sAct SH q s) (hs : SH[s]? = some (mS 41 f)) (hz : 0 ≤ z ∧ z < 41) (hf : f z.toNat = some x) : G sc MX0_stateAt 36 [some (.ref q), v1, some (.int (I z))] [] SH S (rR x SH S) := by
  refine tt_ld (P := True) (M := MX0_stateAt) (pc := 36) dX0_stateAt_36 rfl rfl rfl rfl rfl (fun _ => ?_) trivial
  refine tt_getR (P := True) (M := MX0_stateAt) (pc := 37) dX0_stateAt_37 rfl ha rfl (fun _ => ?_) trivial
  refine tt_ld (P := True) (M := MX0_stateAt) (pc := 40) dX0_stateAt_40 rfl rfl rfl rfl rfl (fun _ => ?_) trivial
  refine tt_aaload (M := MX0_stateAt) (pc := 41) dX0_stateAt_41 hs ⟨hz.1, by omega⟩ (by decide) ?_
  rw [hf]
  exact tt_aret (M := MX0_stateAt) (pc := 42) dX0_stateAt_42 rfl
theorem stateAt_ok (h : shR SH F e) (hc : actC c s q) {i : Int} (ho : 0 ≤ S q 2 ∧ S q 2 < 41) (hi : 0 ≤ i ∧ i ≤ 40) {u : Option Value} : ∃ x SH' F' S', G sc MX0_stateAt 0 [some (.ref q), some (.int (I i)), u] [] SH S (rR x SH' S') ∧ shR SH' F' e ∧ F' c ((S q 2 + i) % 41).toNat = some x ∧ (∀ d j y, F d j = some y → F' d j = some y) ∧ (∀ j, j < SH.length → S' j = S j) ∧ SH.length ≤ SH'.length := by
  obtain ⟨ha, hs⟩ := shR_act h hc
  have hq : q < 111 ∧ s < 111 ∧ q ≠ s := by omega
  have hz : 0 ≤ (S q 2 + i) % 41 ∧ (S q 2 + i) % 41 < 41 := by omega
  have ez : S q 2 + i - idv (S q 2 + i) 41 * 41 = (S q 2 + i) % 41 := by
    rw [idv_nn (by omega) (by omega) (by decide) (by decide)]; omega
  have start : ∀ r, G sc MX0_stateAt 16 [some (.ref q), some (.int (I i)), some (.int (I ((S q 2 + i) % 41)))] [va_rf (F c ((S q 2 + i) % 41).toNat)] SH S r → G sc MX0_stateAt 0 [some (.ref q), some (.int (I i)), u] [] SH S r := by
    intro r g
    refine tt_ld (P := True) (M := MX0_stateAt) (pc := 0) dX0_stateAt_0 rfl rfl rfl rfl rfl (fun _ => ?_) trivial
    refine tt_getI (P := True) (M := MX0_stateAt) (pc := 1) dX0_stateAt_1 rfl ha rfl (fun _ => ?_) trivial
    refine tt_ld (P := True) (M := MX0_stateAt) (pc := 4) dX0_stateAt_4 rfl rfl rfl rfl rfl (fun _ => ?_) trivial
    refine tt_iadd (P := True) (M := MX0_stateAt) (pc := 5) dX0_stateAt_5 (fun _ => ?_) trivial
    refine tt_bipush (P := True) (M := MX0_stateAt) (pc := 6) dX0_stateAt_6 (by decide) (fun _ => ?_) trivial
    refine tt_irem (P := True) (M := MX0_stateAt) (pc := 8) dX0_stateAt_8 (by decide) (fun _ => ?_) trivial
    rw [show S q ((2 : Nat) : Int) = S q 2 from rfl, ez]
    refine tt_st (P := True) (M := MX0_stateAt) (pc := 9) [some (.ref q), some (.int (I i)), some (.int (I ((S q 2 + i) % 41)))] dX0_stateAt_9 rfl rfl rfl rfl rfl rfl (fun _ => ?_) trivial
    refine tt_ld (P := True) (M := MX0_stateAt) (pc := 10) dX0_stateAt_10 rfl rfl rfl rfl rfl (fun _ => ?_) trivial
    refine tt_getR (P := True) (M := MX0_stateAt) (pc := 11) dX0_stateAt_11 rfl ha rfl (fun _ => ?_) trivial
    refine tt_ld (P := True) (M := MX0_stateAt) (pc := 14) dX0_stateAt_14 rfl rfl rfl rfl rfl (fun _ => ?_) trivial
    exact tt_aaload (M := MX0_stateAt) (pc := 15) dX0_stateAt_15 hs ⟨hz.1, by omega⟩ (by decide) g
  cases hF : F c ((S q 2 + i) % 41).toNat with
  | some x =>
    refine ⟨x, SH, F, S, start _ ?_, h, hF, fun _ _ _ h => h, fun _ _ => rfl, Nat.le_refl _⟩
    rw [hF]
    exact tt_nonnull 36 (M := MX0_stateAt) (pc := 16) dX0_stateAt_16 rfl (stateAt_end ha hs hz hF)
  | none =>
    have hz41 : ((S q 2 + i) % 41).toNat < 41 := by omega
    have hlen := h.2.2.2.2.1
    have hp : sPlan SH 1 := h.1.1.2.2.2.1.2.2.2.2.1.2.2.2.2.2.2.2.2.2.2.2.2
    obtain ⟨S1, g1, _, f1⟩ := state_new (sc := sc) (SH := SH) (S := zr S SH.length) rfl hp (by omega)
    have hN := shR_new (s := s) h (by rcases hc with ⟨a, b, _⟩ | ⟨a, b, _⟩; exact .inl ⟨a, b⟩; exact .inr ⟨a, b⟩) hz41 hF
    refine ⟨SH.length, (SH ++ stC SH.length).set s (mS 41 (va_up (F c) ((S q 2 + i) % 41).toNat (some SH.length))), upF F c ((S q 2 + i) % 41).toNat SH.length, S1, start _ ?_, hN, by unfold upF; exact if_pos ⟨rfl, rfl⟩, fun d j y hy => ?_, fun j hj => by rw [f1 j hj, zr_ne (by omega)], by rw [List.length_set, List.length_append]; omega⟩
    · rw [hF]
      refine tt_null (M := MX0_stateAt) (pc := 16) dX0_stateAt_16 ?_
      refine tt_ld (P := True) (M := MX0_stateAt) (pc := 19) dX0_stateAt_19 rfl rfl rfl rfl rfl (fun _ => ?_) trivial
      refine tt_getR (P := True) (M := MX0_stateAt) (pc := 20) dX0_stateAt_20 rfl ha rfl (fun _ => ?_) trivial
      refine tt_ld (P := True) (M := MX0_stateAt) (pc := 23) dX0_stateAt_23 rfl rfl rfl rfl rfl (fun _ => ?_) trivial
      refine tt_new (M := MX0_stateAt) (pc := 24) dX0_stateAt_24 rfl (by decide) rfl ?_
      refine tt_dup (P := True) (M := MX0_stateAt) (pc := 27) dX0_stateAt_27 rfl (fun _ => ?_) trivial
      refine tt_ld (P := True) (M := MX0_stateAt) (pc := 28) dX0_stateAt_28 rfl rfl rfl rfl rfl (fun _ => ?_) trivial
      have ha' : sAct (SH ++ [mO 7 (mdf 7)]) q s := (getOld (by omega)).trans ha
      refine tt_getR (P := True) (M := MX0_stateAt) (pc := 29) dX0_stateAt_29 rfl ha' rfl (fun _ => ?_) trivial
      refine tt_ctV (M := MX0_stateAt) (pc := 32) dX0_stateAt_32 rfl [.ref SH.length, .int (I ((S q 2 + i) % 41)), .ref s] rfl rfl rfl ⟨rfl, by decide, Nat.le_of_ble_eq_true rfl⟩ g1 ?_
      have hs' : (SH ++ stC SH.length)[s]? = some (mS 41 (F c)) := (getOld (by omega)).trans hs
      refine tt_aastore (M := MX0_stateAt) (pc := 35) dX0_stateAt_35 hs' (getL (j := 0) rfl rfl) ⟨hz.1, by omega⟩ (by decide) ?_
      refine stateAt_end ?_ (List.getElem?_set_self (by rw [List.length_append]; omega)) hz (va_up_self _ _ _)
      show ((SH ++ stC SH.length).set s _)[q]? = _
      rw [List.getElem?_set_ne (Ne.symm hq.2.2), getOld (by omega)]
      exact ha
    · unfold upF
      by_cases hk : d = c ∧ j = ((S q 2 + i) % 41).toNat
      · rw [hk.1, hk.2, hF] at hy; cases hy
      · rw [if_neg hk]; exact hy
/-- what lies in other slots stays -/
theorem hist_far (h : shR SH F e) (h' : shR SH' F' e') (hF : ∀ d j y, F d j = some y → F' d j = some y) {z : Nat} (hx : F' c z = some x) (hc : c < 2) (hz : z < 41) (hS : ∀ j, j < SH.length → j < x ∨ x + 20 ≤ j → S' j = S j) {d : Nat} (hd : d < 2) {o : Int} {L : List aS} (hne : ∀ k : Nat, k < L.length → ¬(d = c ∧ ((o + k) % 41).toNat = z)) (H : histR S F d o L) : histR S' F' d o L := by
  intro k A hk
  obtain ⟨y, hy, hr⟩ := H k A hk
  have hkl : k < L.length := by
    rcases Nat.lt_or_ge k L.length with h | h
    · exact h
    · rw [List.getElem?_eq_none h] at hk; cases hk
  have h41 : ((o + k) % 41).toNat < 41 := by omega
  have q := h.2.2.1 d _ y hd h41 hy
  refine ⟨y, hF _ _ _ hy, stateR_far hr (fun j h1 h2 => hS j (by omega) ?_)⟩
  rcases h'.2.2.2.1 d _ c z y x hd h41 hc hz (hF _ _ _ hy) hx with q | q | q
  · exact absurd q (hne k hkl)
  · omega
  · omega
theorem hist_same {o : Int} {L : List aS} (H : histR S F c o L) (hF : ∀ d j y, F d j = some y → F' d j = some y) (h : shR SH F e) (hc : c < 2) (hS : ∀ j, 111 ≤ j → j < SH.length → S' j = S j) : histR S' F' c o L := by
  intro k A hk
  obtain ⟨y, hy, hr⟩ := H k A hk
  have q := h.2.2.1 c _ y hc (by omega) hy
  exact ⟨y, hF _ _ _ hy, stateR_far hr (fun j h1 h2 => hS j (by omega) (by omega))⟩
theorem shR_st (h : shR SH F e) {a : Nat} (ha : a = 17 ∨ a = 43 ∨ a = 65) : sState SH a := by
  have g := h.1.1
  rcases ha with rfl | rfl | rfl
  · exact g.2.2.2.1.2.2.2.2.1
  · exact g.2.2.2.2.1.2.2.2.2.1
  · exact g.2.2.2.2.2.1
theorem ahead_ok (h : shR SH F e) (hc : actC c s q) (ho : 0 ≤ S q 2 ∧ S q 2 < 41) (hm : 0 ≤ S q 3 ∧ S q 3 ≤ 40) (hs : stateR S 17 A) (hA : wfA P A) : ∃ x SH' F' S', G sc MX0_ahead 0 [some (.ref q), some (.ref 17)] [] SH S (rV SH' S') ∧ shR SH' F' e ∧ F' c ((S q 2 + S q 3) % 41).toNat = some x ∧ stateR S' x A ∧ (∀ d j y, F d j = some y → F' d j = some y) ∧ (∀ j, j < SH.length → j < x ∨ x + 20 ≤ j → S' j = S j) := by
  obtain ⟨ha, _⟩ := shR_act h hc
  obtain ⟨x, SH1, F1, S1, g1, h1, hx, hF, f1, hl⟩ := stateAt_ok (sc := sc) (u := none) h hc ho hm
  have hlen := h.2.2.2.2.1
  have hc2 : c < 2 := by omega
  have hxs := h1.2.2.1 c _ x hc2 (by omega) hx
  obtain ⟨S2, g2, r2, f2⟩ := bec_ok (sc := sc) (S := S1) (a := x) (a1 := 17) hxs.1 (shR_st h1 (.inl rfl)) (by omega) (stateR_far hs (fun j _ _ => f1 j (by omega))) hA
  refine ⟨x, SH1, F1, S2, ?_, h1, hx, r2, hF, fun j hj hjx => by rw [f2 j hjx, f1 j hj]⟩
  refine tt_ld (P := True) (M := MX0_ahead) (pc := 0) dX0_ahead_0 rfl rfl rfl rfl rfl (fun _ => ?_) trivial
  refine tt_ld (P := True) (M := MX0_ahead) (pc := 1) dX0_ahead_1 rfl rfl rfl rfl rfl (fun _ => ?_) trivial
  refine tt_getI (P := True) (M := MX0_ahead) (pc := 2) dX0_ahead_2 rfl ha rfl (fun _ => ?_) trivial
  refine tt_vcR1 (M := MX0_ahead) (pc := 5) dX0_ahead_5 rfl rfl [] rfl rfl ⟨rfl, by decide, Nat.le_of_ble_eq_true rfl⟩ ha g1 ?_
  refine tt_ld (P := True) (M := MX0_ahead) (pc := 8) dX0_ahead_8 rfl rfl rfl rfl rfl (fun _ => ?_) trivial
  refine tt_vcV1 (M := MX0_ahead) (pc := 9) dX0_ahead_9 rfl rfl [] rfl rfl ⟨rfl, by decide, Nat.le_of_ble_eq_true rfl⟩ hxs.1.1 g2 ?_
  exact tt_ret (M := MX0_ahead) (pc := 12) dX0_ahead_12 rfl rfl
theorem giveUp_ok (h : shR SH F e) (hc : actC c s q) (ho : 0 ≤ S q 2 ∧ S q 2 < 41) (hm : 0 ≤ S q 3 ∧ S q 3 ≤ 40) (hx : F c ((S q 2 + S q 3) % 41).toNat = some x) (hs : stateR S x A) (hA : wfA P A) : ∃ SH' F' S', G sc MX0_giveUp 0 [some (.ref q), some (.ref 17)] [] SH S (rV SH' S') ∧ shR SH' F' e ∧ stateR S' 17 A ∧ (∀ d j y, F d j = some y → F' d j = some y) ∧ (∀ j, j < SH.length → j < 17 ∨ 37 ≤ j → S' j = S j) := by
  obtain ⟨ha, _⟩ := shR_act h hc
  obtain ⟨y, SH1, F1, S1, g1, h1, hy, hF, f1, hl⟩ := stateAt_ok (sc := sc) (u := none) h hc ho hm
  have hlen := h.2.2.2.2.1
  have hc2 : c < 2 := by omega
  have hx0 := h.2.2.1 c _ x hc2 (by omega) hx
  rw [hF _ _ _ hx] at hy
  cases hy
  have hxs := h1.2.2.1 c _ x hc2 (by omega) (hF _ _ _ hx)
  obtain ⟨S2, g2, r2, f2⟩ := bec_ok (sc := sc) (S := S1) (a := 17) (a1 := x) (shR_st h1 (.inl rfl)) hxs.1 (by omega) (stateR_far hs (fun j _ _ => f1 j (by omega))) hA
  refine ⟨SH1, F1, S2, ?_, h1, r2, hF, fun j hj hjx => by rw [f2 j (by omega), f1 j hj]⟩
  refine tt_ld (P := True) (M := MX0_giveUp) (pc := 0) dX0_giveUp_0 rfl rfl rfl rfl rfl (fun _ => ?_) trivial
  refine tt_ld (P := True) (M := MX0_giveUp) (pc := 1) dX0_giveUp_1 rfl rfl rfl rfl rfl (fun _ => ?_) trivial
  refine tt_ld (P := True) (M := MX0_giveUp) (pc := 2) dX0_giveUp_2 rfl rfl rfl rfl rfl (fun _ => ?_) trivial
  refine tt_getI (P := True) (M := MX0_giveUp) (pc := 3) dX0_giveUp_3 rfl ha rfl (fun _ => ?_) trivial
  refine tt_vcR1 (M := MX0_giveUp) (pc := 6) dX0_giveUp_6 rfl rfl [.ref 17] rfl rfl ⟨rfl, by decide, Nat.le_of_ble_eq_true rfl⟩ ha g1 ?_
  refine tt_vcV1 (M := MX0_giveUp) (pc := 9) dX0_giveUp_9 rfl rfl [] rfl rfl ⟨rfl, by decide, Nat.le_of_ble_eq_true rfl⟩ (shR_st h1 (.inl rfl)).1 g2 ?_
  exact tt_ret (M := MX0_giveUp) (pc := 12) dX0_giveUp_12 rfl rfl
theorem back_no (h : shR SH F e) (hc : actC c s q) (hm : S q 3 = 0) : G sc MX0_back 0 [some (.ref q), some (.ref 17)] [] SH S (rI 0 SH S) := by
  obtain ⟨ha, _⟩ := shR_act h hc
  refine tt_ld (P := True) (M := MX0_back) (pc := 0) dX0_back_0 rfl rfl rfl rfl rfl (fun _ => ?_) trivial
  refine tt_getI (P := True) (M := MX0_back) (pc := 1) dX0_back_1 rfl ha rfl (fun _ => ?_) trivial
  refine tt_if_ne (P1 := False) (P2 := True) (M := MX0_back) (pc := 4) 9 dX0_back_4 rfl (fun h => h.elim) (fun _ => ?_) (by rw [show S q ((3 : Nat) : Int) = S q 3 from rfl, hm, if_pos rfl]; trivial)
  refine tt_iconst (P := True) (M := MX0_back) (pc := 7) dX0_back_7 (fun _ => ?_) trivial
  exact tt_zret (M := MX0_back) (pc := 8) dX0_back_8 rfl ⟨.inl rfl, rfl⟩
theorem back_ok (h : shR SH F e) (hc : actC c s q) (ho : 0 ≤ S q 2 ∧ S q 2 < 41) (hm : 1 ≤ S q 3 ∧ S q 3 ≤ 40) (hx : F c ((S q 2 + (S q 3 - 1)) % 41).toNat = some x) (hs : stateR S x A) (hA : wfA P A) : ∃ SH' F' S', G sc MX0_back 0 [some (.ref q), some (.ref 17)] [] SH S (rI 1 SH' S') ∧ shR SH' F' e ∧ stateR S' 17 A ∧ (∀ d j y, F d j = some y → F' d j = some y) ∧ (∀ j, j < SH.length → j < 17 ∨ 37 ≤ j → S' j = up S q 3 (S q 3 - 1) j) := by
  obtain ⟨ha, _⟩ := shR_act h hc
  have hq : q < 111 := by omega
  obtain ⟨y, SH1, F1, S1, g1, h1, hy, hF, f1, hl⟩ := stateAt_ok (sc := sc) (u := none) (S := up S q 3 (S q 3 - 1)) (i := S q 3 - 1) h hc (by rw [up_at]; exact ho) (by omega)
  have hlen := h.2.2.2.2.1
  have hc2 : c < 2 := by omega
  have e2 : up S q 3 (S q 3 - 1) q 2 = S q 2 := by rw [up_at]; exact if_neg (by decide)
  rw [e2] at hy
  have hx0 := h.2.2.1 c _ x hc2 (by omega) hx
  rw [hF _ _ _ hx] at hy
  cases hy
  have hxs := h1.2.2.1 c _ x hc2 (by omega) (hF _ _ _ hx)
  obtain ⟨S2, g2, r2, f2⟩ := bec_ok (sc := sc) (S := S1) (a := 17) (a1 := x) (shR_st h1 (.inl rfl)) hxs.1 (by omega) (stateR_far hs (fun j _ _ => by rw [f1 j (by omega), up_ne (by omega)])) hA
  refine ⟨SH1, F1, S2, ?_, h1, r2, hF, fun j hj hjx => by rw [f2 j (by omega), f1 j hj]⟩
  refine tt_ld (P := True) (M := MX0_back) (pc := 0) dX0_back_0 rfl rfl rfl rfl rfl (fun _ => ?_) trivial
  refine tt_getI (P := True) (M := MX0_back) (pc := 1) dX0_back_1 rfl ha rfl (fun _ => ?_) trivial
  refine tt_if_ne (P1 := True) (P2 := False) (M := MX0_back) (pc := 4) 9 dX0_back_4 rfl (fun _ => ?_) (fun h => h.elim) (by rw [show S q ((3 : Nat) : Int) = S q 3 from rfl, if_neg (by rw [I_eq ⟨by omega, by omega⟩ ⟨by omega, by omega⟩]; omega)]; trivial)
  refine tt_ld (P := True) (M := MX0_back) (pc := 9) dX0_back_9 rfl rfl rfl rfl rfl (fun _ => ?_) trivial
  refine tt_dup (P := True) (M := MX0_back) (pc := 10) dX0_back_10 rfl (fun _ => ?_) trivial
  refine tt_getI (P := True) (M := MX0_back) (pc := 11) dX0_back_11 rfl ha rfl (fun _ => ?_) trivial
  refine tt_iconst (P := True) (M := MX0_back) (pc := 14) dX0_back_14 (fun _ => ?_) trivial
  refine tt_isub (P := True) (M := MX0_back) (pc := 15) dX0_back_15 (fun _ => ?_) trivial
  refine tt_putI (P := True) (M := MX0_back) (pc := 16) dX0_back_16 rfl rfl (.inl rfl) ha rfl (fun _ => ?_) trivial
  refine tt_ld (P := True) (M := MX0_back) (pc := 19) dX0_back_19 rfl rfl rfl rfl rfl (fun _ => ?_) trivial
  refine tt_ld (P := True) (M := MX0_back) (pc := 20) dX0_back_20 rfl rfl rfl rfl rfl (fun _ => ?_) trivial
  refine tt_ld (P := True) (M := MX0_back) (pc := 21) dX0_back_21 rfl rfl rfl rfl rfl (fun _ => ?_) trivial
  refine tt_getI (P := True) (M := MX0_back) (pc := 22) dX0_back_22 rfl ha rfl (fun _ => ?_) trivial
  have e3 : up S q ((3 : Nat) : Int) (S q ((3 : Nat) : Int) - 1) q ((3 : Nat) : Int) = S q 3 - 1 := up_eq _ _ _ _
  rw [e3]
  refine tt_vcR1 (M := MX0_back) (pc := 25) dX0_back_25 rfl rfl [.ref 17] rfl rfl ⟨rfl, by decide, Nat.le_of_ble_eq_true rfl⟩ ha g1 ?_
  refine tt_vcV1 (M := MX0_back) (pc := 28) dX0_back_28 rfl rfl [] rfl rfl ⟨rfl, by decide, Nat.le_of_ble_eq_true rfl⟩ (shR_st h1 (.inl rfl)).1 g2 ?_
  refine tt_iconst (P := True) (M := MX0_back) (pc := 31) dX0_back_31 (fun _ => ?_) trivial
  exact tt_zret (M := MX0_back) (pc := 32) dX0_back_32 rfl ⟨.inr rfl, rfl⟩
end
