/-! ===== the law: its numbers, its arguments, its comparison ===== -/
abbrev lsL (i : Int) (u5 u6 : Option Value) : List (Option Value) := [some (.retAddr 0), some (.ref 0), some (.ref 90), some (.ref 110), some (.int (I i)), u5, u6]
def xs (sc : Nat × (Nat → Int32)) (i k : Int) : Int := (sc.2 (i + k).toNat).toInt
theorem xs_rg (sc : Nat × (Nat → Int32)) (i k : Int) : rg (xs sc i k) := by
  unfold xs
  have h1 := Int32.le_toInt (sc.2 (i + k).toNat)
  have h2 := Int32.toInt_lt (sc.2 (i + k).toNat)
  exact ⟨by omega, by omega⟩
def bz (x : Int) : Int := if x = 0 then 0 else 1
theorem bz_01 (x : Int) : bz x = 0 ∨ bz x = 1 := by
  unfold bz; split
  · exact Or.inl rfl
  · exact Or.inr rfl
def good (r : mR × mW) : Prop := r.1 = .inl (some (.int 1)) ∧ r.2.length ≤ 601024 ∧ msl r.2 ≤ 7293034
def LG (sc : Nat × (Nat → Int32)) (pc : Nat) (i : Int) (u5 u6 : Option Value) (SH : List mCell) (S : mStore) : Prop := ∃ r, good r ∧ G sc ML_law pc (lsL i u5 u6) [] SH S r
def LK (sc : Nat × (Nat → Int32)) (i : Int) (e : Nat) (N : Int) : Prop := ∀ (SH : List mCell) (F : Nat → Nat → Option Nat) (e' : Nat) (S : mStore) (W : aW) (N' : Int) (u5 u6 : Option Value), clR SH F e' S W → wfW W → mdR S N' W → 0 ≤ N' → N' ≤ N + 50000 → e' ≤ e + 1 → LG sc 2323 i u5 u6 SH S
theorem jcm_self (x : Int64) : jcm x x = 0 := by
  unfold jcm lg_cmp
  rw [if_neg (by simp), if_pos rfl]
  rfl
theorem lw_agree {o : aO} {x k b : Int} {S' S2 : mStore} (hx : x = 1 ∨ x = 2) (v1 : ∀ v, o = .inl v → k = 0 ∧ S' 110 0 = (I v).toInt) (x1 : ∀ q, o = .inr q → k = (if q = 0 then 1 else x)) (v2 : ∀ y, o = .inl y → b = y ∧ S2 90 4 = 0) (x2 : ∀ q, o = .inr q → S2 90 4 = (if q = 0 then 1 else x)) (hf : S2 110 = S' 110) : I (S2 90 4) = I k ∧ (I k = I 0 → Int64.ofInt (S2 110 0) = i2j b) := by
  cases o with
  | inl v =>
    obtain ⟨h1, h2⟩ := v1 v rfl
    obtain ⟨h3, h4⟩ := v2 v rfl
    refine ⟨by rw [h1, h4], fun _ => ?_⟩
    rw [hf, h2, h3, ← i2j_int, Int64.ofInt_toInt]
  | inr q =>
    rw [x1 q rfl, x2 q rfl]
    refine ⟨rfl, fun h => ?_⟩
    exfalso
    by_cases hq : q = 0
    · rw [if_pos hq] at h; exact absurd h (by decide)
    · rw [if_neg hq] at h
      rcases hx with rfl | rfl <;> exact absurd h (by decide)
section
variable {sc : Nat × (Nat → Int32)} {SH : List mCell} {S : mStore} {r : mR × mW} {i : Int} {u5 u6 : Option Value} {st : List Value} {p : Nat}
theorem lw_arg (k : Int) (hi : 0 ≤ i ∧ i + 6 ≤ sc.1 ∧ sc.1 ≤ 3072) (hk : 0 ≤ k ∧ k < 6) (d0 : decode cL_law p = .ok (.aload_n 0, 1)) (d1 : decode cL_law (p + 1) = .ok (.iload 4, 2)) (d3 : decode cL_law (p + 3) = .ok (.iconst k, 1)) (d4 : decode cL_law (p + 4) = .ok (.iadd, 1)) (d5 : decode cL_law (p + 5) = .ok (.iaload, 1)) (h : G sc ML_law (p + 6) (lsL i u5 u6) (.int (I (xs sc i k)) :: st) SH S r) : G sc ML_law p (lsL i u5 u6) st SH S r := by
  refine tt_ld (P := True) (M := ML_law) (pc := p) d0 rfl rfl rfl rfl rfl (fun _ => ?_) trivial
  refine tt_ld (P := True) (M := ML_law) (pc := p + 1) d1 rfl rfl rfl rfl rfl (fun _ => ?_) trivial
  refine tt_iconst (P := True) (M := ML_law) (pc := p + 3) d3 (fun _ => ?_) trivial
  refine tt_iadd (P := True) (M := ML_law) (pc := p + 4) d4 (fun _ => ?_) trivial
  refine tt_scload (P := True) (M := ML_law) (pc := p + 5) d5 (fun _ => ?_) ⟨⟨by omega, by omega, by omega⟩, trivial⟩
  exact h
theorem lw_bool (k : Int) (hi : 0 ≤ i ∧ i + 6 ≤ sc.1 ∧ sc.1 ≤ 3072) (hk : 0 ≤ k ∧ k < 6) (d0 : decode cL_law p = .ok (.aload_n 0, 1)) (d1 : decode cL_law (p + 1) = .ok (.iload 4, 2)) (d3 : decode cL_law (p + 3) = .ok (.iconst k, 1)) (d4 : decode cL_law (p + 4) = .ok (.iadd, 1)) (d5 : decode cL_law (p + 5) = .ok (.iaload, 1)) (d6 : decode cL_law (p + 6) = .ok (.ifCond .eq 7, 3)) (d9 : decode cL_law (p + 9) = .ok (.iconst 1, 1)) (d10 : decode cL_law (p + 10) = .ok (.goto 4, 3)) (d13 : decode cL_law (p + 13) = .ok (.iconst 0, 1)) (h : G sc ML_law (p + 14) (lsL i u5 u6) (.int (I (bz (xs sc i k))) :: st) SH S r) : G sc ML_law p (lsL i u5 u6) st SH S r := by
  refine lw_arg k hi hk d0 d1 d3 d4 d5 ?_
  have hr := xs_rg sc i k
  unfold bz at h
  by_cases c : xs sc i k = 0
  · rw [if_pos c] at h
    refine tt_if_eq (P1 := True) (P2 := False) (M := ML_law) (pc := p + 6) (p + 13) d6 (by omega) (fun _ => ?_) (fun q => q.elim) (by rw [c, if_pos rfl]; trivial)
    exact tt_iconst (P := True) (M := ML_law) (pc := p + 13) d13 (fun _ => h) trivial
  · rw [if_neg c] at h
    refine tt_if_eq (P1 := False) (P2 := True) (M := ML_law) (pc := p + 6) (p + 13) d6 (by omega) (fun q => q.elim) (fun _ => ?_) (by rw [if_neg (by rw [I_eq hr ⟨by decide, by decide⟩]; exact c)]; trivial)
    refine tt_iconst (P := True) (M := ML_law) (pc := p + 9) d9 (fun _ => ?_) trivial
    exact tt_goto (P := True) (M := ML_law) (pc := p + 10) (p + 14) d10 (by omega) (fun _ => h) trivial
theorem lw_tail {k b off : Int} (h0 : sMod SH) (hj : aj SH 110 1) (q : I (S 90 4) = I k ∧ (I k = I 0 → Int64.ofInt (S 110 0) = i2j b)) (d0 : decode cL_law p = .ok (.istore 6, 2)) (d2 : decode cL_law (p + 2) = .ok (.aload_n 2, 1)) (d3 : decode cL_law (p + 3) = .ok (.invokevirtual 106, 3)) (d6 : decode cL_law (p + 6) = .ok (.iload 5, 2)) (d8 : decode cL_law (p + 8) = .ok (.if_icmp .eq 5, 3)) (d13 : decode cL_law (p + 13) = .ok (.iload 5, 2)) (d15 : decode cL_law (p + 15) = .ok (.ifCond .ne 15, 3)) (d18 : decode cL_law (p + 18) = .ok (.aload_n 3, 1)) (d19 : decode cL_law (p + 19) = .ok (.iconst 0, 1)) (d20 : decode cL_law (p + 20) = .ok (.laload, 1)) (d21 : decode cL_law (p + 21) = .ok (.iload 6, 2)) (d23 : decode cL_law (p + 23) = .ok (.i2l, 1)) (d24 : decode cL_law (p + 24) = .ok (.lcmp, 1)) (d25 : decode cL_law (p + 25) = .ok (.ifCond .eq 5, 3)) (d30 : decode cL_law (p + 30) = .ok (.goto off, 3)) (ho : ((p + 30 : Nat) : Int) + off = (2323 : Nat)) (K : G sc ML_law 2323 (lsL i (some (.int (I k))) (some (.int (I b)))) [] SH S r) : G sc ML_law p (lsL i (some (.int (I k))) u6) [.int (I b)] SH S r := by
  refine tt_st (P := True) (M := ML_law) (pc := p) (lsL i (some (.int (I k))) (some (.int (I b)))) d0 rfl rfl rfl rfl rfl rfl (fun _ => ?_) trivial
  refine tt_ld (P := True) (M := ML_law) (pc := p + 2) d2 rfl rfl rfl rfl rfl (fun _ => ?_) trivial
  refine tt_vcHI (M := ML_law) (pc := p + 3) d3 rfl rfl [] rfl rfl ⟨rfl, by decide, Nat.le_of_ble_eq_true rfl⟩ h0.1 (qX11_thrown_0 h0 rfl) ?_
  refine tt_ld (P := True) (M := ML_law) (pc := p + 6) d6 rfl rfl rfl rfl rfl (fun _ => ?_) trivial
  refine tt_ic_eq (P1 := True) (P2 := False) (M := ML_law) (pc := p + 8) (p + 13) d8 (by omega) (fun _ => ?_) (fun h => h.elim) (by rw [if_pos q.1]; trivial)
  refine tt_ld (P := True) (M := ML_law) (pc := p + 13) d13 rfl rfl rfl rfl rfl (fun _ => ?_) trivial
  by_cases hk : I k = I 0
  · refine tt_if_ne (P1 := False) (P2 := True) (M := ML_law) (pc := p + 15) (p + 30) d15 (by omega) (fun h => h.elim) (fun _ => ?_) (by rw [if_pos hk]; trivial)
    refine tt_ld (P := True) (M := ML_law) (pc := p + 18) d18 rfl rfl rfl rfl rfl (fun _ => ?_) trivial
    refine tt_iconst (P := True) (M := ML_law) (pc := p + 19) d19 (fun _ => ?_) trivial
    refine tt_laload (P := True) (M := ML_law) (pc := p + 20) d20 (m := 1) hj rfl (fun _ => ?_) ⟨⟨by decide, by decide⟩, trivial⟩
    refine tt_ld (P := True) (M := ML_law) (pc := p + 21) d21 rfl rfl rfl rfl rfl (fun _ => ?_) trivial
    refine tt_i2l (P := True) (M := ML_law) (pc := p + 23) d23 (fun _ => ?_) trivial
    refine tt_lcmp (P := True) (M := ML_law) (pc := p + 24) d24 (fun _ => ?_) trivial
    refine tt_if_eq (P1 := True) (P2 := False) (M := ML_law) (pc := p + 25) (p + 30) d25 (by omega) (fun _ => ?_) (fun h => h.elim) (by rw [q.2 hk, jcm_self, if_pos rfl]; trivial)
    exact tt_goto (P := True) (M := ML_law) (pc := p + 30) 2323 d30 ho (fun _ => K) trivial
  · refine tt_if_ne (P1 := True) (P2 := False) (M := ML_law) (pc := p + 15) (p + 30) d15 (by omega) (fun _ => ?_) (fun h => h.elim) (by rw [if_neg hk]; trivial)
    exact tt_goto (P := True) (M := ML_law) (pc := p + 30) 2323 d30 ho (fun _ => K) trivial
end
/-! ===== what a call may answer ===== -/
section
variable {W : aW} {q : Nat}
theorem v_act {x : Int × aS} : ∃ v, (actF W x).1 = .inl v := by
  unfold actF; split <;> exact ⟨_, rfl⟩
theorem k_ite {c : Prop} [Decidable c] {a b : aO} {P : Prop} (ha : a = .inr q → P) (hb : b = .inr q → P) : (if c then a else b) = .inr q → P := by
  split
  · exact ha
  · exact hb
theorem k_act {x : Int × aS} {P : Prop} (h : (actF W x).1 = .inr q) : P := by
  obtain ⟨v, hv⟩ := v_act (W := W) (x := x)
  rw [hv] at h; cases h
theorem k_machine {p1 : Int} (h : (mchF W p1).1 = .inr q) : q = 1 := by
  unfold mchF at h
  repeat' split at h
  all_goals first | (cases h; done) | (cases h; rfl) | exact k_act h
theorem k_orders {p1 : Int} (h : (ordF W p1).1 = .inr q) : q = 1 := by
  unfold ordF at h
  repeat' split at h
  all_goals first | (cases h; done) | (cases h; rfl) | exact k_act h
theorem k_count {p1 : Int} (h : countF W p1 = .inr q) : q = 0 := by
  revert h
  unfold countF
  repeat (refine k_ite (fun h => (by cases h)) ?_)
  intro h; cases h; rfl
theorem k_guest {p1 p2 : Int} (h : guestF W p1 p2 = .inr q) : q = 0 := by
  unfold guestF at h
  repeat' split at h
  all_goals first | (cases h; done) | (cases h; rfl) | exact k_act h
theorem k_read {p1 p2 p3 : Int} (h : readF W p1 p2 p3 = .inr q) : q = 0 := by
  unfold readF at h
  repeat' split at h
  all_goals first | (cases h; done) | (cases h; rfl) | exact k_act h
theorem k_page {p1 p2 p3 : Int} (h : pageF W p1 p2 p3 = .inr q) : q = 0 := by
  unfold pageF at h
  repeat' split at h
  all_goals first | (cases h; done) | (cases h; rfl) | exact k_act h
theorem k_frame {p1 p2 : Int} (h : frameF W p1 p2 = .inr q) : q = 0 := by
  unfold frameF at h
  repeat' split at h
  all_goals first | (cases h; done) | (cases h; rfl) | exact k_act h
theorem k_chain {p1 p2 : Int} (h : chainF W p1 p2 = .inr q) : q = 0 := by
  unfold chainF at h
  repeat' split at h
  all_goals first | (cases h; done) | (cases h; rfl) | exact k_act h
theorem k_knot {p1 p2 p3 p4 : Int} (h : knotF W p1 p2 p3 p4 = .inr q) : q = 0 := by
  unfold knotF at h
  repeat' split at h
  all_goals first | (cases h; done) | (cases h; rfl) | exact k_act h
theorem k_like {p1 p2 p3 : Int} (h : likeF W p1 p2 p3 = .inr q) : q = 0 := by
  unfold likeF at h
  split at h
  · cases h; rfl
  · exact lkA_exc h
theorem k_write {p1 p2 p3 p4 : Int} (h : (writeF W p1 p2 p3 p4).1 = .inr q) : q = 0 := by
  unfold writeF at h
  repeat' split at h
  all_goals first | (cases h; done) | (cases h; rfl) | exact k_act h
theorem k_copy {p1 p2 p3 p4 : Int} (h : (copyF W p1 p2 p3 p4).1 = .inr q) : q = 0 := by
  unfold copyF at h
  repeat' split at h
  all_goals first | (cases h; done) | (cases h; rfl) | exact k_act h
theorem k_drop {p1 p2 : Int} (h : (dropF W p1 p2).1 = .inr q) : q = 0 := by
  unfold dropF at h
  repeat' split at h
  all_goals first | (cases h; done) | (cases h; rfl) | exact k_act h
theorem k_advise {p1 p2 p3 p4 : Int} (h : (adviseF W p1 p2 p3 p4).1 = .inr q) : q = 0 := by
  unfold adviseF at h
  repeat' split at h
  all_goals first | (cases h; done) | (cases h; rfl) | exact k_act h
theorem k_then {p1 p2 : Int} (h : thenF W p1 p2 = .inr q) : q = 0 ∨ q = 1 := by
  unfold thenF at h
  repeat' split at h
  all_goals first | (cases h; done) | (cases h; exact Or.inl rfl) | (cases h; exact Or.inr rfl) | exact k_act h
theorem k_merges {p1 p2 : Int} (h : mergesF W p1 p2 = .inr q) : q = 0 := by
  unfold mergesF at h
  repeat' split at h
  all_goals first | (cases h; done) | (cases h; rfl) | exact k_act h
theorem k_ideal {p1 : Int} (h : idealF W p1 = .inr q) : q = 0 := by
  unfold idealF at h
  repeat' split at h
  all_goals first | (cases h; done) | (cases h; rfl) | exact k_act h
theorem k_probe {p1 p2 p3 p4 : Int} (h : probeF W p1 p2 p3 p4 = .inr q) : q = 0 ∨ q = 1 := by
  unfold probeF at h
  repeat' split at h
  all_goals first | (cases h; done) | (cases h; exact Or.inl rfl) | (cases h; exact Or.inr rfl) | exact k_act h
theorem k_toAdvise {p1 p2 : Int} (h : toAdviseF W p1 p2 = .inr q) : q = 0 ∨ q = 1 := by
  unfold toAdviseF at h
  repeat' split at h
  all_goals first | (cases h; done) | (cases h; exact Or.inl rfl) | (cases h; exact Or.inr rfl) | exact k_act h
theorem k_toRate {p1 p2 : Int} (h : toRateF W p1 p2 = .inr q) : q = 0 ∨ q = 1 := by
  unfold toRateF at h
  repeat' split at h
  all_goals first | (cases h; done) | (cases h; exact Or.inl rfl) | (cases h; exact Or.inr rfl) | exact k_act h
theorem k_guess {p1 p2 p3 p4 : Int} (h : guessF W p1 p2 p3 p4 = .inr q) : q = 0 := by
  unfold guessF at h
  repeat' split at h
  all_goals first | (cases h; done) | (cases h; rfl) | exact k_act h
theorem k_look {p1 p2 p3 p4 : Int} (h : lookF W p1 p2 p3 p4 = .inr q) : q = 0 := by
  unfold lookF at h
  repeat' split at h
  all_goals first | (cases h; done) | (cases h; rfl) | exact k_act h
theorem k_dirt {p1 p2 p3 p4 p5 : Int} (h : dirtF W p1 p2 p3 p4 p5 = .inr q) : q = 0 ∨ q = 1 := by
  unfold dirtF at h
  repeat' split at h
  all_goals first | (cases h; done) | (cases h; exact Or.inl rfl) | (cases h; exact Or.inr rfl) | exact k_act h
theorem k_years {p1 p2 p3 : Int} (h : yearsF W p1 p2 p3 = .inr q) : q = 0 ∨ q = 1 := by
  unfold yearsF at h
  repeat' split at h
  all_goals first | (cases h; done) | (cases h; exact Or.inl rfl) | (cases h; exact Or.inr rfl) | exact k_act h
theorem v_feed {p1 p2 p3 p4 p5 : Int} : ∃ v, (feedF W p1 p2 p3 p4 p5).1 = .inl v := by
  unfold feedF
  repeat' split
  all_goals first | exact ⟨_, rfl⟩ | exact v_act
theorem v_scan {p1 : Int} : ∃ v, (scanF W p1).1 = .inl v := by
  unfold scanF
  repeat' split
  all_goals first | exact ⟨_, rfl⟩ | exact v_act
theorem v_ticks {p1 : Int} : ∃ v, (ticksF W p1).1 = .inl v := by
  unfold ticksF
  repeat' split
  all_goals first | exact ⟨_, rfl⟩ | exact v_act
theorem v_rate {p1 : Int} : ∃ v, (rateF W p1).1 = .inl v := by
  unfold rateF
  repeat' split
  all_goals first | exact ⟨_, rfl⟩ | exact v_act
theorem v_undo : ∃ v, (undoF W).1 = .inl v := by
  unfold undoF
  repeat' split
  all_goals first | exact ⟨_, rfl⟩ | exact v_act
theorem v_note {p1 p2 : Int} : ∃ v, (noteF W p1 p2).1 = .inl v := by
  unfold noteF
  repeat' split
  all_goals first | exact ⟨_, rfl⟩ | exact v_act
theorem v_restore : ∃ v, (restF W).1 = .inl v := by
  unfold restF
  repeat' split
  all_goals first | exact ⟨_, rfl⟩ | exact v_act
end
