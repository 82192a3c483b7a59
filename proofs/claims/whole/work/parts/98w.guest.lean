/-! ===== guest ===== -/
def anyW (A : aS) (f : Int) : Nat → Int → Bool
  | 0, _ => false
  | n + 1, p => decide (A.w p = f) || anyW A f n (p + 1)
theorem anyW_iff {A : aS} {f : Int} : ∀ {n : Nat} {p : Int}, anyW A f n p = true ↔ ∃ q, p ≤ q ∧ q < p + n ∧ A.w q = f
  | 0, p => ⟨fun h => (by cases h), fun ⟨q, h1, h2, _⟩ => (by omega)⟩
  | n + 1, p => by
    unfold anyW
    rw [Bool.or_eq_true, decide_eq_true_eq, anyW_iff]
    constructor
    · rintro (h | ⟨q, h1, h2, h3⟩)
      · exact ⟨p, by omega, by omega, h⟩
      · exact ⟨q, by omega, by omega, h3⟩
    · rintro ⟨q, h1, h2, h3⟩
      by_cases e : q = p
      · exact .inl (by rw [← e]; exact h3)
      · exact .inr ⟨q, by omega, by omega, h3⟩
def lyA (P : aP) (A : aS) (p : Int) (n : Nat) : Int := cnt (fun f => anyW A f n p) (P 0 0).toNat 0
theorem cnt_ext {q r : Int → Bool} : ∀ {n : Nat} {i : Int}, (∀ x, i ≤ x → x < i + n → q x = r x) → cnt q n i = cnt r n i
  | 0, _, _ => rfl
  | n + 1, i, h => by
    show (if q i = true then 1 else 0) + cnt q n (i + 1) = (if r i = true then 1 else 0) + cnt r n (i + 1)
    rw [h i (by omega) (by omega), cnt_ext (fun x a b => h x (by omega) (by omega))]
theorem cnt_none {q : Int → Bool} : ∀ {n : Nat} {i : Int}, (∀ x, i ≤ x → x < i + n → q x = false) → cnt q n i = 0
  | 0, _, _ => rfl
  | n + 1, i, h => by
    show (if q i = true then 1 else 0) + cnt q n (i + 1) = 0
    rw [h i (by omega) (by omega), cnt_none (fun x a b => h x (by omega) (by omega))]
    rfl
theorem cnt_app {q : Int → Bool} : ∀ {a b : Nat} {i : Int}, cnt q (a + b) i = cnt q a i + cnt q b (i + a)
  | 0, b, i => by
    show cnt q (0 + b) i = 0 + cnt q b (i + ((0 : Nat) : Int))
    rw [Nat.zero_add, Int.zero_add, show i + ((0 : Nat) : Int) = i by omega]
  | a + 1, b, i => by
    rw [Nat.add_right_comm]
    show (if q i = true then 1 else 0) + cnt q (a + b) (i + 1) = (if q i = true then 1 else 0) + cnt q a (i + 1) + cnt q b (i + ((a + 1 : Nat) : Int))
    rw [cnt_app, show i + 1 + (a : Int) = i + ((a + 1 : Nat) : Int) by omega]
    omega
theorem pop_cnt (X : Nat) : ∀ (n i : Nat), ((popN n (X / 2 ^ i) : Nat) : Int) = cnt (fun k => X.testBit k.toNat) n i
  | 0, _ => rfl
  | n + 1, i => by
    show ((X / 2 ^ i % 2 + popN n (X / 2 ^ i / 2) : Nat) : Int) = (if X.testBit ((i : Int)).toNat = true then 1 else 0) + cnt (fun k => X.testBit k.toNat) n ((i : Int) + 1)
    have ih := pop_cnt X n (i + 1)
    rw [show ((i + 1 : Nat) : Int) = (i : Int) + 1 by omega] at ih
    rw [show X / 2 ^ i / 2 = X / 2 ^ (i + 1) by rw [Nat.div_div_eq_div_mul, Nat.pow_succ], Int.toNat_natCast, Nat.testBit_eq_decide_div_mod_eq]
    have : X / 2 ^ i % 2 < 2 := Nat.mod_lt _ (by decide)
    by_cases c : X / 2 ^ i % 2 = 1
    · rw [decide_eq_true c, if_pos rfl]; omega
    · rw [decide_eq_false c, if_neg (by decide)]; omega
theorem jsl1 : ∀ f : Fin 64, nvJ (jsl 1 (f.val : Int)) = 2 ^ f.val := by decide +kernel
theorem jsl1' {f : Int} (h : 0 ≤ f ∧ f < 64) : nvJ (jsl 1 f) = 2 ^ f.toNat := by
  have q := jsl1 ⟨f.toNat, by omega⟩
  rw [show (((⟨f.toNat, by omega⟩ : Fin 64).val : Nat) : Int) = f from by show ((f.toNat : Nat) : Int) = f; omega] at q
  exact q
section
variable {sc : Nat × (Nat → Int32)} {SH : List mCell} {F : Nat → Nat → Option Nat} {e : Nat} {W : aW} {P : aP} {A : aS} {N : Int} {S : mStore}
theorem fof_lp {a : Nat} (h0 : sState SH a) (hs : stateR S a A) (hA : wfA P A) {lo hi : Int} (hlo : 0 ≤ lo) (hhi : hi ≤ 48) : ∀ (k : Nat) (p : Int) (j : Int64), p + k = hi → lo ≤ p → (∀ b : Nat, (nvJ j).testBit b = anyW A b (p - lo).toNat lo) → ∃ j', G sc MX7_framesOf 5 [some (.ref a), some (.int (I lo)), some (.int (I hi)), some (.long j), none, some (.int (I p))] [] SH S (rI (popN 64 (nvJ j')) SH S) ∧ ∀ b : Nat, (nvJ j').testBit b = anyW A b (hi - lo).toNat lo
  | 0, p, j, hk, hp, hj => by
    have ep : p = hi := by omega
    refine ⟨j, qX7_framesOf_5 h0 ?_, by rw [← ep]; exact hj⟩
    rw [if_pos (by rw [I_le ⟨by omega, by omega⟩ ⟨by omega, by omega⟩]; omega)]
    exact ⟨_, _, bitCount_ok j, rfl⟩
  | k + 1, p, j, hk, hp, hj => by
    have hw := hA.1.2.2 p
    have e67 : S (a + 2) p = A.w p := hs.1.1 p (by omega) (by omega)
    by_cases c : A.w p = -1
    · obtain ⟨j', q, hq⟩ := fof_lp h0 hs hA hlo hhi k (p + 1) j (by omega) (by omega) (fun b => by
        rw [hj b]
        apply Bool.eq_iff_iff.mpr
        rw [anyW_iff, anyW_iff]
        constructor
        · rintro ⟨q, h1, h2, h3⟩; exact ⟨q, h1, by omega, h3⟩
        · rintro ⟨q, h1, h2, h3⟩
          refine ⟨q, h1, ?_, h3⟩
          by_cases eq : q = p
          · rw [eq, c] at h3; omega
          · omega)
      refine ⟨j', qX7_framesOf_5 h0 ?_, hq⟩
      rw [if_neg (by rw [I_le ⟨by omega, by omega⟩ ⟨by omega, by omega⟩]; omega), e67, if_pos (by rw [c])]
      exact ⟨⟨by omega, by omega⟩, q⟩
    · obtain ⟨j', q, hq⟩ := fof_lp h0 hs hA hlo hhi k (p + 1) (j ||| jsl 1 (A.w p)) (by omega) (by omega) (fun b => by
        rw [nvJ_or, Nat.testBit_or, hj b, jsl1' ⟨by omega, by omega⟩, Nat.testBit_two_pow]
        apply Bool.eq_iff_iff.mpr
        rw [Bool.or_eq_true, anyW_iff, anyW_iff, decide_eq_true_eq]
        constructor
        · rintro (⟨q, h1, h2, h3⟩ | h)
          · exact ⟨q, h1, by omega, h3⟩
          · exact ⟨p, hp, by omega, by omega⟩
        · rintro ⟨q, h1, h2, h3⟩
          by_cases eq : q = p
          · rw [eq] at h3; exact .inr (by omega)
          · exact .inl ⟨q, h1, by omega, h3⟩)
      refine ⟨j', qX7_framesOf_5 h0 ?_, hq⟩
      rw [if_neg (by rw [I_le ⟨by omega, by omega⟩ ⟨by omega, by omega⟩]; omega), e67, if_neg (by rw [I_eq ⟨by omega, by omega⟩ ⟨by decide, by decide⟩]; exact c)]
      exact ⟨⟨by omega, by omega⟩, ⟨by omega, by omega⟩, q⟩
theorem fof_ok {a : Nat} (h0 : sState SH a) (hP : wfP P) (hs : stateR S a A) (hA : wfA P A) {lo : Int} {n : Nat} (hlo : 0 ≤ lo) (hhi : lo + n ≤ 48) {u3 u4 u5 : Option Value} : G sc MX7_framesOf 0 [some (.ref a), some (.int (I lo)), some (.int (I (lo + n))), u3, u4, u5] [] SH S (rI (lyA P A lo n) SH S) := by
  have hP0 := hP.1
  obtain ⟨j', q, hq⟩ := fof_lp (sc := sc) h0 hs hA hlo hhi n lo 0 (by omega) (Int.le_refl _) (fun b => by
    rw [show nvJ 0 = 0 from rfl, Nat.zero_testBit, show (lo - lo).toNat = 0 by omega]
    rfl)
  have e := pop_cnt (nvJ j') 64 0
  rw [Nat.pow_zero, Nat.div_one] at e
  have e2 : cnt (fun k => (nvJ j').testBit k.toNat) 64 ((0 : Nat) : Int) = lyA P A lo n := by
    unfold lyA
    have e64 : 64 = (P 0 0).toNat + (64 - (P 0 0).toNat) := by omega
    have key : ∀ x : Int, 0 ≤ x → (nvJ j').testBit x.toNat = anyW A x n lo := fun x hx => by
      rw [hq x.toNat, show ((x.toNat : Nat) : Int) = x by omega, show (lo + (n : Int) - lo).toNat = n by omega]
    rw [e64, cnt_app, cnt_none (n := 64 - (P 0 0).toNat) (fun x a b => ?_), Int.add_zero]
    · exact cnt_ext (fun x a b => key x (by omega))
    · rw [key x (by omega)]
      apply Bool.eq_false_iff.mpr
      intro hx
      obtain ⟨p, h1, h2, h3⟩ := anyW_iff.mp hx
      have := hA.2.2.2.2.1 p (by omega)
      omega
  rw [e, e2] at q
  exact qX7_framesOf_0 h0 q
def guestF (W : aW) (g x : Int) : aO := if ¬(0 ≤ g ∧ g < W.1 0 6) then .inr 0 else if x = 0 then .inl (W.1 1 g) else if x = 1 then .inl (W.1 2 g) else if x = 2 then .inl (absentPg W.2.1.1 (W.1 3 g) (W.1 1 g).toNat) else if x = 3 then .inl (mergedPg W.2.1.1 (W.1 3 g) (W.1 1 g).toNat) else if x = 4 then .inl (advisedPg W.2.1.1 (W.1 3 g) (W.1 1 g).toNat) else if x = 5 then .inl (lyA W.1 W.2.1.1 (W.1 3 g) (W.1 1 g).toNat) else .inr 0
theorem guest_cl (h : clR SH F e S W) (hW : wfW W) {g x : Int} (hg : rg g) (hx : rg x) {u u' : Option Value} : CL sc MX10_guest [some (.ref 0), some (.int (I g)), some (.int (I x)), u, u'] SH F e S (guestF W g x) W := by
  obtain ⟨g0, g1, g2, hp, hs⟩ := clS h
  have hP := hW.1
  have hA := hW.2.1.1
  have hP6 := hP.2.2.2.2.1
  have hP7 := hP.2.2.2.2.2.1
  have hg1 := hg.1
  have e6 : S 1 6 = W.1 0 6 := hp.1 6 (by decide) (by decide)
  unfold guestF
  by_cases c1 : 0 ≤ g ∧ g < W.1 0 6
  · rw [if_neg (fun q => q c1)]
    have hw := hP.2.2.2.2.2.2.1 g c1.1 c1.2
    have e1 : S (1 + 1) g = W.1 1 g := hp.2.1 g c1.1 c1.2
    have e2 : S (1 + 2) g = W.1 2 g := hp.2.2.1 g c1.1 c1.2
    have e3 : S (1 + 3) g = W.1 3 g := hp.2.2.2.1 g c1.1 c1.2
    have en : W.1 3 g + W.1 1 g = W.1 3 g + ((W.1 1 g).toNat : Int) := by omega
    have r0 : rg 0 := ⟨by decide, by decide⟩
    have st : ∀ r, (swp x 0 (r = rX 0 (SH ++ [mO (12 + 0) []]) S) [(((0 : Int) ≤ g ∧ g < 4) ∧ r = rI (W.1 1 g) SH S), (((0 : Int) ≤ g ∧ g < 4) ∧ r = rI (W.1 2 g) SH S), (∃ v102 S103, G sc MX7_absentPages 0 [some (.ref 17), some (.int (I (W.1 3 g))), some (.int (I (W.1 3 g + ((W.1 1 g).toNat : Int)))), none, none] [] SH S (rI v102 SH S103) ∧ r = rI v102 SH S103), (∃ v104 S105, G sc MX7_mergedPages 0 [some (.ref 17), some (.int (I (W.1 3 g))), some (.int (I (W.1 3 g + ((W.1 1 g).toNat : Int)))), none, none] [] SH S (rI v104 SH S105) ∧ r = rI v104 SH S105), (∃ v106 S107, G sc MX7_advisedPages 0 [some (.ref 17), some (.int (I (W.1 3 g))), some (.int (I (W.1 3 g + ((W.1 1 g).toNat : Int)))), none, none] [] SH S (rI v106 SH S107) ∧ r = rI v106 SH S107), (∃ v108 S109, G sc MX7_framesOf 0 [some (.ref 17), some (.int (I (W.1 3 g))), some (.int (I (W.1 3 g + ((W.1 1 g).toNat : Int)))), none, none, none] [] SH S (rI v108 SH S109) ∧ r = rI v108 SH S109)]) → G sc MX10_guest 0 [some (.ref 0), some (.int (I g)), some (.int (I x)), u, u'] [] SH S r := by
      intro r q
      refine qX10_guest_0 g0 ?_
      rw [e6, if_neg (by rw [I_lt hg ⟨by decide, by decide⟩]; omega), if_neg (by rw [I_le ⟨by omega, by omega⟩ hg]; omega)]
      refine qX10_guest_20 g0 (.inl ⟨_, mustBe_yes, ⟨by omega, by omega⟩, ⟨by omega, by omega⟩, ?_⟩)
      rw [e1, e2, e3, en]
      exact q
    by_cases d : x = 0
    · rw [if_pos d]; exact CL_val h (st _ (swp_at 0 hx r0 (by omega) rfl ⟨⟨by omega, by omega⟩, rfl⟩))
    rw [if_neg d]
    by_cases d : x = 1
    · rw [if_pos d]; exact CL_val h (st _ (swp_at 1 hx r0 (by omega) rfl ⟨⟨by omega, by omega⟩, rfl⟩))
    rw [if_neg d]
    by_cases d : x = 2
    · rw [if_pos d]; exact CL_val h (st _ (swp_at 2 hx r0 (by omega) rfl ⟨_, _, apg_ok g1 hs hA (by omega) (by omega), rfl⟩))
    rw [if_neg d]
    by_cases d : x = 3
    · rw [if_pos d]; exact CL_val h (st _ (swp_at 3 hx r0 (by omega) rfl ⟨_, _, mpg_ok g1 hs hA (by omega) (by omega), rfl⟩))
    rw [if_neg d]
    by_cases d : x = 4
    · rw [if_pos d]; exact CL_val h (st _ (swp_at 4 hx r0 (by omega) rfl ⟨_, _, dpg_ok g1 hs hA (by omega) (by omega), rfl⟩))
    rw [if_neg d]
    by_cases d : x = 5
    · rw [if_pos d]; exact CL_val h (st _ (swp_at 5 hx r0 (by omega) rfl ⟨_, _, fof_ok g1 hP hs hA (by omega) (by omega), rfl⟩))
    rw [if_neg d]
    exact CL_exc h (st _ (swp_no 6 rfl hx (by decide) (by decide) (by omega) rfl))
  · rw [if_pos c1]
    refine CL_exc h (qX10_guest_0 g0 ?_)
    rw [e6]
    by_cases d : g < 0
    · rw [if_pos (by rw [I_lt hg ⟨by decide, by decide⟩]; omega)]
      exact qX10_guest_20 g0 (.inr ⟨_, _, _, mustBe_no rfl, rfl⟩)
    · rw [if_neg (by rw [I_lt hg ⟨by decide, by decide⟩]; omega), if_pos (by rw [I_le ⟨by omega, by omega⟩ hg]; omega)]
      exact qX10_guest_20 g0 (.inr ⟨_, _, _, mustBe_no rfl, rfl⟩)
end
