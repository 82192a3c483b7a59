/-! ===== ideal (reference) ===== -/
def kpA (P : aP) (A : aS) (p : Int) : Bool := decide (A.v 1 p = 1 ∧ A.w p ≠ -1 ∧ ¬(P 0 4 ≠ 0 ∧ cellsA A p = 0))
def kyA (P : aP) (A : aS) (p : Int) : Int × Int := (rlm P p, cellsA A p)
def rcA (P : aP) (A : aS) (p : Int) : Nat → Int → Int → Int
  | 0, _, m => m
  | k + 1, q, m => if likeQ P A p q = true then (if q < p then -1 else rcA P A p k (q + 1) (m + 1)) else rcA P A p k (q + 1) m
theorem rc_eq (P : aP) (A : aS) (p : Int) : ∀ (k : Nat) (q m : Int), p < q + k ∨ p ≤ q → rcA P A p k q m = if q < p ∧ 0 < cnt (likeQ P A p) (p - q).toNat q then -1 else m + cnt (likeQ P A p) k q
  | 0, q, m, h => by
    rw [if_neg (by omega)]
    show m = m + 0
    omega
  | k + 1, q, m, h => by
    have e1 : cnt (likeQ P A p) (k + 1) q = (if likeQ P A p q = true then 1 else 0) + cnt (likeQ P A p) k (q + 1) := rfl
    rw [e1]
    unfold rcA
    by_cases d : q < p
    · have e2 : cnt (likeQ P A p) (p - q).toNat q = (if likeQ P A p q = true then 1 else 0) + cnt (likeQ P A p) (p - (q + 1)).toNat (q + 1) := by
        rw [show (p - q).toNat = (p - (q + 1)).toNat + 1 by omega]
        rfl
      have hr := cnt_rg (likeQ P A p) (p - (q + 1)).toNat (q + 1)
      rw [e2]
      by_cases c : likeQ P A p q = true
      · rw [if_pos c, if_pos c, if_pos d, if_pos ⟨d, by omega⟩]
      · rw [if_neg c, if_neg c, rc_eq P A p k (q + 1) m (by omega), Int.zero_add, Int.zero_add]
        by_cases z : q + 1 < p
        · by_cases y : 0 < cnt (likeQ P A p) (p - (q + 1)).toNat (q + 1)
          · rw [if_pos ⟨z, y⟩, if_pos ⟨d, y⟩]
          · rw [if_neg (fun w => y w.2), if_neg (fun w => y w.2)]
        · have : (p - (q + 1)).toNat = 0 := by omega
          rw [this, if_neg (fun w => z w.1), if_neg (fun w => absurd w.2 (by show ¬(0 < (0 : Int)); decide))]
    · rw [if_neg (show ¬(q < p ∧ 0 < cnt (likeQ P A p) (p - q).toNat q) from fun w => d w.1)]
      by_cases c : likeQ P A p q = true
      · rw [if_pos c, if_neg d, rc_eq P A p k (q + 1) (m + 1) (by omega), if_neg (by omega), if_pos c]
        omega
      · rw [if_neg c, rc_eq P A p k (q + 1) m (by omega), if_neg (by omega), if_neg c]
        omega
theorem gK_0 {K : Int → Bool} {κ : Int → Int × Int} {s : Int} {n : Nat} {p : Int} (h : ¬(K p = true)) : gK K κ s n p = 0 := by unfold gK; rw [if_neg (fun q => h q.1)]
theorem gK_f {K : Int → Bool} {κ : Int → Int × Int} {s : Int} {n : Nat} {p : Int} (h : clK K κ p.toNat p ≠ 0) : gK K κ s n p = 0 := by unfold gK; rw [if_neg (fun q => h q.2)]
theorem gK_1 {K : Int → Bool} {κ : Int → Int × Int} {s : Int} {n : Nat} {p : Int} (h : K p = true) (h2 : clK K κ p.toNat p = 0) : gK K κ s n p = (clK K κ n p + s - 1) / s := by unfold gK; rw [if_pos ⟨h, h2⟩]
section
variable {sc : Nat × (Nat → Int32)} {SH : List mCell} {W : aW} {P : aP} {A : aS} {N : Int} {S : mStore}
theorem isC_ok (h0 : sMod SH) (hr : refR S 0 A N) (hA : wfA P A) {p : Int} (hp : 0 ≤ p ∧ p < 48) : G sc MX11_isCounted 0 [some (.ref 90), some (.int (I p))] [] SH S (rI (if A.v 1 p = 1 ∧ A.w p ≠ -1 then 1 else 0) SH S) := by
  have e1 : S 91 (64 + p) = A.v 1 p := by
    have q := hr.2.2.1 p hp.1 hp.2
    rw [show (0 : Int) + 64 + p = 64 + p by omega] at q
    exact q
  have e2 : S 91 (16 + p) = A.w p := by
    have q := hr.2.1 p hp.1 hp.2
    rw [show (0 : Int) + 16 + p = 16 + p by omega] at q
    exact q
  have hv := hA.2.2.2.2.2.2.2.2.2.2.2.1 p
  have hw := hA.1.2.2 p
  refine qX11_isCounted_0 h0 ?_
  rw [e1, e2]
  refine ⟨⟨by omega, by omega⟩, ?_⟩
  by_cases c : A.v 1 p = 1
  · rw [if_pos (by rw [c])]
    refine ⟨⟨by omega, by omega⟩, ?_⟩
    by_cases d : A.w p = -1
    · rw [if_pos (by rw [d]), if_neg (fun q => q.2 d)]; exact ⟨.inl rfl, rfl⟩
    · rw [if_neg (by rw [I_eq ⟨by omega, by omega⟩ ⟨by decide, by decide⟩]; exact d), if_pos ⟨c, d⟩]; exact ⟨.inr rfl, rfl⟩
  · rw [if_neg (by rw [I_eq ⟨by omega, by omega⟩ ⟨by decide, by decide⟩]; exact c), if_neg (fun q => c q.1)]; exact ⟨.inl rfl, rfl⟩
theorem rc_lp (h0 : sMod SH) (hm : modP S P) (hP : wfP P) (hr : refR S 0 A N) (hA : wfA P A) {p : Int} (hp : 0 ≤ p ∧ p < P 0 7) : ∀ (k : Nat) (q m : Int), q + k = P 0 7 → 0 ≤ q → G sc MX11_classOf 4 [some (.ref 90), some (.int (I p)), some (.int (I m)), some (.int (I q))] [] SH S (rI (rcA P A p k q m) SH S)
  | 0, q, m, hk, hq => by
    have hP7 := hP.2.2.2.2.2.1
    refine qX11_classOf_4 h0 ?_
    rw [show S 90 19 = P 0 7 from hm.1 7 (by decide) (by decide), if_pos (by rw [I_le ⟨by omega, by omega⟩ ⟨by omega, by omega⟩]; omega)]
    rfl
  | k + 1, q, m, hk, hq => by
    have hP7 := hP.2.2.2.2.2.1
    have r1 := rlm_rg hP (p := p) hp
    have r2 := rlm_rg hP (p := q) ⟨hq, by omega⟩
    refine qX11_classOf_4 h0 ?_
    rw [show S 90 19 = P 0 7 from hm.1 7 (by decide) (by decide), if_neg (by rw [I_le ⟨by omega, by omega⟩ ⟨by omega, by omega⟩]; omega)]
    refine ⟨_, _, isC_ok h0 hr hA ⟨by omega, by omega⟩, ?_⟩
    unfold rcA
    by_cases c1 : A.v 1 q = 1 ∧ A.w q ≠ -1
    · rw [if_pos c1, if_neg (by decide)]
      refine ⟨_, _, rrealm_ok h0 hm hP ⟨hq, by omega⟩, _, _, rrealm_ok h0 hm hP hp, ?_⟩
      by_cases c2 : rlm P q = rlm P p
      · rw [if_pos (by rw [c2])]
        refine ⟨_, _, areLike_ok h0 hr hA ⟨by omega, by omega⟩ ⟨by omega, by omega⟩, ?_⟩
        by_cases c3 : cellsA A p = cellsA A q
        · have el : likeQ P A p q = true := decide_eq_true ⟨c1.1, c1.2, c2, c3.symm⟩
          rw [if_pos c3, if_neg (by decide), el, if_pos rfl]
          by_cases c4 : q < p
          · rw [if_pos c4, if_neg (by rw [I_le ⟨by omega, by omega⟩ ⟨by omega, by omega⟩]; omega)]
          · rw [if_neg c4, if_pos (by rw [I_le ⟨by omega, by omega⟩ ⟨by omega, by omega⟩]; omega)]
            exact rc_lp h0 hm hP hr hA hp k (q + 1) (m + 1) (by omega) (by omega)
        · have el : likeQ P A p q = false := decide_eq_false (fun z => c3 z.2.2.2.symm)
          rw [if_neg c3, if_pos rfl, el, if_neg (show ¬(false = true) by decide)]
          exact rc_lp h0 hm hP hr hA hp k (q + 1) m (by omega) (by omega)
      · have el : likeQ P A p q = false := decide_eq_false (fun z => c2 z.2.2.1)
        rw [if_neg (by rw [I_eq ⟨by omega, by omega⟩ ⟨by omega, by omega⟩]; exact c2), el, if_neg (show ¬(false = true) by decide)]
        exact rc_lp h0 hm hP hr hA hp k (q + 1) m (by omega) (by omega)
    · have el : likeQ P A p q = false := decide_eq_false (fun z => c1 ⟨z.1, z.2.1⟩)
      rw [if_neg c1, if_pos rfl, el, if_neg (show ¬(false = true) by decide)]
      exact rc_lp h0 hm hP hr hA hp k (q + 1) m (by omega) (by omega)
theorem like_K {p : Int} (hz : ¬(P 0 4 ≠ 0 ∧ cellsA A p = 0)) {n : Nat} : cnt (likeQ P A p) n 0 = clK (kpA P A) (kyA P A) n p := by
  unfold clK
  refine cnt_ext (fun x _ _ => ?_)
  apply Bool.eq_iff_iff.mpr
  unfold likeQ kpA kyA
  rw [Bool.and_eq_true, decide_eq_true_eq, decide_eq_true_eq, decide_eq_true_eq, Prod.mk.injEq]
  constructor
  · rintro ⟨h1, h2, h3, h4⟩
    exact ⟨⟨h1, h2, by rw [h4]; exact hz⟩, h3, h4⟩
  · rintro ⟨⟨h1, h2, _⟩, h3, h4⟩
    exact ⟨h1, h2, h3, h4⟩
def q1A (A : aS) (p : Int) : Bool := decide (A.w p ≠ -1 ∧ A.v 1 p = 0)
def ctA (P : aP) (A : aS) (p : Int) : Int := (if q1A A p = true then 1 else 0) + gK (kpA P A) (kyA P A) (P 0 1) (P 0 7).toNat p
theorem ct_few (hP : wfP P) (hA : wfA P A) : smA (ctA P A) (P 0 7).toNat = fewA P A := by
  have hs := hP.2.1
  have e : smA (ctA P A) (P 0 7).toNat = smA (fun p => if q1A A p = true then 1 else 0) (P 0 7).toNat + smA (gK (kpA P A) (kyA P A) (P 0 1) (P 0 7).toNat) (P 0 7).toNat := smA_add _ _ _
  rw [e, gK_all (by omega), ← smA_cnt (fun p => kpA P A p && decide (clK (kpA P A) (kyA P A) p.toNat p % P 0 1 = 0)), ← smA_add]
  unfold fewA
  rw [← smA_cnt]
  refine smA_ext (fun p hp => ?_)
  show (if q1A A p = true then 1 else 0) + (if (kpA P A p && decide (clK (kpA P A) (kyA P A) ((p : Int)).toNat p % P 0 1 = 0)) = true then 1 else 0) = if fewQ P A p = true then 1 else 0
  have hv := hA.2.2.2.2.2.2.2.2.2.2.2.1 p
  by_cases c0 : A.w p = -1
  · have a1 : q1A A p = false := decide_eq_false (fun z => z.1 c0)
    have a2 : kpA P A p = false := decide_eq_false (fun z => z.2.1 c0)
    have a3 : fewQ P A p = false := decide_eq_false (fun z => z.1 c0)
    rw [a1, a2, a3]; rfl
  · by_cases c1 : A.v 1 p = 0
    · have a1 : q1A A p = true := decide_eq_true ⟨c0, c1⟩
      have a2 : kpA P A p = false := decide_eq_false (fun z => by rw [c1] at z; omega)
      have a3 : fewQ P A p = true := decide_eq_true ⟨c0, .inl c1⟩
      rw [a1, a2, a3]; rfl
    · have a1 : q1A A p = false := decide_eq_false (fun z => c1 z.2)
      rw [a1]
      by_cases c2 : P 0 4 ≠ 0 ∧ cellsA A p = 0
      · have a2 : kpA P A p = false := decide_eq_false (fun z => z.2.2 c2)
        have a3 : fewQ P A p = false := decide_eq_false (fun z => z.2.elim c1 (fun y => y.1 c2))
        rw [a2, a3]; rfl
      · have a2 : kpA P A p = true := decide_eq_true ⟨by omega, c0, c2⟩
        have el : likeAh P A p = clK (kpA P A) (kyA P A) ((p : Int)).toNat p := like_K c2
        rw [a2, Bool.true_and, ← el]
        by_cases c3 : likeAh P A p % P 0 1 = 0
        · have a3 : fewQ P A p = true := decide_eq_true ⟨c0, .inr ⟨c2, c3⟩⟩
          rw [decide_eq_true c3, a3]; rfl
        · have a3 : fewQ P A p = false := decide_eq_false (fun z => z.2.elim c1 (fun y => c3 y.2))
          rw [decide_eq_false c3, a3]; rfl
theorem least_lp (h0 : sMod SH) (hm : modP S P) (hP : wfP P) (hr : refR S 0 A N) (hA : wfA P A) : ∀ (k p : Nat) {u : Option Value}, ((p + k : Nat) : Int) = P 0 7 → G sc MX11_least 4 [some (.ref 90), some (.int (I (smA (ctA P A) p))), some (.int (I p)), u] [] SH S (rI (smA (ctA P A) (P 0 7).toNat) SH S)
  | 0, p, u, hk => by
    have hP7 := hP.2.2.2.2.2.1
    refine qX11_least_4 h0 ?_
    rw [show S 90 19 = P 0 7 from hm.1 7 (by decide) (by decide), if_pos (by rw [I_le ⟨by omega, by omega⟩ ⟨by omega, by omega⟩]; omega), show p = (P 0 7).toNat by omega]
  | k + 1, p, u, hk => by
    have hP7 := hP.2.2.2.2.2.1
    have hP1 := hP.2.1
    have hP4 := hP.2.2.2.1.1
    have e3 : ((p + 1 : Nat) : Int) = (p : Int) + 1 := by omega
    have hv := hA.2.2.2.2.2.2.2.2.2.2.2.1 p
    have hw := hA.1.2.2 p
    have es : smA (ctA P A) (p + 1) = smA (ctA P A) p + ctA P A p := rfl
    have ew : S 91 (16 + p) = A.w p := by
      have q := hr.2.1 p (by omega) (by omega)
      rw [show (0 : Int) + 16 + p = 16 + p by omega] at q
      exact q
    have ev : S 91 (64 + p) = A.v 1 p := by
      have q := hr.2.2.1 p (by omega) (by omega)
      rw [show (0 : Int) + 64 + p = 64 + p by omega] at q
      exact q
    have next : ∀ (x : Int) (u : Option Value), x = ctA P A p → G sc MX11_least 4 [some (.ref 90), some (.int (I (smA (ctA P A) p + x))), some (.int (I ((p : Int) + 1))), u] [] SH S (rI (smA (ctA P A) (P 0 7).toNat) SH S) := by
      intro x u hx
      have q := least_lp h0 hm hP hr hA k (p + 1) (u := u) (by omega)
      rw [es, e3, ← hx] at q
      exact q
    have next0 : ∀ (u : Option Value), ctA P A p = 0 → G sc MX11_least 4 [some (.ref 90), some (.int (I (smA (ctA P A) p))), some (.int (I ((p : Int) + 1))), u] [] SH S (rI (smA (ctA P A) (P 0 7).toNat) SH S) := by
      intro u hx
      have q := next 0 u hx.symm
      rw [Int.add_zero] at q
      exact q
    have e16 : S 90 16 = P 0 4 := hm.1 4 (by decide) (by decide)
    have e13 : S 90 13 = P 0 1 := hm.1 1 (by decide) (by decide)
    have qc : G sc MX11_classOf 0 [some (.ref 90), some (.int (I p)), none, none] [] SH S (rI (rcA P A p (P 0 7).toNat 0 0) SH S) := qX11_classOf_0 h0 (rc_lp h0 hm hP hr hA ⟨by omega, by omega⟩ (P 0 7).toNat 0 0 (by omega) (by omega))
    have erc : rcA P A p (P 0 7).toNat 0 0 = if 0 < likeAh P A p then -1 else cnt (likeQ P A p) (P 0 7).toNat 0 := by
      rw [rc_eq P A p (P 0 7).toNat 0 0 (by omega), Int.sub_zero, Int.zero_add]
      have el : cnt (likeQ P A p) ((p : Int)).toNat 0 = likeAh P A p := rfl
      rw [el]
      by_cases c : 0 < likeAh P A p
      · rw [if_pos c]
        have : (0 : Int) < p := by
          rcases Nat.eq_zero_or_pos p with q | q
          · rw [q] at c; exact absurd c (by show ¬(0 < (0 : Int)); decide)
          · omega
        rw [if_pos ⟨this, c⟩]
      · rw [if_neg c, if_neg (fun z => c z.2)]
    refine qX11_least_4 h0 ?_
    rw [show S 90 19 = P 0 7 from hm.1 7 (by decide) (by decide), if_neg (by rw [I_le ⟨by omega, by omega⟩ ⟨by omega, by omega⟩]; omega), ew, ev, e16]
    refine ⟨⟨by omega, by omega⟩, ?_⟩
    by_cases c0 : A.w p = -1
    · have a1 : q1A A p = false := decide_eq_false (fun z => z.1 c0)
      have a2 : ¬(kpA P A p = true) := by rw [show kpA P A p = false from decide_eq_false (fun z => z.2.1 c0)]; decide
      rw [if_pos (by rw [c0])]
      refine next0 _ ?_
      unfold ctA
      rw [a1, gK_0 a2]; rfl
    · rw [if_neg (by rw [I_eq ⟨by omega, by omega⟩ ⟨by decide, by decide⟩]; exact c0)]
      refine ⟨⟨by omega, by omega⟩, ?_⟩
      by_cases c1 : A.v 1 p = 0
      · have a1 : q1A A p = true := decide_eq_true ⟨c0, c1⟩
        have a2 : ¬(kpA P A p = true) := by rw [show kpA P A p = false from decide_eq_false (fun z => by rw [c1] at z; omega)]; decide
        rw [if_pos (by rw [c1])]
        refine next 1 _ ?_
        unfold ctA
        rw [a1, gK_0 a2]; rfl
      · rw [if_neg (by rw [I_eq ⟨by omega, by omega⟩ ⟨by decide, by decide⟩]; exact c1)]
        have a1 : q1A A p = false := decide_eq_false (fun z => c1 z.2)
        by_cases c2 : P 0 4 ≠ 0 ∧ cellsA A p = 0
        · have a2 : ¬(kpA P A p = true) := by rw [show kpA P A p = false from decide_eq_false (fun z => z.2.2 c2)]; decide
          have h4 : P 0 4 = 1 := by omega
          have qz := risz_ok (sc := sc) (S := S) h0 (b := 0) ⟨by decide, by decide⟩ hr hA (p := p) ⟨by omega, by omega⟩
          rw [if_pos c2.2] at qz
          rw [if_pos (by rw [h4])]
          refine ⟨_, _, qz, ?_⟩
          rw [if_neg (by decide), if_pos rfl]
          refine next0 _ ?_
          unfold ctA
          rw [a1, gK_0 a2]; rfl
        · have a2 : kpA P A p = true := decide_eq_true ⟨by omega, c0, c2⟩
          have el : likeAh P A p = clK (kpA P A) (kyA P A) ((p : Int)).toNat p := like_K c2
          have el2 : cnt (likeQ P A p) (P 0 7).toNat 0 = clK (kpA P A) (kyA P A) (P 0 7).toNat p := like_K c2
          have lr := cnt_rg (likeQ P A p) ((p : Int)).toNat 0
          have lr2 := cnt_rg (likeQ P A p) (P 0 7).toNat 0
          have go : (∃ v101 S102, G sc MX11_classOf 0 [some (.ref 90), some (.int (I p)), none, none] [] SH S (rI v101 SH S102) ∧ (if I v101 = I (-1) then G sc MX11_least 4 [some (.ref 90), some (.int (I (smA (ctA P A) p))), some (.int (I ((p : Int) + 1))), some (.int (I v101))] [] SH S102 (rI (smA (ctA P A) (P 0 7).toNat) SH S) else (I (S102 90 13) ≠ I 0 ∧ G sc MX11_least 4 [some (.ref 90), some (.int (I (smA (ctA P A) p + (idv ((v101 + (S102 90 13)) - 1) (S102 90 13))))), some (.int (I ((p : Int) + 1))), some (.int (I v101))] [] SH S102 (rI (smA (ctA P A) (P 0 7).toNat) SH S)))) := by
            refine ⟨_, _, qc, ?_⟩
            rw [erc, e13]
            have el3 : likeAh P A p = cnt (likeQ P A p) ((p : Int)).toNat 0 := rfl
            by_cases c3 : 0 < likeAh P A p
            · rw [if_pos c3, if_pos rfl]
              refine next0 _ ?_
              unfold ctA
              rw [a1, gK_f (by rw [← el]; omega)]; rfl
            · rw [if_neg c3, if_neg (by rw [I_eq ⟨by omega, by omega⟩ ⟨by decide, by decide⟩]; omega)]
              refine ⟨by rw [ne_eq, I_eq ⟨by omega, by omega⟩ ⟨by decide, by decide⟩]; omega, next _ _ ?_⟩
              unfold ctA
              rw [a1, gK_1 a2 (by rw [← el]; omega), idv_nn (by omega) (by omega) (by omega) (by omega), el2, if_neg (show ¬(false = true) by decide), Int.zero_add]
          by_cases c4 : P 0 4 = 1
          · have c5 : ¬(cellsA A p = 0) := fun z => c2 ⟨by omega, z⟩
            have qz := risz_ok (sc := sc) (S := S) h0 (b := 0) ⟨by decide, by decide⟩ hr hA (p := p) ⟨by omega, by omega⟩
            rw [if_neg c5] at qz
            rw [if_pos (by rw [c4])]
            refine ⟨_, _, qz, ?_⟩
            rw [if_pos rfl]
            exact go
          · rw [if_neg (by rw [I_eq ⟨by omega, by omega⟩ ⟨by decide, by decide⟩]; exact c4)]
            exact go
end
