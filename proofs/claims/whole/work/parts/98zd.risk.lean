/-! ===== risk, ideal (reference) ===== -/
theorem cnt_or {q a b : Int → Bool} : ∀ {n : Nat} {i : Int}, (∀ x, i ≤ x → x < i + n → (if q x = true then (1 : Int) else 0) = (if a x = true then 1 else 0) + (if b x = true then 1 else 0)) → cnt q n i = cnt a n i + cnt b n i
  | 0, _, _ => rfl
  | n + 1, i, h => by
    show (if q i = true then 1 else 0) + cnt q n (i + 1) = (if a i = true then 1 else 0) + cnt a n (i + 1) + ((if b i = true then 1 else 0) + cnt b n (i + 1))
    rw [h i (by omega) (by omega), cnt_or (fun x u v => h x (by omega) (by omega))]
    omega
theorem cnt_tt : ∀ (n : Nat) (i : Int), cnt (fun _ => true) n i = n
  | 0, _ => rfl
  | n + 1, i => by
    show (if true = true then (1 : Int) else 0) + cnt (fun _ => true) n (i + 1) = ((n + 1 : Nat) : Int)
    rw [cnt_tt n, if_pos rfl]; omega
def rkA (A : aS) (f : Int) : Int := if A.k f = -1 then 0 else ((A.L f).length : Int) - 1
section
variable {sc : Nat × (Nat → Int32)} {SH : List mCell} {W : aW} {P : aP} {A : aS} {N : Int} {S : mStore}
theorem len_sum (hP : wfP P) (hA : wfA P A) : ∀ n : Nat, n ≤ 48 → smA (fun f => ((A.L f).length : Int)) n = cnt (fun p => decide (0 ≤ A.w p ∧ A.w p < n)) (P 0 7).toNat 0
  | 0, _ => (cnt_none (fun x _ _ => decide_eq_false (by omega))).symm
  | n + 1, hn => by
    have hP7 := hP.2.2.2.2.2.1
    show smA (fun f => ((A.L f).length : Int)) n + ((A.L n).length : Int) = _
    rw [len_sum hP hA n (by omega)]
    have e : cnt (fun p => decide (A.w p = n)) (P 0 7).toNat 0 = (A.L n).length := by
      refine cnt_mem (hA.1.1 n) (fun x hx => ?_) (fun x h1 h2 => ?_)
      · have q := (hA.1.2.1 n x).mp hx
        have := hA.2.2.2.2.1 x (by omega)
        omega
      · rw [decide_eq_true_eq]
        constructor
        · intro q; exact (hA.1.2.1 n x).mpr ⟨⟨by omega, by omega⟩, ⟨by omega, by omega⟩, q⟩
        · intro q; exact ((hA.1.2.1 n x).mp q).2.2
    rw [← e]
    refine (cnt_or (fun x _ _ => ?_)).symm
    by_cases c : 0 ≤ A.w x ∧ A.w x < n
    · rw [decide_eq_true c, decide_eq_false (show ¬(A.w x = n) by omega), decide_eq_true (show 0 ≤ A.w x ∧ A.w x < ((n + 1 : Nat) : Int) by omega)]; rfl
    · by_cases d : A.w x = n
      · rw [decide_eq_false c, decide_eq_true d, decide_eq_true (show 0 ≤ A.w x ∧ A.w x < ((n + 1 : Nat) : Int) by omega)]; rfl
      · rw [decide_eq_false c, decide_eq_false d, decide_eq_false (show ¬(0 ≤ A.w x ∧ A.w x < ((n + 1 : Nat) : Int)) by omega)]; rfl
theorem risk_sum (hP : wfP P) (hA : wfA P A) : absentPg A 0 (P 0 7).toNat + smA (rkA A) (P 0 0).toNat = P 0 7 - usedA P A := by
  have hP0 := hP.1
  have hP7 := hP.2.2.2.2.2.1
  have e1 := len_sum hP hA (P 0 0).toNat (by omega)
  have e2 : cnt (fun _ => true) (P 0 7).toNat 0 = absentPg A 0 (P 0 7).toNat + cnt (fun p => decide (0 ≤ A.w p ∧ A.w p < (((P 0 0).toNat : Nat) : Int))) (P 0 7).toNat 0 := by
    refine cnt_or (fun x _ _ => ?_)
    have hw := hA.1.2.2 x
    by_cases c : A.w x = -1
    · rw [decide_eq_true c, decide_eq_false (show ¬(0 ≤ A.w x ∧ A.w x < (((P 0 0).toNat : Nat) : Int)) by omega)]; rfl
    · have := hA.2.2.2.2.1 x c
      rw [decide_eq_false c, decide_eq_true (show 0 ≤ A.w x ∧ A.w x < (((P 0 0).toNat : Nat) : Int) by omega)]; rfl
  rw [cnt_tt] at e2
  have e3 : smA (fun f => ((A.L f).length : Int)) (P 0 0).toNat = smA (rkA A) (P 0 0).toNat + usedA P A := by
    unfold usedA
    rw [← smA_cnt, ← smA_add]
    refine smA_ext (fun f hf => ?_)
    show ((A.L f).length : Int) = rkA A f + (if decide (A.L f ≠ []) = true then 1 else 0)
    unfold rkA
    by_cases c : A.k f = -1
    · rw [if_pos c]
      have hl := hA.2.2.2.2.2.2.1 f c
      by_cases d : A.L f = []
      · rw [d, decide_eq_false (fun q => q rfl)]; rfl
      · rw [decide_eq_true d, if_pos rfl]
        have : 0 < (A.L f).length := List.length_pos_iff.mpr d
        omega
    · rw [if_neg c]
      have hl := hA.2.2.2.2.2.1 f c
      rw [decide_eq_true hl.2.2, if_pos rfl]
      omega
  omega
theorem risk_lp (h0 : sMod SH) (hm : modP S P) (hP : wfP P) (hr : refR S 0 A N) (hA : wfA P A) : ∀ (k f : Nat), ((f + k : Nat) : Int) = P 0 0 → G sc MX11_risk 12 [some (.ref 90), some (.int (I (absentPg A 0 (P 0 7).toNat + smA (rkA A) f))), some (.int (I f))] [] SH S (rI (riskA P A) SH S)
  | 0, f, hk => by
    have hP0 := hP.1
    have hP7 := hP.2.2.2.2.2.1
    have ur := used_rg P hP A
    refine qX11_risk_12 h0 ?_
    rw [show S 90 12 = P 0 0 from hm.1 0 (by decide) (by decide), if_pos (by rw [I_le ⟨by omega, by omega⟩ ⟨by omega, by omega⟩]; omega), show f = (P 0 0).toNat by omega, risk_sum hP hA]
    refine ⟨_, _, rused_ok h0 ⟨by decide, by decide⟩ hm hP hr, ?_⟩
    unfold riskA
    by_cases c : P 0 7 - usedA P A ≤ P 0 0 - usedA P A
    · rw [if_pos c, if_pos (by rw [I_le ⟨by omega, by omega⟩ ⟨by omega, by omega⟩]; exact c)]
    · rw [if_neg c, if_neg (by rw [I_le ⟨by omega, by omega⟩ ⟨by omega, by omega⟩]; exact c)]
  | k + 1, f, hk => by
    have hP0 := hP.1
    have hkr := hA.2.1.2.2 f
    have e3 : ((f + 1 : Nat) : Int) = (f : Int) + 1 := by omega
    have ek : S 91 (976 + f) = A.k f := by
      have q := hr.2.2.2.2.2.2.2.2.2.2.2.1 f (by omega) (by omega)
      rw [show (0 : Int) + 976 + f = 976 + f by omega] at q
      exact q
    have el : S 91 (544 + f) = (A.L f).length := by
      have q := hr.2.2.2.2.2.2.2.2.2.1 f (by omega) (by omega)
      rw [show (0 : Int) + 544 + f = 544 + f by omega] at q
      exact q
    have q := risk_lp h0 hm hP hr hA k (f + 1) (by omega)
    have es : smA (rkA A) (f + 1) = smA (rkA A) f + rkA A f := rfl
    rw [es, e3, ← Int.add_assoc] at q
    refine qX11_risk_12 h0 ?_
    rw [show S 90 12 = P 0 0 from hm.1 0 (by decide) (by decide), if_neg (by rw [I_le ⟨by omega, by omega⟩ ⟨by omega, by omega⟩]; omega), ek, el]
    refine ⟨⟨by omega, by omega⟩, ?_⟩
    by_cases c : A.k f = -1
    · rw [if_pos (by rw [c])]
      have er : rkA A f = 0 := by unfold rkA; rw [if_pos c]
      rw [er] at q
      exact q
    · rw [if_neg (by rw [I_eq ⟨by omega, by omega⟩ ⟨by decide, by decide⟩]; exact c)]
      have er : rkA A f = ((A.L f).length : Int) - 1 := by unfold rkA; rw [if_neg c]
      rw [er] at q
      exact ⟨⟨by omega, by omega⟩, q⟩
theorem ideal_md (h0 : sMod SH) (hW : wfW W) (h : mdR S N W) {x y : Int} (hx : rg x) : MD sc MX11_ideal [some (.ref 90), some (.int (I x))] SH S N y (idealF W x) W := by
  have ht : up S 90 4 0 90 4 = 0 := up_eq _ _ _ _
  obtain ⟨hm, hr⟩ := mdS (x := 0) hW h
  have hP := hW.1
  have hA := hW.2.1.1
  have hP0 := hP.1
  have hP7 := hP.2.2.2.2.2.1
  have ql : G sc MX11_least 0 [some (.ref 90), none, none, none] [] SH (up S 90 4 0) (rI (fewA W.1 W.2.1.1) SH (up S 90 4 0)) := by
    refine qX11_least_0 h0 ?_
    have q := least_lp (sc := sc) (u := none) h0 hm hP hr hA (W.1 0 7).toNat 0 (by omega)
    rw [ct_few hP hA] at q
    exact q
  have qr : G sc MX11_risk 0 [some (.ref 90), none, none] [] SH (up S 90 4 0) (rI (riskA W.1 W.2.1.1) SH (up S 90 4 0)) := by
    refine qX11_risk_0 h0 ?_
    rw [show up S 90 4 0 90 19 = W.1 0 7 from hm.1 7 (by decide) (by decide)]
    have q := rabsent_ok (sc := sc) (u := none) (u' := none) h0 hr hA.1 (x := 0) (y := W.1 0 7) ⟨by omega, by omega, by omega⟩
    rw [Int.sub_zero] at q
    have q2 := risk_lp (sc := sc) h0 hm hP hr hA (W.1 0 0).toNat 0 (by omega)
    have es : absentPg W.2.1.1 0 (W.1 0 7).toNat + smA (rkA W.2.1.1) 0 = absentPg W.2.1.1 0 (W.1 0 7).toNat := by show _ + 0 = _; omega
    rw [es] at q2
    exact ⟨_, _, q, q2⟩
  have st : ∀ r, (0 ≤ x ∧ x ≤ 2) → (if I x = I 0 then (∃ v111 S112, G sc MX11_least 0 [some (.ref 90), none, none, none] [] SH (up S 90 4 0) (rI v111 SH S112) ∧ r = rI v111 SH S112) else (if I x = I 1 then (∃ v107 S108, G sc MX11_usedOf 0 [some (.ref 90), some (.int (I 0)), none, none] [] SH (up S 90 4 0) (rI v107 SH S108) ∧ (∃ v109 S110, G sc MX11_least 0 [some (.ref 90), none, none, none] [] SH S108 (rI v109 SH S110) ∧ r = rI (v107 - v109) SH S110)) else (∃ v105 S106, G sc MX11_risk 0 [some (.ref 90), none, none] [] SH (up S 90 4 0) (rI v105 SH S106) ∧ r = rI v105 SH S106))) → G sc MX11_ideal 0 [some (.ref 90), some (.int (I x))] [] SH S r := by
    intro r c q
    refine qX11_ideal_0 h0 (wr_yes h0 ht hx ⟨by decide, by decide⟩ ⟨by decide, by decide⟩ c (fun w hw => ?_))
    subst hw
    rw [if_neg (by decide)]
    exact q
  unfold idealF
  by_cases d : x = 0
  · rw [if_pos d]; refine MD_val hW h (st _ (by omega) ?_); rw [if_pos (by rw [d])]; exact ⟨_, _, ql, rfl⟩
  have d0 : ¬(I x = I 0) := by rw [I_eq hx ⟨by decide, by decide⟩]; exact d
  rw [if_neg d]
  by_cases d : x = 1
  · rw [if_pos d]; refine MD_val hW h (st _ (by omega) ?_); rw [if_neg d0, if_pos (by rw [d])]; exact ⟨_, _, rused_ok h0 ⟨by decide, by decide⟩ hm hP hr, _, _, ql, rfl⟩
  have d1 : ¬(I x = I 1) := by rw [I_eq hx ⟨by decide, by decide⟩]; exact d
  rw [if_neg d]
  by_cases d : x = 2
  · rw [if_pos d]; refine MD_val hW h (st _ (by omega) ?_); rw [if_neg d0, if_neg d1]; exact ⟨_, _, qr, rfl⟩
  rw [if_neg d]
  refine MD_exc (v := 0) hW h (qX11_ideal_0 h0 (wr_no h0 ht (.inl rfl) hx ⟨by decide, by decide⟩ ⟨by decide, by decide⟩ (by omega) (fun w hw => ?_)))
  subst hw
  rw [if_pos rfl]
end
