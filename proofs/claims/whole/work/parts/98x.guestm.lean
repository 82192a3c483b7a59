/-! ===== guest (reference) ===== -/
theorem nthL_ex {l : List Int} {Q : Int → Prop} : (∃ i : Nat, i < l.length ∧ Q (nthL l i)) ↔ ∃ p, p ∈ l ∧ Q p := by
  constructor
  · rintro ⟨i, h1, h2⟩
    exact ⟨_, nthL_mem h1, h2⟩
  · rintro ⟨p, h1, h2⟩
    obtain ⟨i, hi, e⟩ := List.getElem_of_mem h1
    refine ⟨i, hi, ?_⟩
    rw [nthL_get, List.getD_eq_getElem?_getD, List.getElem?_eq_getElem hi, Option.getD_some, e]
    exact h2
section
variable {sc : Nat × (Nat → Int32)} {SH : List mCell} {W : aW} {P : aP} {A : aS} {N : Int} {S : mStore}
theorem ly_any (hP : wfP P) (hA : wfA P A) {g f : Int} (hg : 0 ≤ g ∧ g < P 0 6) (hf : 0 ≤ f ∧ f < P 0 0) : (∃ p, p ∈ A.L f ∧ P 4 p = g) ↔ anyW A f (P 1 g).toNat (P 3 g) = true := by
  have hw := hP.2.2.2.2.2.2.1 g hg.1 hg.2
  have hP0 := hP.1
  have hP7 := hP.2.2.2.2.2.1
  rw [anyW_iff]
  constructor
  · rintro ⟨p, h1, h2⟩
    have q := (hA.1.2.1 f p).mp h1
    have r := hA.2.2.2.2.1 p (by omega)
    have s := hP.2.2.2.2.2.2.2 p (by omega) (by omega)
    rw [h2] at s
    exact ⟨p, by omega, by omega, q.2.2⟩
  · rintro ⟨p, h1, h2, h3⟩
    have r := hA.2.2.2.2.1 p (by omega)
    have q := hw.2.2.2.2 (p - P 3 g) (by omega) (by omega)
    rw [show P 3 g + (p - P 3 g) = p by omega] at q
    exact ⟨p, (hA.1.2.1 f p).mpr ⟨by omega, by omega, h3⟩, q⟩
theorem ly_in (h0 : sMod SH) (hm : modP S P) (hP : wfP P) (hr : refR S 0 A N) (hA : wfA P A) {g f m : Int} (hg : 0 ≤ g ∧ g < P 0 6) (hf : 0 ≤ f ∧ f < P 0 0) {r : mR × mW} (go : ∀ z k', (if anyW A f (P 1 g).toNat (P 3 g) = true then (1 : Int) else 0) = z → G sc MX11_lying 4 [some (.ref 90), some (.int (I g)), some (.int (I (m + z))), some (.int (I (f + 1))), some (.int (I z)), some (.int (I k'))] [] SH S r) : ∀ (n k : Nat) (z : Int), k + n = (A.L f).length → (z = 0 ∨ z = 1) → (z = 1 ↔ ∃ i : Nat, i < k ∧ P 4 (nthL (A.L f) i) = g) → G sc MX11_lying 18 [some (.ref 90), some (.int (I g)), some (.int (I m)), some (.int (I f)), some (.int (I z)), some (.int (I k))] [] SH S r := by
  have hP0 := hP.1
  have hP1 := hP.2.1
  have hP6 := hP.2.2.2.2.1
  have hP7 := hP.2.2.2.2.2.1
  have hlen := hA.2.2.2.2.2.2.2.1 f
  have el : S 91 (544 + f) = (A.L f).length := by
    have q := hr.2.2.2.2.2.2.2.2.2.1 f hf.1 (by omega)
    rw [show (0 : Int) + 544 + f = 544 + f by omega] at q
    exact q
  intro n
  induction n with
  | zero =>
    intro k z hk hz hi
    have ek : k = (A.L f).length := by omega
    have ez : (if anyW A f (P 1 g).toNat (P 3 g) = true then (1 : Int) else 0) = z := by
      rw [ek] at hi
      have q := (hi.trans (nthL_ex (l := A.L f) (Q := fun p => P 4 p = g))).trans (ly_any hP hA hg hf)
      by_cases c : anyW A f (P 1 g).toNat (P 3 g) = true
      · rw [if_pos c]; exact (q.mpr c).symm
      · rw [if_neg c]
        rcases hz with hz | hz
        · exact hz.symm
        · exact absurd (q.mp hz) c
    refine qX11_lying_18 h0 ?_
    rw [el, if_pos (by rw [I_le ⟨by omega, by omega⟩ ⟨by omega, by omega⟩]; omega)]
    refine ⟨⟨by omega, by omega⟩, ?_⟩
    have q := go z k ez
    rcases hz with rfl | rfl
    · rw [if_pos rfl]; exact q
    · rw [if_neg (by decide)]; exact q
  | succ n ih =>
    intro k z hk hz hi
    have e3 : ((k + 1 : Nat) : Int) = (k : Int) + 1 := by omega
    refine qX11_lying_18 h0 ?_
    rw [el, if_neg (by rw [I_le ⟨by omega, by omega⟩ ⟨by omega, by omega⟩]; omega)]
    refine ⟨⟨by omega, by omega⟩, ?_⟩
    rcases hz with rfl | rfl
    · rw [if_pos rfl]
      have en : S 91 (592 + 8 * f + k) = nthL (A.L f) k := by
        have q := hr.2.2.2.2.2.2.2.2.2.2.1 f k hf.1 (by omega) (by omega) (by omega)
        rw [show (0 : Int) + 592 + 8 * f + k = 592 + 8 * f + k by omega, Int.toNat_natCast] at q
        exact q
      have hmm : nthL (A.L f) k ∈ A.L f := nthL_mem (by omega)
      have hw := (hA.1.2.1 _ _).mp hmm
      have hpp := hA.2.2.2.2.1 (nthL (A.L f) k) (by rw [hw.2.2]; omega)
      have hgp := hP.2.2.2.2.2.2.2 (nthL (A.L f) k) (by omega) (by omega)
      rw [en, hm.2.2.2.2 _ (by omega) (by omega)]
      refine ⟨⟨by omega, by omega⟩, ⟨by omega, by omega⟩, ?_⟩
      by_cases c : P 4 (nthL (A.L f) k) = g
      · rw [if_pos (by rw [c])]
        have q := ih (k + 1) 1 (by omega) (.inr rfl) ⟨fun _ => ⟨k, by omega, c⟩, fun _ => rfl⟩
        rw [e3] at q
        exact q
      · rw [if_neg (by rw [I_eq ⟨by omega, by omega⟩ ⟨by omega, by omega⟩]; exact c)]
        have q := ih (k + 1) 0 (by omega) (.inl rfl) ⟨fun q => absurd q (by decide), fun ⟨i, h1, h2⟩ => by
          by_cases d : i = k
          · rw [d] at h2; exact absurd h2 c
          · exact hi.mpr ⟨i, by omega, h2⟩⟩
        rw [e3] at q
        exact q
    · rw [if_neg (by decide)]
      have q := ih (k + 1) 1 (by omega) (.inr rfl) ⟨fun _ => by
        obtain ⟨i, h1, h2⟩ := hi.mp rfl
        exact ⟨i, by omega, h2⟩, fun _ => rfl⟩
      rw [e3] at q
      exact q
theorem rly_lp (h0 : sMod SH) (hm : modP S P) (hP : wfP P) (hr : refR S 0 A N) (hA : wfA P A) {g : Int} (hg : 0 ≤ g ∧ g < P 0 6) : ∀ (n : Nat) (f m : Int) {u4 u5 : Option Value}, f + n = P 0 0 → 0 ≤ f → G sc MX11_lying 4 [some (.ref 90), some (.int (I g)), some (.int (I m)), some (.int (I f)), u4, u5] [] SH S (rI (m + cnt (fun f => anyW A f (P 1 g).toNat (P 3 g)) n f) SH S)
  | 0, f, m, u4, u5, hf, h1 => by
    have hP0 := hP.1
    refine qX11_lying_4 h0 ?_
    rw [show S 90 12 = P 0 0 from hm.1 0 (by decide) (by decide), if_pos (by rw [I_le ⟨by omega, by omega⟩ ⟨by omega, by omega⟩]; omega)]
    show rI (m + 0) SH S = _
    rw [Int.add_zero]
  | n + 1, f, m, u4, u5, hf, h1 => by
    have hP0 := hP.1
    refine qX11_lying_4 h0 ?_
    rw [show S 90 12 = P 0 0 from hm.1 0 (by decide) (by decide), if_neg (by rw [I_le ⟨by omega, by omega⟩ ⟨by omega, by omega⟩]; omega)]
    refine ly_in h0 hm hP hr hA hg ⟨h1, by omega⟩ (fun z k' ez => ?_) (A.L f).length 0 0 (by omega) (.inl rfl) ⟨fun q => absurd q (by decide), fun ⟨i, h, _⟩ => by omega⟩
    have q := rly_lp h0 hm hP hr hA hg n (f + 1) (m + z) (u4 := some (.int (I z))) (u5 := some (.int (I k'))) (by omega) (by omega)
    have e : m + cnt (fun f => anyW A f (P 1 g).toNat (P 3 g)) (n + 1) f = m + z + cnt (fun f => anyW A f (P 1 g).toNat (P 3 g)) n (f + 1) := by
      show m + ((if anyW A f (P 1 g).toNat (P 3 g) = true then 1 else 0) + cnt (fun f => anyW A f (P 1 g).toNat (P 3 g)) n (f + 1)) = _
      rw [ez]; omega
    rw [e]
    exact q
theorem rg_lp (h0 : sMod SH) (hr : refR S 0 A N) (hA : wfA P A) {g x lo hi : Int} (hlo : 0 ≤ lo) (hhi : hi ≤ 48) {r : mR × mW} : ∀ (n : Nat) (p m : Int), p + n = hi → lo ≤ p → G sc MX11_guest 52 [some (.ref 90), some (.int (I g)), some (.int (I x)), some (.int (I lo)), some (.int (I hi)), some (.int (I (m + mergedPg A p n))), some (.int (I hi))] [] SH S r → G sc MX11_guest 52 [some (.ref 90), some (.int (I g)), some (.int (I x)), some (.int (I lo)), some (.int (I hi)), some (.int (I m)), some (.int (I p))] [] SH S r
  | 0, p, m, hp, hl, go => by
    have ep : p = hi := by omega
    have em : m + mergedPg A p 0 = m := by show m + 0 = m; omega
    rw [em] at go
    rw [ep]
    exact go
  | n + 1, p, m, hp, hl, go => by
    refine qX11_guest_52 h0 ?_
    rw [if_neg (by rw [I_le ⟨by omega, by omega⟩ ⟨by omega, by omega⟩]; omega)]
    refine ⟨_, _, risM_ok h0 ⟨by decide, by decide⟩ hr hA ⟨by omega, by omega⟩, ?_⟩
    have e : mergedPg A p (n + 1) = (if mrg A p = true then 1 else 0) + mergedPg A (p + 1) n := rfl
    rw [e] at go
    by_cases c : mrg A p = true
    · rw [if_pos c] at go ⊢
      rw [if_neg (by decide)]
      exact rg_lp h0 hr hA hlo hhi n (p + 1) (m + 1) (by omega) (by omega) (by rw [Int.add_assoc]; exact go)
    · rw [if_neg c] at go ⊢
      rw [if_pos rfl]
      exact rg_lp h0 hr hA hlo hhi n (p + 1) (m + 0) (by omega) (by omega) (by rw [Int.add_assoc]; exact go)
theorem guest_md (h0 : sMod SH) (hW : wfW W) (h : mdR S N W) {g x y : Int} (hg : rg g) (hx : rg x) {u3 u4 u5 u6 : Option Value} : MD sc MX11_guest [some (.ref 90), some (.int (I g)), some (.int (I x)), u3, u4, u5, u6] SH S N y (guestF W g x) W := by
  have ht : up S 90 4 0 90 4 = 0 := up_eq _ _ _ _
  obtain ⟨hm, hr⟩ := mdS (x := 0) hW h
  have hP := hW.1
  have hA := hW.2.1.1
  have hP6 := hP.2.2.2.2.1
  have hP7 := hP.2.2.2.2.2.1
  unfold guestF
  by_cases c1 : 0 ≤ g ∧ g < W.1 0 6
  · rw [if_neg (fun q => q c1)]
    have hw := hP.2.2.2.2.2.2.1 g c1.1 c1.2
    by_cases c2 : 0 ≤ x ∧ x ≤ 5
    · have st : ∀ r, (if I x = I 0 then (((0 : Int) ≤ g ∧ g < 4) ∧ r = rI (W.1 1 g) SH (up S 90 4 0)) else (if I x = I 1 then (((0 : Int) ≤ g ∧ g < 4) ∧ r = rI (W.1 2 g) SH (up S 90 4 0)) else (if I x = I 2 then (∃ v105 S106, G sc MX11_absent 0 [some (.ref 90), some (.int (I (W.1 3 g))), some (.int (I (W.1 3 g + W.1 1 g))), none, none] [] SH (up S 90 4 0) (rI v105 SH S106) ∧ r = rI v105 SH S106) else (if I x = I 3 then r = rI (0 + mergedPg W.2.1.1 (W.1 3 g) (W.1 1 g).toNat) SH (up S 90 4 0) else (if I x = I 4 then (∃ v103 S104, G sc MX11_advised 0 [some (.ref 90), some (.int (I (W.1 3 g))), some (.int (I (W.1 3 g + W.1 1 g))), none, none] [] SH (up S 90 4 0) (rI v103 SH S104) ∧ r = rI v103 SH S104) else (∃ v101 S102, G sc MX11_lying 0 [some (.ref 90), some (.int (I g)), none, none, none, none] [] SH (up S 90 4 0) (rI v101 SH S102) ∧ r = rI v101 SH S102)))))) → G sc MX11_guest 0 [some (.ref 90), some (.int (I g)), some (.int (I x)), u3, u4, u5, u6] [] SH S r := by
        intro r q
        refine qX11_guest_0 h0 ⟨_, _, isG_yes h0 hm hP ht hg c1, ?_⟩
        rw [if_neg (by decide)]
        refine wr_yes h0 ht hx ⟨by decide, by decide⟩ ⟨by decide, by decide⟩ c2 (fun w hw' => ?_)
        subst hw'
        rw [if_neg (by decide), hm.2.2.2.1 g c1.1 c1.2, hm.2.1 g c1.1 c1.2]
        refine ⟨⟨by omega, by omega⟩, ⟨by omega, by omega⟩, rg_lp h0 hr hA (by omega) (by omega) (W.1 1 g).toNat (W.1 3 g) 0 (by omega) (Int.le_refl _) (qX11_guest_52 h0 ?_)⟩
        rw [if_pos (by rw [I_le ⟨by omega, by omega⟩ ⟨by omega, by omega⟩]; omega), hm.2.1 g c1.1 c1.2, hm.2.2.1 g c1.1 c1.2]
        exact q
      have en : (W.1 3 g + W.1 1 g - W.1 3 g).toNat = (W.1 1 g).toNat := by omega
      by_cases d : x = 0
      · rw [if_pos d]; refine MD_val hW h (st _ ?_); rw [if_pos (by rw [d])]; exact ⟨⟨by omega, by omega⟩, rfl⟩
      have d0 : ¬(I x = I 0) := by rw [I_eq hx ⟨by decide, by decide⟩]; exact d
      rw [if_neg d]
      by_cases d : x = 1
      · rw [if_pos d]; refine MD_val hW h (st _ ?_); rw [if_neg d0, if_pos (by rw [d])]; exact ⟨⟨by omega, by omega⟩, rfl⟩
      have d1 : ¬(I x = I 1) := by rw [I_eq hx ⟨by decide, by decide⟩]; exact d
      rw [if_neg d]
      by_cases d : x = 2
      · rw [if_pos d]; refine MD_val hW h (st _ ?_); rw [if_neg d0, if_neg d1, if_pos (by rw [d])]
        have q := rabsent_ok (sc := sc) (u := none) (u' := none) h0 hr hA.1 (x := W.1 3 g) (y := W.1 3 g + W.1 1 g) ⟨by omega, by omega, by omega⟩
        rw [en] at q
        exact ⟨_, _, q, rfl⟩
      have d2 : ¬(I x = I 2) := by rw [I_eq hx ⟨by decide, by decide⟩]; exact d
      rw [if_neg d]
      by_cases d : x = 3
      · rw [if_pos d]; refine MD_val hW h (st _ ?_); rw [if_neg d0, if_neg d1, if_neg d2, if_pos (by rw [d]), Int.zero_add]
      have d3 : ¬(I x = I 3) := by rw [I_eq hx ⟨by decide, by decide⟩]; exact d
      rw [if_neg d]
      by_cases d : x = 4
      · rw [if_pos d]; refine MD_val hW h (st _ ?_); rw [if_neg d0, if_neg d1, if_neg d2, if_neg d3, if_pos (by rw [d])]
        have q := radvis_ok (sc := sc) (u := none) (u' := none) h0 hr hA.2.2.2.2.2.2.2.2.2.2.2.1 (x := W.1 3 g) (y := W.1 3 g + W.1 1 g) ⟨by omega, by omega, by omega⟩
        rw [en] at q
        exact ⟨_, _, q, rfl⟩
      have d4 : ¬(I x = I 4) := by rw [I_eq hx ⟨by decide, by decide⟩]; exact d
      rw [if_neg d, if_pos (by omega)]
      refine MD_val hW h (st _ ?_)
      rw [if_neg d0, if_neg d1, if_neg d2, if_neg d3, if_neg d4]
      have q := rly_lp (sc := sc) (u4 := none) (u5 := none) h0 hm hP hr hA c1 (W.1 0 0).toNat 0 0 (by have := hP.1; omega) (by omega)
      rw [Int.zero_add] at q
      exact ⟨_, _, qX11_lying_0 h0 q, rfl⟩
    · simp (disch := omega) only [ineg]
      refine MD_exc (v := 0) hW h (qX11_guest_0 h0 ⟨_, _, isG_yes h0 hm hP ht hg c1, ?_⟩)
      rw [if_neg (by decide)]
      exact wr_no h0 ht (.inl rfl) hx ⟨by decide, by decide⟩ ⟨by decide, by decide⟩ c2 (fun w hw' => by subst hw'; rw [if_pos rfl])
  · rw [if_pos c1]
    refine MD_exc (v := 0) hW h (qX11_guest_0 h0 ⟨_, _, isG_no h0 hm hP ht hg c1, ?_⟩)
    rw [if_pos rfl]
end
