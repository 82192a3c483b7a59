/-! ===== knot (reference) ===== -/
section
variable {sc : Nat × (Nat → Int32)} {SH : List mCell} {S : mStore} {W : aW} {N : Int}
theorem knot_md (h0 : sMod SH) (hW : wfW W) (h : mdR S N W) (hN : N < 2147483648) {ρ st i x y : Int} (hρ : rg ρ) (hst : st = 0 ∨ st = 1) (hi : rg i) (hx : rg x) {u : Option Value} : MD sc MX11_knot [some (.ref 90), some (.int (I ρ)), some (.int (I st)), some (.int (I i)), some (.int (I x)), u] SH S N y (knotF W ρ st i x) W := by
  have ht : up S 90 4 0 90 4 = 0 := up_eq _ _ _ _
  obtain ⟨hm, hr⟩ := mdS (x := 0) hW h
  have hP := hW.1
  have hA := hW.2.1.1
  have hP7 := hP.2.2.2.2.2.1
  unfold knotF
  by_cases c1 : 0 ≤ ρ ∧ ρ < 3
  · rw [if_neg (fun q => q c1)]
    have key : ∀ (T : Int → Tr) (t : Int), T = (if st = 0 then W.2.1.1.tw else W.2.1.1.ts) → wfT T → rowl (up S 90 4 0 91) t (fd (T ρ) 0) → (1000 ≤ t ∧ t < 2000) → (∀ r, (if I i = I (-1) then r = rI (up S 90 4 0 91 t) SH (up S 90 4 0) else (if I i < I 0 then G sc MX11_knot 85 [some (.ref 90), some (.int (I ρ)), some (.int (I st)), some (.int (I i)), some (.int (I x)), some (.int (I t))] [.int (I 0), .ref 90] SH (up S 90 4 0) r else (if I (up S 90 4 0 91 t) ≤ I i then G sc MX11_knot 85 [some (.ref 90), some (.int (I ρ)), some (.int (I st)), some (.int (I i)), some (.int (I x)), some (.int (I t))] [.int (I 0), .ref 90] SH (up S 90 4 0) r else (∃ v105 S106, G sc MX11_within 0 [some (.int (I x)), some (.int (I 0)), some (.int (I 1))] [] SH (up S 90 4 0) (rI v105 SH S106) ∧ (if I v105 = I 0 then G sc MX11_knot 85 [some (.ref 90), some (.int (I ρ)), some (.int (I st)), some (.int (I i)), some (.int (I x)), some (.int (I t))] [.int (I 0), .ref 90] SH S106 r else G sc MX11_knot 85 [some (.ref 90), some (.int (I ρ)), some (.int (I st)), some (.int (I i)), some (.int (I x)), some (.int (I t))] [.int (I 1), .ref 90] SH S106 r))))) → G sc MX11_knot 0 [some (.ref 90), some (.int (I ρ)), some (.int (I st)), some (.int (I i)), some (.int (I x)), u] [] SH S r) → MD sc MX11_knot [some (.ref 90), some (.int (I ρ)), some (.int (I st)), some (.int (I i)), some (.int (I x)), u] SH S N y (if i = -1 then .inl (lb (T ρ)).length else if ¬((0 ≤ i ∧ i < (lb (T ρ)).length) ∧ (x = 0 ∨ x = 1)) then .inr 0 else if x = 1 then .inl (df (fd (T ρ) 0) i) else if st = 0 then .inl (lab W.1 (nthL (lb (W.2.1.1.tw ρ)) i.toNat)) else .inl (hd (W.2.1.1.C (nthL (lb (W.2.1.1.ts ρ)) i.toNat)))) W := by
      intro T t eT hwT hrow htr go
      have hl := lb_len hwT c1.1 c1.2
      have el : up S 90 4 0 91 t = (lb (T ρ)).length := by rw [hrow.1, fd_len]
      rw [el] at go
      have no : G sc MX11_knot 85 [some (.ref 90), some (.int (I ρ)), some (.int (I st)), some (.int (I i)), some (.int (I x)), some (.int (I t))] [.int (I 0), .ref 90] SH (up S 90 4 0) (rI 0 SH (up (up S 90 4 0) 90 4 1)) := by
        refine qX11_knot_85 h0 ⟨_, _, right_no h0 ht (.inl rfl), ?_⟩
        rw [if_pos rfl]
      by_cases c2 : i = -1
      · rw [if_pos c2]
        refine MD_val hW h (go _ ?_)
        rw [if_pos (by rw [c2])]
      rw [if_neg c2]
      have hw := within_ok (sc := sc) (SH := SH) (S := up S 90 4 0) hx (lo := 0) ⟨by decide, by decide⟩ (hi := 1) ⟨by decide, by decide⟩
      by_cases c3 : 0 ≤ i ∧ i < (lb (T ρ)).length
      · by_cases c4 : x = 0 ∨ x = 1
        · rw [if_neg (fun q => q ⟨c3, c4⟩)]
          rw [if_pos (by omega)] at hw
          have hmem : nthL (lb (T ρ)) i.toNat ∈ lb (T ρ) := nthL_mem (by omega)
          have hnn := lb_nn hmem
          have h48 := hwT.2 _ (al_in c1.1 c1.2 hmem)
          have hrow2 := hrow.2 i c3.1 (by rw [fd_len]; exact c3.2)
          rw [pf_nth (T ρ) c3.1 c3.2] at hrow2
          have st3 : ∀ r, (if I x = I 1 then (((0 : Int) ≤ (t + 49) + i ∧ (t + 49) + i < 137400) ∧ r = rI (up S 90 4 0 91 ((t + 49) + i)) SH (up S 90 4 0)) else (if I st = I 0 then (((0 : Int) ≤ (t + 1) + i ∧ (t + 1) + i < 137400) ∧ (∃ v103 S104, G sc MX11_told 0 [some (.ref 90), some (.int (I (up S 90 4 0 91 ((t + 1) + i))))] [] SH (up S 90 4 0) (rI v103 SH S104) ∧ G sc MX11_knot 152 [some (.ref 90), some (.int (I ρ)), some (.int (I st)), some (.int (I i)), some (.int (I x)), some (.int (I t))] [.int (I v103)] SH S104 r)) else (((0 : Int) ≤ (t + 1) + i ∧ (t + 1) + i < 137400) ∧ (∃ v105 S106, G sc MX11_frameAt 0 [some (.ref 90), some (.int (I 0)), some (.int (I (up S 90 4 0 91 ((t + 1) + i)))), some (.int (I 0)), none, none, none] [] SH (up S 90 4 0) (rI v105 SH S106) ∧ G sc MX11_knot 152 [some (.ref 90), some (.int (I ρ)), some (.int (I st)), some (.int (I i)), some (.int (I x)), some (.int (I t))] [.int (I v105)] SH S106 r)))) → G sc MX11_knot 0 [some (.ref 90), some (.int (I ρ)), some (.int (I st)), some (.int (I i)), some (.int (I x)), u] [] SH S r := by
            intro r q
            refine go _ ?_
            rw [if_neg (by rw [I_eq hi ⟨by decide, by decide⟩]; exact c2), if_neg (by rw [I_lt hi ⟨by decide, by decide⟩]; omega), if_neg (by rw [I_le ⟨by omega, by omega⟩ hi]; omega)]
            refine ⟨_, _, hw, ?_⟩
            rw [if_neg (by decide)]
            refine qX11_knot_85 h0 ⟨_, _, right_yes h0 ht, ?_⟩
            rw [if_neg (by decide)]
            exact q
          by_cases c5 : x = 1
          · rw [if_pos c5]
            refine MD_val hW h (st3 _ ?_)
            rw [if_pos (by rw [c5]), hrow2.2]
            exact ⟨⟨by omega, by omega⟩, rfl⟩
          rw [if_neg c5]
          rcases hst with rfl | rfl
          · rw [if_pos rfl]
            rw [if_pos rfl] at eT
            subst eT
            have hb := hA.2.2.2.2.2.2.2.2.2.1 ρ _ c1.1 c1.2 hmem
            refine MD_val hW h (st3 _ ?_)
            rw [if_neg (by rw [I_eq hx ⟨by decide, by decide⟩]; exact c5), if_pos rfl, hrow2.1]
            exact ⟨⟨by omega, by omega⟩, _, _, told_ok h0 hm hP ⟨hnn, hb.1⟩, qX11_knot_152 h0 rfl⟩
          · rw [if_neg (by decide)]
            rw [if_neg (by decide)] at eT
            subst eT
            refine MD_val hW h (st3 _ ?_)
            rw [if_neg (by rw [I_eq hx ⟨by decide, by decide⟩]; exact c5), if_neg (by decide), hrow2.1]
            have q := rfat_ok (sc := sc) (u := none) (u' := none) (u'' := none) h0 (b := 0) ⟨by decide, by decide⟩ hN hr hA.2.1 (x := nthL (lb (W.2.1.1.ts ρ)) i.toNat) (i := 0) ⟨hnn, h48⟩ ⟨by decide, by decide⟩
            rw [show (0 : Int).toNat = 0 from rfl, nthL_0] at q
            exact ⟨⟨by omega, by omega⟩, _, _, q, qX11_knot_152 h0 rfl⟩
        · rw [if_pos (fun q => c4 q.2)]
          rw [if_neg (by omega)] at hw
          refine MD_exc (v := 0) hW h (go _ ?_)
          rw [if_neg (by rw [I_eq hi ⟨by decide, by decide⟩]; exact c2), if_neg (by rw [I_lt hi ⟨by decide, by decide⟩]; omega), if_neg (by rw [I_le ⟨by omega, by omega⟩ hi]; omega)]
          refine ⟨_, _, hw, ?_⟩
          rw [if_pos rfl]
          exact no
      · rw [if_pos (fun q => c3 q.1)]
        refine MD_exc (v := 0) hW h (go _ ?_)
        rw [if_neg (by rw [I_eq hi ⟨by decide, by decide⟩]; exact c2)]
        by_cases c5 : i < 0
        · rw [if_pos (by rw [I_lt hi ⟨by decide, by decide⟩]; omega)]; exact no
        · rw [if_neg (by rw [I_lt hi ⟨by decide, by decide⟩]; omega), if_pos (by rw [I_le ⟨by omega, by omega⟩ hi]; omega)]; exact no
    rcases hst with rfl | rfl
    · refine key W.2.1.1.tw (1363 + 97 * ρ) rfl hA.2.2.2.1 ?_ ⟨by omega, by omega⟩ (fun r q => ?_)
      · have q := hr.2.2.2.2.2.2.2.2.2.2.2.2.2.2.1 ρ c1.1 c1.2
        rw [show (0 : Int) + 1363 + 97 * ρ = 1363 + 97 * ρ by omega] at q
        exact q
      · refine qX11_knot_0 h0 (wr_yes h0 ht hρ ⟨by decide, by decide⟩ ⟨by decide, by decide⟩ ⟨c1.1, by omega⟩ (fun w hw => ?_))
        subst hw
        rw [if_neg (by decide), if_pos rfl]
        by_cases c2 : I i = I (-1)
        · rw [if_pos c2] at q ⊢; exact ⟨⟨by omega, by omega⟩, q⟩
        · rw [if_neg c2] at q ⊢
          by_cases c3 : I i < I 0
          · rw [if_pos c3] at q ⊢; exact q
          · rw [if_neg c3] at q ⊢; exact ⟨⟨by omega, by omega⟩, q⟩
    · refine key W.2.1.1.ts (1072 + 97 * ρ) rfl hA.2.2.1 ?_ ⟨by omega, by omega⟩ (fun r q => ?_)
      · have q := hr.2.2.2.2.2.2.2.2.2.2.2.2.2.1 ρ c1.1 c1.2
        rw [show (0 : Int) + 1072 + 97 * ρ = 1072 + 97 * ρ by omega] at q
        exact q
      · refine qX11_knot_0 h0 (wr_yes h0 ht hρ ⟨by decide, by decide⟩ ⟨by decide, by decide⟩ ⟨c1.1, by omega⟩ (fun w hw => ?_))
        subst hw
        rw [if_neg (by decide), if_neg (by decide)]
        by_cases c2 : I i = I (-1)
        · rw [if_pos c2] at q ⊢; exact ⟨⟨by omega, by omega⟩, q⟩
        · rw [if_neg c2] at q ⊢
          by_cases c3 : I i < I 0
          · rw [if_pos c3] at q ⊢; exact q
          · rw [if_neg c3] at q ⊢; exact ⟨⟨by omega, by omega⟩, q⟩
  · rw [if_pos c1]
    refine MD_exc (v := 0) hW h (qX11_knot_0 h0 (wr_no h0 ht (.inl rfl) hρ ⟨by decide, by decide⟩ ⟨by decide, by decide⟩ (by omega) (fun w hw => ?_)))
    subst hw
    rw [if_pos rfl]
end
