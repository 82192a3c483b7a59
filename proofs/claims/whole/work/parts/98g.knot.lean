/-! ===== chain (reference), knot and like (both) ===== -/
def knotF (W : aW) (ρ st i x : Int) : aO := if ¬(0 ≤ ρ ∧ ρ < 3) then .inr 0 else if i = -1 then .inl (lb ((if st = 0 then W.2.1.1.tw else W.2.1.1.ts) ρ)).length else if ¬((0 ≤ i ∧ i < (lb ((if st = 0 then W.2.1.1.tw else W.2.1.1.ts) ρ)).length) ∧ (x = 0 ∨ x = 1)) then .inr 0 else if x = 1 then .inl (df (fd ((if st = 0 then W.2.1.1.tw else W.2.1.1.ts) ρ) 0) i) else if st = 0 then .inl (lab W.1 (nthL (lb (W.2.1.1.tw ρ)) i.toNat)) else .inl (hd (W.2.1.1.C (nthL (lb (W.2.1.1.ts ρ)) i.toNat)))
theorem fd_cxs : ∀ {t : Tr} {s d : Int} {A B : List (Int × Int)} {k e : Int}, (k, e) ∈ fd t d → ∃ s' j l r A' B', (s', .branch j l r, e, A', B') ∈ cx t s d A B ∧ ((j : Nat) : Int) = k
  | .leaf _, _, _, _, _, _, _, h => by cases h
  | .branch j l r, s, d, A, B, k, e, h => by
    unfold fd at h
    unfold cx
    rcases List.mem_append.mp h with q | q
    · obtain ⟨s', j', l', r', A', B', hc, ej⟩ := fd_cxs (s := 2 * (j : Int)) (A := A) (B := ((j : Int), d) :: fd r (d + 1) ++ B) q
      exact ⟨s', j', l', r', A', B', List.mem_cons_of_mem _ (List.mem_append_left _ hc), ej⟩
    · rcases List.mem_cons.mp q with q | q
      · cases q
        exact ⟨s, j, l, r, A, B, List.mem_cons_self .., rfl⟩
      · obtain ⟨s', j', l', r', A', B', hc, ej⟩ := fd_cxs (s := 2 * (j : Int) + 1) (A := A ++ fd l (d + 1) ++ [((j : Int), d)]) (B := B) q
        exact ⟨s', j', l', r', A', B', List.mem_cons_of_mem _ (List.mem_append_right _ hc), ej⟩
theorem nthL_get : ∀ (l : List Int) (k : Nat), nthL l k = l.getD k (-1)
  | [], _ => rfl
  | _ :: _, 0 => rfl
  | _ :: t, k + 1 => by
    show nthL t k = _
    rw [nthL_get t k]
    rfl
theorem pf_nth (t : Tr) {i : Int} (h0 : 0 ≤ i) (h : i < (lb t).length) : pf (fd t 0) i = nthL (lb t) i.toNat := by
  rw [nthL_get, ← fd_lb t 0]
  unfold pf gl
  have hl : i.toNat < (fd t 0).length := by rw [fd_len]; omega
  rw [List.getD_eq_getElem?_getD, List.getD_eq_getElem?_getD, List.getElem?_map, List.getElem?_eq_getElem hl]
  rfl
section
variable {sc : Nat × (Nat → Int32)} {SH : List mCell} {F : Nat → Nat → Option Nat} {S : mStore} {e : Nat} {W : aW} {N : Int} {P : aP}
theorem chain_md (h0 : sMod SH) (hW : wfW W) (h : mdR S N W) (hN : N < 2147483648) {f i y : Int} (hf : rg f) (hi : rg i) {u : Option Value} : MD sc MX11_chain [some (.ref 90), some (.int (I f)), some (.int (I i)), u] SH S N y (chainF W f i) W := by
  have ht : up S 90 4 0 90 4 = 0 := up_eq _ _ _ _
  obtain ⟨hm, hr⟩ := mdS (x := 0) hW h
  have hP := hW.1
  have hA := hW.2.1.1
  have hP0 := hP.1
  unfold chainF
  by_cases c1 : 0 ≤ f ∧ f < W.1 0 0
  · rw [if_neg (fun q => q c1)]
    have ek : up S 90 4 0 91 (976 + f) = W.2.1.1.k f := by
      have q := hr.2.2.2.2.2.2.2.2.2.2.2.1 f c1.1 (by omega)
      rw [show (0 : Int) + 976 + f = 976 + f by omega] at q
      exact q
    have hkr := hA.2.1.2.2 f
    by_cases c2 : W.2.1.1.k f = -1
    · rw [if_pos c2]
      refine MD_exc (v := 0) hW h (qX11_chain_0 h0 ⟨_, _, isF_yes h0 hm hP ht hf c1, ?_⟩)
      rw [if_neg (by decide), ek, if_pos (by rw [c2])]
      refine ⟨⟨by omega, by omega⟩, _, _, right_no h0 ht (.inl rfl), ?_⟩
      rw [if_pos rfl]
    rw [if_neg c2]
    have hk48 : 0 ≤ W.2.1.1.k f ∧ W.2.1.1.k f < 48 := by omega
    have hlen := wf_len hA.2.1 (W.2.1.1.k f)
    have qf := rframes_cnt (sc := sc) (u := none) (u' := none) h0 (b := 0) ⟨by decide, by decide⟩ (x := W.2.1.1.k f) ⟨by omega, by omega⟩ (k := W.2.1.1.k) (fun f' a b => ⟨hr.2.2.2.2.2.2.2.2.2.2.2.1 f' a b, hA.2.1.2.2 f'⟩)
    rw [cnt_C hA.2.1 hk48] at qf
    have st : ∀ r, (if I i = I (-1) then r = rI ((W.2.1.1.C (W.2.1.1.k f)).length : Int) SH (up S 90 4 0) else (if I i < I 0 then G sc MX11_chain 80 [some (.ref 90), some (.int (I f)), some (.int (I i)), some (.int (I ((W.2.1.1.C (W.2.1.1.k f)).length : Int)))] [.int (I 0), .ref 90] SH (up S 90 4 0) r else (if I ((W.2.1.1.C (W.2.1.1.k f)).length : Int) ≤ I i then G sc MX11_chain 80 [some (.ref 90), some (.int (I f)), some (.int (I i)), some (.int (I ((W.2.1.1.C (W.2.1.1.k f)).length : Int)))] [.int (I 0), .ref 90] SH (up S 90 4 0) r else G sc MX11_chain 80 [some (.ref 90), some (.int (I f)), some (.int (I i)), some (.int (I ((W.2.1.1.C (W.2.1.1.k f)).length : Int)))] [.int (I 1), .ref 90] SH (up S 90 4 0) r))) → G sc MX11_chain 0 [some (.ref 90), some (.int (I f)), some (.int (I i)), u] [] SH S r := by
      intro r q
      refine qX11_chain_0 h0 ⟨_, _, isF_yes h0 hm hP ht hf c1, ?_⟩
      rw [if_neg (by decide), ek, if_neg (by rw [I_eq ⟨by omega, by omega⟩ ⟨by decide, by decide⟩]; exact c2)]
      refine ⟨⟨by omega, by omega⟩, _, _, right_yes h0 ht, ?_⟩
      rw [if_neg (by decide), ek]
      exact ⟨⟨by omega, by omega⟩, _, _, qf, q⟩
    by_cases c3 : i = -1
    · rw [if_pos c3]
      refine MD_val hW h (st _ ?_)
      rw [if_pos (by rw [c3])]
    rw [if_neg c3]
    by_cases c4 : 0 ≤ i ∧ i < (W.2.1.1.C (W.2.1.1.k f)).length
    · rw [if_neg (fun q => q c4)]
      refine MD_val hW h (st _ ?_)
      rw [if_neg (by rw [I_eq hi ⟨by decide, by decide⟩]; exact c3), if_neg (by rw [I_lt hi ⟨by decide, by decide⟩]; omega), if_neg (by rw [I_le ⟨by omega, by omega⟩ hi]; omega)]
      refine qX11_chain_80 h0 ⟨_, _, right_yes h0 ht, ?_⟩
      rw [if_neg (by decide), ek]
      exact ⟨⟨by omega, by omega⟩, _, _, rfat_ok h0 ⟨by decide, by decide⟩ hN hr hA.2.1 hk48 ⟨by omega, by omega⟩, qX11_chain_107 h0 rfl⟩
    · rw [if_pos c4]
      refine MD_exc (v := 0) hW h (st _ ?_)
      have go : G sc MX11_chain 80 [some (.ref 90), some (.int (I f)), some (.int (I i)), some (.int (I ((W.2.1.1.C (W.2.1.1.k f)).length : Int)))] [.int (I 0), .ref 90] SH (up S 90 4 0) (rI 0 SH (up (up S 90 4 0) 90 4 1)) := by
        refine qX11_chain_80 h0 ⟨_, _, right_no h0 ht (.inl rfl), ?_⟩
        rw [if_pos rfl]
        exact qX11_chain_107 h0 rfl
      rw [if_neg (by rw [I_eq hi ⟨by decide, by decide⟩]; exact c3)]
      by_cases c5 : i < 0
      · rw [if_pos (by rw [I_lt hi ⟨by decide, by decide⟩]; omega)]; exact go
      · rw [if_neg (by rw [I_lt hi ⟨by decide, by decide⟩]; omega), if_pos (by rw [I_le ⟨by omega, by omega⟩ hi]; omega)]; exact go
  · rw [if_pos c1]
    refine MD_exc (v := 0) hW h (qX11_chain_0 h0 ⟨_, _, isF_no h0 hm hP ht hf c1, ?_⟩)
    rw [if_pos rfl]
theorem tnthI {o g : Nat} {T : Int → Tr} (h0 : sTree SH o g) (hw : wfT T) (ht : treeR (S g) T) {ρ k : Int} (hρ : 0 ≤ ρ ∧ ρ < 3) (hk : rg k) {u u' : Option Value} : G sc MX9_nth 0 [some (.ref o), some (.int (I ρ)), some (.int (I k)), u, u'] [] SH S (rI (nthI (lb (T ρ)) k) SH S) := by
  unfold nthI
  have hl := lb_len hw hρ.1 hρ.2
  by_cases c : 0 ≤ k ∧ k < 48
  · have q := tnth_ok (sc := sc) (u := u) (u' := u') h0 hw ht hρ.1 hρ.2 c
    by_cases d : 0 ≤ k ∧ k < (lb (T ρ)).length
    · rw [if_pos d]; exact q
    · rw [if_neg d]
      rw [nthL_far (by omega)] at q
      exact q
  · rw [if_neg (by omega)]
    exact tnth_no h0 hk (by omega)
theorem knot_cl (h : clR SH F e S W) (hW : wfW W) {ρ st i x : Int} (hρ : rg ρ) (hst : st = 0 ∨ st = 1) (hi : rg i) (hx : rg x) {u u' : Option Value} : CL sc MX10_knot [some (.ref 0), some (.int (I ρ)), some (.int (I st)), some (.int (I i)), some (.int (I x)), u, u'] SH F e S (knotF W ρ st i x) W := by
  obtain ⟨g0, g1, g2, hp, hs⟩ := clS h
  have hP := hW.1
  have hA := hW.2.1.1
  have hP7 := hP.2.2.2.2.2.1
  unfold knotF
  by_cases c1 : 0 ≤ ρ ∧ ρ < 3
  · rw [if_neg (fun q => q c1)]
    have key : ∀ (T : Int → Tr) (o g : Nat), T = (if st = 0 then W.2.1.1.tw else W.2.1.1.ts) → sTree SH o g → wfT T → treeR (S g) T → o = (if st = 0 then 17 + 11 else 17 + 9) → CL sc MX10_knot [some (.ref 0), some (.int (I ρ)), some (.int (I st)), some (.int (I i)), some (.int (I x)), u, u'] SH F e S (if i = -1 then .inl (lb (T ρ)).length else if ¬((0 ≤ i ∧ i < (lb (T ρ)).length) ∧ (x = 0 ∨ x = 1)) then .inr 0 else if x = 1 then .inl (df (fd (T ρ) 0) i) else if st = 0 then .inl (lab W.1 (nthL (lb (W.2.1.1.tw ρ)) i.toNat)) else .inl (hd (W.2.1.1.C (nthL (lb (W.2.1.1.ts ρ)) i.toNat)))) W := by
      intro T o g eT hsT hwT htT eo
      have st1 : ∀ r, G sc MX10_knot 44 [some (.ref 0), some (.int (I ρ)), some (.int (I st)), some (.int (I i)), some (.int (I x)), u, u'] [.ref o] SH S r → G sc MX10_knot 0 [some (.ref 0), some (.int (I ρ)), some (.int (I st)), some (.int (I i)), some (.int (I x)), u, u'] [] SH S r := by
        intro r q
        refine qX10_knot_0 g0 ?_
        rw [if_neg (by rw [I_lt hρ ⟨by decide, by decide⟩]; omega), if_neg (by rw [I_le ⟨by decide, by decide⟩ hρ]; omega)]
        refine .inl ⟨_, mustBe_yes, ?_⟩
        rcases hst with rfl | rfl
        · rw [if_pos rfl] at eo; rw [if_pos rfl, ← eo]; exact q
        · rw [if_neg (by decide)] at eo; rw [if_neg (by decide), ← eo]; exact q
      by_cases c2 : i = -1
      · rw [if_pos c2]
        refine CL_val h (st1 _ (qX10_knot_44 g0 hsT ?_))
        rw [if_pos (by rw [c2])]
        exact ⟨_, _, tsizeOf_ok hsT hwT htT c1.1 c1.2, rfl⟩
      rw [if_neg c2]
      have q := tnthI (sc := sc) (u := none) (u' := none) hsT hwT htT c1 hi
      unfold nthI at q
      by_cases c3 : 0 ≤ i ∧ i < (lb (T ρ)).length
      · rw [if_pos c3] at q
        have hmem : nthL (lb (T ρ)) i.toNat ∈ lb (T ρ) := nthL_mem (by omega)
        have hnn := lb_nn hmem
        have h48 := hwT.2 _ (al_in c1.1 c1.2 hmem)
        have st2 : ∀ r, (if I x = I 0 then G sc MX10_knot 84 [some (.ref 0), some (.int (I ρ)), some (.int (I st)), some (.int (I i)), some (.int (I x)), some (.ref o), some (.int (I (nthL (lb (T ρ)) i.toNat)))] [] SH S r else (if I x = I 1 then G sc MX10_knot 84 [some (.ref 0), some (.int (I ρ)), some (.int (I st)), some (.int (I i)), some (.int (I x)), some (.ref o), some (.int (I (nthL (lb (T ρ)) i.toNat)))] [] SH S r else G sc MX10_knot 88 [some (.ref 0), some (.int (I ρ)), some (.int (I st)), some (.int (I i)), some (.int (I x)), some (.ref o), some (.int (I (nthL (lb (T ρ)) i.toNat)))] [] SH S r)) → G sc MX10_knot 0 [some (.ref 0), some (.int (I ρ)), some (.int (I st)), some (.int (I i)), some (.int (I x)), u, u'] [] SH S r := by
          intro r qq
          refine st1 _ (qX10_knot_44 g0 hsT ?_)
          rw [if_neg (by rw [I_eq hi ⟨by decide, by decide⟩]; exact c2)]
          refine ⟨_, _, q, ?_⟩
          rw [if_neg (by rw [I_eq ⟨by omega, by omega⟩ ⟨by decide, by decide⟩]; omega)]
          exact qq
        by_cases c4 : x = 0 ∨ x = 1
        · rw [if_neg (fun q => q ⟨c3, c4⟩)]
          have st3 : ∀ r, (if I x = I 1 then (∃ v104 S105, G sc MX9_above 0 [some (.ref o), some (.int (I (nthL (lb (T ρ)) i.toNat))), none, none] [] SH S (rI v104 SH S105) ∧ r = rI v104 SH S105) else (if I st = I 0 then (∃ v102 S103, G sc MX5_labelOf 0 [some (.ref 1), some (.int (I (nthL (lb (T ρ)) i.toNat))), none] [] SH S (rI v102 SH S103) ∧ G sc MX10_knot 138 [some (.ref 0), some (.int (I ρ)), some (.int (I st)), some (.int (I i)), some (.int (I x)), some (.ref o), some (.int (I (nthL (lb (T ρ)) i.toNat)))] [.int (I v102)] SH S103 r) else (((0 : Int) ≤ nthL (lb (T ρ)) i.toNat ∧ nthL (lb (T ρ)) i.toNat < 48) ∧ G sc MX10_knot 138 [some (.ref 0), some (.int (I ρ)), some (.int (I st)), some (.int (I i)), some (.int (I x)), some (.ref o), some (.int (I (nthL (lb (T ρ)) i.toNat)))] [.int (I (S (17 + 8) (nthL (lb (T ρ)) i.toNat)))] SH S r))) → G sc MX10_knot 0 [some (.ref 0), some (.int (I ρ)), some (.int (I st)), some (.int (I i)), some (.int (I x)), u, u'] [] SH S r := by
            intro r qq
            refine st2 _ ?_
            have q84 := qX10_knot_84 g0 hsT (qX10_knot_89 (sc := sc) (l2 := st) (l3 := i) (l1 := ρ) (l4 := x) (l6 := nthL (lb (T ρ)) i.toNat) g0 hsT (.inl ⟨_, mustBe_yes, qq⟩))
            rcases c4 with rfl | rfl
            · rw [if_pos rfl]; exact q84
            · rw [if_neg (by decide), if_pos rfl]; exact q84
          by_cases c5 : x = 1
          · rw [if_pos c5]
            have hgm := gl_mem (l := fd (T ρ) 0) c3.1 (by rw [fd_len]; exact c3.2)
            have hpn := pf_nth (T ρ) c3.1 c3.2
            obtain ⟨s', j, l, r', A', B', hc, ej⟩ := fd_cxs (t := T ρ) (s := 96 + ρ) (d := 0) (A := []) (B := []) (k := pf (fd (T ρ) 0) i) (e := df (fd (T ρ) 0) i) hgm
            refine CL_val h (st3 _ ?_)
            rw [if_pos (by rw [c5])]
            refine ⟨_, _, ?_, rfl⟩
            have qa := tabove_ok (sc := sc) (u := none) (u' := none) hsT hwT htT c1.1 c1.2 hc
            rw [ej, hpn] at qa
            exact qa
          rw [if_neg c5]
          rcases hst with rfl | rfl
          · rw [if_pos rfl]
            rw [if_pos rfl] at eT
            subst eT
            have hb := hA.2.2.2.2.2.2.2.2.2.1 ρ _ c1.1 c1.2 hmem
            refine CL_val h (st3 _ ?_)
            rw [if_neg (by rw [I_eq hx ⟨by decide, by decide⟩]; exact c5), if_pos rfl]
            exact ⟨_, _, label_ok g2 hp hP ⟨hnn, hb.1⟩, qX10_knot_138 g0 hsT rfl⟩
          · rw [if_neg (by decide)]
            rw [if_neg (by decide)] at eT
            subst eT
            refine CL_val h (st3 _ ?_)
            rw [if_neg (by rw [I_eq hx ⟨by decide, by decide⟩]; exact c5), if_neg (by decide), hs.2.1.2.1 _ hnn h48]
            exact ⟨⟨hnn, h48⟩, qX10_knot_138 g0 hsT rfl⟩
        · rw [if_pos (fun q => c4 q.2)]
          refine CL_exc h (st2 _ ?_)
          rw [if_neg (by rw [I_eq hx ⟨by decide, by decide⟩]; omega), if_neg (by rw [I_eq hx ⟨by decide, by decide⟩]; omega)]
          exact qX10_knot_88 g0 hsT (qX10_knot_89 g0 hsT (.inr ⟨_, _, _, mustBe_no rfl, rfl⟩))
      · rw [if_pos (fun q => c3 q.1)]
        rw [if_neg c3] at q
        refine CL_exc h (st1 _ (qX10_knot_44 g0 hsT ?_))
        rw [if_neg (by rw [I_eq hi ⟨by decide, by decide⟩]; exact c2)]
        refine ⟨_, _, q, ?_⟩
        rw [if_pos rfl]
        exact qX10_knot_88 g0 hsT (qX10_knot_89 g0 hsT (.inr ⟨_, _, _, mustBe_no rfl, rfl⟩))
    rcases hst with rfl | rfl
    · exact key W.2.1.1.tw (17 + 11) (17 + 12) rfl g1.2.2.2.2.1 hA.2.2.2.1 hs.2.2.2.1 rfl
    · exact key W.2.1.1.ts (17 + 9) (17 + 10) rfl g1.2.2.2.1 hA.2.2.1 hs.2.2.1 rfl
  · rw [if_pos c1]
    refine CL_exc h (qX10_knot_0 g0 ?_)
    have h1 := hρ.1
    by_cases c2 : ρ < 0
    · rw [if_pos (by rw [I_lt hρ ⟨by decide, by decide⟩]; omega)]
      exact .inr ⟨_, _, _, mustBe_no rfl, rfl⟩
    · rw [if_neg (by rw [I_lt hρ ⟨by decide, by decide⟩]; omega), if_pos (by rw [I_le ⟨by decide, by decide⟩ hρ]; omega)]
      exact .inr ⟨_, _, _, mustBe_no rfl, rfl⟩
end
