/-! ===== the reference: knots ===== -/
section
variable {sc : Nat × (Nat → Int32)} {SH : List mCell} {S : mStore} {b N : Int} {P : aP} {A : aS}
theorem fd_nd {T : Tr} (h : (lb T).Nodup) : ((fd T 0).map Prod.fst).Nodup := by rw [fd_lb]; exact h
/-- a knot is taken out of one tree, if it is there -/
theorem mdel_ok (h0 : sMod SH) {t : Int} (ht : 0 ≤ t ∧ t < 137300) {T : Tr} (hn : (lb T).Nodup) (hl : ∀ k ∈ lb T, k < 48) (hr : rowl (S 91) t (fd T 0)) {k : Int} (hk : 0 ≤ k ∧ k < 48) : (k ∉ lb T ∧ G sc MX11_placeIn 0 [some (.ref 90), some (.int (I t)), some (.int (I k)), none] [] SH S (rI (-1) SH S)) ∨ (∃ c S', 0 ≤ c ∧ c < 48 ∧ G sc MX11_placeIn 0 [some (.ref 90), some (.int (I t)), some (.int (I k)), none] [] SH S (rI c SH S) ∧ G sc MX11_takesOut 0 [some (.ref 90), some (.int (I t)), some (.int (I c)), none] [] SH S (rV SH S') ∧ rowl (S' 91) t (fd (del k T) 0) ∧ rowF S S' t) := by
  have hlen : (fd T 0).length ≤ 48 := by rw [fd_len]; exact nodup_len hn (fun x hx => ⟨lb_nn hx, hl x hx⟩)
  have hpb : ∀ i, 0 ≤ i → i < ((fd T 0).length : Int) → 0 ≤ pf (fd T 0) i ∧ pf (fd T 0) i < 48 := fun i h1 h2 => by
    have hm : (gl (fd T 0) i).1 ∈ (fd T 0).map Prod.fst := List.mem_map.mpr ⟨_, gl_mem h1 h2, rfl⟩
    rw [fd_lb] at hm
    exact ⟨lb_nn hm, hl _ hm⟩
  have hpl := mplace_ok (sc := sc) h0 ht (n := (fd T 0).length) ⟨by omega, by omega⟩ hr hpb (x := k) ⟨by omega, by omega⟩ (u := none)
  by_cases hm : k ∈ lb T
  · right
    obtain ⟨s, j, l, r, d, U, V, rfl, hc⟩ := cx_mem (s := 96) (d := 0) (A := []) (B := []) hm
    have hfd := cx_fd hc
    rw [List.nil_append, List.append_nil] at hfd
    have hsd := cx_side hc (fun A0 y e => by simp at e) (fun y B0 e => (nomatch e))
    have e2 : fd T 0 = (U ++ fd l (d + 1)) ++ ((j : Int), d) :: (fd r (d + 1) ++ V) := by rw [← hfd, fd]; simp
    have hfa := fnd_at e2 (fd_nd hn) (n := (((fd T 0).length : Int)).toNat) (by omega)
    dsimp only at hfa
    rw [hfa] at hpl
    have hr' := hr
    rw [← hfd] at hr'
    have hlen' := hlen
    rw [← hfd] at hlen'
    have hdep : ∀ y ∈ U ++ fd (.branch j l r) d ++ V, 0 ≤ y.2 ∧ y.2 < 48 := fun y hy => by
      rw [hfd] at hy
      have h1 := fd_ge hy
      have h2 := fd_lt hy
      rw [fd_len] at hlen
      omega
    obtain ⟨S', g', r', f'⟩ := mtakes_l (sc := sc) h0 ht hr' hlen' hdep hsd.1 hsd.2 (c := ((U ++ fd l (d + 1)).length : Int)) (by rw [List.length_append]; omega) (u := none)
    have hdel := fd_del hc hn
    rw [List.nil_append, List.append_nil] at hdel
    rw [← hdel] at r'
    have hcl : (U ++ fd l (d + 1)).length < (fd T 0).length := by rw [e2]; simp only [List.length_append, List.length_cons]; omega
    exact ⟨_, S', by omega, by omega, hpl, g', r', f'⟩
  · left
    refine ⟨hm, ?_⟩
    rw [fnd_none (by rw [fd_lb]; exact hm) (by omega)] at hpl
    exact hpl
theorem rowl_F {S S' : mStore} {t t' : Int} {l : List (Int × Int)} (h : rowl (S 91) t' l) (hl : l.length ≤ 48) (hF : rowF S S' t) (ht : t' + 97 ≤ t ∨ t + 97 ≤ t') : rowl (S' 91) t' l := rowl_cong h hl (fun i h1 h2 => hF.1 i (by omega))
/-- a knot is taken out of the trees of all realms, from one on -/
theorem rlk_lp (h0 : sMod SH) (hb : 0 ≤ b ∧ b ≤ 135000) {f k : Int} (hk : 0 ≤ k ∧ k < 48) {T : Int → Tr} (hw : wfT T) : ∀ (m : Nat) (ρ : Int) {S : mStore} {u5 u6 : Option Value}, 0 ≤ ρ → ρ + m = 3 → (∀ ρ', 0 ≤ ρ' → ρ' < 3 → rowl (S 91) (b + 1072 + 97 * ρ') (fd (if ρ' < ρ then del k (T ρ') else T ρ') 0)) → ∃ S', G sc MX11_leavesKnot 44 [some (.ref 90), some (.int (I b)), some (.int (I f)), some (.int (I k)), some (.int (I ρ)), u5, u6] [] SH S (rV SH S') ∧ (∀ ρ', 0 ≤ ρ' → ρ' < 3 → rowl (S' 91) (b + 1072 + 97 * ρ') (fd (del k (T ρ')) 0)) ∧ (∀ i, i < b + 1072 ∨ b + 1363 ≤ i → S' 91 i = S 91 i) ∧ (∀ j, j ≠ 91 → S' j = S j)
  | 0, ρ, S, u5, u6, h1, h2, hr => by
    refine ⟨S, qX11_leavesKnot_44 h0 ?_, fun ρ' a c => ?_, fun _ _ => rfl, fun _ _ => rfl⟩
    · simp (disch := omega) only [iL, iE, iQ, ipos, ineg, an, if_true, if_false]
    · have q := hr ρ' a c
      rw [if_pos (by omega)] at q
      exact q
  | m + 1, ρ, S, u5, u6, h1, h2, hr => by
    have hlen : ∀ ρ', 0 ≤ ρ' → ρ' < 3 → (fd (if ρ' < ρ then del k (T ρ') else T ρ') 0).length ≤ 48 := fun ρ' a c => by
      rw [fd_len]
      split
      · exact lb_len (wf_del (k := k) hw) a c
      · exact lb_len hw a c
    have q0 := hr ρ h1 (by omega)
    rw [if_neg (by omega)] at q0
    rcases mdel_ok (sc := sc) h0 (t := b + 1072 + 97 * ρ) ⟨by omega, by omega⟩ (lb_nd hw h1 (by omega)) (fun x hx => hw.2 x (al_in h1 (by omega) hx)) q0 hk with ⟨hno, gp⟩ | ⟨c, S1, c1, c2, gp, gt, r1, f1⟩
    · obtain ⟨S', g', r', f', f''⟩ := rlk_lp h0 hb (f := f) hk hw m (ρ + 1) (S := S) (u5 := some (.int (I (b + 1072 + 97 * ρ)))) (u6 := some (.int (I (-1)))) (by omega) (by omega) (fun ρ' a c => by
        have q := hr ρ' a c
        by_cases e : ρ' = ρ
        · rw [e] at q ⊢
          rw [if_neg (by omega)] at q
          rw [if_pos (by omega), del_no hno]; exact q
        · by_cases e2 : ρ' < ρ
          · rw [if_pos e2] at q; rw [if_pos (by omega)]; exact q
          · rw [if_neg e2] at q; rw [if_neg (by omega)]; exact q)
      refine ⟨S', qX11_leavesKnot_44 h0 ?_, r', f', f''⟩
      simp (disch := omega) only [iL, iE, iQ, ipos, ineg, an, if_true, if_false]
      refine ⟨_, _, gp, ?_⟩
      simp (disch := omega) only [iL, iE, iQ, ipos, ineg, an, if_true, if_false]
      exact g'
    · obtain ⟨S', g', r', f', f''⟩ := rlk_lp h0 hb (f := f) hk hw m (ρ + 1) (S := S1) (u5 := some (.int (I (b + 1072 + 97 * ρ)))) (u6 := some (.int (I c))) (by omega) (by omega) (fun ρ' a d => by
        by_cases e : ρ' = ρ
        · rw [e, if_pos (by omega)]; exact r1
        · have q := rowl_F (hr ρ' a d) (hlen ρ' a d) f1 (by omega)
          by_cases e2 : ρ' < ρ
          · rw [if_pos e2] at q; rw [if_pos (by omega)]; exact q
          · rw [if_neg e2] at q; rw [if_neg (by omega)]; exact q)
      refine ⟨S', qX11_leavesKnot_44 h0 ?_, r', fun i hi => by rw [f' i hi, f1.1 i (by omega)], fun j hj => by rw [f'' j hj, f1.2 j hj]⟩
      simp (disch := omega) only [iL, iE, iQ, ipos, ineg, an, if_true, if_false]
      refine ⟨_, _, gp, ?_⟩
      simp (disch := omega) only [iL, iE, iQ, ipos, ineg, an, if_true, if_false]
      exact ⟨_, gt, g'⟩
theorem rlk_ok (h0 : sMod SH) (hb : 0 ≤ b ∧ b ≤ 135000) (hr : refR S b A N) (hC : wfR A.C A.k) (hT : wfT A.ts) {f : Int} (hf : 0 ≤ f ∧ f < 48) {u u' u2 u3 : Option Value} : ∃ S', G sc MX11_leavesKnot 0 [some (.ref 90), some (.int (I b)), some (.int (I f)), u, u', u2, u3] [] SH S (rV SH S') ∧ refR S' b (leaveK A f) N ∧ modG S S' b := by
  have b1 := hC.2.2 f
  have e1 := hr.2.2.2.2.2.2.2.2.2.2.2.1 f hf.1 hf.2
  unfold leaveK
  by_cases e : A.k f = -1
  · rw [if_pos e]
    have es : up S 91 (b + 976 + f) (-1) = S := up_self (by rw [e1, e])
    refine ⟨S, qX11_leavesKnot_0 h0 ?_, hr, modG_rf _ _⟩
    rw [e1, e, es]
    simp (disch := omega) only [iL, iE, iQ, ipos, ineg, an, if_true, if_false]
  · rw [if_neg e]
    have hC' := wf_rem hC (x := f) rfl
    have hcam := hr.2.2.2.2.2.2.2.2.2.2.2.2.1
    have r1 : refR (up S 91 (b + 976 + f) (-1)) b (A.sC (remL A.C (A.k f) f) (setW A.k f (-1))) N := by
      refine refR_C hr hC (fun g a c => ?_) ⟨?_, fun g a c hg => ?_, fun x => ?_⟩ (fun i i1 i2 i3 => by rw [up_at, if_neg (by omega)])
      · rw [up_at]
        by_cases q : g = f
        · rw [if_pos (by omega), q, setW_eq]
        · rw [if_neg (by omega), setW_ne q]; exact hr.2.2.2.2.2.2.2.2.2.2.2.1 g a c
      · rw [up_at, if_neg (by omega)]; exact hcam.1
      · rw [up_at, if_neg (by omega), up_at, if_neg (by omega)]
        by_cases q : g = f
        · rw [q, setW_eq] at hg; exact absurd rfl hg
        · rw [setW_ne q] at hg; exact hcam.2.1 g a c hg
      · have hp := hcam.2.2 x
        have hp2 : (remL A.C (A.k f) f x).Pairwise fun f g => S 91 (b + 1024 + f) < S 91 (b + 1024 + g) := by
          unfold remL
          split
          · exact hp.filter _
          · exact hp
        refine hp2.imp_of_mem (fun {f1 g1} h1 h2 h => ?_)
        have a1 := wf_bd hC' h1
        have a2 := wf_bd hC' h2
        rw [up_at, if_neg (by omega), up_at, if_neg (by omega)]
        exact h
    have gf := rframes_cnt (sc := sc) h0 hb (x := A.k f) ⟨by omega, by omega⟩ (rk_rg r1 hC') (u := none) (u' := none)
    have hcc : cnt (fun g => decide (setW A.k f (-1) g = A.k f)) 48 0 = (remL A.C (A.k f) f (A.k f)).length := cnt_C hC' ⟨by omega, b1.2⟩
    have gf : G sc MX11_framesOf 0 [some (.ref 90), some (.int (I b)), some (.int (I (A.k f))), none, none] [] SH (up S 91 (b + 976 + f) (-1)) (rI (remL A.C (A.k f) f (A.k f)).length SH (up S 91 (b + 976 + f) (-1))) := by
      rw [← hcc]; exact gf
    have hl48 := wf_len hC' (A.k f)
    by_cases e2 : remL A.C (A.k f) f (A.k f) = []
    · rw [if_pos e2]
      obtain ⟨S', g', r', f', f''⟩ := rlk_lp (sc := sc) h0 hb (f := f) (k := A.k f) ⟨by omega, b1.2⟩ hT 3 0 (S := up S 91 (b + 976 + f) (-1)) (u5 := u2) (u6 := u3) (by omega) (by omega) (fun ρ a c => by rw [if_neg (by omega)]; exact r1.2.2.2.2.2.2.2.2.2.2.2.2.2.1 ρ a c)
      refine ⟨S', qX11_leavesKnot_0 h0 ?_, ?_, modG_tr (modG_up (by omega)) ⟨fun i hi => f' i (by omega), fun j hj => f'' j hj⟩⟩
      · rw [e1]
        simp (disch := omega) only [iL, iE, iQ, ipos, ineg, an, if_true, if_false]
        refine ⟨_, _, gf, ?_⟩
        rw [e2]
        simp only [List.length_nil, Int.natCast_zero]
        simp (disch := omega) only [iL, iE, iQ, ipos, ineg, an, if_true, if_false]
        exact g'
      · refine refR_ts r1 hC' r' (fun ρ => ?_) (fun i i1 i2 i3 => f' i (by omega))
        have hq := r1.2.2.2.2.2.2.2.2.2.2.2.2.2.2.2.2 ρ
        show (lb (del (A.k f) (A.ts ρ))).length ≤ 48
        have : (lb (del (A.k f) (A.ts ρ))).length ≤ (lb (A.ts ρ)).length := by
          clear hq
          generalize A.ts ρ = T0
          generalize A.k f = k0
          induction T0 with
          | leaf _ => exact Nat.le_refl _
          | branch j l r ihl ihr =>
            rw [del]
            split
            · rw [lb_jn, lb]; simp only [List.length_append, List.length_cons]; omega
            · rw [lb, lb]; simp only [List.length_append, List.length_cons]; omega
        exact Nat.le_trans this hq.1
    · rw [if_neg e2]
      have hl : 0 < (remL A.C (A.k f) f (A.k f)).length := List.length_pos_iff.mpr e2
      refine ⟨_, qX11_leavesKnot_0 h0 ?_, r1, modG_up (by omega)⟩
      rw [e1]
      simp (disch := omega) only [iL, iE, iQ, ipos, ineg, an, if_true, if_false]
      refine ⟨_, _, gf, ?_⟩
      simp (disch := omega) only [iL, iE, iQ, ipos, ineg, an, if_true, if_false]
end
