/-! ===== the law from its entry, in the mini machine (gen_loop.py) ===== -/
def W0 : aW := (P0d, (newA 1, [], 0, fun _ _ => 0), none, fun j i => if j = 1 ∧ i = 1 then -1 else 0)
theorem wf_W0 : wfW W0 := by
  have a : wfA P0d (newA 1) := wf_new ⟨by decide, by decide⟩ wf_P0
  have ok : okT (newA 1) := by
    show 0 ≤ vnew 1 6 2 ∧ vnew 1 6 2 ≤ 9999
    exact ⟨by decide, by decide⟩
  refine ⟨wf_P0, ⟨a, fun A hA => absurd hA List.not_mem_nil, by decide, ⟨by decide, by decide⟩, fun i h1 h2 => ?_⟩, ⟨ok, fun A hA => absurd hA List.not_mem_nil⟩, fun B hB => (by cases hB), ⟨by decide, by decide⟩, fun i => ?_⟩
  · have : i < 0 := h2
    omega
  · show 0 ≤ (if (0 : Nat) = 1 ∧ i = 1 then (-1 : Int) else 0) ∧ (if (0 : Nat) = 1 ∧ i = 1 then (-1 : Int) else 0) < 256
    rw [if_neg (by intro h; exact absurd h.1 (by decide))]
    exact ⟨by decide, by decide⟩
def SH0 : List mCell := (mO 10 gpF :: gpL11) ++ mdC ++ [mJ 1 (fun _ => 0)]
theorem len_SH0 : SH0.length = 111 := rfl
theorem sGP_SH0 : sGP SH0 := by
  repeat' apply And.intro
  all_goals first | rfl | decide
theorem shR_SH0 : shR SH0 (fun _ _ => none) 0 := by
  have m : sMod SH0 := by
    repeat' apply And.intro
    all_goals first | rfl | decide
  refine ⟨⟨sGP_SH0, m, ⟨rfl, by decide⟩⟩, ⟨rfl, rfl⟩, fun c i x _ _ h => (by cases h), fun c i d j x y _ _ _ _ h => (by cases h), ?_, ?_, ?_⟩
  · exact Nat.le_of_eq len_SH0.symm
  · exact Nat.le_of_ble_eq_true rfl
  · exact Nat.le_of_ble_eq_true rfl
section
variable {sc : Nat × (Nat → Int32)}
theorem clR_0 {S : mStore} (hp : planR S 1 P0d) (hs : stateR S 17 (newA 1)) (ha : S 37 2 = 0 ∧ S 37 3 = 0 ∧ S 13 5 = 0) (hz : ∀ i, S 16 i = 0) (hb : S 0 11 = 0 ∧ S 0 12 = -1 ∧ S 11 1 = 0) : clR SH0 (fun _ _ => none) 0 S W0 := by
  refine ⟨shR_SH0, hp, ⟨hs, ?_, ?_, fun k A h => (by cases h), ?_, fun i h1 h2 => ?_, fun i _ _ => hz i⟩, ⟨fun _ => hb.1, fun B h => (by cases h)⟩, fun i h1 h2 => ?_, hb.2.2, hb.2.1⟩
  · show 0 ≤ S 37 2 ∧ S 37 2 < 41
    rw [ha.1]; exact ⟨by decide, by decide⟩
  · show S 37 3 = _
    rw [ha.2.1]; rfl
  · show S 13 5 = _
    rw [ha.2.2]; rfl
  · have : i < 0 := h2
    omega
  · have : i < 0 := h2
    omega
theorem mdR_0 {S : mStore} {N : Int} (hm : modP S P0d) (hr : refR S 0 (newA 1) N) (ha : S 90 5 = 0 ∧ S 90 6 = 0 ∧ S 90 7 = 0 ∧ S 90 11 = 0 ∧ S 90 25 = 0 ∧ S 90 26 = -1) (hz : ∀ i, S 94 i = 0) : mdR S N W0 := by
  obtain ⟨a5, a6, a7, a11, a25, a26⟩ := ha
  refine ⟨hm, ⟨hr, by rw [a5]; rfl, by rw [a6]; exact ⟨by decide, by decide⟩, fun k A h => (by cases h), by rw [a7]; rfl, fun i h1 h2 => ?_, fun i _ _ => hz _⟩, ⟨fun _ => a11, fun B h => (by cases h)⟩, fun i h1 h2 => ?_, a25, a26⟩
  · have : i < 0 := h2
    omega
  · have : i < 0 := h2
    omega
theorem law_run (hs : sc.1 ≤ 3072) : ∃ n g', mx sc n ML_law 0 (mlocals 7 [.retAddr 0]) [] [] = some (.inl (some (.int 1)), g') ∧ g'.length ≤ 601024 ∧ msl g' ≤ 7293034 := by
  obtain ⟨S1, g1, r1, s1, a1, z1, b1⟩ := gp_new (sc := sc) (S := zr (fun _ _ => 0) 0)
  obtain ⟨S2, g2, r2, s2, a2, z2, f2⟩ := mod_new (sc := sc) (SH := mO 10 gpF :: gpL11) (S := zr S1 90) rfl (fun i => by rw [zr_eq]) (N := 0) (Int.le_refl _)
  have k : ∀ j, j < 90 → zr S2 110 j = S1 j := fun j hj => by rw [zr_ne (by omega), f2 j hj, zr_ne (by omega)]
  have k2 : ∀ j, 90 ≤ j → j ≤ 99 → zr S2 110 j = S2 j := fun j _ hj => zr_ne (by omega)
  have hc : clR SH0 (fun _ _ => none) 0 (zr S2 110) W0 := clR_0 (planR_far r1 (fun j a b => k j (by omega))) (stateR_far s1 (fun j a b => k j (by omega))) (by rw [k 37 (by omega), k 13 (by omega)]; exact a1) (fun i => by rw [k 16 (by omega)]; exact z1 i) (by rw [k 0 (by omega), k 11 (by omega)]; exact b1)
  have hm : mdR (zr S2 110) 0 W0 := mdR_cl (mdR_0 r2 s2 a2 z2) k2
  obtain ⟨r, hr, g⟩ := lw_loop hs (sc.1 + 1) 0 SH0 (fun _ _ => none) 0 (zr S2 110) W0 0 none none (by omega) (by omega) hc wf_W0 hm (Int.le_refl _) (by omega) (Nat.le_refl _)
  have g : G sc ML_law 23 [some (.retAddr 0), some (.ref 0), some (.ref 90), some (.ref 110), some (.int (I 0)), none, none] [] SH0 (zr S2 110) r := g
  have key : G sc ML_law 0 (mlocals 7 [.retAddr 0]) [] [] (fun _ _ => 0) r := by
    show G sc ML_law 0 [some (.retAddr 0), none, none, none, none, none, none] [] [] (fun _ _ => 0) r
    refine tt_new (M := ML_law) (pc := 0) dL_law_0 rfl (by decide) rfl ?_
    show G sc ML_law 3 [some (.retAddr 0), none, none, none, none, none, none] [.ref 0] [mO 10 (mdf 10)] (zr (fun _ _ => 0) 0) r
    refine tt_dup (P := True) (M := ML_law) (pc := 3) dL_law_3 rfl (fun _ => ?_) trivial
    refine tt_ctV (M := ML_law) (pc := 4) dL_law_4 rfl [.ref 0] rfl rfl rfl ⟨rfl, by decide, Nat.le_of_ble_eq_true rfl⟩ g1 ?_
    refine tt_st (P := True) (M := ML_law) (pc := 7) [some (.retAddr 0), some (.ref 0), none, none, none, none, none] dL_law_7 rfl rfl rfl rfl rfl rfl (fun _ => ?_) trivial
    refine tt_new (M := ML_law) (pc := 8) dL_law_8 rfl (by decide) rfl ?_
    show G sc ML_law 11 [some (.retAddr 0), some (.ref 0), none, none, none, none, none] [.ref 90] ((mO 10 gpF :: gpL11) ++ [mO 11 (mdf 11)]) (zr S1 90) r
    refine tt_dup (P := True) (M := ML_law) (pc := 11) dL_law_11 rfl (fun _ => ?_) trivial
    refine tt_ctV (M := ML_law) (pc := 12) dL_law_12 rfl [.ref 90] rfl rfl rfl ⟨rfl, by decide, Nat.le_of_ble_eq_true rfl⟩ g2 ?_
    refine tt_st (P := True) (M := ML_law) (pc := 15) [some (.retAddr 0), some (.ref 0), some (.ref 90), none, none, none, none] dL_law_15 rfl rfl rfl rfl rfl rfl (fun _ => ?_) trivial
    refine tt_iconst (P := True) (M := ML_law) (pc := 16) dL_law_16 (fun _ => ?_) trivial
    refine tt_newJ (n := 1) (M := ML_law) (pc := 17) dL_law_17 (by decide) ?_
    show G sc ML_law 19 [some (.retAddr 0), some (.ref 0), some (.ref 90), none, none, none, none] [.ref 110] SH0 (zr S2 110) r
    refine tt_st (P := True) (M := ML_law) (pc := 19) [some (.retAddr 0), some (.ref 0), some (.ref 90), some (.ref 110), none, none, none] dL_law_19 rfl rfl rfl rfl rfl rfl (fun _ => ?_) trivial
    refine tt_iconst (P := True) (M := ML_law) (pc := 20) dL_law_20 (fun _ => ?_) trivial
    refine tt_st (P := True) (M := ML_law) (pc := 21) [some (.retAddr 0), some (.ref 0), some (.ref 90), some (.ref 110), some (.int (I 0)), none, none] dL_law_21 rfl rfl rfl rfl rfl rfl (fun _ => ?_) trivial
    exact g
  obtain ⟨n, hn⟩ := R_iff.mp key
  obtain ⟨h1, h2, h3⟩ := hr
  exact ⟨n, r.2, by rw [← h1]; exact hn, h2, h3⟩
end
