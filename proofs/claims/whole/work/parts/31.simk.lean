section
variable {l : Launch} {kd : Nat → Nat} {base : Nat} {D : va_G} {tc : Nat → ClassId} {sc : Nat × (Nat → Int32)}
theorem mgr_sl {g g' : mW} {a : Nat} {x y : mCell} (h : g[a]? = some x) (e : msz y = msz x) : msl (g.set a y) = msl g := msl_set g a x y h e
theorem mputf_sl {g g' : mW} {c k a : Nat} {v : Value} (h : mputf g c k a v = some g') : msl g' = msl g := by
  unfold mputf at h
  split at h
  · rename_i c' fs hg
    by_cases h1 : c' = c
    · rw [if_pos h1] at h
      by_cases h2 : k < fs.length
      · rw [if_pos h2] at h
        cases h
        subst h1
        exact msl_set _ _ _ _ hg rfl
      · rw [if_neg h2] at h; cases h
    · rw [if_neg h1] at h; cases h
  · cases h
theorem mast_sl {g g' : mW} {i : Instr} {a : Nat} {j : Int32} {v : Value} (h : mast g i a j v = some g') : msl g' = msl g := by
  unfold mast at h
  split at h
  · split at h
    · rename_i hg
      split at h
      · cases h
      · cases h; exact msl_set _ _ _ _ hg rfl
    · cases h
  · split at h
    · rename_i hg
      split at h
      · cases h
      · cases h; exact msl_set _ _ _ _ hg rfl
    · cases h
  · split at h
    · rename_i hg
      split at h
      · cases h
      · cases h; exact msl_set _ _ _ _ hg rfl
    · cases h
  · split at h
    · rename_i hg
      split at h
      · split at h
        · cases h
        · cases h; exact msl_set _ _ _ _ hg rfl
      · cases h
    · cases h
  · cases h
set_option maxHeartbeats 4000000 in
theorem msim_step {n : Nat} (ihS : mSim l D tc kd base sc n) (hIH : ∀ M' as g r1 g1, mgd M' → (menter as).length ≤ M'.nL → mx sc n M' 0 (mlocals M'.nL as) [] g = some (r1, g1) → mMt l D tc kd base sc M' as g r1 g1) : mSim l D tc kd base sc (n + 1) := by
  intro p e R s m args below meth c Q M r g' SF C hE hbs hRf hRl hSF hCF hEnd pc ls st g H locs cells slots L h hl hln hR hS
  have ih := ihS p e R s m args below meth c Q M r g' SF C hE hbs hRf hRl hSF hCF hEnd
  have hgk := mx_gr sc n
  have hx := C.1
  have hb := C.2.1
  have hL : L.size = M.nL := hl.1.trans hln
  have room : ∀ x : mCell, mgr (g ++ [x]) g' → cells + 1 ≤ R.cells ∧ slots + msz x ≤ R.slots ∧ slots + msz x + (msl g' - msl (g ++ [x])) = SF := by
    intro x h1
    have a1 := h1.1; have a2 := h1.2
    have a5 := hR.2.2.2
    rw [msl_app] at a2 ⊢
    simp only [List.length_append, List.length_cons, List.length_nil] at a1
    omega
  unfold mx at h
  split at h
  · rename_i i len hd0
    split at h
    · rename_i hlen
      unfold mstep at h
      split at h
      · rename_i ls' st' hp
        have hd : decode M.cc pc = .ok (i, mlen i) := by
          rcases hlen with h1 | h1
          · rw [← h1]; exact hd0
          · cases i <;> first | (cases h1; done) | (simp [mpure, mconst, mload, mstore, mbin, mbinl, mshl, mrest] at hp; done)
        refine ms_pure hx hb hd hp hl (fun k v hk hi kk => mr_ldc C hE hd hk hi kk) fun L' hl' => ?_
        exact ih _ _ _ _ _ _ _ _ _ h hl' ((mpure_len hp).trans hln) hR hS
      · split at h
        · rename_i off hpn
          have hd : decode M.cc pc = .ok (.goto off, 3) := by rcases hlen with h1 | h1 <;> first | (rw [hd0, h1]; rfl) | cases h1
          obtain ⟨tgt, ht, hk⟩ := mr_to h
          exact lv_goto hx hb hd ht (ih _ _ _ _ _ _ _ _ _ hk hl hln hR hS)
        · rename_i cd off hpn
          have hd : decode M.cc pc = .ok (.ifCond cd off, 3) := by rcases hlen with h1 | h1 <;> first | (rw [hd0, h1]; rfl) | cases h1
          split at h
          · obtain ⟨tgt, ht, k1, k2⟩ := mr_br h
            exact mr_if C hd ht (fun q => ih _ _ _ _ _ _ _ _ _ (k1 q) hl hln hR hS) (fun q => ih _ _ _ _ _ _ _ _ _ (k2 q) hl hln hR hS)
          · cases h
        · rename_i cd off hpn
          have hd : decode M.cc pc = .ok (.if_icmp cd off, 3) := by rcases hlen with h1 | h1 <;> first | (rw [hd0, h1]; rfl) | cases h1
          split at h
          · obtain ⟨tgt, ht, k1, k2⟩ := mr_br h
            exact mr_icmp C hd ht (fun q => ih _ _ _ _ _ _ _ _ _ (k1 q) hl hln hR hS) (fun q => ih _ _ _ _ _ _ _ _ _ (k2 q) hl hln hR hS)
          · cases h
        · rename_i off hpn
          have hd : decode M.cc pc = .ok (.ifnonnull off, 3) := by rcases hlen with h1 | h1 <;> first | (rw [hd0, h1]; rfl) | cases h1
          split at h
          · obtain ⟨tgt, ht, hk⟩ := mr_to h
            exact lv_ifnonnull hx hb hd ht (ih _ _ _ _ _ _ _ _ _ hk hl hln hR hS)
          · exact lv_ifnonnullN hx hb hd (ih _ _ _ _ _ _ _ _ _ h hl hln hR hS)
          · cases h
        · rename_i d lo hi offs hpn
          split at h
          · rename_i x st
            split at h
            · rename_i h1
              obtain ⟨tgt, ht, hk⟩ := mr_to h
              exact lv_tableOut hx hb hd0 h1 ht (ih _ _ _ _ _ _ _ _ _ hk hl hln hR hS)
            · rename_i h1
              split at h
              · rename_i off ho
                obtain ⟨tgt, ht, hk⟩ := mr_to h
                exact lv_tableIn hx hb hd0 (fun q => h1 (Or.inl q)) (fun q => h1 (Or.inr q)) ho ht (ih _ _ _ _ _ _ _ _ _ hk hl hln hR hS)
              · cases h
          · cases h
        · rename_i idx hpn
          have hd : decode M.cc pc = .ok (.getfield idx, 3) := by rcases hlen with h1 | h1 <;> first | (rw [hd0, h1]; rfl) | cases h1
          split at h
          · rename_i a st ci k hf
            split at h
            · rename_i v hv
              exact mr_getfield C hE.1 hR hd hf hv (ih _ _ _ _ _ _ _ _ _ h hl hln hR hS)
            · cases h
          · cases h
        · rename_i idx hpn
          have hd : decode M.cc pc = .ok (.putfield idx, 3) := by rcases hlen with h1 | h1 <;> first | (rw [hd0, h1]; rfl) | cases h1
          split at h
          · rename_i v a st ci k hf
            split at h
            · rename_i hfit
              split at h
              · rename_i g1 hv
                split at h
                · rename_i hfin
                  exact mr_putfield C hE.1 hR hd hf hfit hv hfin (fun H' locs' hR' => ih _ _ _ _ _ _ _ _ _ h hl hln hR' (by rw [mputf_sl hv]; exact hS))
                · cases h
              · cases h
            · cases h
          · cases h
        · rename_i idx hpn
          have hd : decode M.cc pc = .ok (.getstatic idx, 3) := by rcases hlen with h1 | h1 <;> first | (rw [hd0, h1]; rfl) | cases h1
          split at h
          · rename_i v hv
            unfold msT at hv
            split at hv
            · rename_i h9
              obtain ⟨h9, rfl⟩ := h9
              cases hv
              have hown := C.2.2.2.1
              rw [h9] at hown
              obtain ⟨-, -, -, ⟨-, e3, -⟩, -⟩ := hE
              exact va_gets (own := mcn 11) (ref := RX11) hx hb e3 hR.2.2.1 hown (C.2.2.2.2.1 _ (gt_in mw_words)) (fun _ h => h) hd (ih _ _ _ _ _ _ _ _ _ h hl hln hR hS)
            · cases hv
          · cases h
        · have hd : decode M.cc pc = .ok (.arraylength, 1) := by rcases hlen with h1 | h1 <;> first | (rw [hd0, h1]; rfl) | cases h1
          split at h
          · rename_i v st hpn
            split at h
            · rename_i k hv
              cases v with
              | ref a => exact mr_alen C hE.1 hR hd hv (ih _ _ _ _ _ _ _ _ _ h hl hln hR hS)
              | retAddr j =>
                have kk := ih _ _ _ _ _ _ _ _ _ h hl hln hR hS
                obtain ⟨-, -, -, ⟨⟨e1, e2⟩, e3, e4⟩, -⟩ := hE
                match j, hv with
                | 0, hv =>
                  cases hv
                  exact va_slen (A := fun q => base ≤ q) hx hb e1 (Nat.lt_of_lt_of_le e2 hbs) (Nat.not_le.mpr e2) hR.2.2.1 hd kk
                | 1, hv =>
                  cases hv
                  exact va_tlen hx hb e4 hR.2.2.1 rfl hd kk
                | j + 2, hv => cases hv
              | int x => cases hv
              | long x => cases hv
              | float x => cases hv
              | double x => cases hv
              | null => cases hv
            · cases h
          · cases h
        · rename_i idx hpn
          have hd : decode M.cc pc = .ok (.new idx, 3) := by rcases hlen with h1 | h1 <;> first | (rw [hd0, h1]; rfl) | cases h1
          split at h
          · cases h
          · rename_i ci hn
            split at h
            · rename_i hlt
              have h12 : ci < 12 := mn12 _ _ _ hn hlt
              have hg1 := hgk _ _ _ _ _ _ _ h
              obtain ⟨r1, r2, r3⟩ := room _ hg1
              have e9 : msz (mO ci (mdf ci)) = mnum ci := by simp only [msz]; rw [if_pos h12]
              rw [e9] at r2 r3
              exact mr_new C hE.1 hbs hR hd hn h12 r1 r2 (fun H' hR' => ih _ _ _ _ _ _ _ _ _ h hl hln hR' r3)
            · rename_i hge
              split at h
              · rename_i ic hd3 hd4 hd7
                split at h
                · rename_i hth
                  obtain ⟨t1, t2, t3, t4⟩ := hth
                  cases h
                  have hc : ∃ k, ci = 100 + k := ⟨ci - 100, by omega⟩
                  obtain ⟨k, rfl⟩ := hc
                  have e1 : 100 + k - 100 = k := by omega
                  have e2 : 100 + k - 88 = 12 + k := by omega
                  rw [e1, e2] at hEnd
                  rw [e2] at hS
                  refine hEnd.2.1 k rfl pc idx ic H locs L st cells slots g hd hd3 hd4 hd7 hn t1 t2 t3 t4 hL rfl hR ?_
                  rw [msl_app] at hS
                  have e9 : msz (mO (12 + k) []) = 6 := by simp only [msz]; rw [if_neg (by omega)]
                  omega
                · cases h
              · cases h
        · rename_i idx hpn
          have hd : decode M.cc pc = .ok (.anewarray idx, 3) := by rcases hlen with h1 | h1 <;> first | (rw [hd0, h1]; rfl) | cases h1
          split at h
          · rename_i k st hq
            split at h
            · cases h
            · rename_i h1
              have hg1 := hgk _ _ _ _ _ _ _ h
              obtain ⟨r1, r2, r3⟩ := room _ hg1
              exact mr_newq C hE.1 hE.2.1 hbs hR hd hq h1 r1 r2 (fun H' hR' => ih _ _ _ _ _ _ _ _ _ h hl hln hR' r3)
          · cases h
        · rename_i idx hpn
          have hd : decode M.cc pc = .ok (.invokevirtual idx, 3) := by rcases hlen with h1 | h1 <;> first | (rw [hd0, h1]; rfl) | cases h1
          exact mr_mcall C hE hbs hRf hRl hSF hCF hEnd hl hln hIH ih hR hS (Or.inl ⟨rfl, rfl⟩) hd h
        · rename_i idx hpn
          have hd : decode M.cc pc = .ok (.invokespecial idx, 3) := by rcases hlen with h1 | h1 <;> first | (rw [hd0, h1]; rfl) | cases h1
          exact mr_mcall C hE hbs hRf hRl hSF hCF hEnd hl hln hIH ih hR hS (Or.inr (Or.inl ⟨rfl, rfl⟩)) hd h
        · rename_i idx hpn
          have hd : decode M.cc pc = .ok (.invokestatic idx, 3) := by rcases hlen with h1 | h1 <;> first | (rw [hd0, h1]; rfl) | cases h1
          exact mr_mcall C hE hbs hRf hRl hSF hCF hEnd hl hln hIH ih hR hS (Or.inr (Or.inr ⟨rfl, rfl⟩)) hd h
        · have hd : decode M.cc pc = .ok (.ireturn, 1) := by rcases hlen with h1 | h1 <;> first | (rw [hd0, h1]; rfl) | cases h1
          split at h
          · rename_i v hpn
            split at h
            · rename_i hv
              cases h
              have e1 : slots = SF := by omega
              rw [e1]
              exact hEnd.1 (some v) rfl pc .ireturn H locs L cells hd (by simp [mrt, hv.1]) hv.2 hR
            · cases h
          · cases h
        · have hd : decode M.cc pc = .ok (.areturn, 1) := by rcases hlen with h1 | h1 <;> first | (rw [hd0, h1]; rfl) | cases h1
          split at h
          · rename_i v hpn
            split at h
            · rename_i hv
              cases h
              have e1 : slots = SF := by omega
              rw [e1]
              exact hEnd.1 (some v) rfl pc .areturn H locs L cells hd (by simp [mrt, hv.1]) hv.2 hR
            · cases h
          · cases h
        · have hd : decode M.cc pc = .ok (.return_, 1) := by rcases hlen with h1 | h1 <;> first | (rw [hd0, h1]; rfl) | cases h1
          split at h
          · rename_i hv
            obtain ⟨rfl, hv⟩ := hv
            cases h
            have e1 : slots = SF := by omega
            rw [e1]
            exact hEnd.1 none rfl pc .return_ H locs L cells hd rfl hv hR
          · cases h
        · have hd : decode M.cc pc = .ok (.iaload, 1) := by rcases hlen with h1 | h1 <;> first | (rw [hd0, h1]; rfl) | cases h1
          unfold mldA at h
          split at h
          · rename_i j v st hpn
            split at h
            · rename_i x hv
              have kk := ih _ _ _ _ _ _ _ _ _ h hl hln hR hS
              cases v with
              | ref a => exact mr_iald C hE.1 hR hd hv kk
              | retAddr k => exact mr_sld C hE hbs hR hd hv kk
              | int y => cases hv
              | long y => cases hv
              | float y => cases hv
              | double y => cases hv
              | null => cases hv
            · cases h
          · cases h
        · have hd : decode M.cc pc = .ok (.baload, 1) := by rcases hlen with h1 | h1 <;> first | (rw [hd0, h1]; rfl) | cases h1
          unfold mldA at h
          split at h
          · rename_i j v st hpn
            split at h
            · rename_i x hv
              have kk := ih _ _ _ _ _ _ _ _ _ h hl hln hR hS
              cases v with
              | ref a => exact mr_iald C hE.1 hR hd hv kk
              | retAddr k => exact mr_sld C hE hbs hR hd hv kk
              | int y => cases hv
              | long y => cases hv
              | float y => cases hv
              | double y => cases hv
              | null => cases hv
            · cases h
          · cases h
        · have hd : decode M.cc pc = .ok (.laload, 1) := by rcases hlen with h1 | h1 <;> first | (rw [hd0, h1]; rfl) | cases h1
          unfold mldA at h
          split at h
          · rename_i j v st hpn
            split at h
            · rename_i x hv
              have kk := ih _ _ _ _ _ _ _ _ _ h hl hln hR hS
              cases v with
              | ref a => exact mr_iald C hE.1 hR hd hv kk
              | retAddr k => exact mr_sld C hE hbs hR hd hv kk
              | int y => cases hv
              | long y => cases hv
              | float y => cases hv
              | double y => cases hv
              | null => cases hv
            · cases h
          · cases h
        · have hd : decode M.cc pc = .ok (.aaload, 1) := by rcases hlen with h1 | h1 <;> first | (rw [hd0, h1]; rfl) | cases h1
          unfold mldA at h
          split at h
          · rename_i j v st hpn
            split at h
            · rename_i x hv
              have kk := ih _ _ _ _ _ _ _ _ _ h hl hln hR hS
              cases v with
              | ref a => exact mr_iald C hE.1 hR hd hv kk
              | retAddr k => exact mr_sld C hE hbs hR hd hv kk
              | int y => cases hv
              | long y => cases hv
              | float y => cases hv
              | double y => cases hv
              | null => cases hv
            · cases h
          · cases h
        · have hd : decode M.cc pc = .ok (.iastore, 1) := by rcases hlen with h1 | h1 <;> first | (rw [hd0, h1]; rfl) | cases h1
          unfold mstA at h
          split at h
          · split at h
            · rename_i g1 hv
              exact mr_iast C hE.1 hR hd hv (fun H' locs' hR' => ih _ _ _ _ _ _ _ _ _ h hl hln hR' (by rw [mast_sl hv]; exact hS))
            · cases h
          · cases h
        · have hd : decode M.cc pc = .ok (.bastore, 1) := by rcases hlen with h1 | h1 <;> first | (rw [hd0, h1]; rfl) | cases h1
          unfold mstA at h
          split at h
          · split at h
            · rename_i g1 hv
              exact mr_iast C hE.1 hR hd hv (fun H' locs' hR' => ih _ _ _ _ _ _ _ _ _ h hl hln hR' (by rw [mast_sl hv]; exact hS))
            · cases h
          · cases h
        · have hd : decode M.cc pc = .ok (.lastore, 1) := by rcases hlen with h1 | h1 <;> first | (rw [hd0, h1]; rfl) | cases h1
          unfold mstA at h
          split at h
          · split at h
            · rename_i g1 hv
              exact mr_iast C hE.1 hR hd hv (fun H' locs' hR' => ih _ _ _ _ _ _ _ _ _ h hl hln hR' (by rw [mast_sl hv]; exact hS))
            · cases h
          · cases h
        · have hd : decode M.cc pc = .ok (.aastore, 1) := by rcases hlen with h1 | h1 <;> first | (rw [hd0, h1]; rfl) | cases h1
          unfold mstA at h
          split at h
          · split at h
            · rename_i g1 hv
              exact mr_iast C hE.1 hR hd hv (fun H' locs' hR' => ih _ _ _ _ _ _ _ _ _ h hl hln hR' (by rw [mast_sl hv]; exact hS))
            · cases h
          · cases h
        · rename_i t hpn
          have hd : decode M.cc pc = .ok (.newarray t, 2) := by rcases hlen with h1 | h1 <;> first | (rw [hd0, h1]; rfl) | cases h1
          split at h
          · split at h
            · rename_i x hv
              have hg1 := hgk _ _ _ _ _ _ _ h
              obtain ⟨r1, r2, r3⟩ := room _ hg1
              exact mr_newa C hE.1 hbs hR hd hv r1 r2 (fun H' hR' => ih _ _ _ _ _ _ _ _ _ h hl hln hR' r3)
            · cases h
          · cases h
        · cases h
    · cases h
  · cases h
end
