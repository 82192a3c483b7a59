/-! ===== the time stands while pages are scanned ===== -/
theorem tm_sv (A : aS) {j : Nat} {i : Int} (x : Int) (h : j ≠ 6 ∨ i ≠ 2) : (A.sv j i x).v 6 2 = A.v 6 2 := by
  show up A.v j i x 6 2 = A.v 6 2
  unfold up
  exact if_neg (fun q => by rcases h with h | h; exact h q.1.symm; exact h q.2.symm)
theorem tm_leaveK (A : aS) (f : Int) : (leaveK A f).v 6 2 = A.v 6 2 := by
  unfold leaveK
  split
  · rfl
  · split <;> rfl
theorem tm_own (P : aP) (A : aS) (p : Int) : (ownA P A p).2.v 6 2 = A.v 6 2 := by
  unfold ownA
  split
  · rfl
  · split
    · exact tm_leaveK A _
    · split
      · rfl
      · split
        · exact tm_sv A _ (.inl (by decide))
        · exact (tm_sv _ _ (.inr (by decide))).trans (tm_sv A _ (.inl (by decide)))
theorem tm_put (P : aP) (A : aS) (p x : Int) : (putA P A p x).2.v 6 2 = A.v 6 2 := by
  unfold putA
  split
  · exact tm_own P A p
  · exact (tm_sv _ _ (.inl (by decide))).trans (tm_own P A p)
theorem tm_drop (A : aS) (p : Int) : (dropA A p).2.v 6 2 = A.v 6 2 := by
  unfold dropA
  split
  · rfl
  · split
    · exact tm_leaveK _ _
    · rfl
theorem tm_adv : ∀ (n : Nat) (p : Int) (A : aS), (advAll n p A).2.v 6 2 = A.v 6 2
  | 0, _, _ => rfl
  | n + 1, p, A => by
    unfold advAll
    split
    · exact (tm_adv n (p + 1) _).trans (tm_sv A _ (.inl (by decide)))
    · exact tm_adv n (p + 1) A
theorem tm_off (A : aS) (p : Int) : (offA A p).v 6 2 = A.v 6 2 := tm_sv (A.stw (delT p A.tw)) _ (.inl (by decide))
theorem tm_noMore (P : aP) : ∀ (n : Nat) (p : Int) (A : aS), (noMore P n p A).2.v 6 2 = A.v 6 2
  | 0, _, _ => rfl
  | n + 1, p, A => by
    unfold noMore
    split
    · exact tm_noMore P n (p + 1) A
    · split
      · split
        · exact tm_own P A p
        · exact (tm_noMore P n (p + 1) _).trans ((tm_off _ p).trans (tm_own P A p))
      · exact (tm_noMore P n (p + 1) _).trans (tm_off A p)
theorem tm_wnk (A : aS) (o : Int) : (wnk A o).v 6 2 = A.v 6 2 := (tm_sv _ _ (.inl (by decide))).trans (tm_sv (A.stw (delT o A.tw)) _ (.inl (by decide)))
theorem tm_pair (A : aS) (ρ x p o : Int) : (pairA A ρ x p o).v 6 2 = A.v 6 2 := by
  unfold pairA
  split <;> exact tm_wnk A o
theorem tm_look (P : aP) (A : aS) (p : Int) : (lookA P A p).2.v 6 2 = A.v 6 2 := by
  unfold lookA
  split
  · exact tm_sv A _ (.inr (by decide))
  · split
    · split
      · rfl
      · split
        · exact tm_sv A _ (.inr (by decide))
        · exact (tm_pair _ _ _ _ _).trans (tm_sv A _ (.inr (by decide)))
    · exact (tm_sv _ _ (.inl (by decide))).trans (tm_sv A _ (.inr (by decide)))
theorem tm_bef (P : aP) (A : aS) (p : Int) : (befA P A p).2.v 6 2 = A.v 6 2 := by
  unfold befA
  split
  · exact tm_sv A _ (.inl (by decide))
  · split
    · rfl
    · split
      · exact tm_sv A _ (.inl (by decide))
      · split
        · exact tm_sv (unlie A p) _ (.inl (by decide))
        · exact tm_look P A p
theorem tm_mid (A : aS) (p w : Int) : (midA A p w).v 6 2 = A.v 6 2 := by
  unfold midA
  split
  · exact tm_sv A _ (.inl (by decide))
  · exact (tm_sv _ _ (.inl (by decide))).trans ((tm_sv _ _ (.inl (by decide))).trans (tm_sv A _ (.inl (by decide))))
theorem tm_scanT (A : aS) (p w : Int) : (scanT A p w).2.v 6 2 = A.v 6 2 := by
  unfold scanT
  split
  · exact (tm_sv _ _ (.inr (by decide))).trans ((tm_sv _ _ (.inr (by decide))).trans (tm_mid A p w))
  · split
    · exact (tm_sv _ _ (.inr (by decide))).trans ((tm_sv _ _ (.inr (by decide))).trans (tm_mid A p w))
    · split
      · exact (tm_sv _ _ (.inr (by decide))).trans ((tm_sv _ _ (.inr (by decide))).trans (tm_mid A p w))
      · exact tm_mid A p w
theorem tm_setup (A : aS) (p : Int) : (setupA A p).v 6 2 = A.v 6 2 := (tm_sv _ _ (.inr (by decide))).trans ((tm_sv _ _ (.inr (by decide))).trans (tm_sv A _ (.inr (by decide))))
theorem tm_scanP (P : aP) (A : aS) (p : Int) : (scanP P A p).2.v 6 2 = A.v 6 2 := (tm_scanT _ _ _).trans ((tm_bef P _ _).trans (tm_setup A p))
theorem tm_end (P : aP) (A : aS) : (endA P A).v 6 2 = A.v 6 2 := (tm_sv _ _ (.inr (by decide))).trans ((tm_sv _ _ (.inr (by decide))).trans ((tm_sv _ _ (.inr (by decide))).trans ((tm_sv _ _ (.inr (by decide))).trans (tm_sv (A.stw (fun _ => .leaf ())) _ (.inr (by decide))))))
theorem tm_scan (P : aP) (A : aS) : (scanA P A).2.v 6 2 = A.v 6 2 := by
  unfold scanA
  split
  · exact tm_scanP P A _
  · split
    · rfl
    · exact (tm_scanP P _ _).trans (tm_end P A)
theorem tm_scanN (P : aP) : ∀ (n : Nat) (A : aS), (scanN P n A).2.v 6 2 = A.v 6 2
  | 0, _ => rfl
  | n + 1, A => (tm_scanN P n _).trans (tm_scan P A)
theorem tm_tock (P : aP) (A : aS) : (tockA P A).2.v 6 2 = A.v 6 2 + 1 := by
  show up (scanN P (A.v 6 0).toNat A).2.v 6 2 ((scanN P (A.v 6 0).toNat A).2.v 6 2 + 1) 6 2 = _
  rw [up_eq, tm_scanN]
theorem tm_tick (P : aP) : ∀ (n : Nat) (A : aS), (tickA P n A).2.v 6 2 = A.v 6 2 + n
  | 0, A => by show A.v 6 2 = _; omega
  | n + 1, A => by
    show (tickA P n (tockA P A).2).2.v 6 2 = _
    rw [tm_tick P n, tm_tock]; omega
/-! ===== the class: scan, ticks, rate, undo ===== -/
section
variable {sc : Nat × (Nat → Int32)} {SH : List mCell} {F : Nat → Nat → Option Nat} {S : mStore} {e : Nat} {W : aW}
theorem scan_cl (h : clR SH F e S W) (hW : wfW W) {n : Int} (hn : rg n) : CL sc MX10_scan [some (.ref 0), some (.int (I n))] SH F e S (scanF W n).1 (scanF W n).2 := by
  obtain ⟨g0, g1, g2, hp, hs⟩ := clS h
  have hP := hW.1
  unfold scanF
  by_cases c : 1 ≤ n ∧ n ≤ 100
  · rw [if_neg (fun q => q c)]
    have hr := scanN_rg W.1 n.toNat W.2.1.1
    refine CL_act h hW ⟨by omega, by omega⟩ (fun q => by omega) (fun SH1 F1 S1 k1 f1 => ?_)
    obtain ⟨_, m1, _, mp, ms⟩ := clS k1
    obtain ⟨S2, q2, r2, f2⟩ := scanMany_ok (sc := sc) (u1 := none) (u2 := none) m1 (by decide) mp hP ms hW.2.1.1 (n := n.toNat) (by omega)
    rw [show ((n.toNat : Nat) : Int) = n by omega] at q2
    refine ⟨S2, r2, fun j hj => f2 j (by omega), fun v S3 sg ga gd => qX10_scan_0 g0 ?_⟩
    rw [if_neg (by rw [I_lt hn ⟨by decide, by decide⟩]; omega), if_pos (by rw [I_le hn ⟨by decide, by decide⟩]; omega)]
    exact ⟨_, _, sg, ga, _, _, q2, _, _, gd, rfl⟩
  · rw [if_pos c]
    refine CL_ref h (fun S' g => qX10_scan_0 g0 ?_)
    by_cases c4 : n < 1
    · rw [if_pos (by rw [I_lt hn ⟨by decide, by decide⟩]; omega)]; exact ⟨_, _, g, rfl⟩
    · rw [if_neg (by rw [I_lt hn ⟨by decide, by decide⟩]; omega), if_neg (by rw [I_le hn ⟨by decide, by decide⟩]; omega)]; exact ⟨_, _, g, rfl⟩
theorem ticks_cl (h : clR SH F e S W) (hW : wfW W) {n : Int} (hn : rg n) : CL sc MX10_ticks [some (.ref 0), some (.int (I n))] SH F e S (ticksF W n).1 (ticksF W n).2 := by
  obtain ⟨g0, g1, g2, hp, hs⟩ := clS h
  have hP := hW.1
  have hT := hW.2.2.1.1
  unfold okT at hT
  unfold ticksF
  by_cases c : 1 ≤ n ∧ n ≤ 20
  · rw [if_neg (fun q => q c)]
    have qt := time_ok (sc := sc) g1 hs (n := n)
    by_cases c2 : 9999 < W.2.1.1.v 6 2 + n
    · rw [if_pos c2]
      rw [if_pos (by rw [I_lt ⟨by decide, by decide⟩ ⟨by omega, by omega⟩]; exact c2)] at qt
      refine CL_ref h (fun S' g => qX10_ticks_0 g0 ?_)
      rw [if_neg (by rw [I_lt hn ⟨by decide, by decide⟩]; omega), if_neg (by rw [I_lt ⟨by decide, by decide⟩ hn]; omega)]
      refine ⟨_, _, qt, ?_⟩
      rw [if_pos rfl]
      exact ⟨_, _, g, rfl⟩
    · rw [if_neg c2]
      rw [if_neg (by rw [I_lt ⟨by decide, by decide⟩ ⟨by omega, by omega⟩]; exact c2)] at qt
      have et := tm_tick W.1 n.toNat W.2.1.1
      refine CL_act h hW ⟨by dsimp only; omega, by dsimp only; omega⟩ (fun q => by dsimp only at q; omega) (fun SH1 F1 S1 k1 f1 => ?_)
      obtain ⟨_, m1, _, mp, ms⟩ := clS k1
      obtain ⟨S2, q2, r2, f2⟩ := tick_ok (sc := sc) (u1 := none) (u2 := none) (u3 := none) (u4 := none) m1 (by decide) mp hP ms hW.2.1.1 (n := n.toNat) (by omega)
      rw [show ((n.toNat : Nat) : Int) = n by omega] at q2
      refine ⟨S2, r2, fun j hj => f2 j (by omega), fun v S3 sg ga gd => qX10_ticks_0 g0 ?_⟩
      rw [if_neg (by rw [I_lt hn ⟨by decide, by decide⟩]; omega), if_neg (by rw [I_lt ⟨by decide, by decide⟩ hn]; omega)]
      refine ⟨_, _, qt, ?_⟩
      rw [if_neg (by decide)]
      refine ⟨_, _, sg, ga, _, _, q2, by decide, _, _, ?_, rfl⟩
      rw [show S2 (17 + 19) 2 = _ from r2.2.2.2.2.2.2.2.2.2.2 2 (by decide) (by decide)]
      exact gd
  · rw [if_pos c]
    refine CL_ref h (fun S' g => qX10_ticks_0 g0 ?_)
    by_cases c4 : n < 1
    · rw [if_pos (by rw [I_lt hn ⟨by decide, by decide⟩]; omega)]; exact ⟨_, _, g, rfl⟩
    · rw [if_neg (by rw [I_lt hn ⟨by decide, by decide⟩]; omega), if_pos (by rw [I_lt ⟨by decide, by decide⟩ hn]; omega)]; exact ⟨_, _, g, rfl⟩
theorem rate_cl (h : clR SH F e S W) (hW : wfW W) {n : Int} (hn : rg n) {u : Option Value} : CL sc MX10_rate [some (.ref 0), some (.int (I n)), u] SH F e S (rateF W n).1 (rateF W n).2 := by
  obtain ⟨g0, g1, g2, hp, hs⟩ := clS h
  have hP := hW.1
  have hP2 := hP.2.2.1
  have hA := hW.2.1.1
  have hr0 := hA.2.2.2.2.2.2.2.2.2.2.2.2.1
  have e2 : S 1 2 = W.1 0 2 := hp.1 2 (by omega) (by omega)
  have e3 : S 1 3 = W.1 0 3 := hp.1 3 (by omega) (by omega)
  have e0 : S (17 + 19) 0 = W.2.1.1.v 6 0 := hs.2.2.2.2.2.2.2.2.2.2 0 (by decide) (by decide)
  unfold rateF
  by_cases c : W.1 0 2 ≤ n ∧ n ≤ W.1 0 3
  · rw [if_neg (fun q => q c)]
    by_cases c2 : n = W.2.1.1.v 6 0
    · rw [if_pos c2]
      refine CL_ref h (fun S' g => qX10_rate_0 g0 ⟨by decide, ?_⟩)
      rw [e2, e3, e0, if_neg (by rw [I_lt hn ⟨by omega, by omega⟩]; omega), if_neg (by rw [I_lt ⟨by omega, by omega⟩ hn]; omega), if_pos (by rw [c2])]
      exact ⟨_, _, g, rfl⟩
    · rw [if_neg c2]
      refine CL_act h hW ⟨by dsimp only; omega, by dsimp only; omega⟩ (fun q => by dsimp only at q; omega) (fun SH1 F1 S1 k1 f1 => ?_)
      obtain ⟨_, m1, _, mp, ms⟩ := clS k1
      refine ⟨up S1 (17 + 19) 0 n, stateR_v6 ms 0 n, fun j hj => up_ne (by omega), fun v S3 sg ga gd => qX10_rate_0 g0 ⟨by decide, ?_⟩⟩
      rw [e2, e3, e0, if_neg (by rw [I_lt hn ⟨by omega, by omega⟩]; omega), if_neg (by rw [I_lt ⟨by omega, by omega⟩ hn]; omega), if_neg (by rw [I_eq hn ⟨by omega, by omega⟩]; exact c2)]
      exact ⟨_, _, sg, ga, by decide, _, _, gd, rfl⟩
  · rw [if_pos c]
    refine CL_ref h (fun S' g => qX10_rate_0 g0 ⟨by decide, ?_⟩)
    rw [e2, e3, e0]
    by_cases c4 : n < W.1 0 2
    · rw [if_pos (by rw [I_lt hn ⟨by omega, by omega⟩]; omega)]; exact ⟨_, _, g, rfl⟩
    · rw [if_neg (by rw [I_lt hn ⟨by omega, by omega⟩]; omega), if_pos (by rw [I_lt ⟨by omega, by omega⟩ hn]; omega)]; exact ⟨_, _, g, rfl⟩
theorem undo_cl (h : clR SH F e S W) (hW : wfW W) : CL sc MX10_undo [some (.ref 0)] SH F e S (undoF W).1 (undoF W).2 := by
  obtain ⟨g0, g1, g2, hp, hs⟩ := clS h
  obtain ⟨r1, r2, r3, r4, r5, r6, r7⟩ := h.2.2.1
  have hH := hW.2.1.2.2.1
  have hl := h.1.2.2.2.2.1
  have e3 : S 37 3 = W.2.1.2.1.length := r3
  have e2 : 0 ≤ S 37 2 ∧ S 37 2 < 41 := r2
  unfold undoF
  cases hq : W.2.1.2.1.getLast? with
  | none =>
    have hn : W.2.1.2.1 = [] := List.getLast?_eq_none_iff.mp hq
    refine CL_val h (qX10_undo_0 g0 ⟨_, _, _, g0, back_no h.1 (.inl ⟨rfl, rfl, rfl⟩) (by rw [e3, hn]; rfl), ?_⟩)
    rw [if_pos rfl]
  | some A =>
    have hne : W.2.1.2.1 ≠ [] := fun q => by rw [q] at hq; cases hq
    have hpos : 0 < W.2.1.2.1.length := List.length_pos_iff.mpr hne
    have hk : W.2.1.2.1[W.2.1.2.1.length - 1]? = some A := by rw [← List.getLast?_eq_getElem?]; exact hq
    have hm := List.mem_of_getElem? hk
    obtain ⟨x, hx, hr⟩ := r4 _ A hk
    have ex : F 0 ((S 37 2 + (S 37 3 - 1)) % 41).toNat = some x := by
      rw [e3, show ((W.2.1.2.1.length : Int) - 1) = ((W.2.1.2.1.length - 1 : Nat) : Int) by omega]; exact hx
    obtain ⟨SH1, F1, S1, g1', k1, t1, hF, f1⟩ := back_ok (sc := sc) h.1 (.inl ⟨rfl, rfl, rfl⟩) e2 (by omega) ex hr (hW.2.1.2.1 A hm)
    have f2 : ∀ j, j < SH.length → j < 17 ∨ 38 ≤ j → S1 j = S j := fun j hj h2 => by rw [f1 j hj (by omega), up_ne (by omega)]
    have e37 : S1 37 = up S 37 3 (S 37 3 - 1) 37 := f1 37 (by omega) (by omega)
    have e372 : S1 37 2 = S 37 2 := by rw [e37, up_at, if_neg (by decide)]
    have e373 : S1 37 3 = W.2.1.2.1.length - 1 := by rw [e37, up_eq, e3]
    have hh : ∀ c, c < 2 → ∀ (o : Int) (L : List aS), histR S F c o L → histR S1 F1 c o L := fun c hc o L q => hist_same q hF h.1 hc (fun j h1 h2 => f2 j h2 (by omega))
    refine ⟨SH1, F1, e, S1, qX10_undo_0 g0 ⟨_, _, _, k1.1.1, g1', ?_⟩, ?_, Nat.le_succ _, fun j h1 h2 => f2 j (by omega) (by omega)⟩
    · rw [if_neg (by decide), e373]; rfl
    · obtain ⟨h1, h2, h3, h4, h5, h6, h7⟩ := h
      refine ⟨k1, planR_far h2 (fun j _ _ => f2 j (by omega) (by omega)), ⟨t1, ?_, ?_, ?_, ?_, ?_, ?_⟩, ⟨fun hn => by rw [f2 0 (by omega) (by omega)]; exact h4.1 hn, fun B hB => ⟨by rw [f2 0 (by omega) (by omega)]; exact (h4.2 B hB).1, ?_⟩⟩, ?_, ?_, ?_⟩
      · show 0 ≤ S1 37 2 ∧ S1 37 2 < 41
        rw [e372]; exact e2
      · show S1 37 3 = (W.2.1.2.1.dropLast.length : Int)
        rw [e373, List.length_dropLast]; omega
      · show histR S1 F1 0 (S1 37 2) W.2.1.2.1.dropLast
        rw [e372]
        refine hh 0 (by decide) _ _ (fun k B hkB => r4 k B ?_)
        have : k < W.2.1.2.1.dropLast.length := by
          rcases Nat.lt_or_ge k W.2.1.2.1.dropLast.length with q | q
          · exact q
          · rw [List.getElem?_eq_none q] at hkB; cases hkB
        rw [List.dropLast_eq_take, List.getElem?_take_of_lt (by rw [List.length_dropLast] at this; exact this)] at hkB
        exact hkB
      · show S1 13 5 = _
        rw [f2 13 (by omega) (by omega)]; exact r5
      · show ∀ i, 0 ≤ i → i < W.2.1.2.2.1 → S1 (13 + 1) i = _ ∧ S1 (13 + 2) i = _
        rw [f2 (13 + 1) (by omega) (by omega), f2 (13 + 2) (by omega) (by omega)]; exact r6
      · show ∀ i, 0 ≤ i → i < 3 → S1 (13 + 3) i = _
        rw [f2 (13 + 3) (by omega) (by omega)]; exact r7
      · have q := (h4.2 B hB).2
        exact bkR_far h1 (by decide) q (by decide) hF (fun j _ _ => f2 j (by omega) (by omega)) (hh 1 (by decide) _ _ q.2.2.2.1)
      · show ∀ i, 0 ≤ i → i < W.2.2.2 1 0 → S1 12 i = _
        rw [f2 12 (by omega) (by omega)]; exact h5
      · show S1 11 1 = _
        rw [f2 11 (by omega) (by omega)]; exact h6
      · show S1 0 12 = _
        rw [f2 0 (by omega) (by omega)]; exact h7
end
