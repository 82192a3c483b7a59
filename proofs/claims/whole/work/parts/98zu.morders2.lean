/-! ===== orders of the reference: opening the text ===== -/
section
variable {sc : Nat × (Nat → Int32)} {SH : List mCell} {S S' : mStore} {N : Int} {W : aW} {A : aS}
theorem reads_no (h0 : sMod SH) {n f : Int} (hf : S 90 25 = f) (hr : rg n) (hf2 : 0 ≤ f ∧ f ≤ 700) (hn : ¬(0 ≤ n ∧ n ≤ f)) : G sc MX11_reads 0 [some (.ref 90), some (.int (I n))] [] SH S (rI 0 SH (up (up S 90 4 0) 90 4 1)) := by
  have ht : up S 90 4 0 90 4 = 0 := up_eq _ _ _ _
  have h25 : up S 90 4 0 90 25 = f := by rw [up_at, if_neg (by decide)]; exact hf
  refine qX11_reads_0 h0 ?_
  by_cases c : n < 0
  · rw [if_pos (by rw [I_lt hr ⟨by decide, by decide⟩]; exact c)]
    refine ⟨_, _, right_no h0 ht (.inl rfl), ?_⟩
    rw [if_pos rfl]
    exact ⟨.inl rfl, rfl⟩
  · rw [if_neg (by rw [I_lt hr ⟨by decide, by decide⟩]; exact c), h25, if_pos (by rw [I_lt ⟨by omega, by omega⟩ hr]; omega)]
    refine ⟨_, _, right_no h0 ht (.inl rfl), ?_⟩
    rw [if_pos rfl]
    exact ⟨.inl rfl, rfl⟩
theorem reads_yes (h0 : sMod SH) {b : Int → Int} {n f : Int} (hb : ∀ i, 0 ≤ b i ∧ b i < 256) (hf : S 90 25 = f) (hn : 0 ≤ n ∧ n ≤ f) (hf2 : f ≤ 700) (tap : tapM S b n) : ∃ S', G sc MX11_reads 0 [some (.ref 90), some (.int (I n))] [] SH S (rI 1 SH S') ∧ mdT S' b n (0, 0, -1) ∧ S' 90 4 = 0 ∧ S' 90 25 = 0 ∧ (∀ f, (5 ≤ f ∧ f < 25) ∨ 40 ≤ f → S' 90 f = S 90 f) ∧ (∀ j, j ≠ 90 → S' j = S j) := by
  have ht : up S 90 4 0 90 4 = 0 := up_eq _ _ _ _
  have h25 : up S 90 4 0 90 25 = f := by rw [up_at, if_neg (by decide)]; exact hf
  obtain ⟨S2, g2, t2, f2, j2⟩ := go_ok (sc := sc) (u := none) h0 (b := b) (n := n) (i := 0) (S := up (up (up (up (up (up S 90 4 0) 90 25 0) 90 35 n) 90 33 0) 90 39 0) 90 26 (-1)) ⟨hn.1, by omega⟩ hb (by rw [up_at, if_neg (by decide), up_at, if_neg (by decide), up_at, if_neg (by decide), up_eq]) (by rw [up_at, if_neg (by decide), up_at, if_neg (by decide), up_eq]) ⟨Int.le_refl _, hn.1⟩ (fun i a c => by rw [up_ne (by decide), up_ne (by decide), up_ne (by decide), up_ne (by decide), up_ne (by decide), up_ne (by decide)]; exact tap i a c)
  refine ⟨S2, qX11_reads_0 h0 ?_, ⟨?_, ?_, ?_, ?_, ⟨⟨Int.le_refl _, hn.1⟩, ⟨by decide, by decide⟩, by decide, by decide⟩, fun _ => t2⟩, ?_, ?_, ?_, ?_⟩
  · rw [if_neg (by rw [I_lt ⟨by omega, by omega⟩ ⟨by decide, by decide⟩]; omega), h25, if_neg (by rw [I_lt ⟨by omega, by omega⟩ ⟨by omega, by omega⟩]; omega)]
    refine ⟨_, _, right_yes h0 ht, ?_⟩
    rw [if_neg (by decide)]
    exact ⟨_, qX11_opens_0 h0 ⟨_, g2, rfl⟩, .inr rfl, rfl⟩
  · rw [f2 35 (by decide) (by decide) (by decide) (by decide) (by decide), up_at, if_neg (by decide), up_at, if_neg (by decide), up_at, if_neg (by decide), up_eq]
  · intro i a c
    rw [j2 99 (by decide), up_ne (by decide), up_ne (by decide), up_ne (by decide), up_ne (by decide), up_ne (by decide), up_ne (by decide)]; exact tap i a c
  · rw [f2 39 (by decide) (by decide) (by decide) (by decide) (by decide), up_at, if_neg (by decide), up_eq]
  · rw [f2 26 (by decide) (by decide) (by decide) (by decide) (by decide), up_eq]
  · rw [f2 4 (by decide) (by decide) (by decide) (by decide) (by decide), up_at, if_neg (by decide), up_at, if_neg (by decide), up_at, if_neg (by decide), up_at, if_neg (by decide), up_at, if_neg (by decide), up_eq]
  · rw [f2 25 (by decide) (by decide) (by decide) (by decide) (by decide), up_at, if_neg (by decide), up_at, if_neg (by decide), up_at, if_neg (by decide), up_at, if_neg (by decide), up_eq]
  · intro f hf'
    rw [f2 f (by omega) (by omega) (by omega) (by omega) (by omega), up_at, if_neg (by omega), up_at, if_neg (by omega), up_at, if_neg (by omega), up_at, if_neg (by omega), up_at, if_neg (by omega), up_at, if_neg (by omega)]
  · intro j hj
    rw [j2 j hj, up_ne hj, up_ne hj, up_ne hj, up_ne hj, up_ne hj, up_ne hj]
theorem orders_md (h0 : sMod SH) (hW : wfW W) (h : mdR S N W) (hN : 0 ≤ N ∧ N < 1000000000) {n : Int} (hr : rg n) {u2 : Option Value} : MD sc MX11_orders [some (.ref 90), some (.int (I n)), u2] SH S (N + 50000) 1 (ordF W n).1 (ordF W n).2 := by
  have hP := hW.1
  have hfd := hW.2.2.2.2.1
  have e1 : S 90 25 = W.2.2.2 1 0 := h.2.2.2.2.1
  unfold ordF
  by_cases c : 0 ≤ n ∧ n ≤ W.2.2.2 1 0
  · rw [if_neg (fun q => q c)]
    have hn : 0 ≤ n ∧ n ≤ 700 := ⟨c.1, by omega⟩
    have hb : ∀ i, 0 ≤ W.2.2.2 0 i ∧ W.2.2.2 0 i < 256 := hW.2.2.2.2.2
    obtain ⟨S1, g1, t1, t4, t25, f1, j1⟩ := reads_yes (sc := sc) h0 hb e1 c hfd.2 (fun i a d => h.2.2.2.1 i a (by omega))
    have mP1 : modP (up S1 90 55 0) W.1 := by
      obtain ⟨m1, m2, m3, m4, m5⟩ := h.1
      exact ⟨fun i a d => by rw [up_at, if_neg (by omega), f1 _ (by omega)]; exact m1 i a d, by rw [up_ne (by decide), j1 95 (by decide)]; exact m2, by rw [up_ne (by decide), j1 96 (by decide)]; exact m3, by rw [up_ne (by decide), j1 97 (by decide)]; exact m4, by rw [up_ne (by decide), j1 98 (by decide)]; exact m5⟩
    obtain ⟨S2, t2, x2, a2, st2⟩ := ordsM (sc := sc) (u := u2) (l := n) h0 hn hb hP 141 0 (0, 0, -1) (up S1 90 55 0) (mdT_55 t1 _) mP1 (up_eq _ _ _ _) (fun _ => by show 5 * ((0 : Nat) : Int) ≤ 0; decide) (by show n < 0 + 5 * ((141 : Nat) : Int); omega)
    have t2' : mdT S2 (W.2.2.2 0) n (ordX W n).2 := t2
    have zr := t2'.2.2.2.2.1.2.1
    have fj : ∀ j, j ≠ 90 → j ≠ 107 → S2 j = S j := fun j p q => by rw [x2.1 j p q, up_ne p, j1 j p]
    have f90 : ∀ i, 5 ≤ i → i ≤ 24 → S2 90 i = S 90 i := fun i p q => by rw [x2.2.1 i (by omega) (by omega) (by omega) (by omega) (by omega) (by omega) (by omega) (by omega), up_at, if_neg (by omega), f1 i (by omega)]
    have e25 : S2 90 25 = 0 := by rw [x2.2.1 25 (by decide) (by decide) (by decide) (by decide) (by decide) (by decide) (by decide) (by decide), up_at, if_neg (by decide), t25]
    have e4 : S2 90 4 = 0 := by rw [x2.2.1 4 (by decide) (by decide) (by decide) (by decide) (by decide) (by decide) (by decide) (by decide), up_at, if_neg (by decide), t4]
    have st : ∀ r, G sc MX11_orders 40 [some (.ref 90), some (.int (I n)), u2] [] SH S2 r → G sc MX11_orders 0 [some (.ref 90), some (.int (I n)), u2] [] SH S r := fun r q => by
      refine qX11_orders_0 h0 ⟨_, _, g1, ?_⟩
      rw [if_neg (by decide)]
      exact st2 r q
    have mk : ∀ p, S2 90 26 = p → mdR S2 N (W.1, W.2.1, W.2.2.1, up (up W.2.2.2 1 0 0) 1 1 p) := fun p hp => mdR_tp hW h (fj 91 (by decide) (by decide)) f90 (fun j a d => fj j (by omega) (by omega)) (fun i a d => by
      rw [up_at, if_neg (by decide), up_eq] at d
      omega) (by rw [up_at, if_neg (by decide), up_eq]; exact e25) (by rw [up_eq]; exact hp)
    by_cases d : (ordX W n).2.2.1 ≠ 0
    · rw [if_pos d]
      have m2 := mk _ t2'.2.2.2.1
      have m3 := mdR_r0 m2
      refine ⟨-10 - (ordX W n).2.2.1, up S2 94 0 (S2 94 0 + 1), st _ (qX11_orders_40 h0 ?_), mdR_N m3 (by omega), fun y e => ?_, fun k e => (by cases e), fun j hj => by rw [up_ne (by omega), fj j (by omega) (by omega)]⟩
      · rw [t2'.2.2.1, if_neg (by rw [I_eq ⟨by omega, by omega⟩ ⟨by decide, by decide⟩]; exact d)]
        exact ⟨by decide, by decide, by rw [up_ne (show (90 : Nat) ≠ 94 by decide), t2'.2.2.1]⟩
      · cases e
        exact ⟨rfl, by rw [up_ne (by decide)]; exact e4⟩
    · rw [if_neg d]
      have d' : (ordX W n).2.2.1 = 0 := Decidable.not_not.mp d
      obtain ⟨a5, aa⟩ := a2 d'
      have p26 : S2 90 26 = -1 := by
        rw [t2'.2.2.2.1]
        exact ords_pl 141 (0, 0, -1) d'
      have m2 : mdR S2 N (txW W) := mk _ p26
      have hlen : (ordX W n).1.length ≤ 141 := by
        have hl : ∀ (k : Nat) (T : aT), (ords (W.2.2.2 0) n W.1 k T).1.length ≤ k := fun k => by
          induction k with
          | zero => exact fun T => Nat.le_refl _
          | succ k ih =>
            intro T
            by_cases c : T.2.1 ≠ 0 ∨ tkK (W.2.2.2 0) n T.1 = 0
            · rw [ords_no c]; exact Nat.zero_le _
            · by_cases z : (ordT (W.2.2.2 0) n W.1 T).2.2.1 = 0
              · rw [ords_yes c z]
                dsimp only
                rw [List.length_cons]
                have := ih (ordT (W.2.2.2 0) n W.1 T).2
                omega
              · rw [ords_bad c z]; exact Nat.zero_le _
        exact hl 141 (0, 0, -1)
      have k3 : refR (cpr S2 0 1654 1654) 1654 W.2.1.1 N := refR_cpr m2.2.1.1 hW.2.1.1.2.1
      have m3 : mdR (cpr S2 0 1654 1654) N (setA (txW W) W.2.1.1) := by
        have q := mdR_mod (wf_tx hW) m2 (S' := cpr S2 0 1654 1654) ⟨fun i hi => cpr_out (by omega), fun j _ hj _ _ => cpr_ne hj, fun i _ => by rw [cpr_ne (by decide)]⟩
        exact q
      obtain ⟨S3, g3, m4, f3, t3⟩ := do_md (sc := sc) (W := txW W) h0 (wf_tx hW) (m := (ordX W n).1.length) hlen (l := n) (ordX W n).1 0 (cpr S2 0 1654 1654) W.2.1.1 N m3 k3 hW.2.1.1 hW.2.2.1.1 (by rw [cpr_ne (by decide), a5]; unfold ordX; omega) (Nat.zero_add _) (fun k o hk => ⟨ordA_F (aa k o hk) (cpr_ne (by decide)), ok_ords hP _ _ o (List.mem_of_getElem? hk)⟩) (fun _ => rfl) (by omega)
      refine ⟨(resD (txW W) (ordX W n).1.length (doA W.1 (ordX W n).1 W.2.1.1 0)).1, S3, st _ (qX11_orders_40 h0 ?_), mdR_N m4 (by omega), fun y e => ?_, fun k e => (by cases e), fun j hj => by rw [f3 j hj, cpr_ne (by omega), fj j (by omega) (by omega)]⟩
      · rw [t2'.2.2.1, d', if_pos rfl]
        exact ⟨_, rcopies_ok h0 (by decide) ⟨by decide, by decide⟩ ⟨by decide, by decide⟩ (.inl (by decide)), g3⟩
      · cases e
        exact ⟨rfl, by rw [t3, cpr_ne (by decide)]; exact e4⟩
  · rw [if_pos c]
    refine ⟨0, up (up S 90 4 0) 90 4 1, qX11_orders_0 h0 ⟨_, _, reads_no h0 e1 hr ⟨hfd.1, hfd.2⟩ c, ?_⟩, mdR_N (mdR_thr hW (mdR_thr hW h)) (by omega), fun y e => (by cases e), fun k e => by cases e; rw [up_eq]; rfl, fun j hj => by rw [up_ne (by omega), up_ne (by omega)]⟩
    rw [if_pos rfl]
end
