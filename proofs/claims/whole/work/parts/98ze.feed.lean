/-! ===== feed ===== -/
def bytA (v m : Int) : Int := ian (isr v (24 - 8 * m)) 255
def argA (a b c d x k : Int) : Int := if k < 4 then a else if k < 8 then b else if k < 12 then c else if k < 16 then d else x
def tpA (t : mStore) (a b c d x : Int) : mStore := fun j i => if j = 0 ∧ t 1 0 ≤ i ∧ i < t 1 0 + 20 then bytA (argA a b c d x (i - t 1 0)) ((i - t 1 0) % 4) else if j = 1 ∧ i = 0 then t 1 0 + 20 else t j i
def feedF (W : aW) (a b c d x : Int) : aO × aW := if 700 < W.2.2.2 1 0 + 20 then (.inl (-1), W) else (.inl (W.2.2.2 1 0 + 20), (W.1, W.2.1, W.2.2.1, tpA W.2.2.2 a b c d x))
theorem byt_rg (v m : Int) : 0 ≤ bytA v m ∧ bytA v m < 256 := by
  unfold bytA
  rw [ian_m8]
  exact ⟨Int.emod_nonneg _ (by decide), Int.emod_lt_of_pos _ (by decide)⟩
theorem ib8_2 (x : Int) : ib8 (ib8 x) = sby (ian x 255) := by
  have h1 := Int.emod_nonneg x (show (256 : Int) ≠ 0 by decide)
  have h2 := Int.emod_lt_of_pos x (show (0 : Int) < 256 by decide)
  rw [ib8_sby, ib8_sby, ian_m8]
  congr 1
  unfold sby
  split <;> omega
section
variable {sc : Nat × (Nat → Int32)} {SH : List mCell} {F : Nat → Nat → Option Nat} {S S' : mStore} {e : Nat} {W : aW} {N : Int}
theorem clR_tp (h : clR SH F e S W) (hf : ∀ j, j ≠ 11 → j ≠ 12 → S' j = S j) {t : mStore} (h1 : t 1 1 = W.2.2.2 1 1) (ht : ∀ i, 0 ≤ i → i < t 1 0 → S' 12 i = sby (t 0 i)) (h6 : S' 11 1 = t 1 0) : clR SH F e S' (W.1, W.2.1, W.2.2.1, t) := by
  obtain ⟨k1, k2, k3, k4, k5, k6, k7⟩ := h
  have q : ∀ {o c : Nat} {B : aB}, c < 2 → 13 ≤ o → o + 25 ≤ 65 → bkR S F o c B → bkR S' F o c B := fun hc ho1 ho hB =>
    bkR_far k1 hc hB (by omega) (fun _ _ _ h => h) (fun j _ _ => hf j (by omega) (by omega)) (hist_same hB.2.2.2.1 (fun _ _ _ h => h) k1 hc (fun j hj _ => hf j (by omega) (by omega)))
  exact ⟨k1, planR_far k2 (fun j _ _ => hf j (by omega) (by omega)), q (by decide) (by decide) (by decide) k3, ⟨fun hn => by rw [hf 0 (by decide) (by decide)]; exact k4.1 hn, fun B hB => ⟨by rw [hf 0 (by decide) (by decide)]; exact (k4.2 B hB).1, q (by decide) (by decide) (by decide) (k4.2 B hB).2⟩⟩, ht, h6, by rw [hf 0 (by decide) (by decide)]; exact k7.trans h1.symm⟩
theorem mdR_tp (hW : wfW W) (h : mdR S N W) (h91 : S' 91 = S 91) (h90 : ∀ i, 5 ≤ i → i ≤ 24 → S' 90 i = S 90 i) (hj : ∀ j, 92 ≤ j → j ≤ 98 → S' j = S j) {t : mStore} (ht : ∀ i, 0 ≤ i → i < t 1 0 → S' 99 i = t 0 i) (h25 : S' 90 25 = t 1 0) (h26 : S' 90 26 = t 1 1) : mdR S' N (W.1, W.2.1, W.2.2.1, t) := by
  obtain ⟨m, b, im, -, -, -⟩ := h
  have q : ∀ {z y iA iF iN w r : Int} {B : aB}, (5 ≤ iA ∧ iA ≤ 24) → (5 ≤ iF ∧ iF ≤ 24) → (5 ≤ iN ∧ iN ≤ 24) → mbR S z y iA iF iN w r N B → mbR S' z y iA iF iN w r N B := by
    rintro z y iA iF iN w r B q1 q2 q3 ⟨r1, r2, r3, r4, r5, r6, r7⟩
    exact ⟨refR_far r1 h91, by rw [h90 iA q1.1 q1.2]; exact r2, by rw [h90 iF q2.1 q2.2]; exact r3, fun k A hk => by rw [h90 iF q2.1 q2.2]; exact refR_far (r4 k A hk) h91, by rw [h90 iN q3.1 q3.2]; exact r5, by rw [hj 92 (by decide) (by decide), hj 93 (by decide) (by decide)]; exact r6, by rw [hj 94 (by decide) (by decide)]; exact r7⟩
  exact ⟨⟨fun i h1 h2 => by rw [h90 _ (by omega) (by omega)]; exact m.1 i h1 h2, by rw [hj _ (by decide) (by decide)]; exact m.2.1, by rw [hj _ (by decide) (by decide)]; exact m.2.2.1, by rw [hj _ (by decide) (by decide)]; exact m.2.2.2.1, by rw [hj _ (by decide) (by decide)]; exact m.2.2.2.2⟩, q (by decide) (by decide) (by decide) b, ⟨fun hn => by rw [h90 _ (by decide) (by decide)]; exact im.1 hn, fun B hB => ⟨by rw [h90 _ (by decide) (by decide)]; exact (im.2 B hB).1, q (by decide) (by decide) (by decide) (im.2 B hB).2⟩⟩, ht, h25, h26⟩
theorem ap_lp (h0 : sText SH) {v fd : Int} (hfd : 0 ≤ fd ∧ fd + 4 ≤ 700) : ∀ (n k : Nat) {S : mStore}, k + n = 4 → S 11 1 = fd + k → ∃ S', G sc MX8_append 16 [some (.ref 11), some (.int (I v)), some (.int (I (24 - 8 * (k : Int))))] [] SH S (rV SH S') ∧ S' 11 1 = fd + 4 ∧ (∀ i, fd + k ≤ i → i < fd + 4 → S' 12 i = sby (bytA v (i - fd))) ∧ (∀ i, i < fd + k ∨ fd + 4 ≤ i → S' 12 i = S 12 i) ∧ (∀ j, j ≠ 11 → j ≠ 12 → S' j = S j)
  | 0, k, S, hk, hs => by
    refine ⟨S, qX8_append_16 h0 ?_, by rw [hs]; omega, fun i a b => by omega, fun _ _ => rfl, fun _ _ _ => rfl⟩
    rw [if_pos (by rw [I_lt ⟨by omega, by omega⟩ ⟨by decide, by decide⟩]; omega)]
  | n + 1, k, S, hk, hs => by
    have e1 : up S 12 (fd + k) (ib8 (ib8 (isr v (24 - 8 * (k : Int))))) 11 1 = fd + k := by rw [up_ne (by decide)]; exact hs
    obtain ⟨S', g, a1, a2, a3, a4⟩ := ap_lp h0 (v := v) hfd n (k + 1) (S := up (up S 12 (fd + k) (ib8 (ib8 (isr v (24 - 8 * (k : Int)))))) 11 1 (fd + k + 1)) (by omega) (by rw [up_eq]; omega)
    have e2 : (24 : Int) - 8 * ((k + 1 : Nat) : Int) = 24 - 8 * (k : Int) + -8 := by omega
    rw [e2] at g
    have x12 : ∀ i, up (up S 12 (fd + k) (ib8 (ib8 (isr v (24 - 8 * (k : Int)))))) 11 1 (fd + k + 1) 12 i = if i = fd + k then sby (bytA v k) else S 12 i := fun i => by
      rw [up_ne (show (12 : Nat) ≠ 11 by decide), up_at, ib8_2]; rfl
    refine ⟨S', qX8_append_16 h0 ?_, a1, fun i p q => ?_, fun i p => ?_, fun j p q => by rw [a4 j p q, up_ne p, up_ne q]⟩
    · rw [if_neg (by rw [I_lt ⟨by omega, by omega⟩ ⟨by decide, by decide⟩]; omega), hs, e1]
      exact ⟨⟨by omega, by omega⟩, g⟩
    · by_cases d : i = fd + k
      · rw [a3 i (by omega), x12, if_pos d, show i - fd = k by omega]
      · exact a2 i (by omega) q
    · rw [a3 i (by omega), x12, if_neg (by omega)]
theorem append_ok (h0 : sText SH) {v fd : Int} (hfd : 0 ≤ fd ∧ fd + 4 ≤ 700) {S : mStore} (hs : S 11 1 = fd) {u : Option Value} : ∃ S', G sc MX8_append 0 [some (.ref 11), some (.int (I v)), u] [] SH S (rV SH S') ∧ S' 11 1 = fd + 4 ∧ (∀ i, fd ≤ i → i < fd + 4 → S' 12 i = sby (bytA v (i - fd))) ∧ (∀ i, i < fd ∨ fd + 4 ≤ i → S' 12 i = S 12 i) ∧ (∀ j, j ≠ 11 → j ≠ 12 → S' j = S j) := by
  obtain ⟨S', g, a1, a2, a3, a4⟩ := ap_lp (sc := sc) h0 (v := v) hfd 4 0 (S := S) (by decide) (by omega)
  refine ⟨S', qX8_append_0 h0 ?_, a1, fun i p q => a2 i (by omega) q, fun i p => a3 i (by omega), a4⟩
  rw [hs, if_pos (by rw [I_le ⟨by omega, by omega⟩ ⟨by decide, by decide⟩]; omega)]
  exact g
theorem tp_fed (t : mStore) (a b c d x : Int) : tpA t a b c d x 1 0 = t 1 0 + 20 ∧ tpA t a b c d x 1 1 = t 1 1 := by
  unfold tpA
  exact ⟨by rw [if_neg (by omega), if_pos ⟨rfl, rfl⟩], by rw [if_neg (by omega), if_neg (by omega)]⟩
theorem tp_0 (t : mStore) (a b c d x i : Int) : tpA t a b c d x 0 i = if t 1 0 ≤ i ∧ i < t 1 0 + 20 then bytA (argA a b c d x (i - t 1 0)) ((i - t 1 0) % 4) else t 0 i := by
  unfold tpA
  by_cases q : t 1 0 ≤ i ∧ i < t 1 0 + 20
  · rw [if_pos ⟨rfl, q⟩, if_pos q]
  · rw [if_neg (fun z => q z.2), if_neg q, if_neg (fun z => absurd z.1 (by decide))]
theorem feed_cl (h : clR SH F e S W) (hW : wfW W) {a b c d x : Int} : CL sc MX10_feed [some (.ref 0), some (.int (I a)), some (.int (I b)), some (.int (I c)), some (.int (I d)), some (.int (I x))] SH F e S (feedF W a b c d x).1 (feedF W a b c d x).2 := by
  have g0 := h.1.1.1
  have gt : sText SH := g0.2.2.1
  have ht := hW.2.2.2.2.1
  have e1 : S 11 1 = W.2.2.2 1 0 := h.2.2.2.2.2.1
  unfold feedF
  by_cases k : 700 < W.2.2.2 1 0 + 20
  · rw [if_pos k]
    refine CL_val h (qX10_feed_0 g0 ?_)
    rw [e1, if_neg (by rw [I_le ⟨by omega, by omega⟩ ⟨by decide, by decide⟩]; omega)]
  · rw [if_neg k]
    generalize hfd : W.2.2.2 1 0 = fd at *
    obtain ⟨S1, q1, a1, b1, c1, d1⟩ := append_ok (sc := sc) (u := none) gt (v := a) (fd := fd) ⟨by omega, by omega⟩ e1
    obtain ⟨S2, q2, a2, b2, c2, d2⟩ := append_ok (sc := sc) (u := none) gt (v := b) (fd := fd + 4) ⟨by omega, by omega⟩ a1
    obtain ⟨S3, q3, a3, b3, c3, d3⟩ := append_ok (sc := sc) (u := none) gt (v := c) (fd := fd + 4 + 4) ⟨by omega, by omega⟩ a2
    obtain ⟨S4, q4, a4, b4, c4, d4⟩ := append_ok (sc := sc) (u := none) gt (v := d) (fd := fd + 4 + 4 + 4) ⟨by omega, by omega⟩ a3
    obtain ⟨S5, q5, a5, b5, c5, d5⟩ := append_ok (sc := sc) (u := none) gt (v := x) (fd := fd + 4 + 4 + 4 + 4) ⟨by omega, by omega⟩ a4
    have tf := tp_fed W.2.2.2 a b c d x
    have t0 := tp_0 W.2.2.2 a b c d x
    rw [hfd] at tf
    refine ⟨SH, F, e, S5, qX10_feed_0 g0 ?_, clR_tp h (fun j p q => by rw [d5 j p q, d4 j p q, d3 j p q, d2 j p q, d1 j p q]) tf.2 (fun i p q => ?_) (by rw [a5, tf.1]; omega), Nat.le_succ _, fun j p q => by rw [d5 j (by omega) (by omega), d4 j (by omega) (by omega), d3 j (by omega) (by omega), d2 j (by omega) (by omega), d1 j (by omega) (by omega)]⟩
    · rw [e1, if_pos (by rw [I_le ⟨by omega, by omega⟩ ⟨by decide, by decide⟩]; omega)]
      refine ⟨_, q1, _, q2, _, q3, _, q4, _, q5, ?_⟩
      rw [a5, show fd + 4 + 4 + 4 + 4 + 4 = fd + 20 by omega]
      rfl
    · rw [tf.1] at q
      rw [t0, hfd]
      by_cases z : fd ≤ i
      · rw [if_pos ⟨z, by omega⟩]
        unfold argA
        by_cases y4 : fd + 16 ≤ i
        · rw [b5 i (by omega) (by omega), if_neg (by omega), if_neg (by omega), if_neg (by omega), if_neg (by omega), show i - (fd + 4 + 4 + 4 + 4) = (i - fd) % 4 by omega]
        rw [c5 i (by omega)]
        by_cases y3 : fd + 12 ≤ i
        · rw [b4 i (by omega) (by omega), if_neg (by omega), if_neg (by omega), if_neg (by omega), if_pos (by omega), show i - (fd + 4 + 4 + 4) = (i - fd) % 4 by omega]
        rw [c4 i (by omega)]
        by_cases y2 : fd + 8 ≤ i
        · rw [b3 i (by omega) (by omega), if_neg (by omega), if_neg (by omega), if_pos (by omega), show i - (fd + 4 + 4) = (i - fd) % 4 by omega]
        rw [c3 i (by omega)]
        by_cases y1 : fd + 4 ≤ i
        · rw [b2 i (by omega) (by omega), if_neg (by omega), if_pos (by omega), show i - (fd + 4) = (i - fd) % 4 by omega]
        rw [c2 i (by omega), b1 i (by omega) (by omega), if_pos (by omega), show i - fd = (i - fd) % 4 by omega, Int.emod_emod]
      · rw [if_neg (fun w => z w.1), c5 i (by omega), c4 i (by omega), c3 i (by omega), c2 i (by omega), c1 i (by omega)]
        exact h.2.2.2.2.1 i p (by omega)
theorem feed_lp (h0 : sMod SH) {a b c d x fd : Int} (hfd : 0 ≤ fd ∧ fd + 20 ≤ 700) : ∀ (n k : Nat) {S : mStore} {u : Option Value}, k + n = 20 → S 90 25 = fd → ∃ S', G sc MX11_feed 23 [some (.ref 90), some (.int (I a)), some (.int (I b)), some (.int (I c)), some (.int (I d)), some (.int (I x)), some (.int (I k)), u] [] SH S (rI (fd + 20) SH (up S' 90 25 (fd + 20))) ∧ (∀ i, fd + k ≤ i → i < fd + 20 → S' 99 i = bytA (argA a b c d x (i - fd)) ((i - fd) % 4)) ∧ (∀ i, i < fd + k ∨ fd + 20 ≤ i → S' 99 i = S 99 i) ∧ (∀ j, j ≠ 99 → S' j = S j)
  | 0, k, S, u, hk, hs => by
    refine ⟨S, qX11_feed_23 h0 ?_, fun i p q => by omega, fun _ _ => rfl, fun _ _ => rfl⟩
    rw [if_pos (by rw [I_le ⟨by decide, by decide⟩ ⟨by omega, by omega⟩]; omega), hs, up_eq]
  | n + 1, k, S, u, hk, hs => by
    have e3 : ((k + 1 : Nat) : Int) = (k : Int) + 1 := by omega
    have em : (k : Int) - idv k 4 * 4 = (k : Int) % 4 := by rw [idv_nn (by omega) (by omega) (by decide) (by decide)]; omega
    obtain ⟨S', g, a1, a2, a3⟩ := feed_lp h0 (a := a) (b := b) (c := c) (d := d) (x := x) hfd n (k + 1) (S := up S 99 (fd + k) (bytA (argA a b c d x k) ((k : Int) % 4))) (u := some (.int (I (argA a b c d x k)))) (by omega) (by rw [up_ne (by decide)]; exact hs)
    rw [e3] at g
    refine ⟨S', qX11_feed_23 h0 ?_, fun i p q => ?_, fun i p => by rw [a2 i (by omega), up_at, if_neg (by omega)], fun j p => by rw [a3 j p, up_ne p]⟩
    · rw [if_neg (by rw [I_le ⟨by decide, by decide⟩ ⟨by omega, by omega⟩]; omega), hs, em]
      unfold argA bytA at g
      by_cases y1 : (k : Int) < 4
      · rw [if_pos y1] at g
        rw [if_neg (by rw [I_le ⟨by decide, by decide⟩ ⟨by omega, by omega⟩]; omega)]
        exact ⟨⟨by omega, by omega⟩, g⟩
      rw [if_neg y1] at g
      rw [if_pos (by rw [I_le ⟨by decide, by decide⟩ ⟨by omega, by omega⟩]; omega)]
      by_cases y2 : (k : Int) < 8
      · rw [if_pos y2] at g
        rw [if_neg (by rw [I_le ⟨by decide, by decide⟩ ⟨by omega, by omega⟩]; omega)]
        exact ⟨⟨by omega, by omega⟩, g⟩
      rw [if_neg y2] at g
      rw [if_pos (by rw [I_le ⟨by decide, by decide⟩ ⟨by omega, by omega⟩]; omega)]
      by_cases y3 : (k : Int) < 12
      · rw [if_pos y3] at g
        rw [if_neg (by rw [I_le ⟨by decide, by decide⟩ ⟨by omega, by omega⟩]; omega)]
        exact ⟨⟨by omega, by omega⟩, g⟩
      rw [if_neg y3] at g
      rw [if_pos (by rw [I_le ⟨by decide, by decide⟩ ⟨by omega, by omega⟩]; omega)]
      by_cases y4 : (k : Int) < 16
      · rw [if_pos y4] at g
        rw [if_neg (by rw [I_le ⟨by decide, by decide⟩ ⟨by omega, by omega⟩]; omega)]
        exact ⟨⟨by omega, by omega⟩, g⟩
      rw [if_neg y4] at g
      rw [if_pos (by rw [I_le ⟨by decide, by decide⟩ ⟨by omega, by omega⟩]; omega)]
      exact ⟨⟨by omega, by omega⟩, g⟩
    · by_cases z : i = fd + k
      · rw [a2 i (by omega), up_at, if_pos z, show i - fd = k by omega]
      · exact a1 i (by omega) q
theorem feed_md (h0 : sMod SH) (hW : wfW W) (h : mdR S N W) {a b c d x y : Int} {u6 u7 : Option Value} : MD sc MX11_feed [some (.ref 90), some (.int (I a)), some (.int (I b)), some (.int (I c)), some (.int (I d)), some (.int (I x)), u6, u7] SH S N y (feedF W a b c d x).1 (feedF W a b c d x).2 := by
  have ht := hW.2.2.2.2.1
  have hd := mdR_thr (x := 0) hW h
  have e25 : up S 90 4 0 90 25 = W.2.2.2 1 0 := hd.2.2.2.2.1
  unfold feedF
  by_cases k : 700 < W.2.2.2 1 0 + 20
  · rw [if_pos k]
    refine MD_val hW h (qX11_feed_0 h0 ?_)
    rw [e25, if_neg (by rw [I_le ⟨by omega, by omega⟩ ⟨by decide, by decide⟩]; omega)]
  · rw [if_neg k]
    obtain ⟨S', g, a1, a2, a3⟩ := feed_lp (sc := sc) h0 (a := a) (b := b) (c := c) (d := d) (x := x) (fd := W.2.2.2 1 0) ⟨by omega, by omega⟩ 20 0 (S := up S 90 4 0) (u := u7) (by decide) e25
    have tf := tp_fed W.2.2.2 a b c d x
    have t0 := tp_0 W.2.2.2 a b c d x
    refine ⟨_, up S' 90 25 (W.2.2.2 1 0 + 20), qX11_feed_0 h0 ?_, mdR_tp hW hd (by rw [up_ne (by decide), a3 91 (by decide)]) (fun i p q => by rw [up_at, if_neg (by omega), a3 90 (by decide)]) (fun j p q => by rw [up_ne (by omega), a3 j (by omega)]) (fun i p q => ?_) (by rw [up_eq, tf.1]) (by rw [up_at, if_neg (by decide), a3 90 (by decide), tf.2]; exact hd.2.2.2.2.2), fun y ey => by cases ey; exact ⟨rfl, by rw [up_at, if_neg (by decide), a3 90 (by decide), up_eq]⟩, fun k ek => (by cases ek), fun j hj => by rw [up_ne (by omega), a3 j (by omega), up_ne (by omega)]⟩
    · rw [e25, if_pos (by rw [I_le ⟨by omega, by omega⟩ ⟨by decide, by decide⟩]; omega)]
      exact g
    · rw [tf.1] at q
      rw [up_ne (show (99 : Nat) ≠ 90 by decide), t0]
      by_cases z : W.2.2.2 1 0 ≤ i
      · rw [if_pos ⟨z, by omega⟩, a1 i (by omega) (by omega)]
      · rw [if_neg (fun w => z w.1), a2 i (by omega)]
        exact hd.2.2.2.1 i p (by omega)
end
