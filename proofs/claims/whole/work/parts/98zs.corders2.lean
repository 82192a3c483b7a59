/-! ===== orders of the class: opening and closing the text ===== -/
theorem num_pl {b : Int → Int} {n lo hi : Int} {T : aT} (h : (numT b n lo hi T).2.2.1 = 0) : (numT b n lo hi T).2.2.2 = T.2.2 := by rw [(numT_ok h).2.2.2]; rfl
theorem pg_pl {b : Int → Int} {n : Int} {P : aP} {T : aT} (h : (pgT b n P T).2.2.1 = 0) : (pgT b n P T).2.2.2 = T.2.2 := by
  have q := pgT_ok h
  rw [q.2.2.2.2]
  show (numT b n 0 11 (numT b n 0 3 T).2).2.2.2 = T.2.2
  rw [num_pl q.2.2.2.1, num_pl q.2.2.1]
theorem ord_pl {b : Int → Int} {n : Int} {P : aP} {T : aT} (h : (ordT b n P T).2.2.1 = 0) : (ordT b n P T).2.2.2 = T.2.2 := by
  have e := endT_ok h
  show (endT b n (ordB b n P T).2).2.2 = T.2.2
  rw [e.2.2]
  show (ordB b n P T).2.2.2 = T.2.2
  have hz := e.1
  unfold ordB at hz ⊢
  by_cases d : tkW b n T.1 = 8
  · rw [if_pos d] at hz ⊢
    have z1 := (numT_ok hz).1
    have z2 := (numT_ok z1).1
    dsimp only
    rw [num_pl hz, num_pl z1, pg_pl z2]; rfl
  rw [if_neg d] at hz ⊢
  by_cases d : tkW b n T.1 = 9
  · rw [if_pos d] at hz ⊢
    dsimp only
    rw [pg_pl hz, pg_pl (pgT_ok hz).1]; rfl
  rw [if_neg d] at hz ⊢
  by_cases d : tkW b n T.1 = 10
  · rw [if_pos d] at hz ⊢
    dsimp only
    rw [pg_pl hz]; rfl
  rw [if_neg d] at hz ⊢
  by_cases d : tkW b n T.1 = 11
  · rw [if_pos d] at hz ⊢
    dsimp only
    rw [num_pl hz]; rfl
  rw [if_neg d] at hz ⊢
  by_cases d : tkW b n T.1 = 12
  · rw [if_pos d] at hz ⊢
    dsimp only
    rw [num_pl hz]; rfl
  rw [if_neg d] at hz
  by_cases f : T.2.1 = 0
  · rw [failA_z f] at hz; exact absurd hz (by dsimp only; decide)
  · rw [failA_n f] at hz; exact absurd hz f
theorem ords_pl {b : Int → Int} {n : Int} {P : aP} : ∀ (k : Nat) (T : aT), (ords b n P k T).2.2.1 = 0 → (ords b n P k T).2.2.2 = T.2.2
  | 0, T, h => rfl
  | k + 1, T, h => by
    by_cases c : T.2.1 ≠ 0 ∨ tkK b n T.1 = 0
    · rw [ords_no c]
    · by_cases z : (ordT b n P T).2.2.1 = 0
      · rw [ords_yes c z] at h ⊢
        exact (ords_pl k _ h).trans (ord_pl z)
      · rw [ords_bad c z] at h
        exact absurd h z
def bgS (S : mStore) (n : Int) : mStore := up (up (up (up (up (up S 11 2 n) 11 3 0) 11 4 0) 11 5 0) 11 6 0) 11 7 (-1)
theorem bgS_fr (S : mStore) (n : Int) : txF S (bgS S n) := by
  unfold bgS
  exact ⟨fun j hj => by rw [up_ne hj, up_ne hj, up_ne hj, up_ne hj, up_ne hj, up_ne hj], by rw [up_at, if_neg (by decide), up_at, if_neg (by decide), up_at, if_neg (by decide), up_at, if_neg (by decide), up_at, if_neg (by decide), up_at, if_neg (by decide)]⟩
theorem bgS_cl {S : mStore} {b : Int → Int} {n : Int} (hn : 0 ≤ n ∧ n ≤ 700) (ht : tapR S b n) : clT (bgS S n) b n (0, 0, -1) := by
  refine ⟨?_, ?_, ?_, ?_, ⟨⟨Int.le_refl _, hn.1⟩, ⟨by decide, by decide⟩, by decide, by decide⟩, fun _ => ?_⟩
  · unfold bgS; rw [up_at, if_neg (by decide), up_at, if_neg (by decide), up_at, if_neg (by decide), up_at, if_neg (by decide), up_at, if_neg (by decide), up_eq]
  · intro i a c
    rw [(bgS_fr S n).1 12 (by decide)]
    exact ht i a c
  · unfold bgS; rw [up_at, if_neg (by decide), up_eq]
  · unfold bgS; rw [up_eq]
  · unfold bgS; rw [up_at, if_neg (by decide), up_at, if_neg (by decide), up_at, if_neg (by decide), up_eq]
section
variable {sc : Nat × (Nat → Int32)} {SH : List mCell} {F : Nat → Nat → Option Nat} {S S' : mStore} {e : Nat} {W : aW} {A : aS}
theorem begin_ok (h0 : sText SH) {n : Int} (hn : 0 ≤ n ∧ n ≤ 700) : G sc MX8_begin 0 [some (.ref 11), some (.int (I n))] [] SH S (rV SH (bgS S n)) := by
  refine qX8_begin_0 h0 ?_
  by_cases c : 700 ≤ n
  · rw [if_pos (by rw [I_le ⟨by decide, by decide⟩ ⟨by omega, by omega⟩]; exact c), show n = 700 by omega]; rfl
  · rw [if_neg (by rw [I_le ⟨by decide, by decide⟩ ⟨by omega, by omega⟩]; exact c)]; rfl
theorem open_ok (h0 : sGP SH) {n f : Int} (hf : S 11 1 = f) (hn : 0 ≤ n ∧ n ≤ f) (hf2 : f ≤ 700) : G sc MX10_openText 0 [some (.ref 0), some (.int (I n))] [] SH S (rV SH (bgS S n)) := by
  refine qX10_openText_0 h0 ?_
  rw [if_neg (by rw [I_lt ⟨by omega, by omega⟩ ⟨by decide, by decide⟩]; omega), hf, if_neg (by rw [I_lt ⟨by omega, by omega⟩ ⟨by omega, by omega⟩]; omega)]
  exact .inl ⟨_, mustFit_yes, _, begin_ok h0.2.2.1 ⟨by omega, by omega⟩, rfl⟩
theorem open_no (h0 : sGP SH) {n f : Int} (hf : S 11 1 = f) (hr : rg n) (hf2 : 0 ≤ f ∧ f ≤ 700) (hn : ¬(0 ≤ n ∧ n ≤ f)) : G sc MX10_openText 0 [some (.ref 0), some (.int (I n))] [] SH S (rX 1 (SH ++ [mO (12 + 1) []]) S) := by
  refine qX10_openText_0 h0 ?_
  by_cases c : n < 0
  · rw [if_pos (by rw [I_lt hr ⟨by decide, by decide⟩]; exact c)]
    exact .inr ⟨_, _, _, mustFit_no, rfl⟩
  · rw [if_neg (by rw [I_lt hr ⟨by decide, by decide⟩]; exact c), hf, if_pos (by rw [I_lt ⟨by omega, by omega⟩ hr]; omega)]
    exact .inr ⟨_, _, _, mustFit_no, rfl⟩
def clsS (S : mStore) (p : Int) : mStore := up (up S 11 1 0) 0 12 p
theorem close_ok (h0 : sGP SH) (hz : S 11 6 = 0) : G sc MX10_closeText 0 [some (.ref 0)] [] SH S (rV SH (clsS S (-1))) := by
  refine qX10_closeText_0 h0 ?_
  have q : up (up S 11 1 0) 0 12 (-1) 11 6 = 0 := by rw [up_ne (by decide), up_at, if_neg (by decide), hz]
  rw [q, if_pos rfl]
  rfl
theorem close_bad (h0 : sGP SH) {x p : Int} (hz : S 11 6 = x) (hx : 1 ≤ x ∧ x ≤ 5) (h7 : S 11 7 = p) : G sc MX10_closeText 0 [some (.ref 0)] [] SH S (rV SH (up (clsS S p) 16 0 (S 16 0 + 1))) := by
  refine qX10_closeText_0 h0 ?_
  have q : up (up S 11 1 0) 0 12 (-1) 11 6 = x := by rw [up_ne (by decide), up_at, if_neg (by decide), hz]
  have q7 : up (up S 11 1 0) 0 12 (-1) 11 7 = p := by rw [up_ne (by decide), up_at, if_neg (by decide), h7]
  have q16 : up (up S 11 1 0) 0 12 p 16 0 = S 16 0 := by rw [up_ne (by decide), up_ne (by decide)]
  rw [q, if_neg (by rw [I_eq ⟨by omega, by omega⟩ ⟨by decide, by decide⟩]; omega), q7, up_up, q16]
  exact ⟨by decide, by decide, rfl⟩
/-- the text is closed: the class's world -/
theorem clR_closed (hW : wfW W) (h : clR SH F e S W) (hf : ∀ j, j ≠ 11 → j ≠ 86 → S' j = S j) : clR SH F e (clsS S' (-1)) (txW W) := by
  refine clR_tx (S' := clsS S' (-1)) h (fun j a1 a2 a3 a4 => by unfold clsS; rw [up_ne a1, up_ne a2]; exact hf j a2 a4) ?_ (D := W.2.1.2.2.2) (M := up (up W.2.2.2 1 0 0) 1 1 (-1)) rfl rfl ?_ ?_ ?_ ?_ ?_
  · unfold clsS; rw [up_at, if_neg (by decide), up_ne (by decide), hf 0 (by decide) (by decide)]
  · unfold clsS; rw [up_ne (by decide), up_ne (by decide), hf 16 (by decide) (by decide)]; exact h.2.2.1.2.2.2.2.2.2
  · rw [up_ne (by decide), up_ne (by decide)]
  · rw [up_at, if_neg (by decide), up_eq]; exact hW.2.2.2.2.1.1
  · unfold clsS; rw [up_ne (by decide), up_eq, up_at, if_neg (by decide), up_eq]
  · unfold clsS; rw [up_eq, up_eq]
theorem clR_closedB (hW : wfW W) (h : clR SH F e S W) (hf : ∀ j, j ≠ 11 → j ≠ 86 → S' j = S j) {T : aT} {p : Int} (hp : p = T.2.2) : clR SH F e (up (clsS S' p) 16 0 (S' 16 0 + 1)) (badW W T) := by
  have e0 : ∀ j, j ≠ 16 → up (clsS S' p) 16 0 (S' 16 0 + 1) j = clsS S' p j := fun j hj => up_ne hj
  refine clR_tx (S' := up (clsS S' p) 16 0 (S' 16 0 + 1)) h (fun j a1 a2 a3 a4 => by rw [e0 j a3]; unfold clsS; rw [up_ne a1, up_ne a2]; exact hf j a2 a4) ?_ (D := up W.2.1.2.2.2 2 0 (W.2.1.2.2.2 2 0 + 1)) (M := up (up W.2.2.2 1 0 0) 1 1 T.2.2) (up_ne (by decide)) (up_ne (by decide)) ?_ ?_ ?_ ?_ ?_
  · rw [e0 0 (by decide)]; unfold clsS; rw [up_at, if_neg (by decide), up_ne (by decide), hf 0 (by decide) (by decide)]
  · intro i a c
    have r7 := h.2.2.1.2.2.2.2.2.2
    rw [up_at, up_at]
    unfold clsS
    rw [up_ne (by decide), up_ne (by decide), hf 16 (by decide) (by decide), show S 16 0 = _ from r7 0 (by decide) (by decide), show S 16 i = _ from r7 i a c]
  · rw [up_ne (by decide), up_ne (by decide)]
  · rw [up_at, if_neg (by decide), up_eq]; exact hW.2.2.2.2.1.1
  · rw [e0 11 (by decide)]; unfold clsS; rw [up_ne (by decide), up_eq, up_at, if_neg (by decide), up_eq]
  · rw [e0 0 (by decide)]; unfold clsS; rw [up_eq, up_eq, hp]
theorem orders_cl (h : clR SH F e S W) (hW : wfW W) {n : Int} (hr : rg n) {u2 u3 : Option Value} : CL sc MX10_orders [some (.ref 0), some (.int (I n)), u2, u3] SH F e S (ordF W n).1 (ordF W n).2 := by
  obtain ⟨g0, g1, g2, hp, hs⟩ := clS h
  have hP := hW.1
  have hfd := hW.2.2.2.2.1
  have e1 : S 11 1 = W.2.2.2 1 0 := h.2.2.2.2.2.1
  have s1 : sText SH := g0.2.2.1
  have s2 : sOrder SH := g0.2.2.2.2.2.2.2.1
  unfold ordF
  by_cases c : 0 ≤ n ∧ n ≤ W.2.2.2 1 0
  · rw [if_neg (fun q => q c)]
    have hn : 0 ≤ n ∧ n ≤ 700 := ⟨c.1, by omega⟩
    have hb : ∀ i, 0 ≤ W.2.2.2 0 i ∧ W.2.2.2 0 i < 256 := hW.2.2.2.2.2
    have tap : tapR S (W.2.2.2 0) n := fun i a d => h.2.2.2.2.1 i a (by omega)
    have b0 := bgS_fr S n
    obtain ⟨S1, U, gc, c1, hU, f1⟩ := count_lp (sc := sc) s1 g2 s2 hn hb hP 141 0 (0, 0, -1) (bgS S n) (bgS_cl hn tap) (planR_far hp (fun j q1 q2 => b0.1 j (by omega))) (by show n < 0 + 5 * ((141 : Nat) : Int); omega) (by decide)
    rw [show ((0 : Nat) : Int) + ((ords (W.2.2.2 0) n W.1 141 (0, 0, -1)).1.length : Int) = ((ordX W n).1.length : Int) by unfold ordX; omega] at gc
    have hU' : U.2 = (ordX W n).2.2 := hU
    have fr : ∀ j, j ≠ 11 → j ≠ 86 → S1 j = S j := fun j a d => by rw [f1.1 j a d, b0.1 j a]
    have z6 : S1 11 6 = (ordX W n).2.2.1 := by rw [c1.2.2.1, hU']
    have z7 : S1 11 7 = (ordX W n).2.2.2 := by rw [c1.2.2.2.1, hU']
    have zr : 0 ≤ (ordX W n).2.2.1 ∧ (ordX W n).2.2.1 ≤ 5 := by have := c1.2.2.2.2.1.2.1; rw [hU'] at this; exact this
    have go := open_ok (sc := sc) g0 e1 c hfd.2
    by_cases d : (ordX W n).2.2.1 ≠ 0
    · rw [if_pos d]
      have gcl := close_bad (sc := sc) g0 z6 ⟨by omega, zr.2⟩ z7
      refine ⟨SH, F, e, _, qX10_orders_0 g0 (.inl ⟨_, go, _, _, qX4_countAll_0 s1 g2 s2 gc, _, gcl, ?_⟩), clR_closedB hW h fr rfl, Nat.le_succ _, fun j a1 a2 => by unfold clsS; rw [up_ne (by omega), up_ne (by omega), up_ne (by omega), fr j (by omega) (by omega)]⟩
      have q6 : up (clsS S1 (ordX W n).2.2.2) 16 0 (S1 16 0 + 1) 11 6 = (ordX W n).2.2.1 := by
        unfold clsS; rw [up_ne (by decide), up_ne (by decide), up_at, if_neg (by decide), z6]
      rw [q6, if_neg (by rw [I_eq ⟨by omega, by omega⟩ ⟨by decide, by decide⟩]; exact d)]
      rfl
    · rw [if_neg d]
      have d' : (ordX W n).2.2.1 = 0 := Decidable.not_not.mp d
      have gcl := close_ok (sc := sc) g0 (z6.trans d')
      have r1 : clR SH F e (clsS S1 (-1)) (txW W) := clR_closed hW h fr
      obtain ⟨SH2, F2, S2, ga, r2, sp2, f2⟩ := ahead_cl (sc := sc) r1 (wf_tx hW)
      obtain ⟨k0, k1, k2, kp, ks⟩ := clS r2
      have b2 := bgS_fr S2 n
      have r3 := clR_cx r2 (S' := bgS S2 n) ⟨fun j a1 _ => b2.1 j a1, b2.2⟩
      have sp3 := spare_cx r2.1 sp2 (S' := bgS S2 n) ⟨fun j a1 _ => b2.1 j a1, b2.2⟩
      have tap2 : tapR S2 (W.2.2.2 0) n := fun i a q => by
        rw [f2 12 (by decide)]
        unfold clsS
        rw [up_ne (by decide), up_ne (by decide), fr 12 (by decide) (by decide)]
        exact tap i a q
      have hlen : (ordX W n).1.length ≤ 200 := by
        have hl : ∀ (k : Nat) (T : aT), (ords (W.2.2.2 0) n W.1 k T).1.length ≤ k := fun k => by
          induction k with
          | zero => exact fun T => Nat.le_refl _
          | succ k ih =>
            intro T
            by_cases c : T.2.1 ≠ 0 ∨ tkK (W.2.2.2 0) n T.1 = 0
            · rw [ords_no c]; exact Nat.zero_le _
            · by_cases z : (ordT (W.2.2.2 0) n W.1 T).2.2.1 = 0
              · rw [ords_yes c z]
                dsimp only
                rw [List.length_cons]
                have := ih (ordT (W.2.2.2 0) n W.1 T).2
                omega
              · rw [ords_bad c z]; exact Nat.zero_le _
        have := hl 141 (0, 0, -1)
        unfold ordX
        omega
      obtain ⟨SH3, F3, S3, gd, r4, f4⟩ := do_cl (sc := sc) (W := txW W) (b := W.2.2.2 0) (l := n) hn hb (wf_tx hW) (m := (ordX W n).1.length) hlen 141 0 (0, 0, -1) (bgS S2 n) W.2.1.1 r3 sp3 (bgS_cl hn tap2) hW.2.1.1 hW.2.2.1.1 (by show n < 0 + 5 * ((141 : Nat) : Int); omega) d' (Nat.zero_add _) (fun _ => rfl)
      refine ⟨SH3, F3, e, S3, qX10_orders_0 g0 (.inl ⟨_, go, _, _, qX4_countAll_0 s1 g2 s2 gc, _, gcl, ?_⟩), r4, Nat.le_succ _, fun j a1 a2 => by rw [f4 j a1 a2, b2.1 j (by omega), f2 j (by omega)]; unfold clsS; rw [up_ne (by omega), up_ne (by omega), fr j (by omega) (by omega)]⟩
      have q6 : clsS S1 (-1) 11 6 = 0 := by
        unfold clsS; rw [up_ne (by decide), up_at, if_neg (by decide), z6, d']
      rw [q6, if_pos rfl]
      exact ⟨_, _, k0, ga, _, begin_ok k0.2.2.1 hn, gd⟩
  · rw [if_pos c]
    exact CL_exc h (qX10_orders_0 g0 (.inr ⟨_, _, _, open_no g0 e1 hr ⟨hfd.1, hfd.2⟩ c, rfl⟩))
end
