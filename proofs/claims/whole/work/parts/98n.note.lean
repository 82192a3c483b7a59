/-! ===== note, forget, image, restore, fault ===== -/
def noteF (W : aW) (t u : Int) : aO × aW := if W.2.1.2.2.1 = 8 ∨ ¬(0 ≤ t ∧ t ≤ 20) ∨ ¬(0 ≤ u ∧ u ≤ 48) then (.inl (-1), (W.1, (W.2.1.1, W.2.1.2.1, W.2.1.2.2.1, up W.2.1.2.2.2 2 2 (W.2.1.2.2.2 2 2 + 1)), W.2.2)) else (.inl (W.2.1.2.2.1 + 1), (W.1, (W.2.1.1, W.2.1.2.1, W.2.1.2.2.1 + 1, up (up W.2.1.2.2.2 0 W.2.1.2.2.1 t) 1 W.2.1.2.2.1 u), W.2.2))
def forgW (W : aW) : aW := (W.1, (W.2.1.1, W.2.1.2.1, 0, W.2.1.2.2.2), W.2.2)
def imgW (W : aW) : aW := (W.1, W.2.1, some W.2.1, W.2.2.2)
def restF (W : aW) : aO × aW := match W.2.2.1 with
  | none => (.inl 0, W)
  | some B => (.inl 1, (W.1, B, some B, W.2.2.2))
/-- a call of the class that answers nothing -/
def CLV (sc : Nat × (Nat → Int32)) (M : mM) (ls : List (Option Value)) (SH : List mCell) (F : Nat → Nat → Option Nat) (e : Nat) (S : mStore) (W : aW) : Prop := ∃ SH' F' S', G sc M 0 ls [] SH S (rV SH' S') ∧ clR SH' F' e S' W ∧ (∀ j, 90 ≤ j → j ≤ 110 → S' j = S j)
def MDV (sc : Nat × (Nat → Int32)) (M : mM) (ls : List (Option Value)) (SH : List mCell) (S : mStore) (N : Int) (W : aW) : Prop := ∃ S', G sc M 0 ls [] SH S (rV SH S') ∧ mdR S' N W ∧ (∀ j, j < 90 ∨ 110 ≤ j → S' j = S j)
section
variable {sc : Nat × (Nat → Int32)} {SH : List mCell} {F : Nat → Nat → Option Nat} {S S' : mStore} {e : Nat} {W : aW} {N : Int}
theorem clR_nt (h : clR SH F e S W) (hf : ∀ j, j < 13 ∨ 17 ≤ j → S' j = S j) {n : Int} {st : mStore} (h5 : S' 13 5 = n) (h6 : ∀ i, 0 ≤ i → i < n → S' 14 i = st 0 i ∧ S' 15 i = st 1 i) (h7 : ∀ i, 0 ≤ i → i < 3 → S' 16 i = st 2 i) : clR SH F e S' (W.1, (W.2.1.1, W.2.1.2.1, n, st), W.2.2) := by
  refine clR_book (S' := S') h (fun j _ hj => hf j (by omega)) ?_
  obtain ⟨r1, r2, r3, r4, r5, r6, r7⟩ := h.2.2.1
  have e37 : S' (13 + 24) = S (13 + 24) := hf 37 (by omega)
  refine ⟨stateR_far r1 (fun j _ _ => hf j (by omega)), by rw [e37]; exact r2, by rw [e37]; exact r3, ?_, h5, h6, h7⟩
  rw [e37]
  exact hist_same r4 (fun _ _ _ h => h) h.1 (by decide) (fun j hj _ => hf j (by omega))
theorem mdR_nt (h : mdR S N W) (h91 : S' 91 = S 91) (h90 : ∀ i, i ≠ 4 → i ≠ 7 → S' 90 i = S 90 i) (hj : ∀ j, 95 ≤ j → j ≤ 99 → S' j = S j) {n : Int} {st : mStore} (h7 : S' 90 7 = n) (hn : ∀ i, 0 ≤ i → i < n → S' 92 i = st 0 i ∧ S' 93 i = st 1 i) (hs : ∀ i, 0 ≤ i → i < 3 → S' 94 i = st 2 i) (hi2 : ∀ i, 8 ≤ i → S' 92 i = S 92 i ∧ S' 93 i = S 93 i) (hi3 : ∀ i, 3 ≤ i → S' 94 i = S 94 i) : mdR S' N (W.1, (W.2.1.1, W.2.1.2.1, n, st), W.2.2) := by
  obtain ⟨m, b, i, t, f, a⟩ := h
  obtain ⟨r1, r2, r3, r4, r5, r6, r7⟩ := b
  refine ⟨⟨fun i h1 h2 => by rw [h90 _ (by omega) (by omega)]; exact m.1 i h1 h2, by rw [hj _ (by decide) (by decide)]; exact m.2.1, by rw [hj _ (by decide) (by decide)]; exact m.2.2.1, by rw [hj _ (by decide) (by decide)]; exact m.2.2.2.1, by rw [hj _ (by decide) (by decide)]; exact m.2.2.2.2⟩, ⟨refR_far r1 h91, by rw [h90 _ (by decide) (by decide)]; exact r2, by rw [h90 _ (by decide) (by decide)]; exact r3, fun k A hk => by rw [h90 _ (by decide) (by decide)]; exact refR_far (r4 k A hk) h91, h7, fun i h1 h2 => by rw [Int.zero_add]; exact hn i h1 h2, fun i h1 h2 => by rw [Int.zero_add]; exact hs i h1 h2⟩, ⟨fun hn => by rw [h90 _ (by decide) (by decide)]; exact i.1 hn, fun B hB => ⟨by rw [h90 _ (by decide) (by decide)]; exact (i.2 B hB).1, ?_⟩⟩, by rw [hj _ (by decide) (by decide)]; exact t, by rw [h90 _ (by decide) (by decide)]; exact f, by rw [h90 _ (by decide) (by decide)]; exact a⟩
  obtain ⟨s1, s2, s3, s4, s5, s6, s7⟩ := (i.2 B hB).2
  exact ⟨refR_far s1 h91, by rw [h90 _ (by decide) (by decide)]; exact s2, by rw [h90 _ (by decide) (by decide)]; exact s3, fun k A hk => by rw [h90 _ (by decide) (by decide)]; exact refR_far (s4 k A hk) h91, by rw [h90 _ (by decide) (by decide)]; exact s5, fun i h1 h2 => by rw [(hi2 _ (by omega)).1, (hi2 _ (by omega)).2]; exact s6 i h1 h2, fun i h1 h2 => by rw [hi3 _ (by omega)]; exact s7 i h1 h2⟩
theorem note_cl (h : clR SH F e S W) (hW : wfW W) {t u : Int} (ht : rg t) (hu : rg u) : CL sc MX10_note [some (.ref 0), some (.int (I t)), some (.int (I u))] SH F e S (noteF W t u).1 (noteF W t u).2 := by
  have g0 := h.1.1.1
  have hn := hW.2.1.2.2.2.1
  have ht1 := ht.1
  have hu1 := hu.1
  obtain ⟨r1, r2, r3, r4, r5, r6, r7⟩ := h.2.2.1
  have e5 : S 13 5 = W.2.1.2.2.1 := r5
  have e7 : ∀ i, 0 ≤ i → i < 3 → S 16 i = W.2.1.2.2.2 2 i := r7
  unfold noteF
  by_cases c : W.2.1.2.2.1 = 8 ∨ ¬(0 ≤ t ∧ t ≤ 20) ∨ ¬(0 ≤ u ∧ u ≤ 48)
  · rw [if_pos c]
    refine ⟨SH, F, e, up S 16 2 (S 16 2 + 1), qX10_note_0 g0 ?_, clR_nt h (fun j hj => up_ne (by omega)) (by rw [up_ne (by decide)]; exact e5) (by rw [up_ne (by decide), up_ne (by decide)]; exact r6) (fun i h1 h2 => by rw [up_at, up_at, e7 2 (by decide) (by decide), e7 i h1 h2]), Nat.le_succ _, fun j hj _ => up_ne (by omega)⟩
    have go : (((0 : Int) ≤ 2 ∧ (2 : Int) < 3) ∧ (((0 : Int) ≤ 2 ∧ (2 : Int) < 3) ∧ rI (-1) SH (up S 16 2 (S 16 2 + 1)) = rI (-1) SH (up S 16 2 (S 16 2 + 1)))) := ⟨by decide, by decide, rfl⟩
    rw [e5]
    by_cases d1 : 8 ≤ W.2.1.2.2.1
    · rw [if_pos (by rw [I_le ⟨by decide, by decide⟩ ⟨by omega, by omega⟩]; omega)]; exact go
    rw [if_neg (by rw [I_le ⟨by decide, by decide⟩ ⟨by omega, by omega⟩]; omega)]
    by_cases d2 : t < 0
    · rw [if_pos (by rw [I_lt ht ⟨by decide, by decide⟩]; omega)]; exact go
    rw [if_neg (by rw [I_lt ht ⟨by decide, by decide⟩]; omega)]
    by_cases d3 : 20 < t
    · rw [if_pos (by rw [I_lt ⟨by decide, by decide⟩ ht]; omega)]; exact go
    rw [if_neg (by rw [I_lt ⟨by decide, by decide⟩ ht]; omega)]
    by_cases d4 : u < 0
    · rw [if_pos (by rw [I_lt hu ⟨by decide, by decide⟩]; omega)]; exact go
    rw [if_neg (by rw [I_lt hu ⟨by decide, by decide⟩]; omega), if_neg (by rw [I_le hu ⟨by decide, by decide⟩]; omega)]
    exact go
  · rw [if_neg c]
    have x5 : up S 14 W.2.1.2.2.1 t 13 5 = W.2.1.2.2.1 := by rw [up_ne (by decide)]; exact e5
    have y5 : up (up S 14 W.2.1.2.2.1 t) 15 W.2.1.2.2.1 u 13 5 = W.2.1.2.2.1 := by rw [up_ne (by decide)]; exact x5
    refine ⟨SH, F, e, up (up (up S 14 W.2.1.2.2.1 t) 15 W.2.1.2.2.1 u) 13 5 (W.2.1.2.2.1 + 1), qX10_note_0 g0 ?_, clR_nt h (fun j hj => by rw [up_ne (by omega), up_ne (by omega), up_ne (by omega)]) (up_eq _ _ _ _) (fun i h1 h2 => ?_) (fun i h1 h2 => ?_), Nat.le_succ _, fun j hj _ => by rw [up_ne (by omega), up_ne (by omega), up_ne (by omega)]⟩
    · rw [e5, if_neg (by rw [I_le ⟨by decide, by decide⟩ ⟨by omega, by omega⟩]; omega), if_neg (by rw [I_lt ht ⟨by decide, by decide⟩]; omega), if_neg (by rw [I_lt ⟨by decide, by decide⟩ ht]; omega), if_neg (by rw [I_lt hu ⟨by decide, by decide⟩]; omega), if_pos (by rw [I_le hu ⟨by decide, by decide⟩]; omega), x5, y5, up_eq]
      exact ⟨⟨by omega, by omega⟩, ⟨by omega, by omega⟩, rfl⟩
    · have q := r6 i h1
      have a14 : up (up (up S 14 W.2.1.2.2.1 t) 15 W.2.1.2.2.1 u) 13 5 (W.2.1.2.2.1 + 1) 14 i = if i = W.2.1.2.2.1 then t else S 14 i := by
        rw [up_ne (show (14 : Nat) ≠ 13 by decide), up_ne (show (14 : Nat) ≠ 15 by decide), up_at]
      have a15 : up (up (up S 14 W.2.1.2.2.1 t) 15 W.2.1.2.2.1 u) 13 5 (W.2.1.2.2.1 + 1) 15 i = if i = W.2.1.2.2.1 then u else S 15 i := by
        rw [up_ne (show (15 : Nat) ≠ 13 by decide), up_at, up_ne (show (15 : Nat) ≠ 14 by decide)]
      have b0 : up (up W.2.1.2.2.2 0 W.2.1.2.2.1 t) 1 W.2.1.2.2.1 u 0 i = if i = W.2.1.2.2.1 then t else W.2.1.2.2.2 0 i := by
        rw [up_ne (show (0 : Nat) ≠ 1 by decide), up_at]
      have b1 : up (up W.2.1.2.2.2 0 W.2.1.2.2.1 t) 1 W.2.1.2.2.1 u 1 i = if i = W.2.1.2.2.1 then u else W.2.1.2.2.2 1 i := by
        rw [up_at, up_ne (show (1 : Nat) ≠ 0 by decide)]
      rw [a14, a15, b0, b1]
      by_cases d : i = W.2.1.2.2.1
      · rw [if_pos d, if_pos d, if_pos d, if_pos d]; exact ⟨rfl, rfl⟩
      · rw [if_neg d, if_neg d, if_neg d, if_neg d]; exact q (by omega)
    · rw [up_ne (by decide), up_ne (by decide), up_ne (by decide)]
      show S 16 i = up (up W.2.1.2.2.2 0 W.2.1.2.2.1 t) 1 W.2.1.2.2.1 u 2 i
      rw [up_ne (by decide), up_ne (by decide)]
      exact e7 i h1 h2
theorem forget_cl (h : clR SH F e S W) : CLV sc MX10_forget [some (.ref 0)] SH F e S (forgW W) := by
  obtain ⟨r1, r2, r3, r4, r5, r6, r7⟩ := h.2.2.1
  exact ⟨SH, F, up S 13 5 0, qX10_forget_0 h.1.1.1 rfl, clR_nt h (fun j hj => up_ne (by omega)) (up_eq _ _ _ _) (fun i h1 h2 => by omega) (fun i h1 h2 => by rw [up_ne (by decide)]; exact r7 i h1 h2), fun j hj _ => up_ne (by omega)⟩
theorem fault_cl (h : clR SH F e S W) : CL sc MX10_fault [some (.ref 0)] SH F e S (.inl (W.2.2.2 1 1)) W :=
  CL_val h (qX10_fault_0 h.1.1.1 (by rw [h.2.2.2.2.2.2]))
theorem fault_md (h0 : sMod SH) (hW : wfW W) (h : mdR S N W) {y : Int} : MD sc MX11_fault [some (.ref 90)] SH S N y (.inl (W.2.2.2 1 1)) W := by
  refine MD_val hW h (qX11_fault_0 h0 ?_)
  rw [(mdR_thr (x := 0) hW h).2.2.2.2.2]
theorem image_cl (h : clR SH F e S W) (hW : wfW W) : CLV sc MX10_image [some (.ref 0)] SH F e S (imgW W) := by
  obtain ⟨SH1, F1, S1, g1, k1, b1, b2, f1⟩ := bookB_ok (sc := sc) h.1 (.inr ⟨rfl, rfl, rfl, rfl⟩) h.2.2.1 hW.2.1
  have hl := k1.2.2.2.2.1
  obtain ⟨h1, h2, h3, h4, h5, h6, h7⟩ := h
  have q : ∀ {o c : Nat} {B : aB}, c < 2 → 1 ≤ o → o + 25 ≤ 111 → bkR S1 F1 o c B → bkR (up S1 0 11 1) F1 o c B := fun hc ho1 ho hB =>
    bkR_far k1 hc hB ho (fun _ _ _ h => h) (fun j _ _ => up_ne (by omega)) (hist_same hB.2.2.2.1 (fun _ _ _ h => h) k1 hc (fun j hj _ => up_ne (by omega)))
  refine ⟨SH1, F1, up S1 0 11 1, qX10_image_0 h1.1.1 ⟨_, _, k1.1.1, g1, .inr rfl, rfl⟩, ⟨k1, planR_far h2 (fun j _ _ => by rw [up_ne (by omega), f1 j (by omega) (by omega)]), q (by decide) (by decide) (by decide) b2, ⟨fun hn => (by cases hn), fun B hB => ?_⟩, ?_, ?_, ?_⟩, fun j ha hb => by rw [up_ne (by omega), f1 j (by omega) (by omega)]⟩
  · cases hB
    exact ⟨up_eq _ _ _ _, q (by decide) (by decide) (by decide) b1⟩
  · rw [up_ne (by decide), f1 12 (by omega) (by omega)]; exact h5
  · rw [up_ne (by decide), f1 11 (by omega) (by omega)]; exact h6
  · rw [up_at, if_neg (by decide), f1 0 (by omega) (by omega)]; exact h7
theorem restore_cl (h : clR SH F e S W) (hW : wfW W) : CL sc MX10_restore [some (.ref 0)] SH F e S (restF W).1 (restF W).2 := by
  have g0 := h.1.1.1
  unfold restF
  cases hq : W.2.2.1 with
  | none =>
    refine CL_val h (qX10_restore_0 g0 ?_)
    rw [h.2.2.2.1.1 hq, if_pos rfl]
    exact ⟨.inl rfl, rfl⟩
  | some B =>
    obtain ⟨e11, hk⟩ := h.2.2.2.1.2 B hq
    obtain ⟨SH1, F1, S1, g1, k1, b1, b2, f1⟩ := bookB_ok (sc := sc) h.1 (.inl ⟨rfl, rfl, rfl, rfl⟩) hk (hW.2.2.2.1 B hq).1
    have hl := k1.2.2.2.2.1
    obtain ⟨h1, h2, h3, h4, h5, h6, h7⟩ := h
    refine ⟨SH1, F1, e, S1, qX10_restore_0 g0 ?_, ⟨k1, planR_far h2 (fun j _ _ => f1 j (by omega) (by omega)), b1, ⟨fun hn => (by cases hn), fun B' hB' => ?_⟩, ?_, ?_, ?_⟩, Nat.le_succ _, fun j ha hb => f1 j (by omega) (by omega)⟩
    · rw [e11, if_neg (by decide)]
      exact ⟨_, _, k1.1.1, g1, .inr rfl, rfl⟩
    · cases hB'
      exact ⟨by rw [f1 0 (by omega) (by omega)]; exact e11, b2⟩
    · rw [f1 12 (by omega) (by omega)]; exact h5
    · rw [f1 11 (by omega) (by omega)]; exact h6
    · rw [f1 0 (by omega) (by omega)]; exact h7
theorem refuses2 (h0 : sMod SH) {S : mStore} : G sc MX11_refuses 0 [some (.ref 90), some (.int (I 2))] [] SH S (rI (-1) SH (up S 94 2 (S 94 2 + 1))) := qX11_refuses_0 h0 ⟨⟨by decide, by decide⟩, ⟨by decide, by decide⟩, rfl⟩
theorem note_md (h0 : sMod SH) (hW : wfW W) (h : mdR S N W) {t u y : Int} (ht : rg t) (hu : rg u) : MD sc MX11_note [some (.ref 90), some (.int (I t)), some (.int (I u))] SH S N y (noteF W t u).1 (noteF W t u).2 := by
  have hn := hW.2.1.2.2.2.1
  have hd := mdR_thr (x := 0) hW h
  have e7 : up S 90 4 0 90 7 = W.2.1.2.2.1 := hd.2.1.2.2.2.2.1
  have es : ∀ i, 0 ≤ i → i < 3 → up S 90 4 0 94 i = W.2.1.2.2.2 2 i := fun i h1 h2 => by have q := hd.2.1.2.2.2.2.2.2 i h1 h2; rw [Int.zero_add] at q; exact q
  have en : ∀ i, 0 ≤ i → i < W.2.1.2.2.1 → up S 90 4 0 92 i = W.2.1.2.2.2 0 i ∧ up S 90 4 0 93 i = W.2.1.2.2.2 1 i := fun i h1 h2 => by have q := hd.2.1.2.2.2.2.2.1 i h1 h2; rw [Int.zero_add] at q; exact q
  have w1 := within_ok (sc := sc) (SH := SH) (S := up S 90 4 0) ht (lo := 0) ⟨by decide, by decide⟩ (hi := 20) ⟨by decide, by decide⟩
  have w2 := within_ok (sc := sc) (SH := SH) (S := up S 90 4 0) hu (lo := 0) ⟨by decide, by decide⟩ (hi := 48) ⟨by decide, by decide⟩
  unfold noteF
  by_cases c : W.2.1.2.2.1 = 8 ∨ ¬(0 ≤ t ∧ t ≤ 20) ∨ ¬(0 ≤ u ∧ u ≤ 48)
  · rw [if_pos c]
    refine ⟨-1, up (up S 90 4 0) 94 2 (up S 90 4 0 94 2 + 1), qX11_note_0 h0 ?_, mdR_nt hd (by rw [up_ne (by decide)]) (fun i _ _ => by rw [up_ne (by decide)]) (fun j h1 h2 => up_ne (by omega)) (by rw [up_ne (by decide)]; exact e7) (by rw [up_ne (by decide), up_ne (by decide)]; exact en) (fun i h1 h2 => by rw [up_at, up_at, es 2 (by decide) (by decide), es i h1 h2]) (fun i _ => ⟨by rw [up_ne (by decide)], by rw [up_ne (by decide)]⟩) (fun i hi => by rw [up_at, if_neg (by omega)]), fun y e => by cases e; exact ⟨rfl, by rw [up_ne (by decide), up_eq]⟩, fun k e => (by cases e), fun j hj => by rw [up_ne (by omega), up_ne (by omega)]⟩
    rw [e7]
    by_cases d1 : W.2.1.2.2.1 = 8
    · rw [if_pos (by rw [d1])]; exact ⟨_, _, refuses2 h0, rfl⟩
    rw [if_neg (by rw [I_eq ⟨by omega, by omega⟩ ⟨by decide, by decide⟩]; exact d1)]
    refine ⟨_, _, w1, ?_⟩
    by_cases d2 : 0 ≤ t ∧ t ≤ 20
    · rw [if_pos d2, if_neg (by decide)]
      refine ⟨_, _, w2, ?_⟩
      rw [if_neg (show ¬(0 ≤ u ∧ u ≤ 48) by omega), if_pos rfl]
      exact ⟨_, _, refuses2 h0, rfl⟩
    · rw [if_neg d2, if_pos rfl]; exact ⟨_, _, refuses2 h0, rfl⟩
  · rw [if_neg c]
    have x7 : up (up S 90 4 0) 92 W.2.1.2.2.1 t 90 7 = W.2.1.2.2.1 := by rw [up_ne (by decide)]; exact e7
    have y7 : up (up (up S 90 4 0) 92 W.2.1.2.2.1 t) 93 W.2.1.2.2.1 u 90 7 = W.2.1.2.2.1 := by rw [up_ne (by decide)]; exact x7
    refine ⟨W.2.1.2.2.1 + 1, up (up (up (up S 90 4 0) 92 W.2.1.2.2.1 t) 93 W.2.1.2.2.1 u) 90 7 (W.2.1.2.2.1 + 1), qX11_note_0 h0 ?_, mdR_nt hd (by rw [up_ne (by decide), up_ne (by decide), up_ne (by decide)]) (fun i _ h2 => by rw [up_at, if_neg h2, up_ne (by decide), up_ne (by decide)]) (fun j h1 h2 => by rw [up_ne (by omega), up_ne (by omega), up_ne (by omega)]) (up_eq _ _ _ _) (fun i h1 h2 => ?_) (fun i h1 h2 => ?_) (fun i hi => ⟨by rw [up_ne (by decide), up_ne (by decide), up_at, if_neg (by omega)], by rw [up_ne (by decide), up_at, if_neg (by omega), up_ne (by decide)]⟩) (fun i hi => by rw [up_ne (by decide), up_ne (by decide), up_ne (by decide)]), fun y e => by cases e; exact ⟨rfl, by rw [up_at, if_neg (by decide), up_ne (by decide), up_ne (by decide), up_eq]⟩, fun k e => (by cases e), fun j hj => by rw [up_ne (by omega), up_ne (by omega), up_ne (by omega), up_ne (by omega)]⟩
    · rw [e7, if_neg (by rw [I_eq ⟨by omega, by omega⟩ ⟨by decide, by decide⟩]; omega)]
      refine ⟨_, _, w1, ?_⟩
      rw [if_pos (show 0 ≤ t ∧ t ≤ 20 by omega), if_neg (by decide)]
      refine ⟨_, _, w2, ?_⟩
      rw [if_pos (show 0 ≤ u ∧ u ≤ 48 by omega), if_neg (by decide), e7, x7, y7, up_eq]
      exact ⟨⟨by omega, by omega⟩, ⟨by omega, by omega⟩, rfl⟩
    · have q := en i h1
      have a14 : up (up (up (up S 90 4 0) 92 W.2.1.2.2.1 t) 93 W.2.1.2.2.1 u) 90 7 (W.2.1.2.2.1 + 1) 92 i = if i = W.2.1.2.2.1 then t else up S 90 4 0 92 i := by
        rw [up_ne (show (92 : Nat) ≠ 90 by decide), up_ne (show (92 : Nat) ≠ 93 by decide), up_at]
      have a15 : up (up (up (up S 90 4 0) 92 W.2.1.2.2.1 t) 93 W.2.1.2.2.1 u) 90 7 (W.2.1.2.2.1 + 1) 93 i = if i = W.2.1.2.2.1 then u else up S 90 4 0 93 i := by
        rw [up_ne (show (93 : Nat) ≠ 90 by decide), up_at, up_ne (show (93 : Nat) ≠ 92 by decide)]
      have b0 : up (up W.2.1.2.2.2 0 W.2.1.2.2.1 t) 1 W.2.1.2.2.1 u 0 i = if i = W.2.1.2.2.1 then t else W.2.1.2.2.2 0 i := by
        rw [up_ne (show (0 : Nat) ≠ 1 by decide), up_at]
      have b1 : up (up W.2.1.2.2.2 0 W.2.1.2.2.1 t) 1 W.2.1.2.2.1 u 1 i = if i = W.2.1.2.2.1 then u else W.2.1.2.2.2 1 i := by
        rw [up_at, up_ne (show (1 : Nat) ≠ 0 by decide)]
      rw [a14, a15, b0, b1]
      by_cases d : i = W.2.1.2.2.1
      · rw [if_pos d, if_pos d, if_pos d, if_pos d]; exact ⟨rfl, rfl⟩
      · rw [if_neg d, if_neg d, if_neg d, if_neg d]; exact q (by omega)
    · rw [up_ne (by decide), up_ne (by decide), up_ne (by decide)]
      show up S 90 4 0 94 i = up (up W.2.1.2.2.2 0 W.2.1.2.2.1 t) 1 W.2.1.2.2.1 u 2 i
      rw [up_ne (show (2 : Nat) ≠ 1 by decide), up_ne (show (2 : Nat) ≠ 0 by decide)]
      exact es i h1 h2
theorem forget_md (h0 : sMod SH) (hW : wfW W) (h : mdR S N W) : MDV sc MX11_forget [some (.ref 90)] SH S N (forgW W) := by
  have hd := mdR_thr (x := 0) hW h
  refine ⟨up (up S 90 4 0) 90 7 0, qX11_forget_0 h0 rfl, mdR_nt hd (by rw [up_ne (by decide)]) (fun i _ h2 => by rw [up_at, if_neg h2]) (fun j h1 h2 => up_ne (by omega)) (up_eq _ _ _ _) (fun i h1 h2 => by omega) (fun i h1 h2 => ?_) (fun i _ => ⟨by rw [up_ne (by decide)], by rw [up_ne (by decide)]⟩) (fun i _ => by rw [up_ne (by decide)]), fun j hj => by rw [up_ne (by omega), up_ne (by omega)]⟩
  have q := hd.2.1.2.2.2.2.2.2 i h1 h2
  rw [Int.zero_add] at q
  rw [up_ne (by decide)]
  exact q
end
