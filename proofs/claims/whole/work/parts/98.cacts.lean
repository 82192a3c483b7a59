/-! ===== the class acts ===== -/
def refW (W : aW) : aW := (W.1, (W.2.1.1, W.2.1.2.1, W.2.1.2.2.1, up W.2.1.2.2.2 2 1 (W.2.1.2.2.2 2 1 + 1)), W.2.2)
def hAdd (H : List aS) (A : aS) : List aS := if H.length < 40 then H ++ [A] else H.tail ++ [A]
def setA (W : aW) (A : aS) : aW := (W.1, (A, W.2.1.2), W.2.2)
def actW (W : aW) (A : aS) : aW := (W.1, (A, hAdd W.2.1.2.1 W.2.1.1, W.2.1.2.2), W.2.2)
def actF (W : aW) (x : Int × aS) : aO × aW := if x.1 = -1 then (.inl (-1), refW W) else (.inl x.1, actW W x.2)
/-- the spare state -/
def spare (S : mStore) (F : Nat → Nat → Option Nat) (A : aS) : Prop := ∃ x, F 0 ((S 37 2 + S 37 3) % 41).toNat = some x ∧ stateR S x A
section
variable {sc : Nat × (Nat → Int32)} {SH SH' : List mCell} {F F' : Nat → Nat → Option Nat} {S S' : mStore} {e : Nat} {W : aW} {A : aS}
theorem clR_book (h : clR SH F e S W) (hf : ∀ j, j < SH.length → j < 13 ∨ 39 ≤ j → S' j = S j) {B : aB} (hB : bkR S' F 13 0 B) : clR SH F e S' (W.1, B, W.2.2) := by
  obtain ⟨h1, h2, h3, h4, h5, h6, h7⟩ := h
  have hl := h1.2.2.2.2.1
  refine ⟨h1, planR_far h2 (fun j _ _ => hf j (by omega) (by omega)), hB, ⟨fun hn => by rw [hf 0 (by omega) (by omega)]; exact h4.1 hn, fun B' hB' => ⟨by rw [hf 0 (by omega) (by omega)]; exact (h4.2 B' hB').1, ?_⟩⟩, ?_, ?_, ?_⟩
  · have q := (h4.2 B' hB').2
    exact bkR_far h1 (by decide) q (by decide) (fun _ _ _ h => h) (fun j _ _ => hf j (by omega) (by omega)) (hist_same q.2.2.2.1 (fun _ _ _ h => h) h1 (by decide) (fun j hj hl => hf j hl (by omega)))
  · show ∀ i, 0 ≤ i → i < W.2.2.2 1 0 → S' 12 i = _
    rw [hf 12 (by omega) (by omega)]; exact h5
  · show S' 11 1 = _
    rw [hf 11 (by omega) (by omega)]; exact h6
  · show S' 0 12 = _
    rw [hf 0 (by omega) (by omega)]; exact h7
theorem clR_set (h : clR SH F e S W) (hr : stateR S' 17 A) (hf : ∀ j, j < 17 ∨ 37 ≤ j → S' j = S j) : clR SH F e S' (setA W A) := by
  refine clR_book h (fun j _ hj => hf j (by omega)) ?_
  obtain ⟨r1, r2, r3, r4, r5, r6, r7⟩ := h.2.2.1
  have e37 : S' (13 + 24) = S (13 + 24) := hf 37 (by omega)
  refine ⟨hr, by rw [e37]; exact r2, by rw [e37]; exact r3, ?_, by rw [hf 13 (by omega)]; exact r5, ?_, ?_⟩
  · rw [e37]
    exact hist_same r4 (fun _ _ _ h => h) h.1 (by decide) (fun j hj _ => hf j (by omega))
  · rw [hf (13 + 1) (by omega), hf (13 + 2) (by omega)]; exact r6
  · rw [hf (13 + 3) (by omega)]; exact r7
theorem spare_set (h : clR SH F e S W) (hs : spare S F A) (hf : ∀ j, j < 17 ∨ 37 ≤ j → S' j = S j) : spare S' F A := by
  obtain ⟨x, hx, hr⟩ := hs
  refine ⟨x, by rw [hf 37 (by omega)]; exact hx, stateR_far hr (fun j h1 h2 => hf j ?_)⟩
  have := h.1.2.2.1 0 _ x (by decide) (by omega) hx
  omega
theorem ahead_cl (h : clR SH F e S W) (hW : wfW W) : ∃ SH' F' S', G sc MX0_ahead 0 [some (.ref 37), some (.ref 17)] [] SH S (rV SH' S') ∧ clR SH' F' e S' W ∧ spare S' F' W.2.1.1 ∧ (∀ j, j < 111 → S' j = S j) := by
  obtain ⟨h1, h2, h3, h4, h5, h6, h7⟩ := h
  obtain ⟨r1, r2, r3, r4, r5, r6, r7⟩ := h3
  have hH := hW.2.1.2.2.1
  have hl := h1.2.2.2.2.1
  obtain ⟨x, SH1, F1, S1, g1, k1, hx, hr, hF, f1⟩ := ahead_ok (sc := sc) (q := 37) h1 (.inl ⟨rfl, rfl, rfl⟩) r2 (by rw [show S 37 3 = _ from r3]; omega) r1 hW.2.1.1
  have hx1 := k1.2.2.1 0 _ x (by decide) (by omega) hx
  have e1 : ∀ j, j < 111 → S1 j = S j := fun j hj => f1 j (by omega) (by omega)
  refine ⟨SH1, F1, S1, g1, ⟨k1, planR_far h2 (fun j _ _ => e1 j (by omega)), ?_, ⟨fun hn => by rw [e1 0 (by omega)]; exact h4.1 hn, fun B hB => ⟨by rw [e1 0 (by omega)]; exact (h4.2 B hB).1, ?_⟩⟩, by rw [e1 12 (by omega)]; exact h5, by rw [e1 11 (by omega)]; exact h6, by rw [e1 0 (by omega)]; exact h7⟩, ⟨x, by rw [e1 37 (by omega)]; exact hx, hr⟩, e1⟩
  · refine bkR_far h1 (by decide) ⟨r1, r2, r3, r4, r5, r6, r7⟩ (by decide) hF (fun j _ _ => e1 j (by omega)) (hist_far h1 k1 hF hx (by decide) (by omega) f1 (by decide) (fun k hk => ?_) r4)
    rintro ⟨-, q⟩
    have : S 37 3 = W.2.1.2.1.length := r3
    rw [show S (13 + 24) 2 = S 37 2 from rfl] at q r2
    omega
  · have q := (h4.2 B hB).2
    exact bkR_far h1 (by decide) q (by decide) hF (fun j _ _ => e1 j (by omega)) (hist_far h1 k1 hF hx (by decide) (by omega) f1 (by decide) (fun k hk => by omega) q.2.2.2.1)
theorem refused_cl (h : clR SH F e S W) : G sc MX10_refused 0 [some (.ref 0)] [] SH S (rI (-1) SH (up S 16 1 (S 16 1 + 1))) ∧ clR SH F e (up S 16 1 (S 16 1 + 1)) (refW W) := by
  refine ⟨qX10_refused_0 h.1.1.1 ⟨by decide, by decide, rfl⟩, clR_book (S' := up S 16 1 (S 16 1 + 1)) h (fun j _ hj => up_ne (by omega)) ?_⟩
  obtain ⟨r1, r2, r3, r4, r5, r6, r7⟩ := h.2.2.1
  refine ⟨stateR_far r1 (fun j _ _ => up_ne (by omega)), by rw [up_ne (by decide)]; exact r2, by rw [up_ne (by decide)]; exact r3, ?_, by rw [up_ne (by decide)]; exact r5, by rw [up_ne (by decide), up_ne (by decide)]; exact r6, fun i h1 h2 => ?_⟩
  · rw [up_ne (by decide)]
    exact hist_same r4 (fun _ _ _ h => h) h.1 (by decide) (fun j hj _ => up_ne (by omega))
  · show up S 16 1 (S 16 1 + 1) 16 i = up W.2.1.2.2.2 2 1 (W.2.1.2.2.2 2 1 + 1) 2 i
    rw [up_at, up_at, show S 16 1 = _ from r7 1 (by decide) (by decide), show S 16 i = _ from r7 i h1 h2]
theorem acted_no (h : clR SH F e S W) : ∃ S', G sc MX10_acted 0 [some (.ref 0), some (.int (I (-1)))] [] SH S (rI (-1) SH S') ∧ clR SH F e S' (refW W) ∧ (∀ j, 17 ≤ j → S' j = S j) := by
  obtain ⟨g, k⟩ := refused_cl (sc := sc) h
  refine ⟨_, qX10_acted_0 h.1.1.1 ?_, k, fun j hj => up_ne (by omega)⟩
  rw [if_pos rfl]
  exact ⟨_, _, g, rfl⟩
theorem stand_cl (h : clR SH F e S (setA W A)) (hW : wfW W) (hs : spare S F W.2.1.1) : ∃ S', G sc MX0_stand 0 [some (.ref 37)] [] SH S (rV SH S') ∧ clR SH F e S' (actW W A) ∧ (∀ j, j ≠ 37 → S' j = S j) := by
  obtain ⟨r1, r2, r3, r4, r5, r6, r7⟩ := h.2.2.1
  have hH := hW.2.1.2.2.1
  have e3 : S 37 3 = W.2.1.2.1.length := r3
  have e2 : 0 ≤ S 37 2 ∧ S 37 2 < 41 := r2
  obtain ⟨x, hx, hr⟩ := hs
  have hx1 := h.1.2.2.1 0 _ x (by decide) (by omega) hx
  have hh : histR S F 0 (S 37 2) (W.2.1.2.1 ++ [W.2.1.1]) := by
    intro k B hk
    by_cases c : k < W.2.1.2.1.length
    · rw [List.getElem?_append_left c] at hk
      exact r4 k B hk
    · have : k = W.2.1.2.1.length := by
        rcases Nat.lt_or_ge k (W.2.1.2.1 ++ [W.2.1.1]).length with q | q
        · rw [List.length_append] at q; simp at q; omega
        · rw [List.getElem?_eq_none q] at hk; cases hk
      subst this
      rw [List.getElem?_append_right (Nat.le_refl _), Nat.sub_self] at hk
      cases hk
      exact ⟨x, by rw [e3] at hx; exact hx, hr⟩
  by_cases c : W.2.1.2.1.length < 40
  · refine ⟨up S 37 3 (S 37 3 + 1), qX0_stand_0 (shR_act h.1 (.inl ⟨rfl, rfl, rfl⟩)).1 ?_, ?_, fun j hj => up_ne hj⟩
    · rw [if_neg (by rw [I_le ⟨by omega, by omega⟩ ⟨by omega, by omega⟩]; omega)]
    · have q : actW W A = ((setA W A).1, (A, W.2.1.2.1 ++ [W.2.1.1], W.2.1.2.2), (setA W A).2.2) := by unfold actW hAdd setA; rw [if_pos c]
      rw [q]
      refine clR_book (S' := up S 37 3 (S 37 3 + 1)) h (fun j _ hj => up_ne (by omega)) ⟨stateR_far r1 (fun j _ _ => up_ne (by omega)), ?_, ?_, ?_, by rw [up_ne (by decide)]; exact r5, by rw [up_ne (by decide), up_ne (by decide)]; exact r6, by rw [up_ne (by decide)]; exact r7⟩
      · show 0 ≤ up S 37 3 (S 37 3 + 1) 37 2 ∧ up S 37 3 (S 37 3 + 1) 37 2 < 41
        rw [up_at, if_neg (by decide)]; exact e2
      · show up S 37 3 (S 37 3 + 1) 37 3 = ((W.2.1.2.1 ++ [W.2.1.1]).length : Int)
        rw [up_eq, e3, List.length_append]; simp
      · show histR _ F 0 (up S 37 3 (S 37 3 + 1) 37 2) _
        rw [up_at, if_neg (by decide)]
        exact hist_same hh (fun _ _ _ h => h) h.1 (by decide) (fun j hj _ => up_ne (by omega))
  · have c' : W.2.1.2.1.length = 40 := by omega
    have ez : S 37 2 + 1 - idv (S 37 2 + 1) 41 * 41 = (S 37 2 + 1) % 41 := by
      rw [idv_nn (by omega) (by omega) (by decide) (by decide)]; omega
    refine ⟨up S 37 2 ((S 37 2 + 1) % 41), qX0_stand_0 (shR_act h.1 (.inl ⟨rfl, rfl, rfl⟩)).1 ?_, ?_, fun j hj => up_ne hj⟩
    · rw [if_pos (by rw [I_le ⟨by omega, by omega⟩ ⟨by omega, by omega⟩]; omega), ez]
    · have q : actW W A = ((setA W A).1, (A, W.2.1.2.1.tail ++ [W.2.1.1], W.2.1.2.2), (setA W A).2.2) := by unfold actW hAdd setA; rw [if_neg c]
      rw [q]
      have el : (W.2.1.2.1.tail ++ [W.2.1.1]).length = 40 := by rw [List.length_append, List.length_tail]; simp; omega
      refine clR_book (S' := up S 37 2 ((S 37 2 + 1) % 41)) h (fun j _ hj => up_ne (by omega)) ⟨stateR_far r1 (fun j _ _ => up_ne (by omega)), ?_, ?_, ?_, by rw [up_ne (by decide)]; exact r5, by rw [up_ne (by decide), up_ne (by decide)]; exact r6, by rw [up_ne (by decide)]; exact r7⟩
      · show 0 ≤ up S 37 2 ((S 37 2 + 1) % 41) 37 2 ∧ up S 37 2 ((S 37 2 + 1) % 41) 37 2 < 41
        rw [up_eq]; omega
      · show up S 37 2 ((S 37 2 + 1) % 41) 37 3 = ((W.2.1.2.1.tail ++ [W.2.1.1]).length : Int)
        rw [up_at, if_neg (by decide), e3, el, c']
      · show histR _ F 0 (up S 37 2 ((S 37 2 + 1) % 41) 37 2) _
        rw [up_eq]
        refine hist_same (S := S) ?_ (fun _ _ _ h => h) h.1 (by decide) (fun j hj _ => up_ne (by omega))
        intro k B hk
        have hk' : (W.2.1.2.1 ++ [W.2.1.1])[k + 1]? = some B := by
          have et : W.2.1.2.1.tail ++ [W.2.1.1] = (W.2.1.2.1 ++ [W.2.1.1]).tail := by
            cases hq : W.2.1.2.1 with
            | nil => rw [hq] at c'; cases c'
            | cons _ _ => rfl
          rw [et, List.getElem?_tail] at hk
          exact hk
        obtain ⟨y, hy, hyr⟩ := hh (k + 1) B hk'
        refine ⟨y, ?_, hyr⟩
        have : (((S 37 2 + 1) % 41 + (k : Int)) % 41).toNat = ((S 37 2 + ((k + 1 : Nat) : Int)) % 41).toNat := by omega
        rw [this]
        exact hy
theorem acted_yes (h : clR SH F e S (setA W A)) (hW : wfW W) (hs : spare S F W.2.1.1) {v : Int} (hv : rg v) (hn : v ≠ -1) : ∃ S', G sc MX10_acted 0 [some (.ref 0), some (.int (I v))] [] SH S (rI v SH S') ∧ clR SH F e S' (actW W A) ∧ (∀ j, j ≠ 37 → S' j = S j) := by
  obtain ⟨S', g, k, f⟩ := stand_cl (sc := sc) h hW hs
  refine ⟨S', qX10_acted_0 h.1.1.1 ?_, k, f⟩
  rw [if_neg (by rw [I_eq hv ⟨by decide, by decide⟩]; exact hn)]
  exact ⟨_, g, rfl⟩
/-- an act on the state that may be refused: behind the state is ahead -/
theorem act_cl (hW : wfW W) (h : clR SH F e S W) (hs : spare S F W.2.1.1) {x : Int × aS} (hr : stateR S' 17 x.2) (hf : ∀ j, j < 17 ∨ 37 ≤ j → S' j = S j) (hv : rg x.1) (hno : x.1 = -1 → x.2 = W.2.1.1) : ∃ v S2, G sc MX10_acted 0 [some (.ref 0), some (.int (I x.1))] [] SH S' (rI v SH S2) ∧ (actF W x).1 = .inl v ∧ clR SH F e S2 (actF W x).2 ∧ (∀ j, 90 ≤ j → j ≤ 110 → S2 j = S j) := by
  have k := clR_set h hr hf
  unfold actF
  by_cases c : x.1 = -1
  · rw [if_pos c]
    rw [hno c] at k
    obtain ⟨S2, g, k2, f⟩ := acted_no (sc := sc) k
    refine ⟨-1, S2, by rw [c]; exact g, rfl, k2, fun j h1 h2 => by rw [f j (by omega), hf j (by omega)]⟩
  · rw [if_neg c]
    obtain ⟨S2, g, k2, f⟩ := acted_yes (sc := sc) k hW (spare_set h hs hf) hv c
    exact ⟨x.1, S2, g, rfl, k2, fun j h1 h2 => by rw [f j (by omega), hf j (by omega)]⟩
end
