/-! ===== the reference acts ===== -/
section
variable {sc : Nat × (Nat → Int32)} {SH : List mCell} {S S' : mStore} {N : Int} {W : aW} {P : aP} {A : aS}
theorem radvX_ok (h0 : sMod SH) (hm : modP S P) (hP : wfP P) {b : Int} (hb : 0 ≤ b ∧ b ≤ 135000) (hr : refR S b A N) (hA : wfA P A) {lo hi : Int} (hlo : 0 ≤ lo ∧ lo < P 0 7) (hhi : 0 ≤ hi ∧ hi < P 0 7) {u u' : Option Value} : (∃ S', G sc MX11_advises 0 [some (.ref 90), some (.int (I b)), some (.int (I lo)), some (.int (I hi)), some (.int (I 1)), u, u'] [] SH S (rI (advAll (hi - lo + 1).toNat lo A).1 SH S') ∧ refR S' b (advAll (hi - lo + 1).toNat lo A).2 N ∧ modF S S' b) ∧ (∃ S', G sc MX11_advises 0 [some (.ref 90), some (.int (I b)), some (.int (I lo)), some (.int (I hi)), some (.int (I 0)), u, u'] [] SH S (rI (noMore P (hi - lo + 1).toNat lo A).1 SH S') ∧ refR S' b (noMore P (hi - lo + 1).toNat lo A).2 N ∧ modF S S' b) := by
  have hP7 := hP.2.2.2.2.2.1
  by_cases c : lo ≤ hi
  · obtain ⟨S1, g1, r1, f1⟩ := radv1_lp (sc := sc) (P := P) h0 hb (lo := lo) (hi := hi) ⟨by omega, by omega⟩ (hi - lo + 1).toNat 0 lo hr hA hlo.1 (by omega) (by omega) (by omega)
    obtain ⟨S2, g2, r2, f2⟩ := radv0_lp (sc := sc) h0 hb hP (lo := lo) (hi := hi) ⟨by omega, by omega⟩ (hi - lo + 1).toNat 0 lo hm hr hA hlo.1 (by omega) (by omega) (by omega)
    rw [Int.zero_add] at g1 g2
    exact ⟨⟨S1, qX11_advises_0 h0 g1, r1, modG_F f1⟩, ⟨S2, qX11_advises_0 h0 g2, r2, f2⟩⟩
  · have e : (hi - lo + 1).toNat = 0 := by omega
    rw [e]
    have q : ∀ v : Int, G sc MX11_advises 0 [some (.ref 90), some (.int (I b)), some (.int (I lo)), some (.int (I hi)), some (.int (I v)), u, u'] [] SH S (rI 0 SH S) := fun v => by
      refine qX11_advises_0 h0 (qX11_advises_6 h0 ?_)
      rw [if_pos (by rw [I_lt ⟨by omega, by omega⟩ ⟨by omega, by omega⟩]; omega)]
    have f : modF S S b := ⟨fun _ _ => rfl, fun _ _ _ _ _ => rfl, fun _ _ => rfl⟩
    exact ⟨⟨S, q 1, hr, f⟩, ⟨S, q 0, hr, f⟩⟩
/-- the second row is as the first one -/
theorem tries_md (h0 : sMod SH) (hW : wfW W) (h : mdR S N W) : G sc MX11_tries 0 [some (.ref 90)] [] SH S (rV SH (cpr S 0 1654 1654)) ∧ mdR (cpr S 0 1654 1654) N W ∧ refR (cpr S 0 1654 1654) 1654 W.2.1.1 N ∧ (∀ j, j ≠ 91 → cpr S 0 1654 1654 j = S j) := by
  refine ⟨qX11_tries_0 h0 ⟨_, rcopies_ok h0 (by decide) ⟨by decide, by decide⟩ ⟨by decide, by decide⟩ (.inl (by decide)), rfl⟩, ?_, refR_cpr h.2.1.1 hW.2.1.1.2.1, fun j hj => cpr_ne hj⟩
  exact mdR_F hW h (fun i hi => cpr_out (by omega)) (fun i _ _ => by rw [cpr_ne (by decide)]) (fun j h1 h2 => cpr_ne (by omega))
/-- what runs on the second row leaves the rest -/
theorem mdR_mod (hW : wfW W) (h : mdR S N W) (hF : modF S S' 1654) : mdR S' N W :=
  mdR_F hW h (fun i hi => hF.1 i (by omega)) (fun i h1 h2 => hF.2.2 i (by omega)) (fun j h1 h2 => hF.2.1 j (by omega) (by omega) (by omega) (by omega))
theorem refuses_md (h0 : sMod SH) (hW : wfW W) (h : mdR S N W) : G sc MX11_refuses 0 [some (.ref 90), some (.int (I 1))] [] SH S (rI (-1) SH (up S 94 1 (S 94 1 + 1))) ∧ mdR (up S 94 1 (S 94 1 + 1)) N (refW W) := by
  refine ⟨qX11_refuses_0 h0 ⟨⟨by decide, by decide⟩, ⟨by decide, by decide⟩, rfl⟩, ?_⟩
  obtain ⟨m, b, i, t, f, a⟩ := h
  obtain ⟨r1, r2, r3, r4, r5, r6, r7⟩ := b
  refine ⟨⟨by rw [up_ne (by decide)]; exact m.1, by rw [up_ne (by decide)]; exact m.2.1, by rw [up_ne (by decide)]; exact m.2.2.1, by rw [up_ne (by decide)]; exact m.2.2.2.1, by rw [up_ne (by decide)]; exact m.2.2.2.2⟩, ⟨refR_far r1 (up_ne (by decide)), by rw [up_ne (by decide)]; exact r2, by rw [up_ne (by decide)]; exact r3, fun k A hk => by rw [up_ne (by decide)]; exact refR_far (r4 k A hk) (up_ne (by decide)), by rw [up_ne (by decide)]; exact r5, by rw [up_ne (by decide), up_ne (by decide)]; exact r6, fun i h1 h2 => ?_⟩, ⟨fun hn => by rw [up_ne (by decide)]; exact i.1 hn, fun B hB => ⟨by rw [up_ne (by decide)]; exact (i.2 B hB).1, ?_⟩⟩, by rw [up_ne (by decide)]; exact t, by rw [up_ne (by decide)]; exact f, by rw [up_ne (by decide)]; exact a⟩
  · show up S 94 1 (S 94 1 + 1) 94 (0 + i) = up W.2.1.2.2.2 2 1 (W.2.1.2.2.2 2 1 + 1) 2 i
    rw [Int.zero_add, up_at, up_at]
    have q1 := r7 1 (by decide) (by decide)
    have q2 := r7 i h1 h2
    rw [Int.zero_add] at q1 q2
    rw [q1, q2]
  · obtain ⟨s1, s2, s3, s4, s5, s6, s7⟩ := (i.2 B hB).2
    refine ⟨refR_far s1 (up_ne (by decide)), by rw [up_ne (by decide)]; exact s2, by rw [up_ne (by decide)]; exact s3, fun k A hk => by rw [up_ne (by decide)]; exact refR_far (s4 k A hk) (up_ne (by decide)), by rw [up_ne (by decide)]; exact s5, by rw [up_ne (by decide), up_ne (by decide)]; exact s6, fun i h1 h2 => ?_⟩
    rw [up_at, if_neg (by omega)]
    exact s7 i h1 h2
/-- a row is kept as what was ahead; then the first row is another state -/
theorem keptAt_ok {a k : Int} (ha : 0 ≤ a ∧ a < 40) (hk : 0 ≤ k ∧ k < 41) : G sc MX11_keptAt 0 [some (.int (I a)), some (.int (I k))] [] SH S (rI (3308 + 1654 * ((a + k) % 40)) SH S) := by
  refine qX11_keptAt_0 ?_
  rw [idv_nn (by omega) (by omega) (by decide) (by decide)]
  congr 3
  omega
/-- what keeps does with the store: S1 is the store with the first act moved on -/
theorem keeps_md (h0 : sMod SH) (hW : wfW W) (h : mdR S N W) {z : Int} (hz : z = 0 ∨ z = 1654) (hr : refR S z A N) (hA : wfA P A) : ∃ S', G sc MX11_keeps 0 [some (.ref 90), some (.int (I z))] [] SH S (rV SH S') ∧ mdR S' N (W.1, (W.2.1.1, hAdd W.2.1.2.1 A, W.2.1.2.2), W.2.2) ∧ (∀ i, i < 3308 → S' 91 i = S 91 i) ∧ (∀ j, j < 90 ∨ 92 ≤ j → S' j = S j) ∧ (∀ i, i ≠ 5 → i ≠ 6 → S' 90 i = S 90 i) := by
  have hH := hW.2.1.2.2.1
  obtain ⟨m, b, im, t, f, a⟩ := h
  obtain ⟨r1, r2, r3, r4, r5, r6, r7⟩ := b
  have key : ∀ (S1 : mStore) (H : List aS), S1 91 = S 91 → (∀ j, j ≠ 90 → S1 j = S j) → (∀ i, i ≠ 5 → i ≠ 6 → S1 90 i = S 90 i) → S1 90 5 = H.length → H.length < 40 → (∀ B, B ∈ H → wfA W.1 B) → (0 ≤ S1 90 6 ∧ S1 90 6 < 40) → (∀ (k : Nat) (B : aS), H[k]? = some B → refR S (3308 + 1654 * ((S1 90 6 + k) % 40)) B N) → mdR (up (cpr S1 z (3308 + 1654 * ((S1 90 6 + H.length) % 40)) 1654) 90 5 (H.length + 1)) N (W.1, (W.2.1.1, H ++ [A], W.2.1.2.2), W.2.2) := by
    intro S1 H e91 ej e90 e5 hl hwf e6 hk
    have c90 : ∀ i, i ≠ 5 → i ≠ 6 → up (cpr S1 z (3308 + 1654 * ((S1 90 6 + H.length) % 40)) 1654) 90 5 (H.length + 1) 90 i = S 90 i := fun i h1 h2 => by
      rw [up_at, if_neg h1, cpr_ne (by decide), e90 i h1 h2]
    have c6 : up (cpr S1 z (3308 + 1654 * ((S1 90 6 + H.length) % 40)) 1654) 90 5 (H.length + 1) 90 6 = S1 90 6 := by
      rw [up_at, if_neg (by decide), cpr_ne (by decide)]
    have c91 : ∀ i, i < 3308 + 1654 * ((S1 90 6 + H.length) % 40) ∨ 3308 + 1654 * ((S1 90 6 + H.length) % 40) + 1654 ≤ i → up (cpr S1 z (3308 + 1654 * ((S1 90 6 + H.length) % 40)) 1654) 90 5 (H.length + 1) 91 i = S 91 i := fun i hi => by
      rw [up_ne (by decide), cpr_out (by omega), e91]
    have cj : ∀ j, j ≠ 90 → j ≠ 91 → up (cpr S1 z (3308 + 1654 * ((S1 90 6 + H.length) % 40)) 1654) 90 5 (H.length + 1) j = S j := fun j h1 h2 => by
      rw [up_ne h1, cpr_ne h2, ej j h1]
    refine ⟨⟨fun i h1 h2 => by rw [c90 _ (by omega) (by omega)]; exact m.1 i h1 h2, by rw [cj _ (by decide) (by decide)]; exact m.2.1, by rw [cj _ (by decide) (by decide)]; exact m.2.2.1, by rw [cj _ (by decide) (by decide)]; exact m.2.2.2.1, by rw [cj _ (by decide) (by decide)]; exact m.2.2.2.2⟩, ⟨refR_F r1 hW.2.1.1.2.1 (fun i h1 h2 _ => c91 i (by omega)), ?_, ?_, ?_, ?_, ?_, ?_⟩, ⟨fun hn => by rw [c90 _ (by decide) (by decide)]; exact im.1 hn, fun B hB => ⟨by rw [c90 _ (by decide) (by decide)]; exact (im.2 B hB).1, ?_⟩⟩, by rw [cj _ (by decide) (by decide)]; exact t, by rw [c90 _ (by decide) (by decide)]; exact f, by rw [c90 _ (by decide) (by decide)]; exact a⟩
    · rw [up_eq]
      show (H.length : Int) + 1 = ((H ++ [A]).length : Int)
      rw [List.length_append]; simp
    · rw [c6]; exact e6
    · rw [c6]
      intro k B hkB
      by_cases c : k < H.length
      · rw [List.getElem?_append_left c] at hkB
        refine refR_F (hk k B hkB) (hwf B (List.mem_of_getElem? hkB)).2.1 (fun i h1 h2 _ => c91 i (by omega))
      · have : k = H.length := by
          rcases Nat.lt_or_ge k (H ++ [A]).length with q | q
          · rw [List.length_append] at q; simp at q; omega
          · rw [List.getElem?_eq_none q] at hkB; cases hkB
        subst this
        rw [List.getElem?_append_right (Nat.le_refl _), Nat.sub_self] at hkB
        cases hkB
        exact refR_far (refR_cpr (refR_far hr e91) hA.2.1) (up_ne (by decide))
    · rw [c90 _ (by decide) (by decide)]; exact r5
    · rw [cj _ (by decide) (by decide), cj _ (by decide) (by decide)]; exact r6
    · rw [cj _ (by decide) (by decide)]; exact r7
    · have hwB := (hW.2.2.2.1 B hB).1
      obtain ⟨s1, s2, s3, s4, s5, s6, s7⟩ := (im.2 B hB).2
      refine ⟨refR_F s1 hwB.1.2.1 (fun i h1 h2 _ => c91 i (by omega)), by rw [c90 _ (by decide) (by decide)]; exact s2, by rw [c90 _ (by decide) (by decide)]; exact s3, fun k A hk => ?_, by rw [c90 _ (by decide) (by decide)]; exact s5, by rw [cj _ (by decide) (by decide), cj _ (by decide) (by decide)]; exact s6, by rw [cj _ (by decide) (by decide)]; exact s7⟩
      rw [c90 _ (by decide) (by decide)]
      exact refR_F (s4 k A hk) (hwB.2.1 A (List.mem_of_getElem? hk)).2.1 (fun i h1 h2 _ => c91 i (by omega))
  by_cases c : W.2.1.2.1.length < 40
  · refine ⟨up (cpr S z (3308 + 1654 * ((S 90 6 + W.2.1.2.1.length) % 40)) 1654) 90 5 (W.2.1.2.1.length + 1), qX11_keeps_0 h0 ?_, ?_, fun i hi => by rw [up_ne (by decide), cpr_out (by omega)], fun j hj => by rw [up_ne (by omega), cpr_ne (by omega)], fun i h1 h2 => by rw [up_at, if_neg h1, cpr_ne (by decide)]⟩
    · rw [r2, if_neg (by rw [I_eq ⟨by omega, by omega⟩ ⟨by decide, by decide⟩]; omega)]
      refine ⟨_, _, keptAt_ok r3 ⟨by omega, by omega⟩, _, rcopies_ok h0 (by decide) ⟨by omega, by omega⟩ ⟨by omega, by omega⟩ (by omega), ?_⟩
      rw [cpr_ne (by decide), r2]
    · have e : hAdd W.2.1.2.1 A = W.2.1.2.1 ++ [A] := by unfold hAdd; rw [if_pos c]
      rw [e]
      exact key S W.2.1.2.1 rfl (fun _ _ => rfl) (fun _ _ _ => rfl) r2 c hW.2.1.2.1 r3 r4
  · have c' : W.2.1.2.1.length = 40 := by omega
    have ez : S 90 6 + 1 - idv (S 90 6 + 1) 40 * 40 = (S 90 6 + 1) % 40 := by
      rw [idv_nn (by omega) (by omega) (by decide) (by decide)]; omega
    have d5 : up (up S 90 6 ((S 90 6 + 1) % 40)) 90 5 39 90 5 = 39 := up_eq _ _ _ _
    have d6 : up (up S 90 6 ((S 90 6 + 1) % 40)) 90 5 39 90 6 = (S 90 6 + 1) % 40 := by rw [up_at, if_neg (by decide), up_eq]
    have lt : W.2.1.2.1.tail.length = 39 := by rw [List.length_tail]; omega
    refine ⟨up (cpr (up (up S 90 6 ((S 90 6 + 1) % 40)) 90 5 39) z (3308 + 1654 * (((S 90 6 + 1) % 40 + 39) % 40)) 1654) 90 5 40, qX11_keeps_0 h0 ?_, ?_, fun i hi => by rw [up_ne (by decide), cpr_out (by omega), up_ne (by decide), up_ne (by decide)], fun j hj => by rw [up_ne (by omega), cpr_ne (by omega), up_ne (by omega), up_ne (by omega)], fun i h1 h2 => by rw [up_at, if_neg h1, cpr_ne (by decide), up_at, if_neg h1, up_at, if_neg h2]⟩
    · rw [r2, if_pos (by rw [c']; rfl), ez]
      have e5 : up S 90 6 ((S 90 6 + 1) % 40) 90 5 - 1 = 39 := by rw [up_at, if_neg (by decide), r2]; omega
      rw [e5, d5, d6]
      refine ⟨_, _, keptAt_ok ⟨by omega, by omega⟩ ⟨by decide, by decide⟩, _, rcopies_ok h0 (by decide) ⟨by omega, by omega⟩ ⟨by omega, by omega⟩ (by omega), ?_⟩
      rw [cpr_ne (by decide), d5]
      rfl
    · have e : hAdd W.2.1.2.1 A = W.2.1.2.1.tail ++ [A] := by unfold hAdd; rw [if_neg c]
      rw [e]
      have q := key (up (up S 90 6 ((S 90 6 + 1) % 40)) 90 5 39) W.2.1.2.1.tail (by rw [up_ne (by decide), up_ne (by decide)]) (fun j hj => by rw [up_ne hj, up_ne hj]) (fun i h1 h2 => by rw [up_at, if_neg h1, up_at, if_neg h2]) (by rw [d5, lt]; rfl) (by omega) (fun B hB => hW.2.1.2.1 B (List.mem_of_mem_tail hB)) (by rw [d6]; omega) (fun k B hk => ?_)
      · rw [d6, lt] at q
        exact q
      · rw [d6]
        rw [List.getElem?_tail] at hk
        have q := r4 (k + 1) B hk
        have : (S 90 6 + ((k + 1 : Nat) : Int)) % 40 = ((S 90 6 + 1) % 40 + (k : Int)) % 40 := by omega
        rw [this] at q
        exact q
end
