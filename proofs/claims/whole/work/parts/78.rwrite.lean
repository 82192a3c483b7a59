/-! ===== the reference: a page is written, dropped ===== -/
abbrev saidR (S : mStore) (x : Int) : Prop := ∀ c, 0 ≤ c → c < 4 → S 101 c = nb x (12 - 4 * c)
theorem up_comm {S : mStore} {a c : Nat} (h : a ≠ c) (i x j y : Int) : up (up S a i x) c j y = up (up S c j y) a i x := by
  funext k z
  unfold up
  by_cases h1 : k = c ∧ z = j
  · rw [if_pos h1, if_neg (by rintro ⟨q, -⟩; omega), if_pos h1]
  · rw [if_neg h1]
    by_cases h2 : k = a ∧ z = i
    · rw [if_pos h2, if_pos h2]
    · rw [if_neg h2, if_neg h2, if_neg h1]
section
variable {sc : Nat × (Nat → Int32)} {SH : List mCell} {b N : Int} {P : aP} {A : aS}
theorem refR_far {S S' : mStore} (hr : refR S b A N) (h : S' 91 = S 91) : refR S' b A N := by
  unfold refR at *
  rw [h]; exact hr
theorem rsay_ok {S : mStore} (h0 : sMod SH) (hb : 0 ≤ b ∧ b ≤ 135000) (hr : refR S b A N) (hA : wfA P A) {p : Int} (hp : 0 ≤ p ∧ p < 48) {u : Option Value} : ∃ S', G sc MX11_saysAs 0 [some (.ref 90), some (.int (I b)), some (.int (I p)), u] [] SH S (rV SH S') ∧ saidR S' (cellsA A p) ∧ (∀ j, j ≠ 101 → S' j = S j) := by
  have key : ∀ (m : Nat) (c : Int) (S : mStore), refR S b A N → 0 ≤ c → c + m = 4 → (∀ d, 0 ≤ d → d < c → S 101 d = nb (cellsA A p) (12 - 4 * d)) → ∃ S', G sc MX11_saysAs 2 [some (.ref 90), some (.int (I b)), some (.int (I p)), some (.int (I c))] [] SH S (rV SH S') ∧ saidR S' (cellsA A p) ∧ (∀ j, j ≠ 101 → S' j = S j) := by
    intro m
    induction m with
    | zero =>
      intro c S hr h1 h2 h3
      refine ⟨S, qX11_saysAs_2 h0 ?_, fun d a e => h3 d a (by omega), fun _ _ => rfl⟩
      simp (disch := omega) only [iL, iE, iQ, ipos, ineg, an, if_true, if_false]
    | succ m ih =>
      intro c S hr h1 h2 h3
      obtain ⟨S', g', s', f'⟩ := ih (c + 1) (up S 101 c (nb (cellsA A p) (12 - 4 * c))) (refR_far hr (up_ne (by decide))) (by omega) (by omega) (fun d a e => by
        rw [up_at]
        by_cases q : d = c
        · rw [if_pos q, q]
        · rw [if_neg q]; exact h3 d a (by omega))
      refine ⟨S', qX11_saysAs_2 h0 ?_, s', fun j hj => by rw [f' j hj, up_ne hj]⟩
      simp (disch := omega) only [iL, iE, iQ, ipos, ineg, an, if_true, if_false]
      exact ⟨_, _, rcell_ok h0 hb hr hA hp ⟨h1, by omega⟩, g'⟩
  obtain ⟨S', g', s', f'⟩ := key 4 0 S hr (by omega) (by omega) (fun d a e => by omega)
  exact ⟨S', qX11_saysAs_0 h0 g', s', f'⟩
theorem rlay_ok {S : mStore} (h0 : sMod SH) (hb : 0 ≤ b ∧ b ≤ 135000) (hr : refR S b A N) (hC : wfR A.C A.k) {x f : Int} (hx : saidR S x) (hf : 0 ≤ f ∧ f < 48) {u : Option Value} : ∃ S', G sc MX11_laysCells 0 [some (.ref 90), some (.int (I b)), some (.int (I f)), u] [] SH S (rV SH S') ∧ refR S' b (A.sv 0 f x) N ∧ modG S S' b := by
  have key : ∀ (m : Nat) (c : Int) (S1 : mStore), 0 ≤ c → c + m = 4 → saidR S1 x → (∀ d, 0 ≤ d → d < c → S1 91 (b + 352 + 4 * f + d) = nb x (12 - 4 * d)) → ∃ S', G sc MX11_laysCells 2 [some (.ref 90), some (.int (I b)), some (.int (I f)), some (.int (I c))] [] SH S1 (rV SH S') ∧ (∀ d, 0 ≤ d → d < 4 → S' 91 (b + 352 + 4 * f + d) = nb x (12 - 4 * d)) ∧ (∀ i, i < b + 352 + 4 * f ∨ b + 352 + 4 * f + 4 ≤ i → S' 91 i = S1 91 i) ∧ (∀ j, j ≠ 91 → S' j = S1 j) := by
    intro m
    induction m with
    | zero =>
      intro c S1 h1 h2 h3 h4
      refine ⟨S1, qX11_laysCells_2 h0 ?_, fun d a e => h4 d a (by omega), fun _ _ => rfl, fun _ _ => rfl⟩
      simp (disch := omega) only [iL, iE, iQ, ipos, ineg, an, if_true, if_false]
    | succ m ih =>
      intro c S1 h1 h2 h3 h4
      obtain ⟨S', g', s', f', f''⟩ := ih (c + 1) (up S1 91 (b + 352 + 4 * f + c) (S1 101 c)) (by omega) (by omega) (fun d a e => by rw [up_ne (by decide)]; exact h3 d a e) (fun d a e => by
        rw [up_at]
        by_cases q : d = c
        · rw [if_pos (by omega), h3 c h1 (by omega), q]
        · rw [if_neg (by omega)]; exact h4 d a (by omega))
      refine ⟨S', qX11_laysCells_2 h0 ?_, s', fun i hi => by rw [f' i hi, up_at, if_neg (by omega)], fun j hj => by rw [f'' j hj, up_ne hj]⟩
      simp (disch := omega) only [iL, iE, iQ, ipos, ineg, an, if_true, if_false]
      exact g'
  obtain ⟨S', g', s', f', f''⟩ := key 4 0 S (by omega) (by omega) hx (fun d a e => by omega)
  refine ⟨S', qX11_laysCells_0 h0 g', refR_v0 hr hC (fun g c a1 a2 a3 a4 => ?_) (fun i i1 i2 i3 => f' i (by omega)), ⟨fun i hi => f' i (by omega), fun j hj => f'' j hj⟩⟩
  rw [up_at]
  by_cases q : g = f
  · rw [if_pos q, q]; exact s' c a3 a4
  · rw [if_neg q, f' _ (by omega)]; exact hr.2.2.2.2.2.2.2.2.1 g c a1 a2 a3 a4
theorem saidR_F {S S' : mStore} {x : Int} (h : saidR S x) (e : S' 101 = S 101) : saidR S' x := fun c a d => by rw [e]; exact h c a d
theorem rdrop_ok {S : mStore} (h0 : sMod SH) (hb : 0 ≤ b ∧ b ≤ 135000) (hr : refR S b A N) (hA : wfA P A) {p : Int} (hp : 0 ≤ p ∧ p < 48) {u : Option Value} : ∃ S', G sc MX11_drops 0 [some (.ref 90), some (.int (I b)), some (.int (I p)), u] [] SH S (rI (dropA A p).1 SH S') ∧ refR S' b (dropA A p).2 N ∧ modG S S' b := by
  have bw := hA.1.2.2 p
  have e1 := hr.2.1 p hp.1 hp.2
  unfold dropA
  by_cases e : A.w p = -1
  · rw [if_pos e]
    refine ⟨S, qX11_drops_0 h0 ?_, hr, modG_rf _ _⟩
    rw [e1, e]
    simp (disch := omega) only [iL, iE, iQ, ipos, ineg, an, if_true, if_false]
  · rw [if_neg e]
    obtain ⟨S1, g1, r1, m1⟩ := rlf_ok (sc := sc) h0 hb hr hA.1 hA.2.1 hA.2.2.1 hp e (u3 := none) (u4 := none) (u5 := none) (u6 := none)
    unfold leaveF at r1
    by_cases e2 : (unlie A p).L (A.w p) = []
    · rw [if_pos e2] at r1 ⊢
      refine ⟨S1, qX11_drops_0 h0 ?_, r1, m1⟩
      have e3 : S1 91 (b + 544 + A.w p) = 0 := by
        rw [r1.2.2.2.2.2.2.2.2.2.1 (A.w p) (by omega) bw.2, (leaveK_w _ _).2.1, e2]; rfl
      rw [e1]
      simp (disch := omega) only [iL, iE, iQ, ipos, ineg, an, if_true, if_false]
      refine ⟨_, g1, ?_⟩
      rw [e3]
      simp (disch := omega) only [iL, iE, iQ, ipos, ineg, an, if_true, if_false]
    · rw [if_neg e2] at r1 ⊢
      refine ⟨S1, qX11_drops_0 h0 ?_, r1, m1⟩
      have e3 : S1 91 (b + 544 + A.w p) = ((unlie A p).L (A.w p)).length := r1.2.2.2.2.2.2.2.2.2.1 (A.w p) (by omega) bw.2
      have h8 := r1.2.2.2.2.2.2.2.2.2.2.2.2.2.2.2.1 (A.w p)
      have hl : 0 < ((unlie A p).L (A.w p)).length := List.length_pos_iff.mpr e2
      rw [e1]
      simp (disch := omega) only [iL, iE, iQ, ipos, ineg, an, if_true, if_false]
      refine ⟨_, g1, ?_⟩
      rw [e3]
      simp (disch := omega) only [iL, iE, iQ, ipos, ineg, an, if_true, if_false]
end
