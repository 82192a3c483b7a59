/-! ===== the reference: pages in frames ===== -/
def leaveF (A : aS) (p : Int) : aS := if (unlie A p).L (A.w p) = [] then leaveK (unlie A p) (A.w p) else unlie A p
theorem nthL_l : ∀ {l m : List Int} {i : Nat}, i < l.length → nthL (l ++ m) i = nthL l i
  | [], _, _, h => absurd h (Nat.not_lt_zero _)
  | _ :: _, _, 0, _ => rfl
  | _ :: l, m, i + 1, h => nthL_l (l := l) (by simpa using h)
theorem nthL_e : ∀ (l : List Int) (x : Int) (m : List Int) {i : Nat}, i = l.length → nthL (l ++ x :: m) i = x
  | l, x, m, i, h => by subst h; exact nthL_app l x m
section
variable {sc : Nat × (Nat → Int32)} {SH : List mCell} {b N : Int} {P : aP} {A : aS}
theorem rli_ok {S : mStore} (h0 : sMod SH) (hb : 0 ≤ b ∧ b ≤ 135000) (hr : refR S b A N) (hC : wfR A.C A.k) {p f : Int} (hp : 0 ≤ p ∧ p < 48) (hf : 0 ≤ f ∧ f < 48) (hl : (A.L f).length < 8) : ∃ S', G sc MX11_liesIn 0 [some (.ref 90), some (.int (I b)), some (.int (I p)), some (.int (I f))] [] SH S (rV SH S') ∧ refR S' b (lieIn A p f) N ∧ modG S S' b := by
  have en := hr.2.2.2.2.2.2.2.2.2.1 f hf.1 hf.2
  have h8 := hr.2.2.2.2.2.2.2.2.2.2.2.2.2.2.2.1
  refine ⟨up (up (up S 91 (b + 592 + 8 * f + (A.L f).length) p) 91 (b + 544 + f) ((A.L f).length + 1)) 91 (b + 16 + p) f, qX11_liesIn_0 h0 ?_, ?_, modG_tr (modG_tr (modG_up (by omega)) (modG_up (by omega))) (modG_up (by omega))⟩
  · rw [en, show up S 91 (b + 592 + 8 * f + (A.L f).length) p 91 (b + 544 + f) = (A.L f).length by rw [up_at, if_neg (by omega)]; exact en]
    simp (disch := omega) only [an]
  · refine refR_L hr hC (fun q a c => ?_) (fun g a c => ?_) (fun g i a c d e => ?_) (fun g => ?_) (fun i i1 i2 i3 => by rw [up3, if_neg (by omega), if_neg (by omega), if_neg (by omega)])
    · rw [up3]
      unfold setW
      by_cases e : q = p
      · rw [if_pos (by omega), if_pos e]
      · rw [if_neg (by omega), if_neg (by omega), if_neg (by omega), if_neg e]; exact hr.2.1 q a c
    · rw [up3, if_neg (by omega)]
      by_cases e : g = f
      · rw [if_pos (by omega), e, addL_eq, List.length_append]; simp
      · rw [if_neg (by omega), if_neg (by omega), addL_ne e]; exact hr.2.2.2.2.2.2.2.2.2.1 g a c
    · rw [up3, if_neg (by omega), if_neg (by omega)]
      by_cases q : g = f
      · subst q
        rw [addL_eq] at e ⊢
        rw [List.length_append] at e
        simp only [List.length_cons, List.length_nil] at e
        by_cases q2 : i = (A.L g).length
        · rw [if_pos (by omega), nthL_e _ _ _ (by omega)]
        · rw [if_neg (by omega), nthL_l (by omega)]
          exact hr.2.2.2.2.2.2.2.2.2.2.1 g i a c d (by omega)
      · rw [addL_ne q] at e ⊢
        have := h8 g
        rw [if_neg (by omega)]
        exact hr.2.2.2.2.2.2.2.2.2.2.1 g i a c d e
    · by_cases q : g = f
      · rw [q, addL_eq, List.length_append]; simp; omega
      · rw [addL_ne q]; exact h8 g
/-- those that are not the one stay, one behind the other -/
theorem rlf_lp (h0 : sMod SH) (hb : 0 ≤ b ∧ b ≤ 135000) {p f : Int} (hp : 0 ≤ p ∧ p < 48) (hf : 0 ≤ f ∧ f < 48) {L : List Int} (hL8 : L.length ≤ 8) (hLb : ∀ x ∈ L, 0 ≤ x ∧ x < 48) : ∀ (rest done : List Int) (n k : Int) {S : mStore}, L = done ++ rest → k = done.length → n = (done.filter (· ≠ p)).length → S 91 (b + 544 + f) = L.length → (∀ i : Int, 0 ≤ i → i < n → S 91 (b + 592 + 8 * f + i) = nthL (done.filter (· ≠ p)) i.toNat) → (∀ i : Int, k ≤ i → i < L.length → S 91 (b + 592 + 8 * f + i) = nthL L i.toNat) → ∃ S1, (∀ r, (if I ((L.filter (· ≠ p)).length : Int) = I 0 then (∃ S101, G sc MX11_leavesKnot 0 [some (.ref 90), some (.int (I b)), some (.int (I f)), none, none, none, none] [] SH (up (up S1 91 (b + 544 + f) (L.filter (· ≠ p)).length) 91 (b + 16 + p) (-1)) (rV SH S101) ∧ r = rV SH S101) else r = rV SH (up (up S1 91 (b + 544 + f) (L.filter (· ≠ p)).length) 91 (b + 16 + p) (-1))) → G sc MX11_leavesFrame 30 [some (.ref 90), some (.int (I b)), some (.int (I p)), some (.int (I f)), some (.int (I (b + 592 + 8 * f))), some (.int (I n)), some (.int (I k))] [] SH S r) ∧ (∀ i : Int, 0 ≤ i → i < (L.filter (· ≠ p)).length → S1 91 (b + 592 + 8 * f + i) = nthL (L.filter (· ≠ p)) i.toNat) ∧ (∀ i, i < b + 592 + 8 * f ∨ b + 592 + 8 * f + 8 ≤ i → S1 91 i = S 91 i) ∧ (∀ j, j ≠ 91 → S1 j = S j)
  | [], done, n, k, S, hL, hk, hn, hm, h1, h2 => by
    rw [List.append_nil] at hL
    subst hL
    refine ⟨S, fun r hx => qX11_leavesFrame_30 h0 ?_, fun i a c => h1 i a (by omega), fun _ _ => rfl, fun _ _ => rfl⟩
    rw [hm, hk]
    simp (disch := omega) only [iL, iE, iQ, ipos, ineg, an, if_true, if_false] at hx ⊢
    rw [hn]
    exact hx
  | x :: rest, done, n, k, S, hL, hk, hn, hm, h1, h2 => by
    have hlen : L.length = done.length + 1 + rest.length := by rw [hL]; simp only [List.length_append, List.length_cons]; omega
    have hxb := hLb x (by rw [hL]; exact List.mem_append_right _ (List.mem_cons_self ..))
    have hfl : (done.filter (· ≠ p)).length ≤ done.length := List.length_filter_le ..
    have ex : S 91 (b + 592 + 8 * f + k) = x := by rw [h2 k (by omega) (by omega), hL]; exact nthL_e _ _ _ (by omega)
    by_cases c : x = p
    · have hfe : (done ++ [x]).filter (· ≠ p) = done.filter (· ≠ p) := by rw [List.filter_append, List.filter_cons_of_neg (by simp [c])]; simp
      obtain ⟨S1, g1, r1, f1, f2⟩ := rlf_lp h0 hb hp hf hL8 hLb rest (done ++ [x]) n (k + 1) (S := S) (by rw [hL]; simp) (by rw [List.length_append, hk]; simp) (by rw [hfe]; exact hn) hm (fun i a d => by rw [hfe]; exact h1 i a d) (fun i a d => h2 i (by omega) d)
      refine ⟨S1, fun r hx => qX11_leavesFrame_30 h0 ?_, r1, f1, f2⟩
      rw [hm, ex]
      simp (disch := omega) only [iL, iE, iQ, ipos, ineg, an, if_true, if_false]
      exact g1 r hx
    · have hfe : (done ++ [x]).filter (· ≠ p) = done.filter (· ≠ p) ++ [x] := by rw [List.filter_append, List.filter_cons_of_pos (by simpa using c)]; simp
      obtain ⟨S1, g1, r1, f1, f2⟩ := rlf_lp h0 hb hp hf hL8 hLb rest (done ++ [x]) (n + 1) (k + 1) (S := up S 91 (b + 592 + 8 * f + n) x) (by rw [hL]; simp) (by rw [List.length_append, hk]; simp) (by rw [hfe, List.length_append, hn]; simp) (by rw [up_at, if_neg (by omega)]; exact hm) (fun i a d => by
        rw [hfe, up_at]
        by_cases e : i = n
        · rw [if_pos (by omega), nthL_e _ _ _ (by omega)]
        · rw [if_neg (by omega), nthL_l (by omega)]; exact h1 i a (by omega)) (fun i a d => by rw [up_at, if_neg (by omega)]; exact h2 i (by omega) d)
      refine ⟨S1, fun r hx => qX11_leavesFrame_30 h0 ?_, r1, fun i hi => by rw [f1 i hi, up_at, if_neg (by omega)], fun j hj => by rw [f2 j hj, up_ne hj]⟩
      rw [hm, ex]
      simp (disch := omega) only [iL, iE, iQ, ipos, ineg, an, if_true, if_false]
      exact g1 r hx
theorem rlf_ok {S : mStore} (h0 : sMod SH) (hb : 0 ≤ b ∧ b ≤ 135000) (hr : refR S b A N) (hL : wfR A.L A.w) (hC : wfR A.C A.k) (hT : wfT A.ts) {p : Int} (hp : 0 ≤ p ∧ p < 48) (hw : A.w p ≠ -1) {u3 u4 u5 u6 : Option Value} : ∃ S', G sc MX11_leavesFrame 0 [some (.ref 90), some (.int (I b)), some (.int (I p)), u3, u4, u5, u6] [] SH S (rV SH S') ∧ refR S' b (leaveF A p) N ∧ modG S S' b := by
  have bw := hL.2.2 p
  have h8 := hr.2.2.2.2.2.2.2.2.2.2.2.2.2.2.2.1
  obtain ⟨S1, g1, r1, f1, f2⟩ := rlf_lp (sc := sc) (S := S) h0 hb hp (f := A.w p) ⟨by omega, bw.2⟩ (L := A.L (A.w p)) (h8 _) (fun x hx => wf_bd hL hx) (A.L (A.w p)) [] 0 0 rfl rfl rfl (hr.2.2.2.2.2.2.2.2.2.1 _ (by omega) bw.2) (fun i a c => by omega) (fun i a c => hr.2.2.2.2.2.2.2.2.2.2.1 _ i (by omega) bw.2 a c)
  have hfl : ((A.L (A.w p)).filter (· ≠ p)).length ≤ (A.L (A.w p)).length := List.length_filter_le ..
  have h8w := h8 (A.w p)
  have hrem : ∀ g, g = A.w p → remL A.L (A.w p) p g = (A.L (A.w p)).filter (· ≠ p) := fun g e => by unfold remL; rw [if_pos e, e]
  have r2 : refR (up (up S1 91 (b + 544 + A.w p) ((A.L (A.w p)).filter (· ≠ p)).length) 91 (b + 16 + p) (-1)) b (unlie A p) N := by
    refine refR_L hr hC (fun q a c => ?_) (fun g a c => ?_) (fun g i a c d e => ?_) (fun g => ?_) (fun i i1 i2 i3 => by rw [up2, if_neg (by omega), if_neg (by omega)]; exact f1 i (by omega))
    · rw [up2]
      unfold setW
      by_cases e : q = p
      · rw [if_pos (by omega), if_pos e]
      · rw [if_neg (by omega), if_neg (by omega), if_neg e, f1 _ (by omega)]; exact hr.2.1 q a c
    · rw [up2, if_neg (by omega)]
      by_cases e : g = A.w p
      · rw [if_pos (by omega), hrem g e]
      · rw [if_neg (by omega), remL_ne e, f1 _ (by omega)]; exact hr.2.2.2.2.2.2.2.2.2.1 g a c
    · by_cases q : g = A.w p
      · rw [hrem g q] at e ⊢
        rw [q, up2, if_neg (by omega), if_neg (by omega)]
        exact r1 i d e
      · rw [remL_ne q] at e ⊢
        have := h8 g
        rw [up2, if_neg (by omega), if_neg (by omega), f1 _ (by omega)]
        exact hr.2.2.2.2.2.2.2.2.2.2.1 g i a c d e
    · by_cases q : g = A.w p
      · rw [hrem g q]; omega
      · rw [remL_ne q]; exact h8 g
  have m2 : modG S (up (up S1 91 (b + 544 + A.w p) ((A.L (A.w p)).filter (· ≠ p)).length) 91 (b + 16 + p) (-1)) b := modG_tr (modG_tr ⟨fun i hi => f1 i (by omega), fun j hj => f2 j hj⟩ (modG_up (by omega))) (modG_up (by omega))
  have hstart : ∀ r, G sc MX11_leavesFrame 30 [some (.ref 90), some (.int (I b)), some (.int (I p)), some (.int (I (A.w p))), some (.int (I (b + 592 + 8 * A.w p))), some (.int (I 0)), some (.int (I 0))] [] SH S r → G sc MX11_leavesFrame 0 [some (.ref 90), some (.int (I b)), some (.int (I p)), u3, u4, u5, u6] [] SH S r := fun r h => by
    refine qX11_leavesFrame_0 h0 ?_
    rw [hr.2.1 p hp.1 hp.2]
    exact ⟨⟨by omega, by omega⟩, h⟩
  unfold leaveF
  by_cases e : (A.L (A.w p)).filter (· ≠ p) = []
  · rw [if_pos (by show remL A.L (A.w p) p (A.w p) = []; rw [hrem _ rfl]; exact e)]
    obtain ⟨S3, g3, r3, m3⟩ := rlk_ok (sc := sc) h0 hb r2 hC hT (f := A.w p) ⟨by omega, bw.2⟩ (u := none) (u' := none) (u2 := none) (u3 := none)
    refine ⟨S3, hstart _ (g1 _ ?_), r3, modG_tr m2 m3⟩
    rw [if_pos (by rw [e]; rfl)]
    exact ⟨S3, g3, rfl⟩
  · rw [if_neg (by show ¬ remL A.L (A.w p) p (A.w p) = []; rw [hrem _ rfl]; exact e)]
    have hl : 0 < ((A.L (A.w p)).filter (· ≠ p)).length := List.length_pos_iff.mpr e
    refine ⟨_, hstart _ (g1 _ ?_), r2, m2⟩
    rw [if_neg (by rw [I_eq ⟨by omega, by omega⟩ ⟨by omega, by omega⟩]; omega)]
theorem rct_ok {S : mStore} (h0 : sMod SH) (hb : 0 ≤ b ∧ b ≤ 135000) (hr : refR S b A N) (hC : wfR A.C A.k) {f k : Int} (hf : 0 ≤ f ∧ f < 48) (hk : 0 ≤ k ∧ k < 48) (hkf : A.k f = -1) : ∃ S', G sc MX11_comesTo 0 [some (.ref 90), some (.int (I b)), some (.int (I f)), some (.int (I k))] [] SH S (rV SH S') ∧ refR S' b (A.sC (addL A.C k f) (setW A.k f k)) (N + 1) ∧ modG S S' b := by
  have hcam := hr.2.2.2.2.2.2.2.2.2.2.2.2.1
  have hC' := wf_add hC hf hk hkf
  refine ⟨up (up (up S 91 (b + 976 + f) k) 91 (b + 12) (S 91 (b + 12) + 1)) 91 (b + 1024 + f) (S 91 (b + 12) + 1), qX11_comesTo_0 h0 ?_, ?_, modG_tr (modG_tr (modG_up (by omega)) (modG_up (by omega))) (modG_up (by omega))⟩
  · rw [show up S 91 (b + 976 + f) k 91 (b + 12) = S 91 (b + 12) by rw [up_at, if_neg (by omega)], show up (up S 91 (b + 976 + f) k) 91 (b + 12) (S 91 (b + 12) + 1) 91 (b + 12) = S 91 (b + 12) + 1 by rw [up_at, if_pos rfl]]
    simp (disch := omega) only [an]
  · have e12 : up (up (up S 91 (b + 976 + f) k) 91 (b + 12) (S 91 (b + 12) + 1)) 91 (b + 1024 + f) (S 91 (b + 12) + 1) 91 (b + 12) = S 91 (b + 12) + 1 := by rw [up3, if_neg (by omega), if_pos rfl]
    have ecm : ∀ g, 0 ≤ g → g < 48 → up (up (up S 91 (b + 976 + f) k) 91 (b + 12) (S 91 (b + 12) + 1)) 91 (b + 1024 + f) (S 91 (b + 12) + 1) 91 (b + 1024 + g) = if g = f then S 91 (b + 12) + 1 else S 91 (b + 1024 + g) := fun g a c => by
      rw [up3]
      by_cases q : g = f
      · rw [if_pos (by omega), if_pos q]
      · rw [if_neg (by omega), if_neg (by omega), if_neg (by omega), if_neg q]
    refine refR_C hr hC (fun g a c => ?_) ⟨?_, fun g a c hg => ?_, fun x => ?_⟩ (fun i i1 i2 i3 => by rw [up3, if_neg (by omega), if_neg (by omega), if_neg (by omega)])
    · rw [up3, if_neg (by omega), if_neg (by omega)]
      unfold setW
      by_cases q : g = f
      · rw [if_pos (by omega), if_pos q]
      · rw [if_neg (by omega), if_neg q]; exact hr.2.2.2.2.2.2.2.2.2.2.2.1 g a c
    · rw [e12]; have := hcam.1; omega
    · rw [e12, ecm g a c]
      by_cases q : g = f
      · rw [if_pos q]; have := hcam.1; omega
      · rw [if_neg q]
        rw [setW_ne q] at hg
        have := hcam.2.1 g a c hg
        omega
    · have hold : (A.C x).Pairwise fun f1 g1 => up (up (up S 91 (b + 976 + f) k) 91 (b + 12) (S 91 (b + 12) + 1)) 91 (b + 1024 + f) (S 91 (b + 12) + 1) 91 (b + 1024 + f1) < up (up (up S 91 (b + 976 + f) k) 91 (b + 12) (S 91 (b + 12) + 1)) 91 (b + 1024 + f) (S 91 (b + 12) + 1) 91 (b + 1024 + g1) := by
        refine (hcam.2.2 x).imp_of_mem (fun {f1 g1} h1 h2 h => ?_)
        have a1 := (hC.2.1 x f1).mp h1
        have a2 := (hC.2.1 x g1).mp h2
        rw [ecm f1 a1.1.1 a1.1.2, ecm g1 a2.1.1 a2.1.2, if_neg (fun q => by rw [q] at a1; omega), if_neg (fun q => by rw [q] at a2; omega)]
        exact h
      by_cases q : x = k
      · rw [q, addL_eq]
        rw [q] at hold
        refine List.pairwise_append.mpr ⟨hold, List.pairwise_singleton _ _, fun f1 h1 g1 h2 => ?_⟩
        rw [List.mem_singleton] at h2
        rw [h2]
        have a1 := (hC.2.1 k f1).mp h1
        have := hcam.2.1 f1 a1.1.1 a1.1.2 (by omega)
        rw [ecm f1 a1.1.1 a1.1.2, ecm f hf.1 hf.2, if_pos rfl, if_neg (fun q => by rw [q] at a1; omega)]
        omega
      · rw [addL_ne q]; exact hold
theorem rnk_ok {S : mStore} (h0 : sMod SH) (hb : 0 ≤ b ∧ b ≤ 135000) (hr : refR S b A N) (hA : wfA P A) {f : Int} (hf : 0 ≤ f ∧ f < 48) (hk : A.k f = -1) {u : Option Value} : G sc MX11_newKnot 0 [some (.ref 90), some (.int (I b)), u] [] SH S (rI (freeKn A) SH S) := by
  refine qX11_newKnot_0 h0 ?_
  obtain ⟨k1, k2, k3⟩ := freeKn_free hA hf hk
  have hC := hA.2.1
  have hlow : ∀ x, 0 ≤ x → x < freeKn A → A.C x ≠ [] := fun x a c => by
    unfold freeKn at c
    by_cases e : fnd (fun k => decide (A.C k = [])) 47 0 = -1
    · rw [if_pos e] at c
      have := fnd_no e (by decide) x a (by omega)
      simpa using this
    · rw [if_neg e] at c
      have := fnd_lt (q := fun k => decide (A.C k = [])) (by decide) x a c
      simpa using this
  have key : ∀ (m : Nat) (x : Int), 0 ≤ x → x + m = freeKn A → G sc MX11_newKnot 2 [some (.ref 90), some (.int (I b)), some (.int (I x))] [] SH S (rI (freeKn A) SH S) := by
    intro m
    induction m with
    | zero =>
      intro x a c
      have e : x = freeKn A := by omega
      subst e
      refine qX11_newKnot_2 h0 ⟨_, _, rframes_cnt h0 hb ⟨by omega, by omega⟩ (rk_rg hr hC), ?_⟩
      rw [cnt_C hC ⟨k2, k3⟩, k1]
      simp only [List.length_nil, Int.natCast_zero]
      simp (disch := omega) only [iL, iE, iQ, ipos, ineg, an, if_true, if_false]
    | succ m ih =>
      intro x a c
      have hne := hlow x a (by omega)
      have hl : 0 < (A.C x).length := List.length_pos_iff.mpr hne
      have h48 := wf_len hC x
      refine qX11_newKnot_2 h0 ⟨_, _, rframes_cnt h0 hb ⟨by omega, by omega⟩ (rk_rg hr hC), ?_⟩
      rw [cnt_C hC ⟨a, by omega⟩]
      simp (disch := omega) only [iL, iE, iQ, ipos, ineg, an, if_true, if_false]
      exact ih (x + 1) (by omega) (by omega)
  exact key (freeKn A).toNat 0 (by omega) (by omega)
end
