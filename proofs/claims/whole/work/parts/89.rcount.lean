/-! ===== the reference: rows are copied; what is counted ===== -/
section
variable {sc : Nat × (Nat → Int32)} {SH : List mCell} {b N : Int} {P : aP}
theorem refR_shift {S S' : mStore} {A : aS} {b' : Int} (h : refR S b A N) (hC : wfR A.C A.k) (hS : ∀ i, 0 ≤ i → i < 1654 → S' 91 (b' + i) = S 91 (b + i)) : refR S' b' A N := by
  obtain ⟨q0, q1, q2, q3, q4, q5, q6, q7, q8, q9, q10, q11, q12, q13, q14, q15⟩ := h
  have e : ∀ i j, 0 ≤ j → j < 1654 → i = b' + j → S' 91 i = S 91 (b + j) := fun i j h1 h2 h3 => by rw [h3]; exact hS j h1 h2
  have hrow : ∀ (o : Int) (l : List (Int × Int)), 0 ≤ o → o + 97 ≤ 1654 → l.length ≤ 48 → rowl (S 91) (b + o) l → rowl (S' 91) (b' + o) l := fun o l h1 h2 h3 h4 => ⟨by rw [hS o h1 (by omega)]; exact h4.1, fun i a c => by
    have q := h4.2 i a c
    rw [e (b' + o + 1 + i) (o + 1 + i) (by omega) (by omega) (by omega), e (b' + o + 49 + i) (o + 49 + i) (by omega) (by omega) (by omega), show b + (o + 1 + i) = b + o + 1 + i by omega, show b + (o + 49 + i) = b + o + 49 + i by omega]
    exact q⟩
  refine ⟨?_, ?_, ?_, ?_, ?_, ?_, ?_, ?_, ?_, ?_, ?_, ?_, ?_, ?_, ?_, q15⟩
  · exact fun i a c => by rw [hS i (by omega) (by omega)]; exact q0 i a c
  · exact fun p a c => by rw [e (b' + 16 + p) (16 + p) (by omega) (by omega) (by omega), show b + (16 + p) = b + 16 + p by omega]; exact q1 p a c
  · exact fun p a c => by rw [e (b' + 64 + p) (64 + p) (by omega) (by omega) (by omega), show b + (64 + p) = b + 64 + p by omega]; exact q2 p a c
  · exact fun p a c => by rw [e (b' + 112 + p) (112 + p) (by omega) (by omega) (by omega), show b + (112 + p) = b + 112 + p by omega]; exact q3 p a c
  · exact fun p a c => by rw [e (b' + 160 + p) (160 + p) (by omega) (by omega) (by omega), show b + (160 + p) = b + 160 + p by omega]; exact q4 p a c
  · exact fun p a c => by rw [e (b' + 208 + p) (208 + p) (by omega) (by omega) (by omega), show b + (208 + p) = b + 208 + p by omega]; exact q5 p a c
  · exact fun p a c => by rw [e (b' + 256 + p) (256 + p) (by omega) (by omega) (by omega), show b + (256 + p) = b + 256 + p by omega]; exact q6 p a c
  · exact fun p a c => by rw [e (b' + 304 + p) (304 + p) (by omega) (by omega) (by omega), show b + (304 + p) = b + 304 + p by omega]; exact q7 p a c
  · exact fun f c a1 a2 a3 a4 => by rw [e (b' + 352 + 4 * f + c) (352 + 4 * f + c) (by omega) (by omega) (by omega), show b + (352 + 4 * f + c) = b + 352 + 4 * f + c by omega]; exact q8 f c a1 a2 a3 a4
  · exact fun p a c => by rw [e (b' + 544 + p) (544 + p) (by omega) (by omega) (by omega), show b + (544 + p) = b + 544 + p by omega]; exact q9 p a c
  · exact fun f i a1 a2 a3 a4 => by have := q15.1 f; have a4 : i < (A.L f).length := a4; rw [e (b' + 592 + 8 * f + i) (592 + 8 * f + i) (by omega) (by omega) (by omega), show b + (592 + 8 * f + i) = b + 592 + 8 * f + i by omega]; exact q10 f i a1 a2 a3 a4
  · exact fun p a c => by rw [e (b' + 976 + p) (976 + p) (by omega) (by omega) (by omega), show b + (976 + p) = b + 976 + p by omega]; exact q11 p a c
  · have ec : ∀ f, 0 ≤ f → f < 48 → S' 91 (b' + 1024 + f) = S 91 (b + 1024 + f) := fun f a c => by rw [e (b' + 1024 + f) (1024 + f) (by omega) (by omega) (by omega), show b + (1024 + f) = b + 1024 + f by omega]
    have e12 : S' 91 (b' + 12) = S 91 (b + 12) := hS 12 (by decide) (by decide)
    refine ⟨by rw [e12]; exact q12.1, fun f a c d => by rw [e12, ec f a c]; exact q12.2.1 f a c d, fun x => ?_⟩
    refine (q12.2.2 x).imp_of_mem (fun {f g} hf hg h => ?_)
    rw [ec f (wf_bd hC hf).1 (wf_bd hC hf).2, ec g (wf_bd hC hg).1 (wf_bd hC hg).2]
    exact h
  · exact fun ρ a c => by
      have q := hrow (1072 + 97 * ρ) (fd (A.ts ρ) 0) (by omega) (by omega) (by rw [fd_len]; exact (q15.2 ρ).1) (by rw [show b + (1072 + 97 * ρ) = b + 1072 + 97 * ρ by omega]; exact q13 ρ a c)
      rw [show b' + (1072 + 97 * ρ) = b' + 1072 + 97 * ρ by omega] at q
      exact q
  · exact fun ρ a c => by
      have q := hrow (1363 + 97 * ρ) (fd (A.tw ρ) 0) (by omega) (by omega) (by rw [fd_len]; exact (q15.2 ρ).2) (by rw [show b + (1363 + 97 * ρ) = b + 1363 + 97 * ρ by omega]; exact q14 ρ a c)
      rw [show b' + (1363 + 97 * ρ) = b' + 1363 + 97 * ρ by omega] at q
      exact q
/-- cells from one place to another one -/
def cpr (S : mStore) (x y n : Int) : mStore := fun j i => if j = 91 ∧ y ≤ i ∧ i < y + n then S 91 (x + (i - y)) else S j i
theorem cpr_in {S : mStore} {x y n i : Int} (h : y ≤ i ∧ i < y + n) : cpr S x y n 91 i = S 91 (x + (i - y)) := if_pos ⟨rfl, h⟩
theorem cpr_out {S : mStore} {x y n i : Int} (h : ¬ (y ≤ i ∧ i < y + n)) : cpr S x y n 91 i = S 91 i := if_neg (fun q => h q.2)
theorem cpr_ne {S : mStore} {x y n : Int} {j : Nat} (h : j ≠ 91) : cpr S x y n j = S j := by
  funext i; exact if_neg (fun q => h q.1)
theorem rcopies_lp (h0 : sMod SH) {S : mStore} {x y n : Int} (hx : 0 ≤ x ∧ x + n ≤ 137400) (hy : 0 ≤ y ∧ y + n ≤ 137400) (hd : x + n ≤ y ∨ y + n ≤ x) : ∀ (m : Nat) (k : Int), 0 ≤ k → k + m = n → G sc MX11_copies 3 [some (.ref 90), some (.int (I x)), some (.int (I y)), some (.int (I n)), some (.int (I k))] [] SH (cpr S x y k) (rV SH (cpr S x y n))
  | 0, k, hk, hm => by
    refine qX11_copies_3 h0 ?_
    simp (disch := omega) only [iL, iE, iQ, ipos, ineg, an, if_true, if_false]
    rw [show k = n by omega]
  | m + 1, k, hk, hm => by
    refine qX11_copies_3 h0 ?_
    simp (disch := omega) only [iL, iE, iQ, ipos, ineg, an, if_true, if_false]
    have q := rcopies_lp (S := S) h0 hx hy hd m (k + 1) (by omega) (by omega)
    have e : up (cpr S x y k) 91 (y + k) (cpr S x y k 91 (x + k)) = cpr S x y (k + 1) := by
      rw [cpr_out (by omega)]
      funext j i
      unfold up cpr
      by_cases e1 : j = 91 ∧ i = y + k
      · rw [if_pos e1, if_pos (by omega), e1.2, show x + (y + k - y) = x + k by omega]
      · rw [if_neg e1]
        by_cases e2 : j = 91 ∧ y ≤ i ∧ i < y + k
        · rw [if_pos e2, if_pos (by omega)]
        · rw [if_neg e2, if_neg (by omega)]
    rw [e]
    exact q
theorem cpr_0 (S : mStore) (x y : Int) : cpr S x y 0 = S := by
  funext j i; exact if_neg (by omega)
theorem rcopies_ok (h0 : sMod SH) {S : mStore} {x y n : Int} (hn : 0 ≤ n) (hx : 0 ≤ x ∧ x + n ≤ 137400) (hy : 0 ≤ y ∧ y + n ≤ 137400) (hd : x + n ≤ y ∨ y + n ≤ x) {u : Option Value} : G sc MX11_copies 0 [some (.ref 90), some (.int (I x)), some (.int (I y)), some (.int (I n)), u] [] SH S (rV SH (cpr S x y n)) := by
  have q := rcopies_lp (sc := sc) h0 (S := S) hx hy hd n.toNat 0 (by omega) (by omega)
  rw [cpr_0] at q
  exact qX11_copies_0 h0 q
theorem refR_cpr {S : mStore} {A : aS} {x y : Int} (h : refR S x A N) (hC : wfR A.C A.k) : refR (cpr S x y 1654) y A N :=
  refR_shift h hC (fun i h1 h2 => by rw [cpr_in (by omega), show x + (y + i - y) = x + i by omega])
theorem refR_cprK {S : mStore} {A : aS} {x y n : Int} (h : refR S b A N) (hC : wfR A.C A.k) (hd : b + 1654 ≤ y ∨ y + n ≤ b) : refR (cpr S x y n) b A N :=
  refR_F h hC (fun i h1 h2 _ => cpr_out (by omega))
theorem rmerged_ok {S : mStore} {A : aS} (h0 : sMod SH) (hb : 0 ≤ b ∧ b ≤ 135000) (hm : modP S P) (hP : wfP P) (hr : refR S b A N) (hA : wfA P A) {u u' : Option Value} : G sc MX11_merged 0 [some (.ref 90), some (.int (I b)), u, u'] [] SH S (rI (mergedPg A 0 (P 0 7).toNat) SH S) := by
  refine qX11_merged_0 h0 ?_
  have hP7 := hP.2.2.2.2.2.1
  have e7 : S 90 19 = P 0 7 := hm.1 7 (by decide) (by decide)
  have q := cnt_go (q := mrg A) (F := fun res m i => G sc MX11_merged 4 [some (.ref 90), some (.int (I b)), some (.int (I m)), some (.int (I i))] [] SH S (rI res SH S)) (lo := 0) (hi := P 0 7)
    (fun res m i h1 h2 h3 h4 hn => by
      refine qX11_merged_4 h0 ?_
      rw [e7]
      simp (disch := omega) only [iL, iE, iQ, ipos, ineg, an, if_true, if_false]
      refine ⟨_, _, risM_ok h0 hb hr hA ⟨h1, by omega⟩, ?_⟩
      by_cases e : mrg A i = true
      · rw [if_pos e] at hn ⊢
        rw [if_neg (by decide)]
        exact hn
      · rw [if_neg e] at hn ⊢
        rw [if_pos rfl]
        exact hn)
    (fun m h1 h2 => by
      refine qX11_merged_4 h0 ?_
      rw [e7]
      simp (disch := omega) only [iL, iE, iQ, ipos, ineg, an, if_true, if_false])
    (P 0 7).toNat 0 0 (by omega) (by omega) (by omega) (by omega)
  rw [Int.zero_add] at q
  exact q
theorem rabsent_ok {S : mStore} {A : aS} (h0 : sMod SH) (hr : refR S 0 A N) (hL : wfR A.L A.w) {x y : Int} (hx : 0 ≤ x ∧ x ≤ y ∧ y ≤ 48) {u u' : Option Value} : G sc MX11_absent 0 [some (.ref 90), some (.int (I x)), some (.int (I y)), u, u'] [] SH S (rI (absentPg A x (y - x).toNat) SH S) := by
  refine qX11_absent_0 h0 ?_
  have q := cnt_go (q := fun p => decide (A.w p = -1)) (F := fun res m i => G sc MX11_absent 5 [some (.ref 90), some (.int (I x)), some (.int (I y)), some (.int (I m)), some (.int (I i))] [] SH S (rI res SH S)) (lo := x) (hi := y)
    (fun res m i h1 h2 h3 h4 hn => by
      refine qX11_absent_5 h0 ?_
      have ew : S 91 (16 + i) = A.w i := hr.2.1 i (by omega) (by omega)
      have bw := hL.2.2 i
      rw [ew]
      simp (disch := omega) only [iL, iE, iQ, ipos, ineg, an, if_true, if_false]
      by_cases e : A.w i = -1
      · rw [if_pos e]
        rw [if_pos (by simpa using e)] at hn
        exact hn
      · rw [if_neg e]
        rw [if_neg (by simpa using e)] at hn
        exact hn)
    (fun m h1 h2 => by
      refine qX11_absent_5 h0 ?_
      simp (disch := omega) only [iL, iE, iQ, ipos, ineg, an, if_true, if_false])
    (y - x).toNat 0 x (by omega) (by omega) (by omega) (by omega)
  rw [Int.zero_add] at q
  exact q
theorem radvis_ok {S : mStore} {A : aS} (h0 : sMod SH) (hr : refR S 0 A N) (hv : ∀ p, A.v 1 p = 0 ∨ A.v 1 p = 1) {x y : Int} (hx : 0 ≤ x ∧ x ≤ y ∧ y ≤ 48) {u u' : Option Value} : G sc MX11_advised 0 [some (.ref 90), some (.int (I x)), some (.int (I y)), u, u'] [] SH S (rI (advisedPg A x (y - x).toNat) SH S) := by
  refine qX11_advised_0 h0 ?_
  have q := cnt_go (q := fun p => decide (A.v 1 p = 1)) (F := fun res m i => G sc MX11_advised 5 [some (.ref 90), some (.int (I x)), some (.int (I y)), some (.int (I m)), some (.int (I i))] [] SH S (rI res SH S)) (lo := x) (hi := y)
    (fun res m i h1 h2 h3 h4 hn => by
      refine qX11_advised_5 h0 ?_
      have ew : S 91 (64 + i) = A.v 1 i := hr.2.2.1 i (by omega) (by omega)
      rw [ew]
      simp (disch := omega) only [iL, iE, iQ, ipos, ineg, an, if_true, if_false]
      rcases hv i with e | e
      · rw [if_neg (by rw [e]; decide)] at hn
        rw [e]; exact hn
      · rw [if_pos (by rw [e]; decide)] at hn
        rw [e]; exact hn)
    (fun m h1 h2 => by
      refine qX11_advised_5 h0 ?_
      simp (disch := omega) only [iL, iE, iQ, ipos, ineg, an, if_true, if_false])
    (y - x).toNat 0 x (by omega) (by omega) (by omega) (by omega)
  rw [Int.zero_add] at q
  exact q
theorem cnt_more {q : Int → Bool} : ∀ (n : Nat) (m : Nat) (i : Int), (∀ x, i + n ≤ x → x < i + n + m → q x = false) → cnt q (n + m) i = cnt q n i
  | 0, 0, _, _ => rfl
  | 0, m + 1, i, h => by
    have e := cnt_more 0 m (i + 1) (fun x h1 h2 => h x (by omega) (by omega))
    rw [Nat.zero_add] at e ⊢
    unfold cnt
    rw [h i (by omega) (by omega), e]
    rfl
  | n + 1, m, i, h => by
    have e := cnt_more n m (i + 1) (fun x h1 h2 => h x (by omega) (by omega))
    rw [show n + 1 + m = (n + m) + 1 by omega]
    show _ + cnt q (n + m) (i + 1) = _ + cnt q n (i + 1)
    rw [e]
theorem rmfr_ok {S : mStore} {A : aS} (h0 : sMod SH) (hP : wfP P) (hr : refR S 0 A N) (hA : wfA P A) {u u' : Option Value} : G sc MX11_mergedFrames 0 [some (.ref 90), u, u'] [] SH S (rI (mergedFr P A) SH S) := by
  refine qX11_mergedFrames_0 h0 ?_
  have hP0 := hP.1
  have q := cnt_go (q := fun f => decide (A.k f ≠ -1)) (F := fun res m i => G sc MX11_mergedFrames 4 [some (.ref 90), some (.int (I m)), some (.int (I i))] [] SH S (rI res SH S)) (lo := 0) (hi := 48)
    (fun res m i h1 h2 h3 h4 hn => by
      refine qX11_mergedFrames_4 h0 ?_
      have ew : S 91 (976 + i) = A.k i := hr.2.2.2.2.2.2.2.2.2.2.2.1 i (by omega) (by omega)
      have bw := hA.2.1.2.2 i
      rw [ew]
      simp (disch := omega) only [iL, iE, iQ, ipos, ineg, an, if_true, if_false]
      by_cases e : A.k i = -1
      · rw [if_pos e]
        rw [if_neg (by simpa using e)] at hn
        exact hn
      · rw [if_neg e]
        rw [if_pos (by simpa using e)] at hn
        exact hn)
    (fun m h1 h2 => by
      refine qX11_mergedFrames_4 h0 ?_
      simp (disch := omega) only [iL, iE, iQ, ipos, ineg, an, if_true, if_false])
    48 0 0 (by omega) (by omega) (by omega) (by omega)
  rw [Int.zero_add] at q
  have e : cnt (fun f => decide (A.k f ≠ -1)) 48 0 = mergedFr P A := by
    have e2 := cnt_more (q := fun f => decide (A.k f ≠ -1)) (P 0 0).toNat (48 - (P 0 0).toNat) 0 (fun x h1 h2 => by
      have := hA.2.2.2.2.2.1 x
      by_cases c : A.k x = -1
      · simp [c]
      · have := this c; omega)
    rw [show (P 0 0).toNat + (48 - (P 0 0).toNat) = 48 by omega] at e2
    exact e2
  rw [e] at q
  exact q
theorem rwait_ok {S : mStore} {A : aS} (h0 : sMod SH) (hb : 0 ≤ b ∧ b ≤ 135000) (hr : refR S b A N) : G sc MX11_waiting 0 [some (.ref 90), some (.int (I b))] [] SH S (rI ((al A.tw).length : Int) SH S) := by
  refine qX11_waiting_0 h0 ⟨⟨by omega, by omega⟩, ⟨by omega, by omega⟩, ⟨by omega, by omega⟩, ?_⟩
  have h := hr.2.2.2.2.2.2.2.2.2.2.2.2.2.2.1
  have e0 : S 91 (b + 1363) = (lb (A.tw 0)).length := by have q := (h 0 (by decide) (by decide)).1; rw [fd_len, show b + 1363 + 97 * 0 = b + 1363 by omega] at q; exact q
  have e1 : S 91 (b + 1363 + 97) = (lb (A.tw 1)).length := by have q := (h 1 (by decide) (by decide)).1; rw [fd_len, show b + 1363 + 97 * 1 = b + 1363 + 97 by omega] at q; exact q
  have e2 : S 91 (b + 1363 + 194) = (lb (A.tw 2)).length := by have q := (h 2 (by decide) (by decide)).1; rw [fd_len, show b + 1363 + 97 * 2 = b + 1363 + 194 by omega] at q; exact q
  rw [e0, e1, e2]
  have e : ((al A.tw).length : Int) = (lb (A.tw 0)).length + (lb (A.tw 1)).length + (lb (A.tw 2)).length := by unfold al; rw [List.length_append, List.length_append]; omega
  rw [e]
end
