/-! ===== the reference: searches ===== -/
abbrev soughtR (S : mStore) (x : Int) : Prop := ∀ c, 0 ≤ c → c < 4 → S 100 c = nb x (12 - 4 * c)
/-- the place of what a search has found -/
def foundA : mCx → Int
  | (_, .leaf _, _, _, _) => -1
  | (_, .branch _ l _, _, A, _) => A.length + (lb l).length
section
variable {sc : Nat × (Nat → Int32)} {SH : List mCell} {b N : Int} {P : aP}
theorem rseek_ok {S : mStore} {A : aS} (h0 : sMod SH) (hb : 0 ≤ b ∧ b ≤ 135000) (hr : refR S b A N) (hA : wfA P A) {p : Int} (hp : 0 ≤ p ∧ p < 48) {u : Option Value} : ∃ S', G sc MX11_seeks 0 [some (.ref 90), some (.int (I b)), some (.int (I p)), u] [] SH S (rV SH S') ∧ soughtR S' (cellsA A p) ∧ (∀ j, j ≠ 100 → S' j = S j) := by
  have key : ∀ (m : Nat) (c : Int) (S : mStore), refR S b A N → 0 ≤ c → c + m = 4 → (∀ d, 0 ≤ d → d < c → S 100 d = nb (cellsA A p) (12 - 4 * d)) → ∃ S', G sc MX11_seeks 2 [some (.ref 90), some (.int (I b)), some (.int (I p)), some (.int (I c))] [] SH S (rV SH S') ∧ soughtR S' (cellsA A p) ∧ (∀ j, j ≠ 100 → S' j = S j) := by
    intro m
    induction m with
    | zero =>
      intro c S hr h1 h2 h3
      refine ⟨S, qX11_seeks_2 h0 ?_, fun d a e => h3 d a (by omega), fun _ _ => rfl⟩
      simp (disch := omega) only [iL, iE, iQ, ipos, ineg, an, if_true, if_false]
    | succ m ih =>
      intro c S hr h1 h2 h3
      obtain ⟨S', g', s', f'⟩ := ih (c + 1) (up S 100 c (nb (cellsA A p) (12 - 4 * c))) (refR_far hr (up_ne (by decide))) (by omega) (by omega) (fun d a e => by
        rw [up_at]
        by_cases q : d = c
        · rw [if_pos q, q]
        · rw [if_neg q]; exact h3 d a (by omega))
      refine ⟨S', qX11_seeks_2 h0 ?_, s', fun j hj => by rw [f' j hj, up_ne hj]⟩
      simp (disch := omega) only [iL, iE, iQ, ipos, ineg, an, if_true, if_false]
      exact ⟨_, _, rcell_ok h0 hb hr hA hp ⟨h1, by omega⟩, g'⟩
  obtain ⟨S', g', s', f'⟩ := key 4 0 S hr (by omega) (by omega) (fun d a e => by omega)
  exact ⟨S', qX11_seeks_0 h0 g', s', f'⟩
theorem rcmp_1 {S : mStore} (h0 : sMod SH) (hb : 0 ≤ b ∧ b ≤ 135000) {x y f c : Int} (hf : 0 ≤ f ∧ f < 48) (hc : 0 ≤ c ∧ c < 4) (e1 : S 100 c = nb x (12 - 4 * c)) (e2 : S 91 (b + 352 + 4 * f + c) = nb y (12 - 4 * c)) {u : Option Value} {r : mR × mW} (h1 : nb x (12 - 4 * c) = nb y (12 - 4 * c) → G sc MX11_compares 2 [some (.ref 90), some (.int (I b)), some (.int (I (352 + 4 * f))), some (.int (I (c + 1))), some (.int (I (nb x (12 - 4 * c) - nb y (12 - 4 * c))))] [] SH (up S 91 (b + 3) (S 91 (b + 3) + 1)) r) (h2 : nb x (12 - 4 * c) ≠ nb y (12 - 4 * c) → r = rI (nb x (12 - 4 * c) - nb y (12 - 4 * c)) SH (up S 91 (b + 3) (S 91 (b + 3) + 1))) : G sc MX11_compares 2 [some (.ref 90), some (.int (I b)), some (.int (I (352 + 4 * f))), some (.int (I c)), u] [] SH S r := by
  refine qX11_compares_2 h0 ?_
  have a1 := nb_rg x (12 - 4 * c)
  have b1 := nb_rg y (12 - 4 * c)
  have d1 : up S 91 (b + 3) (S 91 (b + 3) + 1) 100 c = nb x (12 - 4 * c) := by rw [up_ne (by decide)]; exact e1
  have d2 : up S 91 (b + 3) (S 91 (b + 3) + 1) 91 (b + (352 + 4 * f) + c) = nb y (12 - 4 * c) := by rw [up_at, if_neg (by omega), show b + (352 + 4 * f) + c = b + 352 + 4 * f + c by omega]; exact e2
  rw [d1, d2]
  simp (disch := omega) only [iL, iE, iQ, ipos, ineg, an, if_true, if_false]
  by_cases e : nb x (12 - 4 * c) = nb y (12 - 4 * c)
  · rw [if_pos (by omega)]; exact h1 e
  · rw [if_neg (by omega)]; exact h2 e
theorem rcmp_ok {S : mStore} (h0 : sMod SH) (hb : 0 ≤ b ∧ b ≤ 135000) {x y f : Int} (hf : 0 ≤ f ∧ f < 48) (hx : soughtR S x) (hy : ∀ c, 0 ≤ c → c < 4 → S 91 (b + 352 + 4 * f + c) = nb y (12 - 4 * c)) {u u' : Option Value} : G sc MX11_compares 0 [some (.ref 90), some (.int (I b)), some (.int (I (352 + 4 * f))), u, u'] [] SH S (rI (cmpA x y).1 SH (up S 91 (b + 3) (S 91 (b + 3) + (cmpA x y).2))) := by
  refine qX11_compares_0 h0 ?_
  have hx' : ∀ z, soughtR (up S 91 (b + 3) z) x := fun z c a d => by rw [up_ne (by decide)]; exact hx c a d
  have hy' : ∀ z, ∀ c, 0 ≤ c → c < 4 → up S 91 (b + 3) z 91 (b + 352 + 4 * f + c) = nb y (12 - 4 * c) := fun z c a d => by rw [up_at, if_neg (by omega)]; exact hy c a d
  unfold cmpA
  refine rcmp_1 h0 hb hf (c := 0) (by decide) (hx 0 (by decide) (by decide)) (hy 0 (by decide) (by decide)) (fun e1 => ?_) (fun e1 => by rw [if_pos (show nb x 12 ≠ nb y 12 from e1)]; rfl)
  rw [if_neg (fun q => q e1)]
  refine rcmp_1 h0 hb hf (c := 0 + 1) (by decide) (hx' _ 1 (by decide) (by decide)) (hy' _ 1 (by decide) (by decide)) (fun e2 => ?_) (fun e2 => by rw [if_pos (show nb x 8 ≠ nb y 8 from e2), up_at, if_pos rfl, up_up, show S 91 (b + 3) + 1 + 1 = S 91 (b + 3) + 2 by omega]; rfl)
  rw [if_neg (fun q => q e2), up_at, if_pos rfl, up_up]
  refine rcmp_1 h0 hb hf (c := 0 + 1 + 1) (by decide) (hx' _ 2 (by decide) (by decide)) (hy' _ 2 (by decide) (by decide)) (fun e3 => ?_) (fun e3 => by rw [if_pos (show nb x 4 ≠ nb y 4 from e3), up_at, if_pos rfl, up_up, show S 91 (b + 3) + 1 + 1 + 1 = S 91 (b + 3) + 3 by omega]; rfl)
  rw [if_neg (fun q => q e3), up_at, if_pos rfl, up_up]
  refine rcmp_1 h0 hb hf (c := 0 + 1 + 1 + 1) (by decide) (hx' _ 3 (by decide) (by decide)) (hy' _ 3 (by decide) (by decide)) (fun e4 => ?_) (fun e4 => by rw [up_at, if_pos rfl, up_up, show S 91 (b + 3) + 1 + 1 + 1 + 1 = S 91 (b + 3) + 4 by omega]; rfl)
  rw [up_at, if_pos rfl, up_up, show S 91 (b + 3) + 1 + 1 + 1 + 1 = S 91 (b + 3) + 4 by omega]
  refine qX11_compares_2 h0 ?_
  have e5 : nb x 0 - nb y 0 = 0 := by
    have : nb x 0 = nb y 0 := e4
    omega
  rw [e5]
  simp (disch := omega) only [iL, iE, iQ, ipos, ineg, an, if_true, if_false]
theorem nthL_0 (l : List Int) : nthL l 0 = hd l := by cases l <;> rfl
theorem rco_ok {S : mStore} {A : aS} (h0 : sMod SH) (hb : 0 ≤ b ∧ b ≤ 135000) (hN : N < 2147483648) (hr : refR S b A N) (hA : wfA P A) {st k : Int} (hst : st = 0 ∨ st = 1) (hk : 0 ≤ k ∧ k < 48) {u : Option Value} : G sc MX11_cellsOf 0 [some (.ref 90), some (.int (I b)), some (.int (I st)), some (.int (I k)), u] [] SH S (rI (if keyA A st k = -1 then -1 else 352 + 4 * keyA A st k) SH S) := by
  refine qX11_cellsOf_0 h0 ?_
  have hkr := key_rg hA st k
  rcases hst with rfl | rfl
  · have ek : keyA A 0 k = A.w k := if_pos rfl
    rw [ek] at hkr ⊢
    rw [hr.2.1 k hk.1 hk.2]
    simp (disch := omega) only [iL, iE, iQ, ipos, ineg, an, if_true, if_false]
    by_cases e : A.w k = -1
    · rw [if_pos e]; simp [e]
    · rw [if_neg e]; simp [e]
  · have ek : keyA A 1 k = hd (A.C k) := if_neg (by decide)
    rw [ek] at hkr ⊢
    simp (disch := omega) only [iL, iE, iQ, ipos, ineg, an, if_true, if_false]
    have g := rfat_ok (sc := sc) h0 hb hN hr hA.2.1 (x := k) (i := 0) hk (by decide) (u := none) (u' := none) (u'' := none)
    rw [show (0 : Int).toNat = 0 from rfl, nthL_0] at g
    refine ⟨_, _, g, ?_⟩
    simp (disch := omega) only [iL, iE, iQ, ipos, ineg, an, if_true, if_false]
    by_cases e : hd (A.C k) = -1
    · rw [if_pos e]; simp [e]
    · rw [if_neg e]; simp [e]
theorem rtop_ok {S : mStore} (h0 : sMod SH) {t n : Int} {p d : Int → Int} (ht : 0 ≤ t ∧ t < 137300) (hn : n ≤ 48) (hr : rowf (S 91) t n p d) (hd : ∀ i, 0 ≤ i → i < n → 0 ≤ d i ∧ d i < 48) {lo hi z j : Int} (hlo : 0 ≤ lo) (hhi : hi ≤ n) (hj : lo ≤ j ∧ j < hi) (hz : d j = z) (hlt : ∀ i, lo ≤ i → i < j → d i ≠ z) {u : Option Value} : G sc MX11_top 0 [some (.ref 90), some (.int (I t)), some (.int (I lo)), some (.int (I hi)), some (.int (I z)), u] [] SH S (rI j SH S) := by
  refine qX11_top_0 h0 ?_
  have hzj := hd j (by omega) (by omega)
  have key : ∀ (m : Nat) (i : Int), lo ≤ i → i + m = j → G sc MX11_top 3 [some (.ref 90), some (.int (I t)), some (.int (I lo)), some (.int (I hi)), some (.int (I z)), some (.int (I i))] [] SH S (rI j SH S) := by
    intro m
    induction m with
    | zero =>
      intro i a c
      have e : i = j := by omega
      subst e
      refine qX11_top_3 h0 ?_
      rw [(hr.2 i (by omega) (by omega)).2, hz]
      simp (disch := omega) only [iL, iE, iQ, ipos, ineg, an, if_true, if_false]
    | succ m ih =>
      intro i a c
      refine qX11_top_3 h0 ?_
      have b1 := hd i (by omega) (by omega)
      have b2 := hlt i a (by omega)
      rw [(hr.2 i (by omega) (by omega)).2]
      simp (disch := omega) only [iL, iE, iQ, ipos, ineg, an, if_true, if_false]
      exact ih (i + 1) (by omega) (by omega)
  exact key (j - lo).toNat lo (by omega) (by omega)
end
