/-! ===== the class's State: two pages are paired ===== -/
def wnk (A : aS) (o : Int) : aS := ((A.stw (delT o A.tw)).sv 4 o 0).sv 5 o 0
def pairA (A : aS) (ρ x p o : Int) : aS :=
  if rt (skc (keyA A 1) (A.v 0) x (A.ts ρ) (96 + ρ) 0 [] []).2.1 = -1 then lieIn (unlie (((wnk A o).sts (insT (keyA A 1) (A.v 0) x (freeKn A).toNat A.ts ρ)).sC (addL A.C (freeKn A) (A.w o)) (setW A.k (A.w o) (freeKn A))) p) p (A.w o)
  else lieIn (unlie ((wnk A o).sC (addL A.C (rt (skc (keyA A 1) (A.v 0) x (A.ts ρ) (96 + ρ) 0 [] []).2.1) (A.w o)) (setW A.k (A.w o) (rt (skc (keyA A 1) (A.v 0) x (A.ts ρ) (96 + ρ) 0 [] []).2.1))) p) p (A.w o)
section
variable {sc : Nat × (Nat → Int32)} {SH : List mCell} {S : mStore} {a : Nat} {P : aP} {A : aS}
theorem freeKn_free (hA : wfA P A) {f : Int} (hf : 0 ≤ f ∧ f < 48) (hk : A.k f = -1) : A.C (freeKn A) = [] ∧ 0 ≤ freeKn A ∧ freeKn A < 48 := by
  obtain ⟨_, c2, _⟩ := hA
  unfold freeKn
  by_cases e : fnd (fun k => decide (A.C k = [])) 47 0 = -1
  · rw [if_pos e]
    refine ⟨Decidable.byContradiction (fun h47 => ?_), by decide, by decide⟩
    have hall : ∀ k, 0 ≤ k → k < 48 → A.C k ≠ [] := fun k h0 h1 => by
      by_cases q : k = 47
      · rw [q]; exact h47
      · have := fnd_no e (by decide) k h0 (by omega)
        simpa using this
    have key : ∀ n : Nat, n ≤ 48 → ∃ l : List Int, l.Nodup ∧ l.length = n ∧ ∀ x ∈ l, (0 ≤ x ∧ x < 48) ∧ 0 ≤ A.k x ∧ A.k x < n := by
      intro n
      induction n with
      | zero => intro _; exact ⟨[], List.nodup_nil, rfl, fun x hx => absurd hx List.not_mem_nil⟩
      | succ n ih =>
        intro hn
        obtain ⟨l, h1, h2, h3⟩ := ih (by omega)
        have hne := hall n (by omega) (by omega)
        have hm : hd (A.C n) ∈ A.C n := by
          cases q : A.C (n : Int) with
          | nil => exact absurd q hne
          | cons y t => exact List.mem_cons_self ..
        have hq := (c2.2.1 n _).mp hm
        refine ⟨hd (A.C n) :: l, List.nodup_cons.mpr ⟨fun hin => ?_, h1⟩, by simp [h2], fun x hx => ?_⟩
        · have := (h3 _ hin).2; omega
        · rcases List.mem_cons.mp hx with rfl | hx
          · omega
          · have := h3 x hx; omega
    obtain ⟨l, h1, h2, h3⟩ := key 48 (by omega)
    have hnd : (f :: l).Nodup := List.nodup_cons.mpr ⟨fun hin => by have := (h3 f hin).2; omega, h1⟩
    have := nodup_len (n := 48) hnd (fun x hx => by
      rcases List.mem_cons.mp hx with rfl | hx
      · exact hf
      · exact (h3 x hx).1)
    simp only [List.length_cons] at this
    omega
  · rw [if_neg e]
    rcases fnd_rg (fun k => decide (A.C k = [])) 47 0 with q | q
    · exact absurd q e
    · exact ⟨by simpa using q.2.2, q.1, by omega⟩
theorem wnk_ok (h0 : sState SH a) (hs : stateR S a A) (hT : wfT A.tw) {o : Int} (ho : 0 ≤ o ∧ o < 48) : ∃ S', G sc MX9_leave 0 [some (.ref (a + 11)), some (.int (I o)), none, none, none, none, none, none] [] SH S (rV SH S') ∧ stateR (up (up S' (a + 17) o 0) (a + 18) o 0) a (wnk A o) ∧ (∀ j, j < a ∨ a + 20 ≤ j → S' j = S j) := by
  obtain ⟨S1, g1, r1, f1⟩ := tleave_ok (sc := sc) (u := none) (u' := none) (u2 := none) (u3 := none) (u4 := none) (u5 := none) h0.2.2.2.2.1 hT hs.2.2.2.1 ho
  exact ⟨S1, g1, stateR_v5 (stateR_v4 (stateR_tw hs r1 f1) o 0) o 0, fun j hj => f1 j (by omega)⟩
theorem chain_ok (h0 : sState SH a) (hs : stateR S a A) (hC : wfR A.C A.k) {k f : Int} (hk : 0 ≤ k ∧ k < 48) (hf : 0 ≤ f ∧ f < 48) (hkf : A.k f = -1) : ∃ S', G sc MX6_add 0 [some (.ref (a + 5)), some (.int (I k)), some (.int (I f)), none, none, none] [] SH S (rV SH S') ∧ stateR S' a (A.sC (addL A.C k f) (setW A.k f k)) ∧ (∀ j, j < a ∨ a + 20 ≤ j → S' j = S j) := by
  obtain ⟨S1, g1, r1, f1⟩ := radd_ok (sc := sc) (u := none) (u' := none) (u'' := none) h0.2.2.1 ⟨by omega, by omega, by omega⟩ hC hs.2.1 hk hf hkf
  exact ⟨S1, g1, stateR_C hs r1 f1, fun j hj => f1 j (by omega) (by omega) (by omega)⟩
/-- a page moves to another frame -/
theorem move_ok (h0 : sState SH a) (hs : stateR S a A) (hL : wfR A.L A.w) {p f : Int} (hp : 0 ≤ p ∧ p < 48) (hf : 0 ≤ f ∧ f < 48) (hw : A.w p ≠ -1) : ∃ S1 S2, G sc MX6_remove 0 [some (.ref (a + 1)), some (.int (I p)), none, none, none, none] [] SH S (rV SH S1) ∧ G sc MX6_add 0 [some (.ref (a + 1)), some (.int (I f)), some (.int (I p)), none, none, none] [] SH S1 (rV SH S2) ∧ stateR S2 a (lieIn (unlie A p) p f) ∧ (∀ j, j < a ∨ a + 20 ≤ j → S2 j = S j) := by
  obtain ⟨S1, g1, r1, f1⟩ := unlie_ok (sc := sc) h0 hs hL hp hw
  have hw1 : wfR (unlie A p).L (unlie A p).w := wf_rem hL rfl
  obtain ⟨S2, g2, r2, f2⟩ := lieIn_ok (sc := sc) h0 r1 hw1 hp hf (by show setW A.w p (-1) p = -1; exact setW_eq ..)
  exact ⟨S1, S2, g1, g2, r2, fun j hj => by rw [f2 j hj, f1 j hj]⟩
theorem pair_ok (h0 : sState SH a) (hs : stateR S a A) (hA : wfA P A) {ρ x p o : Int} (hρ : 0 ≤ ρ ∧ ρ < 3) (hp : 0 ≤ p ∧ p < 48) (ho : 0 ≤ o ∧ o < 48) (hwp : A.w p ≠ -1) (hwo : A.w o ≠ -1) (hko : A.k (A.w o) = -1) {u u' : Option Value} : ∃ S', G sc MX7_pairUp 0 [some (.ref a), some (.int (I p)), some (.int (I o)), some (.int (I (skc (keyA A 1) (A.v 0) x (A.ts ρ) (96 + ρ) 0 [] []).1)), u, u'] [] SH S (rV SH S') ∧ stateR S' a (pairA A ρ x p o) ∧ (∀ j, j < a ∨ a + 20 ≤ j → S' j = S j) := by
  obtain ⟨S1, g1, r1, f1⟩ := wnk_ok (sc := sc) h0 hs hA.2.2.2.1 ho
  have hA1 : wfA P (wnk A o) := wf_vj (wf_vj (wf_tw hA) (by decide)) (by decide)
  have bo := hA.1.2.2 o
  have hsl := skc_slot (key := keyA A 1) (v := A.v 0) (x := x) hA.2.2.1 hρ
  have hrt : up (up S1 (a + 17) o 0) (a + 18) o 0 (a + 10) (skc (keyA A 1) (A.v 0) x (A.ts ρ) (96 + ρ) 0 [] []).1 = rt (skc (keyA A 1) (A.v 0) x (A.ts ρ) (96 + ρ) 0 [] []).2.1 := skc_rt r1.2.2.1 hρ
  have hw1 : up (up S1 (a + 17) o 0) (a + 18) o 0 (a + 2) o = A.w o := r1.1.1 o ho.1 ho.2
  have hrg : -1 ≤ rt (skc (keyA A 1) (A.v 0) x (A.ts ρ) (96 + ρ) 0 [] []).2.1 ∧ rt (skc (keyA A 1) (A.v 0) x (A.ts ρ) (96 + ρ) 0 [] []).2.1 < 48 := by
    rw [← hrt]; exact slot_rg hA.2.2.1 r1.2.2.1 hsl.1 hsl.2
  unfold pairA
  by_cases e : rt (skc (keyA A 1) (A.v 0) x (A.ts ρ) (96 + ρ) 0 [] []).2.1 = -1
  · rw [if_pos e]
    obtain ⟨k1, k2, k3⟩ := freeKn_free hA (f := A.w o) ⟨by omega, by omega⟩ hko
    have hnat : ((freeKn A).toNat : Int) = freeKn A := Int.toNat_of_nonneg k2
    have hno : ((freeKn A).toNat : Int) ∉ al A.ts := by rw [hnat, hA.2.2.2.2.2.2.2.2.1]; exact fun q => q k1
    have r2 : stateR (up (up (up S1 (a + 17) o 0) (a + 18) o 0) (a + 10) (skc (keyA A 1) (A.v 0) x (A.ts ρ) (96 + ρ) 0 [] []).1 (freeKn A)) a ((wnk A o).sts (insT (keyA A 1) (A.v 0) x (freeKn A).toNat A.ts ρ)) := by
      refine stateR_ts r1 ?_ (fun j hj => up_ne hj)
      have q := tree_ins (p := (freeKn A).toNat) hA.2.2.1 r1.2.2.1 hρ e (by omega) hno
      rw [hnat] at q
      have e2 : up (up (up S1 (a + 17) o 0) (a + 18) o 0) (a + 10) (skc (keyA A 1) (A.v 0) x (A.ts ρ) (96 + ρ) 0 [] []).1 (freeKn A) (a + 10) = fun y => if y = (skc (keyA A 1) (A.v 0) x (A.ts ρ) (96 + ρ) 0 [] []).1 then freeKn A else up (up S1 (a + 17) o 0) (a + 18) o 0 (a + 10) y := by
        funext y; rw [up_at]
      rw [e2]
      exact q
    have hw2 : up (up (up S1 (a + 17) o 0) (a + 18) o 0) (a + 10) (skc (keyA A 1) (A.v 0) x (A.ts ρ) (96 + ρ) 0 [] []).1 (freeKn A) (a + 2) o = A.w o := r2.1.1 o ho.1 ho.2
    obtain ⟨S3, g3, r3, f3⟩ := chain_ok (sc := sc) h0 r2 hA.2.1 (k := freeKn A) (f := A.w o) ⟨k2, k3⟩ ⟨by omega, by omega⟩ hko
    obtain ⟨S4, S5, g4, g5, r5, f5⟩ := move_ok (sc := sc) h0 r3 hA.1 hp (f := A.w o) ⟨by omega, by omega⟩ hwp
    refine ⟨S5, qX7_pairUp_0 h0 ⟨S1, g1, ?_⟩, r5, fun j hj => by rw [f5 j hj, f3 j hj, up_ne (by omega), up_ne (by omega), up_ne (by omega), f1 j hj]⟩
    rw [hrt, e]
    simp (disch := omega) only [iL, iE, iQ, ipos, ineg, an, if_true, if_false]
    refine ⟨_, _, fkn_ok h0 r1 hA1, ?_⟩
    show ∃ S107, G sc MX6_add 0 [_, some (.int (I (freeKn A))), _, _, _, _] [] SH _ _ ∧ _
    rw [show freeKn (wnk A o) = freeKn A from rfl, hw2]
    exact ⟨_, g3, _, g4, _, g5, rfl⟩
  · rw [if_neg e]
    obtain ⟨S3, g3, r3, f3⟩ := chain_ok (sc := sc) h0 r1 hA.2.1 (k := rt (skc (keyA A 1) (A.v 0) x (A.ts ρ) (96 + ρ) 0 [] []).2.1) (f := A.w o) ⟨by omega, by omega⟩ ⟨by omega, by omega⟩ hko
    obtain ⟨S4, S5, g4, g5, r5, f5⟩ := move_ok (sc := sc) h0 r3 hA.1 hp (f := A.w o) ⟨by omega, by omega⟩ hwp
    refine ⟨S5, qX7_pairUp_0 h0 ⟨S1, g1, ?_⟩, r5, fun j hj => by rw [f5 j hj, f3 j hj, up_ne (by omega), up_ne (by omega), f1 j hj]⟩
    rw [hrt, hw1]
    simp (disch := omega) only [iL, iE, iQ, ipos, ineg, an, if_true, if_false]
    exact ⟨_, g3, _, g4, _, g5, rfl⟩
end
