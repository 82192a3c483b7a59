-- needs: 43.store
/-! ===== for simp (disch := omega): comparisons of ints under bounds ===== -/
theorem iL {x y : Int} (h1 : -2147483648 ≤ x) (h2 : x < 2147483648) (h3 : -2147483648 ≤ y) (h4 : y < 2147483648) : (I x < I y) = (x < y) := propext (I_lt ⟨h1, h2⟩ ⟨h3, h4⟩)
theorem iE {x y : Int} (h1 : -2147483648 ≤ x) (h2 : x < 2147483648) (h3 : -2147483648 ≤ y) (h4 : y < 2147483648) : (I x ≤ I y) = (x ≤ y) := propext (I_le ⟨h1, h2⟩ ⟨h3, h4⟩)
theorem iQ {x y : Int} (h1 : -2147483648 ≤ x) (h2 : x < 2147483648) (h3 : -2147483648 ≤ y) (h4 : y < 2147483648) : (I x = I y) = (x = y) := propext (I_eq ⟨h1, h2⟩ ⟨h3, h4⟩)
theorem iR (x : Int) : (I x = I x) = True := propext ⟨fun _ => trivial, fun _ => rfl⟩
/-- a part that holds -/
theorem an {p q : Prop} (h : p) : (p ∧ q) = q := propext ⟨fun x => x.2, fun x => ⟨h, x⟩⟩
theorem ipos {c : Prop} {d : Decidable c} {α : Type} {x y : α} (h : c) : @ite α c d x y = x := if_pos h
theorem ineg {c : Prop} {d : Decidable c} {α : Type} {x y : α} (h : ¬ c) : @ite α c d x y = y := if_neg h
/-- the first n are one value -/
def fil (S : mStore) (a : Nat) (n v : Int) : mStore := fun j k => if j = a ∧ 0 ≤ k ∧ k < n then v else S j k
theorem fil_at (S : mStore) (a : Nat) (n v k : Int) : fil S a n v a k = if 0 ≤ k ∧ k < n then v else S a k := by
  unfold fil; simp
theorem fil_ne {S : mStore} {a b : Nat} {n v : Int} (h : b ≠ a) : fil S a n v b = S b := by
  funext i; unfold fil; simp [h]
theorem fil_0 (S : mStore) (a : Nat) (v : Int) : fil S a 0 v = S := by
  funext j k; unfold fil; rw [if_neg (by omega)]
theorem fil_up (S : mStore) (a : Nat) (v : Int) {k : Int} (hk : 0 ≤ k) : up (fil S a k v) a k v = fil S a (k + 1) v := by
  funext j i
  unfold up fil
  by_cases h : j = a
  · by_cases h2 : i = k
    · rw [if_pos ⟨h, h2⟩, if_pos ⟨h, by omega, by omega⟩]
    · rw [if_neg (fun q => h2 q.2)]
      by_cases h3 : 0 ≤ i ∧ i < k
      · rw [if_pos ⟨h, h3⟩, if_pos ⟨h, by omega, by omega⟩]
      · rw [if_neg (fun q => h3 q.2), if_neg (by rintro ⟨-, q⟩; omega)]
  · rw [if_neg (fun q => h q.1), if_neg (fun q => h q.1), if_neg (fun q => h q.1)]
section
variable {sc : Nat × (Nat → Int32)} {SH : List mCell} {S : mStore}
theorem fill_lp {a n : Nat} (h : ar SH a n) {v : Int} : ∀ (j : Nat) (k : Int), 0 ≤ k → k + j = n → G sc MJ7_fill_53178 5 [some (.ref a), some (.int (I v)), some (.int (I k)), some (.int (I n))] [] SH (fil S a k v) (rV SH (fil S a n v))
  | 0, k, h0, hk => by
    have e : k = n := by omega
    subst e
    have := h.2
    refine qJ7_fill_53178_5 h ?_
    simp (disch := omega) only [iL, iE, iQ, ipos, ineg, an]
  | j + 1, k, h0, hk => by
    have := h.2
    refine qJ7_fill_53178_5 h ?_
    simp (disch := omega) only [iL, iE, iQ, ipos, ineg, an]
    rw [fil_up _ _ _ h0]
    exact fill_lp h j (k + 1) (by omega) (by omega)
theorem fill_ok {a n : Nat} (h : ar SH a n) {v : Int} {u u' : Option Value} : G sc MJ7_fill_53178 0 [some (.ref a), some (.int (I v)), u, u'] [] SH S (rV SH (fil S a n v)) := by
  refine qJ7_fill_53178_0 h ?_
  have q := fill_lp (sc := sc) (S := S) h (v := v) n 0 (by omega) (by omega)
  rw [fil_0] at q
  exact q
theorem fillJ_lp {a n : Nat} (h : aj SH a n) {v : Int64} : ∀ (j : Nat) (k : Int), 0 ≤ k → k + j = n → G sc MJ7_fill_d0a16 6 [some (.ref a), some (.long v), none, some (.int (I k)), some (.int (I n))] [] SH (fil S a k v.toInt) (rV SH (fil S a n v.toInt))
  | 0, k, h0, hk => by
    have e : k = n := by omega
    subst e
    have := h.2
    refine qJ7_fill_d0a16_6 h ?_
    simp (disch := omega) only [iL, iE, iQ, ipos, ineg, an]
  | j + 1, k, h0, hk => by
    have := h.2
    refine qJ7_fill_d0a16_6 h ?_
    simp (disch := omega) only [iL, iE, iQ, ipos, ineg, an]
    rw [fil_up _ _ _ h0]
    exact fillJ_lp h j (k + 1) (by omega) (by omega)
theorem fillJ_ok {a n : Nat} (h : aj SH a n) {v : Int64} {u u' : Option Value} : G sc MJ7_fill_d0a16 0 [some (.ref a), some (.long v), none, u, u'] [] SH S (rV SH (fil S a n v.toInt)) := by
  refine qJ7_fill_d0a16_0 h ?_
  have q := fillJ_lp (sc := sc) (S := S) h (v := v) n 0 (by omega) (by omega)
  rw [fil_0] at q
  exact q
end
