/-! ===== rows: lists of numbers; the class's Rows hold them linked ===== -/
def hd : List Int → Int
  | [] => -1
  | x :: _ => x
def lk (nx : Int → Int) : List Int → Prop
  | [] => True
  | x :: t => nx x = hd t ∧ lk nx t
theorem lk_cong {nx nx' : Int → Int} : ∀ {t : List Int}, (∀ x ∈ t, nx' x = nx x) → lk nx t → lk nx' t
  | [], _, _ => trivial
  | x :: t, h, hl => ⟨(h x (List.mem_cons_self ..)).trans hl.1, lk_cong (fun y hy => h y (List.mem_cons_of_mem _ hy)) hl.2⟩
/-- the last of a row, or what is given -/
def lst (d : Int) : List Int → Int
  | [] => d
  | x :: t => lst x t
theorem lst_mem : ∀ {d : Int} {t : List Int}, lst d t = d ∧ t = [] ∨ lst d t ∈ t
  | d, [] => .inl ⟨rfl, rfl⟩
  | d, x :: t => by
    rcases lst_mem (d := x) (t := t) with ⟨h, h2⟩ | h
    · right; rw [lst, h]; exact List.mem_cons_self ..
    · right; exact List.mem_cons_of_mem _ h
/-- one comes at the end -/
theorem lk_snoc {nx nx' : Int → Int} {y : Int} : ∀ {x : Int} {t : List Int}, (x :: t).Nodup → y ∉ x :: t → lk nx (x :: t) → (∀ z, z ≠ y → z ≠ lst x t → nx' z = nx z) → nx' (lst x t) = y → nx' y = -1 → lk nx' ((x :: t) ++ [y])
  | x, [], _, hy, hl, hc, h1, h2 => ⟨h1, h2, trivial⟩
  | x, z :: t, hn, hy, hl, hc, h1, h2 => by
    refine ⟨?_, lk_snoc (List.nodup_cons.mp hn).2 (fun h => hy (List.mem_cons_of_mem _ h)) hl.2 hc h1 h2⟩
    rw [hc x (fun e => hy (e ▸ List.mem_cons_self ..))]
    · exact hl.1
    · intro e
      have : x ∈ z :: t := by
        rcases lst_mem (d := z) (t := t) with ⟨h, _⟩ | h
        · rw [e]; show lst z t ∈ _; rw [h]; exact List.mem_cons_self ..
        · rw [e]; exact List.mem_cons_of_mem _ h
      exact (List.nodup_cons.mp hn).1 this
theorem hd_app {t u : List Int} (h : t ≠ []) : hd (t ++ u) = hd t := by
  cases t with
  | nil => exact absurd rfl h
  | cons x t => rfl
/-- one goes out of the middle -/
theorem lk_cut {nx nx' : Int → Int} {y : Int} {B : List Int} : ∀ {x : Int} {A : List Int}, ((x :: A) ++ y :: B).Nodup → lk nx ((x :: A) ++ y :: B) → (∀ z, z ≠ y → z ≠ lst x A → nx' z = nx z) → nx' (lst x A) = hd B → lk nx' ((x :: A) ++ B)
  | x, [], hn, hl, hc, h1 => by
    have hn' : (x :: y :: B).Nodup := hn
    refine ⟨h1, lk_cong (fun z hz => hc z ?_ ?_) hl.2.2⟩
    · rintro rfl; exact (List.nodup_cons.mp (List.nodup_cons.mp hn').2).1 hz
    · rintro rfl; exact (List.nodup_cons.mp hn').1 (List.mem_cons_of_mem _ hz)
  | x, z :: A, hn, hl, hc, h1 => by
    have hn' : (x :: ((z :: A) ++ y :: B)).Nodup := hn
    have hx := (List.nodup_cons.mp hn').1
    refine ⟨?_, lk_cut (List.nodup_cons.mp hn').2 hl.2 hc h1⟩
    rw [hc x]
    · exact hl.1
    · rintro rfl; exact hx (List.mem_append_right _ (List.mem_cons_self ..))
    · intro e
      apply hx
      rcases lst_mem (d := z) (t := A) with ⟨h, _⟩ | h
      · rw [e]; show lst z A ∈ _; rw [h]; exact List.mem_cons_self ..
      · rw [e]; exact List.mem_append_left _ (List.mem_cons_of_mem _ h)
/-- rows: each has its elements once, each element is in one row at most -/
abbrev wfR (L : Int → List Int) (w : Int → Int) : Prop := (∀ r, (L r).Nodup) ∧ (∀ r x, x ∈ L r ↔ ((0 ≤ x ∧ x < 48) ∧ (0 ≤ r ∧ r < 48) ∧ w x = r)) ∧ (∀ x, -1 ≤ w x ∧ w x < 48)
def addL (L : Int → List Int) (row x : Int) : Int → List Int := fun r => if r = row then L r ++ [x] else L r
def remL (L : Int → List Int) (row x : Int) : Int → List Int := fun r => if r = row then (L r).filter (· ≠ x) else L r
def setW (w : Int → Int) (x v : Int) : Int → Int := fun y => if y = x then v else w y
theorem wf_add {L : Int → List Int} {w : Int → Int} {row x : Int} (h : wfR L w) (hx : 0 ≤ x ∧ x < 48) (hr : 0 ≤ row ∧ row < 48) (hw : w x = -1) : wfR (addL L row x) (setW w x row) := by
  obtain ⟨h1, h2, h3⟩ := h
  have hn : ∀ r, x ∉ L r := fun r hm => by have := (h2 r x).mp hm; omega
  refine ⟨fun r => ?_, fun r y => ?_, fun y => ?_⟩
  · unfold addL
    split
    · refine List.nodup_append.mpr ⟨h1 r, by simp, ?_⟩
      intro a ha b hb
      simp only [List.mem_singleton] at hb
      subst hb
      rintro rfl
      exact hn r ha
    · exact h1 r
  · unfold addL setW
    by_cases hy : y = x
    · subst hy
      rw [if_pos rfl]
      split
      · rename_i e; subst e; simp; omega
      · rename_i e
        constructor
        · intro hm; exact absurd hm (hn r)
        · rintro ⟨_, _, e2⟩; exact absurd e2.symm e
    · rw [if_neg hy, ← h2]
      split
      · simp [hy]
      · rfl
  · unfold setW; split
    · omega
    · exact h3 y
theorem wf_rem {L : Int → List Int} {w : Int → Int} {row x : Int} (h : wfR L w) (hw : w x = row) : wfR (remL L row x) (setW w x (-1)) := by
  obtain ⟨h1, h2, h3⟩ := h
  refine ⟨fun r => ?_, fun r y => ?_, fun y => ?_⟩
  · unfold remL
    split
    · exact (h1 r).filter _
    · exact h1 r
  · unfold remL setW
    by_cases hy : y = x
    · subst hy
      rw [if_pos rfl]
      split
      · simp; omega
      · rename_i e
        rw [h2]
        omega
    · rw [if_neg hy, ← h2]
      split
      · simp [hy]
      · rfl
  · unfold setW; split
    · omega
    · exact h3 y
/-- a list of different numbers below 48 has at most 48 -/
theorem nodup_len {n : Nat} : ∀ {t : List Int}, t.Nodup → (∀ x ∈ t, 0 ≤ x ∧ x < n) → t.length ≤ n := by
  induction n with
  | zero =>
    intro t _ h
    cases t with
    | nil => simp
    | cons x t => have := h x (List.mem_cons_self ..); omega
  | succ n ih =>
    intro t hn h
    have hf := ih (hn.filter (· ≠ (n : Int))) (fun x hx => by
      have hx' := List.mem_filter.mp hx
      have := h x hx'.1
      have h2 : x ≠ n := by simpa using hx'.2
      omega)
    have : t.length ≤ (t.filter (· ≠ (n : Int))).length + 1 := by
      clear ih h hf
      induction t with
      | nil => simp
      | cons x t iht =>
        have hn' := List.nodup_cons.mp hn
        by_cases hx : x = n
        · have e : t.filter (· ≠ (n : Int)) = t := by
            apply List.filter_eq_self.mpr
            intro y hy
            have : y ≠ x := fun e => hn'.1 (e ▸ hy)
            simp; omega
          rw [List.filter_cons_of_neg (by simp [hx]), e]
          simp
        · rw [List.filter_cons_of_pos (by simp [hx])]
          have := iht hn'.2
          simp only [List.length_cons]
          omega
    omega
theorem wf_len {L : Int → List Int} {w : Int → Int} (h : wfR L w) (r : Int) : (L r).length ≤ 48 := nodup_len (h.1 r) (fun x hx => ((h.2.1 r x).mp hx).1)
theorem wf_bd {L : Int → List Int} {w : Int → Int} (h : wfR L w) {r x : Int} (hx : x ∈ L r) : 0 ≤ x ∧ x < 48 := ((h.2.1 r x).mp hx).1
/-- a store holds rows: in, next, first -/
abbrev rowsR (S : mStore) (i n f : Nat) (L : Int → List Int) (w : Int → Int) : Prop := (∀ x, 0 ≤ x → x < 48 → S i x = w x) ∧ (∀ r, 0 ≤ r → r < 48 → S f r = hd (L r)) ∧ (∀ r, lk (S n) (L r))
section
variable {sc : Nat × (Nat → Int32)} {SH : List mCell} {S : mStore} {o i n f : Nat} {L : Int → List Int} {w : Int → Int} {r : mR × mW}
theorem hd_bd {t : List Int} (h : ∀ y ∈ t, 0 ≤ y ∧ y < 48) : -1 ≤ hd t ∧ hd t < 48 := by
  cases t with
  | nil => exact ⟨Int.le_refl _, by decide⟩
  | cons x t => have := h x (List.mem_cons_self ..); show -1 ≤ x ∧ x < 48; omega
theorem rsize_lp (h0 : sRows SH o i n f) {row : Int} : ∀ (t : List Int) (m : Int), lk (S n) t → (∀ y ∈ t, 0 ≤ y ∧ y < 48) → 0 ≤ m → m + t.length ≤ 48 → G sc MX6_sizeOf 21 [some (.ref o), some (.int (I row)), some (.int (I m)), some (.int (I (hd t)))] [] SH S (rI (m + t.length) SH S)
  | [], m, _, _, h0m, hm => by
    refine qX6_sizeOf_21 h0 ?_
    have e : m + (([] : List Int).length : Int) = m := by simp
    rw [e]
    simp only [hd]
    simp (disch := omega) only [iL, iE, iQ, ipos, ineg, an, if_true, if_false, ite_self]
  | x :: t, m, hl, hb, h0m, hm => by
    refine qX6_sizeOf_21 h0 ?_
    have hx := hb x (List.mem_cons_self ..)
    simp only [List.length_cons] at hm
    have e : m + ((x :: t).length : Int) = m + 1 + t.length := by simp only [List.length_cons]; omega
    rw [e]
    simp only [hd]
    simp (disch := omega) only [iL, iE, iQ, ipos, ineg, an, if_true, if_false]
    rw [hl.1]
    exact rsize_lp h0 t (m + 1) hl.2 (fun y hy => hb y (List.mem_cons_of_mem _ hy)) (by omega) (by omega)
theorem rsize_ok (h0 : sRows SH o i n f) (hw : wfR L w) (hr : rowsR S i n f L w) {row : Int} (hrow : 0 ≤ row ∧ row < 48) {u u' : Option Value} : G sc MX6_sizeOf 0 [some (.ref o), some (.int (I row)), u, u'] [] SH S (rI (L row).length SH S) := by
  refine qX6_sizeOf_0 h0 ?_
  simp (disch := omega) only [iL, iE, iQ, ipos, ineg, an, if_true, if_false]
  rw [hr.2.1 row hrow.1 hrow.2]
  have q := rsize_lp (sc := sc) h0 (row := row) (L row) 0 (hr.2.2 row) (fun y hy => wf_bd hw hy) (by omega) (by have := wf_len hw row; omega)
  rw [Int.zero_add] at q
  exact q
/-- the i-th of a row: -1, if there is none -/
def nthL : List Int → Nat → Int
  | [], _ => -1
  | x :: _, 0 => x
  | _ :: t, k + 1 => nthL t k
theorem rnth_lp (h0 : sRows SH o i n f) {row : Int} : ∀ (j : Nat) (t : List Int) (k m : Int), lk (S n) t → (∀ y ∈ t, 0 ≤ y ∧ y < 48) → 0 ≤ k → k + j = m → m < 48 → G sc MX6_nth 32 [some (.ref o), some (.int (I row)), some (.int (I m)), some (.int (I (hd t))), some (.int (I k))] [] SH S (rI (nthL t j) SH S)
  | 0, t, k, m, _, _, hk, hm, h48 => by
    refine qX6_nth_32 h0 ?_
    simp (disch := omega) only [iL, iE, iQ, ipos, ineg, an, if_true, if_false]
    cases t <;> rfl
  | j + 1, [], k, m, _, _, hk, hm, h48 => by
    refine qX6_nth_32 h0 ?_
    simp only [hd]
    simp (disch := omega) only [iL, iE, iQ, ipos, ineg, an, if_true, if_false]
    rfl
  | j + 1, x :: t, k, m, hl, hb, hk, hm, h48 => by
    refine qX6_nth_32 h0 ?_
    have hx := hb x (List.mem_cons_self ..)
    simp only [hd]
    simp (disch := omega) only [iL, iE, iQ, ipos, ineg, an, if_true, if_false]
    rw [hl.1]
    exact rnth_lp h0 j t (k + 1) m hl.2 (fun y hy => hb y (List.mem_cons_of_mem _ hy)) (by omega) (by omega) h48
theorem rnth_ok (h0 : sRows SH o i n f) (hw : wfR L w) (hr : rowsR S i n f L w) {row k : Int} (hrow : 0 ≤ row ∧ row < 48) (hk : 0 ≤ k ∧ k < 48) {u u' : Option Value} : G sc MX6_nth 0 [some (.ref o), some (.int (I row)), some (.int (I k)), u, u'] [] SH S (rI (nthL (L row) k.toNat) SH S) := by
  refine qX6_nth_0 h0 ?_
  simp (disch := omega) only [iL, iE, iQ, ipos, ineg, an, if_true, if_false]
  rw [hr.2.1 row hrow.1 hrow.2]
  exact rnth_lp (sc := sc) h0 (row := row) k.toNat (L row) 0 k (hr.2.2 row) (fun y hy => wf_bd hw hy) (by omega) (by omega) (by omega)
theorem rnth_no (h0 : sRows SH o i n f) {row k : Int} (hk : rg k) (hk' : k < 0 ∨ 48 ≤ k) (hrow : rg row) {u u' : Option Value} : G sc MX6_nth 0 [some (.ref o), some (.int (I row)), some (.int (I k)), u, u'] [] SH S (rI (-1) SH S) := by
  refine qX6_nth_0 h0 ?_
  obtain ⟨a1, a2⟩ := hk
  obtain ⟨b1, b2⟩ := hrow
  simp (disch := omega) only [iL, iE, iQ, ipos, ineg, an, if_true, if_false]
  split
  · trivial
  split
  · trivial
  split
  · trivial
  trivial
/-- one comes to the end of a row -/
theorem radd_lp (h0 : sRows SH o i n f) {row x : Int} : ∀ (t : List Int) (d k : Int), lk (S n) t → (∀ y ∈ t, 0 ≤ y ∧ y < 48) → 0 ≤ k → k + t.length ≤ 48 → (∀ z k', G sc MX6_add 65 [some (.ref o), some (.int (I row)), some (.int (I x)), some (.int (I (lst d t))), some (.int (I z)), some (.int (I k'))] [] SH S r) → G sc MX6_add 34 [some (.ref o), some (.int (I row)), some (.int (I x)), some (.int (I d)), some (.int (I (hd t))), some (.int (I k))] [] SH S r
  | [], d, k, _, _, hk, hk2, hg => by
    refine qX6_add_34 h0 ?_
    simp only [hd]
    simp (disch := omega) only [iL, iE, iQ, ipos, ineg, an, if_true, if_false]
    split <;> exact hg _ _
  | y :: t, d, k, hl, hb, hk, hk2, hg => by
    refine qX6_add_34 h0 ?_
    have hx := hb y (List.mem_cons_self ..)
    simp only [List.length_cons] at hk2
    simp only [hd]
    simp (disch := omega) only [iL, iE, iQ, ipos, ineg, an, if_true, if_false]
    rw [hl.1]
    exact radd_lp h0 t y (k + 1) hl.2 (fun y hy => hb y (List.mem_cons_of_mem _ hy)) (by omega) (by omega) hg
theorem radd_ok (h0 : sRows SH o i n f) (h3 : i ≠ n ∧ i ≠ f ∧ n ≠ f) (hw : wfR L w) (hr : rowsR S i n f L w) {row x : Int} (hrow : 0 ≤ row ∧ row < 48) (hx : 0 ≤ x ∧ x < 48) (hwx : w x = -1) {u u' u'' : Option Value} : ∃ S', G sc MX6_add 0 [some (.ref o), some (.int (I row)), some (.int (I x)), u, u', u''] [] SH S (rV SH S') ∧ rowsR S' i n f (addL L row x) (setW w x row) ∧ (∀ j, j ≠ i → j ≠ n → j ≠ f → S' j = S j) := by
  obtain ⟨h31, h32, h33⟩ := h3
  have hn : ∀ r, x ∉ L r := fun r hm => by have := (hw.2.1 r x).mp hm; omega
  obtain ⟨r1, r2, r3⟩ := hr
  cases hL : L row with
  | nil =>
    refine ⟨up (up (up S f row x) n x (-1)) i x row, ?_, ⟨fun y h1 h2 => ?_, fun y h1 h2 => ?_, fun y => ?_⟩, fun j a b c => ?_⟩
    · refine qX6_add_0 h0 ?_
      simp (disch := omega) only [iL, iE, iQ, ipos, ineg, an, if_true, if_false]
      rw [r2 row hrow.1 hrow.2]
      refine radd_lp h0 (L row) (-1) 0 (r3 row) (fun y hy => wf_bd hw hy) (by omega) (by have := wf_len hw row; omega) (fun z k' => ?_)
      rw [hL]
      refine qX6_add_65 h0 ?_
      simp only [lst]
      simp (disch := omega) only [iL, iE, iQ, ipos, ineg, an, if_true, if_false]
    · rw [up_at, up_ne h31, up_ne h32, r1 y h1 h2]; rfl
    · rw [up_ne h32.symm, up_ne h33.symm, up_at]
      unfold addL
      split
      · rename_i e; subst e; rw [hL]; rfl
      · exact r2 y h1 h2
    · rw [up_ne h31.symm]
      unfold addL
      split
      · rename_i e; subst e; rw [hL]
        refine ⟨?_, trivial⟩
        rw [up_at, if_pos rfl]; rfl
      · refine lk_cong (fun z hz => ?_) (r3 y)
        rw [up_at, if_neg (show ¬ z = x from fun e => hn y (e ▸ hz)), up_ne h33]
    · rw [up_ne a, up_ne b, up_ne c]
  | cons x0 t =>
    have hlm : lst x0 t ∈ L row := by
      rw [hL]
      rcases lst_mem (d := x0) (t := t) with ⟨h, _⟩ | h
      · rw [h]; exact List.mem_cons_self ..
      · exact List.mem_cons_of_mem _ h
    have hlb := wf_bd hw hlm
    refine ⟨up (up (up S n (lst x0 t) x) n x (-1)) i x row, ?_, ⟨fun y h1 h2 => ?_, fun y h1 h2 => ?_, fun y => ?_⟩, fun j a b c => ?_⟩
    · refine qX6_add_0 h0 ?_
      simp (disch := omega) only [iL, iE, iQ, ipos, ineg, an, if_true, if_false]
      rw [r2 row hrow.1 hrow.2]
      refine radd_lp h0 (L row) (-1) 0 (r3 row) (fun y hy => wf_bd hw hy) (by omega) (by have := wf_len hw row; omega) (fun z k' => ?_)
      rw [hL]
      refine qX6_add_65 h0 ?_
      simp only [lst]
      simp (disch := omega) only [iL, iE, iQ, ipos, ineg, an, if_true, if_false]
    · rw [up_at, up_ne h31, up_ne h31, r1 y h1 h2]; rfl
    · rw [up_ne h32.symm, up_ne h33.symm, up_ne h33.symm]
      unfold addL
      split
      · rename_i e; subst e; rw [hd_app (by rw [hL]; simp), r2 y h1 h2]
      · exact r2 y h1 h2
    · rw [up_ne h31.symm]
      unfold addL
      have hxl : x ≠ lst x0 t := fun e => hn row (e ▸ hlm)
      split
      · rename_i e; subst e
        have hnd := hw.1 y
        have hlk := r3 y
        have hxn := hn y
        rw [hL] at hnd hlk hxn ⊢
        refine lk_snoc hnd hxn hlk (fun z hz hz2 => ?_) ?_ ?_
        · rw [up_at, if_neg hz, up_at, if_neg hz2]
        · rw [up_at, if_neg hxl.symm, up_at, if_pos rfl]
        · rw [up_at, if_pos rfl]
      · rename_i e
        refine lk_cong (fun z hz => ?_) (r3 y)
        have : z ≠ lst x0 t := by
          rintro rfl
          have a := (hw.2.1 y _).mp hz
          have b := (hw.2.1 row _).mp hlm
          exact e (by omega)
        rw [up_at, if_neg (show ¬ z = x from fun e => hn y (e ▸ hz)), up_at, if_neg this]
    · rw [up_ne a, up_ne b, up_ne b]
/-- one goes out of its row -/
theorem rrem_lp (h0 : sRows SH o i n f) {row x : Int} (hx : 0 ≤ x ∧ x < 48) {B : List Int} : ∀ (A : List Int) (d k : Int), lk (S n) (A ++ x :: B) → (∀ y ∈ A, 0 ≤ y ∧ y < 48) → x ∉ A → 0 ≤ k → k + A.length < 48 → (∀ z k', G sc MX6_remove 78 [some (.ref o), some (.int (I x)), some (.int (I row)), some (.int (I (lst d A))), some (.int (I z)), some (.int (I k'))] [] SH S r) → G sc MX6_remove 41 [some (.ref o), some (.int (I x)), some (.int (I row)), some (.int (I d)), some (.int (I (hd (A ++ x :: B)))), some (.int (I k))] [] SH S r
  | [], d, k, _, _, _, hk, hk2, hg => by
    refine qX6_remove_41 h0 ?_
    have e : hd ([] ++ x :: B) = x := rfl
    simp only [List.length_nil] at hk2
    rw [e]
    simp (disch := omega) only [iL, iE, iQ, ipos, ineg, an, if_true, if_false]
    exact hg _ _
  | y :: A, d, k, hl, hb, hn, hk, hk2, hg => by
    refine qX6_remove_41 h0 ?_
    have hy := hb y (List.mem_cons_self ..)
    have hne : y ≠ x := fun e => hn (e ▸ List.mem_cons_self ..)
    simp only [List.length_cons] at hk2
    have e : hd ((y :: A) ++ x :: B) = y := rfl
    rw [e]
    simp (disch := omega) only [iL, iE, iQ, ipos, ineg, an, if_true, if_false]
    have e2 : S n y = hd (A ++ x :: B) := hl.1
    rw [e2]
    exact rrem_lp h0 hx A y (k + 1) hl.2 (fun y hy => hb y (List.mem_cons_of_mem _ hy)) (fun h => hn (List.mem_cons_of_mem _ h)) (by omega) (by omega) hg
theorem rrem_no (h0 : sRows SH o i n f) (hr : rowsR S i n f L w) {x : Int} (hx : 0 ≤ x ∧ x < 48) (hwx : w x = -1) {u u' u'' u3 : Option Value} : G sc MX6_remove 0 [some (.ref o), some (.int (I x)), u, u', u'', u3] [] SH S (rV SH S) := by
  refine qX6_remove_0 h0 ?_
  rw [hr.1 x hx.1 hx.2, hwx]
  simp (disch := omega) only [iL, iE, iQ, ipos, ineg, an, if_true, if_false]
theorem filter_cut {A B : List Int} {x : Int} (h : (A ++ x :: B).Nodup) : (A ++ x :: B).filter (· ≠ x) = A ++ B := by
  have h1 := List.nodup_append.mp h
  have h2 := List.nodup_cons.mp h1.2.1
  rw [List.filter_append, List.filter_cons_of_neg (by simp)]
  rw [List.filter_eq_self.mpr, List.filter_eq_self.mpr]
  · intro y hy
    have : y ≠ x := fun e => h2.1 (e ▸ hy)
    simpa using this
  · intro y hy
    have : y ≠ x := h1.2.2 y hy x (List.mem_cons_self ..)
    simpa using this
theorem rrem_ok (h0 : sRows SH o i n f) (h3 : i ≠ n ∧ i ≠ f ∧ n ≠ f) (hw : wfR L w) (hr : rowsR S i n f L w) {x : Int} (hx : 0 ≤ x ∧ x < 48) (hwx : 0 ≤ w x) {u u' u'' u3 : Option Value} : ∃ S', G sc MX6_remove 0 [some (.ref o), some (.int (I x)), u, u', u'', u3] [] SH S (rV SH S') ∧ rowsR S' i n f (remL L (w x) x) (setW w x (-1)) ∧ (∀ j, j ≠ i → j ≠ n → j ≠ f → S' j = S j) := by
  obtain ⟨h31, h32, h33⟩ := h3
  obtain ⟨r1, r2, r3⟩ := hr
  have hb := hw.2.2 x
  have hm : x ∈ L (w x) := (hw.2.1 _ x).mpr ⟨hx, ⟨hwx, hb.2⟩, rfl⟩
  obtain ⟨A, B, hL⟩ := List.append_of_mem hm
  have hnd := hw.1 (w x)
  rw [hL] at hnd
  have hnd1 := List.nodup_append.mp hnd
  have hnd2 := List.nodup_cons.mp hnd1.2.1
  have hlen := wf_len hw (w x)
  rw [hL] at hlen
  simp only [List.length_append, List.length_cons] at hlen
  have hxA : x ∉ A := fun h => hnd1.2.2 x h x (List.mem_cons_self ..) rfl
  have hAb : ∀ y ∈ A, 0 ≤ y ∧ y < 48 := fun y hy => wf_bd hw (r := w x) (by rw [hL]; exact List.mem_append_left _ hy)
  have hoth : ∀ y z, y ≠ w x → z ∈ L y → z ≠ x := fun y z hy hz e => hy (by have := (hw.2.1 y z).mp hz; rw [e] at this; exact this.2.2.symm)
  have hlk := r3 (w x)
  rw [hL] at hlk
  have hnx : S n x = hd B := by
    clear hnd hnd1 hnd2 hlen hxA hAb hL
    induction A with
    | nil => exact hlk.1
    | cons y A ih => exact ih hlk.2
  have hrun : ∀ r, (∀ z k', G sc MX6_remove 78 [some (.ref o), some (.int (I x)), some (.int (I (w x))), some (.int (I (lst (-1) A))), some (.int (I z)), some (.int (I k'))] [] SH S r) → G sc MX6_remove 0 [some (.ref o), some (.int (I x)), u, u', u'', u3] [] SH S r := by
    intro r hg
    refine qX6_remove_0 h0 ?_
    rw [r1 x hx.1 hx.2]
    simp (disch := omega) only [iL, iE, iQ, ipos, ineg, an, if_true, if_false]
    rw [r2 (w x) hwx hb.2, hL]
    exact rrem_lp h0 hx A (-1) 0 hlk hAb hxA (by omega) (by omega) hg
  cases A with
  | nil =>
    refine ⟨up (up (up S f (w x) (hd B)) n x (-1)) i x (-1), hrun _ (fun z k' => ?_), ⟨fun y h1 h2 => ?_, fun y h1 h2 => ?_, fun y => ?_⟩, fun j a b c => ?_⟩
    · refine qX6_remove_78 h0 ?_
      simp only [lst]
      simp (disch := omega) only [iL, iE, iQ, ipos, ineg, an, if_true, if_false]
      rw [hnx]
    · rw [up_at, up_ne h31, up_ne h32, r1 y h1 h2]; rfl
    · rw [up_ne h32.symm, up_ne h33.symm, up_at]
      unfold remL
      split
      · rename_i e; rw [e, hL, filter_cut hnd]; rfl
      · exact r2 y h1 h2
    · rw [up_ne h31.symm]
      unfold remL
      split
      · rename_i e; rw [e, hL, filter_cut hnd]
        refine lk_cong (fun z hz => ?_) hlk.2
        rw [up_at, if_neg (show ¬ z = x from fun e => hnd2.1 (e ▸ hz)), up_ne h33]
      · rename_i e
        refine lk_cong (fun z hz => ?_) (r3 y)
        rw [up_at, if_neg (hoth y z e hz), up_ne h33]
    · rw [up_ne a, up_ne b, up_ne c]
  | cons x0 t =>
    have hlm : lst x0 t ∈ x0 :: t := by
      rcases lst_mem (d := x0) (t := t) with ⟨h, _⟩ | h
      · rw [h]; exact List.mem_cons_self ..
      · exact List.mem_cons_of_mem _ h
    have hlb := hAb _ hlm
    have hlx : lst x0 t ≠ x := fun e => hxA (e ▸ hlm)
    refine ⟨up (up (up S n (lst x0 t) (hd B)) n x (-1)) i x (-1), hrun _ (fun z k' => ?_), ⟨fun y h1 h2 => ?_, fun y h1 h2 => ?_, fun y => ?_⟩, fun j a b c => ?_⟩
    · refine qX6_remove_78 h0 ?_
      simp only [lst]
      simp (disch := omega) only [iL, iE, iQ, ipos, ineg, an, if_true, if_false]
      rw [hnx]
    · rw [up_at, up_ne h31, up_ne h31, r1 y h1 h2]; rfl
    · rw [up_ne h32.symm, up_ne h33.symm, up_ne h33.symm]
      unfold remL
      split
      · rename_i e; rw [e, r2 (w x) hwx hb.2, hL, filter_cut hnd]; rfl
      · exact r2 y h1 h2
    · rw [up_ne h31.symm]
      unfold remL
      split
      · rename_i e; rw [e, hL, filter_cut hnd]
        refine lk_cut hnd hlk (fun z hz hz2 => ?_) ?_
        · rw [up_at, if_neg hz, up_at, if_neg hz2]
        · rw [up_at, if_neg hlx, up_at, if_pos rfl]
      · rename_i e
        refine lk_cong (fun z hz => ?_) (r3 y)
        have : z ≠ lst x0 t := by
          rintro rfl
          have a := (hw.2.1 y _).mp hz
          have b := (hw.2.1 (w x) (lst x0 t)).mp (by rw [hL]; exact List.mem_append_left _ hlm)
          exact e (by omega)
        rw [up_at, if_neg (hoth y z e hz), up_at, if_neg this]
    · rw [up_ne a, up_ne b, up_ne b]
theorem rclr_ok (h0 : sRows SH o i n f) (h3 : i ≠ n ∧ i ≠ f ∧ n ≠ f) : ∃ S', G sc MX6_clear 0 [some (.ref o)] [] SH S (rV SH S') ∧ rowsR S' i n f (fun _ => []) (fun _ => -1) ∧ (∀ j, j ≠ i → j ≠ n → j ≠ f → S' j = S j) := by
  obtain ⟨h31, h32, h33⟩ := h3
  refine ⟨fil (fil (fil S i (48 : Nat) (-1)) n (48 : Nat) (-1)) f (48 : Nat) (-1), ?_, ⟨fun y h1 h2 => ?_, fun y h1 h2 => ?_, fun y => trivial⟩, fun j a b c => ?_⟩
  · refine qX6_clear_0 h0 ⟨_, fill_ok h0.2.1, _, fill_ok h0.2.2.1, _, fill_ok h0.2.2.2, rfl⟩
  · rw [fil_ne h32, fil_ne h31, fil_at, if_pos ⟨h1, by omega⟩]
  · rw [fil_at, if_pos ⟨h1, by omega⟩]; rfl
  · rw [fil_ne c, fil_ne b, fil_ne a]
theorem wf_nil : wfR (fun _ => []) (fun _ => -1) := ⟨fun _ => List.nodup_nil, fun r x => ⟨fun h => absurd h (List.not_mem_nil), fun h => by
  obtain ⟨_, h1, h2⟩ := h
  dsimp only at h2
  omega⟩, fun _ => ⟨Int.le_refl _, by show (-1 : Int) < 48; decide⟩⟩
theorem rbec_ok {o' i' n' f' : Nat} (h0 : sRows SH o i n f) (h1 : sRows SH o' i' n' f') (h3 : i ≠ n ∧ i ≠ f ∧ n ≠ f) (h4 : n' ≠ i ∧ f' ≠ i ∧ f' ≠ n) (hw : wfR L w) (hr : rowsR S i' n' f' L w) : ∃ S', G sc MX6_become 0 [some (.ref o), some (.ref o')] [] SH S (rV SH S') ∧ rowsR S' i n f L w ∧ (∀ j, j ≠ i → j ≠ n → j ≠ f → S' j = S j) := by
  obtain ⟨h31, h32, h33⟩ := h3
  obtain ⟨r1, r2, r3⟩ := hr
  refine ⟨_, qX6_become_0 h0 h1 rfl, ⟨fun y a b => ?_, fun y a b => ?_, fun y => ?_⟩, fun j a b c => ?_⟩
  · rw [cpy_ne h32, cpy_ne h31, cpy_at, if_pos ⟨a, b⟩, r1 y a b]
  · rw [cpy_at, if_pos ⟨a, b⟩, cpy_ne h4.2.2, cpy_ne h4.2.1, r2 y a b]
  · refine lk_cong (fun z hz => ?_) (r3 y)
    have := wf_bd hw hz
    rw [cpy_ne h33, cpy_at, if_pos this, cpy_ne h4.1]
  · rw [cpy_ne c, cpy_ne b, cpy_ne a]
end
