/-! ===== sums; classes of like pages ===== -/
def smA (h : Int → Int) : Nat → Int
  | 0 => 0
  | n + 1 => smA h n + h n
theorem cnt_snoc (q : Int → Bool) (n : Nat) : cnt q (n + 1) 0 = cnt q n 0 + (if q n = true then 1 else 0) := by
  rw [cnt_app, Int.zero_add]
  show _ + ((if q n = true then 1 else 0) + 0) = _
  rw [Int.add_zero]
theorem smA_cnt (q : Int → Bool) : ∀ n : Nat, smA (fun p => if q p = true then 1 else 0) n = cnt q n 0
  | 0 => rfl
  | n + 1 => by
    rw [cnt_snoc]
    show smA (fun p => if q p = true then 1 else 0) n + (if q n = true then 1 else 0) = _
    rw [smA_cnt q n]
theorem smA_add (f g : Int → Int) : ∀ n : Nat, smA (fun p => f p + g p) n = smA f n + smA g n
  | 0 => rfl
  | n + 1 => by
    show smA (fun p => f p + g p) n + (f n + g n) = smA f n + f n + (smA g n + g n)
    rw [smA_add f g n]; omega
theorem smA_ext {f g : Int → Int} : ∀ {n : Nat}, (∀ p : Nat, p < n → f p = g p) → smA f n = smA g n
  | 0, _ => rfl
  | n + 1, h => by
    show smA f n + f n = smA g n + g n
    rw [smA_ext (fun p hp => h p (by omega)), h n (by omega)]
/-- how many of the first n are in the class of one -/
def clK (K : Int → Bool) (κ : Int → Int × Int) (n : Nat) (p : Int) : Int := cnt (fun q => K q && decide (κ q = κ p)) n 0
theorem clK_snoc (K : Int → Bool) (κ : Int → Int × Int) (n : Nat) (p : Int) : clK K κ (n + 1) p = clK K κ n p + (if (K n && decide (κ n = κ p)) = true then 1 else 0) := cnt_snoc _ n
theorem clK_rg (K : Int → Bool) (κ : Int → Int × Int) (n : Nat) (p : Int) : 0 ≤ clK K κ n p ∧ clK K κ n p ≤ n := cnt_rg _ n 0
theorem clK_eq {K : Int → Bool} {κ : Int → Int × Int} {n : Nat} {p q : Int} (h : κ p = κ q) : clK K κ n p = clK K κ n q := by
  unfold clK
  rw [h]
def gK (K : Int → Bool) (κ : Int → Int × Int) (s : Int) (n : Nat) (p : Int) : Int := if K p = true ∧ clK K κ p.toNat p = 0 then (clK K κ n p + s - 1) / s else 0
theorem gK_in {K : Int → Bool} {κ : Int → Int × Int} {s : Int} {n : Nat} (hK : K n = true) : ∀ m : Nat, m ≤ n → smA (gK K κ s (n + 1)) m = smA (gK K κ s n) m + (if 0 < clK K κ m n then (clK K κ n n + s) / s - (clK K κ n n + s - 1) / s else 0)
  | 0, _ => rfl
  | m + 1, hm => by
    have ih := gK_in (κ := κ) (s := s) hK m (by omega)
    show smA (gK K κ s (n + 1)) m + gK K κ s (n + 1) m = smA (gK K κ s n) m + gK K κ s n m + _
    rw [ih, clK_snoc K κ m n]
    have hr := clK_rg K κ m n
    by_cases c : K m = true ∧ κ m = κ n
    · have e1 : (K m && decide (κ m = κ n)) = true := by rw [c.1, decide_eq_true c.2]; rfl
      rw [e1, if_pos rfl]
      have em : clK K κ (m : Int).toNat m = clK K κ m n := by rw [Int.toNat_natCast]; exact clK_eq c.2
      have en : clK K κ n m = clK K κ n n := clK_eq c.2
      have en1 : clK K κ (n + 1) m = clK K κ n n + 1 := by
        rw [clK_snoc, en, hK, decide_eq_true c.2.symm]; rfl
      have g1 : gK K κ s (n + 1) m = if clK K κ m n = 0 then (clK K κ n n + s) / s else 0 := by
        unfold gK
        rw [em, en1, show clK K κ n n + 1 + s - 1 = clK K κ n n + s by omega]
        by_cases d : clK K κ m n = 0
        · rw [if_pos (show K m = true ∧ clK K κ m n = 0 from ⟨c.1, d⟩), if_pos d]
        · rw [if_neg (show ¬(K m = true ∧ clK K κ m n = 0) from fun q => d q.2), if_neg d]
      have g2 : gK K κ s n m = if clK K κ m n = 0 then (clK K κ n n + s - 1) / s else 0 := by
        unfold gK
        rw [em, en]
        by_cases d : clK K κ m n = 0
        · rw [if_pos (show K m = true ∧ clK K κ m n = 0 from ⟨c.1, d⟩), if_pos d]
        · rw [if_neg (show ¬(K m = true ∧ clK K κ m n = 0) from fun q => d q.2), if_neg d]
      rw [g1, g2]
      by_cases d : clK K κ m n = 0
      · rw [if_pos d, if_pos d, if_neg (show ¬(0 < clK K κ m n) by omega), if_pos (show 0 < clK K κ m n + 1 by omega)]
        omega
      · rw [if_neg d, if_neg d, if_pos (show 0 < clK K κ m n by omega), if_pos (show 0 < clK K κ m n + 1 by omega)]
        omega
    · have e1 : (K m && decide (κ m = κ n)) = false := by
        apply Bool.eq_false_iff.mpr
        intro q
        rw [Bool.and_eq_true, decide_eq_true_eq] at q
        exact c q
      rw [e1, if_neg (show ¬(false = true) by decide), Int.add_zero]
      have eg : gK K κ s (n + 1) m = gK K κ s n m := by
        unfold gK
        by_cases k : K m = true
        · have e2 : (K n && decide (κ n = κ m)) = false := by
            apply Bool.eq_false_iff.mpr
            intro q
            rw [Bool.and_eq_true, decide_eq_true_eq] at q
            exact c ⟨k, q.2.symm⟩
          rw [clK_snoc, e2, if_neg (show ¬(false = true) by decide), Int.add_zero]
        · rw [if_neg (fun q => k q.1), if_neg (fun q => k q.1)]
      rw [eg]
      omega
theorem gK_no {K : Int → Bool} {κ : Int → Int × Int} {s : Int} {n : Nat} (hK : ¬(K n = true)) (p : Int) : gK K κ s (n + 1) p = gK K κ s n p := by
  have e2 : (K n && decide (κ n = κ p)) = false := by
    apply Bool.eq_false_iff.mpr
    intro q
    rw [Bool.and_eq_true] at q
    exact hK q.1
  unfold gK
  rw [clK_snoc, e2, if_neg (show ¬(false = true) by decide), Int.add_zero]
/-- full groups of each class, counted at its first one or one by one -/
theorem gK_all {K : Int → Bool} {κ : Int → Int × Int} {s : Int} (hs : 0 < s) : ∀ n : Nat, smA (gK K κ s n) n = cnt (fun p => K p && decide (clK K κ p.toNat p % s = 0)) n 0
  | 0 => rfl
  | n + 1 => by
    have ih := gK_all (K := K) (κ := κ) hs n
    rw [cnt_snoc, ← ih]
    show smA (gK K κ s (n + 1)) n + gK K κ s (n + 1) n = smA (gK K κ s n) n + _
    have hr := clK_rg K κ n n
    by_cases k : K n = true
    · rw [gK_in k n (Nat.le_refl _), k, Bool.true_and]
      have en : clK K κ (n : Int).toNat n = clK K κ n n := by rw [Int.toNat_natCast]
      have en1 : clK K κ (n + 1) n = clK K κ n n + 1 := by
        rw [clK_snoc, k, decide_eq_true (rfl : κ n = κ n)]; rfl
      unfold gK
      rw [en, en1]
      generalize clK K κ n n = y at *
      by_cases d : y = 0
      · rw [d, if_neg (by decide), if_pos ⟨k, rfl⟩, show (0 : Int) + 1 + s - 1 = s by omega, Int.ediv_self (by omega), Int.zero_emod, decide_eq_true rfl, if_pos rfl]
        omega
      · rw [if_pos (by omega), if_neg (fun q => d q.2)]
        have e1 : (y + s) / s = y / s + 1 := Int.add_ediv_of_dvd_right (Int.dvd_refl s) ▸ (by rw [Int.ediv_self (by omega)])
        have h1 := Int.emod_add_mul_ediv y s
        have h2 := Int.emod_nonneg y (show s ≠ 0 by omega)
        have h3 := Int.emod_lt_of_pos y hs
        by_cases z : y % s = 0
        · have e2 : (y + s - 1) / s = y / s := by
            have : y + s - 1 = (s - 1) + s * (y / s) := by omega
            rw [this, Int.add_mul_ediv_left _ _ (by omega), Int.ediv_eq_zero_of_lt (by omega) (by omega)]
            omega
          rw [decide_eq_true z, if_pos rfl, e1, e2]
          omega
        · have e2 : (y + s - 1) / s = y / s + 1 := by
            have : y + s - 1 = (y % s - 1) + s * (y / s + 1) := by rw [Int.mul_add]; omega
            rw [this, Int.add_mul_ediv_left _ _ (by omega), Int.ediv_eq_zero_of_lt (by omega) (by omega)]
            omega
          rw [decide_eq_false z, if_neg (by decide), e1, e2]
          omega
    · have e0 : (K n && decide (clK K κ (n : Int).toNat n % s = 0)) = false := by
        apply Bool.eq_false_iff.mpr
        intro q
        rw [Bool.and_eq_true] at q
        exact k q.1
      rw [e0, if_neg (show ¬(false = true) by decide), smA_ext (fun p _ => gK_no k p)]
      have : gK K κ s (n + 1) n = 0 := by unfold gK; rw [if_neg (fun q => k q.1)]
      rw [this]
