/-! ===== tokens of a text ===== -/
def kdA (c : Int) : Int := if 97 ≤ c ∧ c ≤ 122 then 1 else if 48 ≤ c ∧ c ≤ 57 then 2 else if c = 59 then 3 else 4
def spA (b : Int → Int) : Nat → Int → Int
  | 0, i => i
  | k + 1, i => if b i = 32 ∨ b i = 10 then spA b k (i + 1) else i
def rnA (b : Int → Int) (kk : Int) : Nat → Int → Int
  | 0, i => i
  | k + 1, i => if kdA (b i) = kk then rnA b kk k (i + 1) else i
/-- where a token begins, its kind, where it ends -/
def tkS (b : Int → Int) (n i : Int) : Int := spA b (n - i).toNat i
def tkK (b : Int → Int) (n i : Int) : Int := if n ≤ tkS b n i then 0 else kdA (b (tkS b n i))
def tkE (b : Int → Int) (n i : Int) : Int := if n ≤ tkS b n i then tkS b n i else if tkK b n i = 1 ∨ tkK b n i = 2 then rnA b (tkK b n i) (n - (tkS b n i + 1)).toNat (tkS b n i + 1) else tkS b n i + 1
theorem kd_rg (c : Int) : 1 ≤ kdA c ∧ kdA c ≤ 4 := by
  unfold kdA
  split
  · decide
  · split
    · decide
    · split <;> decide
theorem sp_rg (b : Int → Int) : ∀ (k : Nat) (i : Int), i ≤ spA b k i ∧ spA b k i ≤ i + k
  | 0, i => ⟨Int.le_refl _, by show i ≤ i + 0; omega⟩
  | k + 1, i => by
    unfold spA
    have := sp_rg b k (i + 1)
    split <;> omega
theorem rn_rg (b : Int → Int) (kk : Int) : ∀ (k : Nat) (i : Int), i ≤ rnA b kk k i ∧ rnA b kk k i ≤ i + k
  | 0, i => ⟨Int.le_refl _, by show i ≤ i + 0; omega⟩
  | k + 1, i => by
    unfold rnA
    have := rn_rg b kk k (i + 1)
    split <;> omega
theorem tk_rg (b : Int → Int) {n i : Int} (hi : i ≤ n) : (i ≤ tkS b n i ∧ tkS b n i ≤ n) ∧ (tkS b n i ≤ tkE b n i ∧ tkE b n i ≤ n) ∧ (0 ≤ tkK b n i ∧ tkK b n i ≤ 4) ∧ (tkK b n i = 0 ↔ n ≤ tkS b n i) ∧ (tkK b n i ≠ 0 → tkS b n i < tkE b n i) := by
  have h1 := sp_rg b (n - i).toNat i
  have hs : i ≤ tkS b n i ∧ tkS b n i ≤ n := by unfold tkS; omega
  have hk := kd_rg (b (tkS b n i))
  by_cases c : n ≤ tkS b n i
  · have ek : tkK b n i = 0 := by unfold tkK; rw [if_pos c]
    have ee : tkE b n i = tkS b n i := by unfold tkE; rw [if_pos c]
    rw [ek, ee]
    exact ⟨hs, ⟨Int.le_refl _, hs.2⟩, by decide, ⟨fun _ => c, fun _ => rfl⟩, fun q => absurd rfl q⟩
  · have ek : tkK b n i = kdA (b (tkS b n i)) := by unfold tkK; rw [if_neg c]
    have he : tkS b n i < tkE b n i ∧ tkE b n i ≤ n := by
      unfold tkE
      rw [if_neg c]
      have h2 := rn_rg b (tkK b n i) (n - (tkS b n i + 1)).toNat (tkS b n i + 1)
      split <;> omega
    rw [ek]
    exact ⟨hs, ⟨by omega, he.2⟩, ⟨by omega, by omega⟩, ⟨fun q => by omega, fun q => absurd q c⟩, fun _ => he.1⟩
section
variable {sc : Nat × (Nat → Int32)} {SH : List mCell} {S : mStore}
theorem kind_ok {c : Int} (hc : 0 ≤ c ∧ c < 256) : G sc MX8_kindOf 0 [some (.int (I (sby c)))] [] SH S (rI (kdA c) SH S) := by
  refine qX8_kindOf_0 ?_
  unfold sby kdA
  by_cases h : c < 128
  · rw [if_pos h]
    by_cases c1 : c < 97
    · rw [if_pos (by rw [I_lt ⟨by omega, by omega⟩ ⟨by decide, by decide⟩]; exact c1), if_neg (show ¬(97 ≤ c ∧ c ≤ 122) by omega)]
      by_cases c2 : c < 48
      · rw [if_pos (by rw [I_lt ⟨by omega, by omega⟩ ⟨by decide, by decide⟩]; exact c2), if_neg (show ¬(48 ≤ c ∧ c ≤ 57) by omega), if_neg (by rw [I_eq ⟨by omega, by omega⟩ ⟨by decide, by decide⟩]; omega), if_neg (show ¬(c = 59) by omega)]
      · rw [if_neg (by rw [I_lt ⟨by omega, by omega⟩ ⟨by decide, by decide⟩]; exact c2)]
        by_cases c3 : 57 < c
        · rw [if_pos (by rw [I_lt ⟨by decide, by decide⟩ ⟨by omega, by omega⟩]; exact c3), if_neg (show ¬(48 ≤ c ∧ c ≤ 57) by omega)]
          by_cases c4 : c = 59
          · rw [if_pos (by rw [c4]), if_pos c4]
          · rw [if_neg (by rw [I_eq ⟨by omega, by omega⟩ ⟨by decide, by decide⟩]; exact c4), if_neg c4]
        · rw [if_neg (by rw [I_lt ⟨by decide, by decide⟩ ⟨by omega, by omega⟩]; exact c3), if_pos (show 48 ≤ c ∧ c ≤ 57 by omega)]
    · rw [if_neg (by rw [I_lt ⟨by omega, by omega⟩ ⟨by decide, by decide⟩]; exact c1)]
      by_cases c2 : 122 < c
      · rw [if_pos (by rw [I_lt ⟨by decide, by decide⟩ ⟨by omega, by omega⟩]; exact c2), if_neg (show ¬(97 ≤ c ∧ c ≤ 122) by omega), if_neg (by rw [I_lt ⟨by omega, by omega⟩ ⟨by decide, by decide⟩]; omega), if_pos (by rw [I_lt ⟨by decide, by decide⟩ ⟨by omega, by omega⟩]; omega), if_neg (by rw [I_eq ⟨by omega, by omega⟩ ⟨by decide, by decide⟩]; omega), if_neg (show ¬(48 ≤ c ∧ c ≤ 57) by omega), if_neg (show ¬(c = 59) by omega)]
      · rw [if_neg (by rw [I_lt ⟨by decide, by decide⟩ ⟨by omega, by omega⟩]; exact c2), if_pos (show 97 ≤ c ∧ c ≤ 122 by omega)]
  · rw [if_neg h, if_pos (by rw [I_lt ⟨by omega, by omega⟩ ⟨by decide, by decide⟩]; omega), if_pos (by rw [I_lt ⟨by omega, by omega⟩ ⟨by decide, by decide⟩]; omega), if_neg (by rw [I_eq ⟨by omega, by omega⟩ ⟨by decide, by decide⟩]; omega), if_neg (show ¬(97 ≤ c ∧ c ≤ 122) by omega), if_neg (show ¬(48 ≤ c ∧ c ≤ 57) by omega), if_neg (show ¬(c = 59) by omega)]
/-- the class's tape holds a text's bytes -/
abbrev tapR (S : mStore) (b : Int → Int) (n : Int) : Prop := ∀ i, 0 ≤ i → i < n → S 12 i = sby (b i)
theorem sby_eq {c : Int} (hc : 0 ≤ c ∧ c < 256) : (I (sby c) = I 32 ↔ c = 32) ∧ (I (sby c) = I 10 ↔ c = 10) := by
  unfold sby
  by_cases h : c < 128
  · rw [if_pos h]
    exact ⟨I_eq ⟨by omega, by omega⟩ ⟨by decide, by decide⟩, I_eq ⟨by omega, by omega⟩ ⟨by decide, by decide⟩⟩
  · rw [if_neg h, I_eq ⟨by omega, by omega⟩ ⟨by decide, by decide⟩, I_eq ⟨by omega, by omega⟩ ⟨by decide, by decide⟩]
    omega
theorem skip_lp (h0 : sText SH) {b : Int → Int} {n : Int} (hn : 0 ≤ n ∧ n ≤ 700) (hb : ∀ i, 0 ≤ b i ∧ b i < 256) (h2 : S 11 2 = n) (ht : tapR S b n) {r : mR × mW} : ∀ (k : Nat) (i : Int), i + k = n → 0 ≤ i → G sc MX8_step 41 [some (.ref 11), some (.int (I (spA b k i)))] [] SH S r → G sc MX8_step 5 [some (.ref 11), some (.int (I i))] [] SH S r
  | 0, i, hk, hi, go => by
    refine qX8_step_5 h0 ?_
    rw [h2, if_pos (by rw [I_le ⟨by omega, by omega⟩ ⟨by omega, by omega⟩]; omega)]
    exact go
  | k + 1, i, hk, hi, go => by
    have hs := sby_eq (hb i)
    refine qX8_step_5 h0 ?_
    rw [h2, if_neg (by rw [I_le ⟨by omega, by omega⟩ ⟨by omega, by omega⟩]; omega), ht i hi (by omega)]
    refine ⟨⟨by omega, by omega⟩, ?_⟩
    unfold spA at go
    by_cases c1 : b i = 32
    · rw [if_pos (.inl c1)] at go
      rw [if_pos (hs.1.mpr c1)]
      exact skip_lp h0 hn hb h2 ht k (i + 1) (by omega) (by omega) go
    · rw [if_neg (fun q => c1 (hs.1.mp q))]
      refine ⟨⟨by omega, by omega⟩, ?_⟩
      by_cases c2 : b i = 10
      · rw [if_pos (.inr c2)] at go
        rw [if_pos (hs.2.mpr c2)]
        exact skip_lp h0 hn hb h2 ht k (i + 1) (by omega) (by omega) go
      · rw [if_neg (fun q => q.elim c1 c2)] at go
        rw [if_neg (fun q => c2 (hs.2.mp q))]
        exact go
theorem run_lp (h0 : sText SH) {b : Int → Int} {n kk : Int} (hn : 0 ≤ n ∧ n ≤ 700) (hb : ∀ i, 0 ≤ b i ∧ b i < 256) (hk2 : kk = 1 ∨ kk = 2) (h2 : S 11 2 = n) (h5 : S 11 5 = kk) (ht : tapR S b n) : ∀ (k : Nat) (i : Int), i + k = n → 0 ≤ i → G sc MX8_step 75 [some (.ref 11), some (.int (I i))] [] SH S (rV SH (up S 11 4 (rnA b kk k i)))
  | 0, i, hk, hi => by
    refine qX8_step_75 h0 ?_
    rw [h2, if_pos (by rw [I_le ⟨by omega, by omega⟩ ⟨by omega, by omega⟩]; omega)]
    rfl
  | k + 1, i, hk, hi => by
    have hkr := kd_rg (b i)
    refine qX8_step_75 h0 ?_
    rw [h2, if_neg (by rw [I_le ⟨by omega, by omega⟩ ⟨by omega, by omega⟩]; omega), ht i hi (by omega), h5]
    have q := kind_ok (sc := sc) (SH := SH) (S := S) (hb i)
    have go : (((0 : Int) ≤ i ∧ i < 700) ∧ (∃ v101 S102, G sc MX8_kindOf 0 [some (.int (I (sby (b i))))] [] SH S (rI v101 SH S102) ∧ (if I v101 = I (S102 11 5) then G sc MX8_step 75 [some (.ref 11), some (.int (I (i + 1)))] [] SH S102 (rV SH (up S 11 4 (rnA b kk (k + 1) i))) else rV SH (up S 11 4 (rnA b kk (k + 1) i)) = rV SH (up S102 11 4 i)))) := by
      refine ⟨⟨by omega, by omega⟩, _, _, q, ?_⟩
      rw [h5]
      unfold rnA
      by_cases c : kdA (b i) = kk
      · rw [if_pos (by rw [c]), if_pos c]
        exact run_lp h0 hn hb hk2 h2 h5 ht k (i + 1) (by omega) (by omega)
      · rw [if_neg (by rw [I_eq ⟨by omega, by omega⟩ ⟨by omega, by omega⟩]; exact c), if_neg c]
    rcases hk2 with rfl | rfl
    · rw [if_pos rfl]; exact go
    · rw [if_neg (by decide), if_pos rfl]; exact go
theorem step_ok (h0 : sText SH) {b : Int → Int} {n i : Int} (hn : 0 ≤ n ∧ n ≤ 700) (hb : ∀ i, 0 ≤ b i ∧ b i < 256) (h2 : S 11 2 = n) (h4 : S 11 4 = i) (hi : 0 ≤ i ∧ i ≤ n) (ht : tapR S b n) {u : Option Value} : ∃ S', G sc MX8_step 0 [some (.ref 11), u] [] SH S (rV SH S') ∧ S' 11 3 = tkS b n i ∧ S' 11 5 = tkK b n i ∧ S' 11 4 = tkE b n i ∧ (∀ f, f ≠ 3 → f ≠ 4 → f ≠ 5 → S' 11 f = S 11 f) ∧ (∀ j, j ≠ 11 → S' j = S j) := by
  have hr := tk_rg b (n := n) (i := i) hi.2
  have st : ∀ r, G sc MX8_step 41 [some (.ref 11), some (.int (I (tkS b n i)))] [] SH S r → G sc MX8_step 0 [some (.ref 11), u] [] SH S r := fun r g => by
    refine qX8_step_0 h0 ?_
    rw [h4]
    exact skip_lp h0 hn hb h2 ht (n - i).toNat i (by omega) hi.1 g
  have e2 : up (up S 11 3 (tkS b n i)) 11 5 0 11 2 = n := by rw [up_at, if_neg (by decide), up_at, if_neg (by decide)]; exact h2
  have e12 : up (up S 11 3 (tkS b n i)) 11 5 0 12 = S 12 := by rw [up_ne (by decide), up_ne (by decide)]
  have kr := kd_rg (b (tkS b n i))
  by_cases c : n ≤ tkS b n i
  · have ek : tkK b n i = 0 := by unfold tkK; rw [if_pos c]
    have ee : tkE b n i = tkS b n i := by unfold tkE; rw [if_pos c]
    refine ⟨up (up (up S 11 3 (tkS b n i)) 11 5 0) 11 4 (tkS b n i), st _ (qX8_step_41 h0 ?_), by rw [up_at, if_neg (by decide), up_at, if_neg (by decide), up_eq], by rw [up_at, if_neg (by decide), up_eq, ek], by rw [up_eq, ee], fun f q3 q4 q5 => by rw [up_at, if_neg (by omega), up_at, if_neg (by omega), up_at, if_neg (by omega)], fun j hj => by rw [up_ne hj, up_ne hj, up_ne hj]⟩
    rw [e2, if_pos (by rw [I_le ⟨by omega, by omega⟩ ⟨by omega, by omega⟩]; exact c)]
  · have ek : tkK b n i = kdA (b (tkS b n i)) := by unfold tkK; rw [if_neg c]
    generalize hS1 : up (up (up S 11 3 (tkS b n i)) 11 5 0) 11 5 (kdA (b (tkS b n i))) = S1
    have s2 : S1 11 2 = n := by rw [← hS1, up_at, if_neg (by decide)]; exact e2
    have s5 : S1 11 5 = kdA (b (tkS b n i)) := by rw [← hS1, up_eq]
    have s3 : S1 11 3 = tkS b n i := by rw [← hS1, up_at, if_neg (by decide), up_at, if_neg (by decide), up_eq]
    have s12 : S1 12 = S 12 := by rw [← hS1, up_ne (by decide)]; exact e12
    have sf : ∀ f, f ≠ 3 → f ≠ 5 → S1 11 f = S 11 f := fun f q3 q5 => by rw [← hS1, up_at, if_neg (by omega), up_at, if_neg (by omega), up_at, if_neg (by omega)]
    have sj : ∀ j, j ≠ 11 → S1 j = S j := fun j hj => by rw [← hS1, up_ne hj, up_ne hj, up_ne hj]
    have st2 : ∀ r, G sc MX8_step 75 [some (.ref 11), some (.int (I (tkS b n i + 1)))] [] SH S1 r → G sc MX8_step 0 [some (.ref 11), u] [] SH S r := fun r g => by
      refine st _ (qX8_step_41 h0 ?_)
      rw [e2, if_neg (by rw [I_le ⟨by omega, by omega⟩ ⟨by omega, by omega⟩]; exact c), e12, ht (tkS b n i) (by omega) (by omega)]
      refine ⟨⟨by omega, by omega⟩, _, _, kind_ok (hb _), ?_⟩
      rw [hS1]
      exact g
    by_cases d : kdA (b (tkS b n i)) = 1 ∨ kdA (b (tkS b n i)) = 2
    · have ee : tkE b n i = rnA b (kdA (b (tkS b n i))) (n - (tkS b n i + 1)).toNat (tkS b n i + 1) := by unfold tkE; rw [if_neg c, ek, if_pos d]
      refine ⟨up S1 11 4 (tkE b n i), st2 _ ?_, by rw [up_at, if_neg (by decide)]; exact s3, by rw [up_at, if_neg (by decide), ek]; exact s5, up_eq _ _ _ _, fun f q3 q4 q5 => by rw [up_at, if_neg (by omega)]; exact sf f q3 q5, fun j hj => by rw [up_ne hj]; exact sj j hj⟩
      rw [ee]
      exact run_lp h0 hn hb d s2 s5 (fun x h1 h2 => by rw [s12]; exact ht x h1 h2) (n - (tkS b n i + 1)).toNat (tkS b n i + 1) (by omega) (by omega)
    · have ee : tkE b n i = tkS b n i + 1 := by unfold tkE; rw [if_neg c, ek, if_neg d]
      refine ⟨up S1 11 4 (tkE b n i), st2 _ (qX8_step_75 h0 ?_), by rw [up_at, if_neg (by decide)]; exact s3, by rw [up_at, if_neg (by decide), ek]; exact s5, up_eq _ _ _ _, fun f q3 q4 q5 => by rw [up_at, if_neg (by omega)]; exact sf f q3 q5, fun j hj => by rw [up_ne hj]; exact sj j hj⟩
      rw [s2, s5, ee]
      by_cases z : n ≤ tkS b n i + 1
      · rw [if_pos (by rw [I_le ⟨by omega, by omega⟩ ⟨by omega, by omega⟩]; exact z)]
      · rw [if_neg (by rw [I_le ⟨by omega, by omega⟩ ⟨by omega, by omega⟩]; exact z), if_neg (by rw [I_eq ⟨by omega, by omega⟩ ⟨by decide, by decide⟩]; omega), if_neg (by rw [I_eq ⟨by omega, by omega⟩ ⟨by decide, by decide⟩]; omega)]
end
