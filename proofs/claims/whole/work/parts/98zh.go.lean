/-! ===== words and numbers of a text ===== -/
def wls : List (List Int) := [[102, 114, 97, 109, 101, 115], [115, 104, 97, 114, 101], [114, 97, 116, 101], [122, 101, 114, 111], [115, 109, 97, 114, 116], [103, 117, 101, 115, 116], [112, 97, 103, 101], [97, 100, 118, 105, 115, 101], [119, 114, 105, 116, 101], [99, 111, 112, 121], [100, 114, 111, 112], [115, 99, 97, 110], [116, 105, 99, 107]]
/-- whether a word stands from one place to another -/
def isW (b : Int → Int) : List Int → Int → Int → Bool
  | [], s, e => decide (s = e)
  | c :: w, s, e => decide (s < e) && (decide (b s = c) && isW b w (s + 1) e)
def wfind (b : Int → Int) (s e : Int) : List (List Int) → Int → Int
  | [], _ => -1
  | w :: ws, k => if isW b w s e = true then k else wfind b s e ws (k + 1)
def wdA (b : Int → Int) (s e : Int) : Int := wfind b s e wls 0
theorem isW_len {b : Int → Int} : ∀ (w : List Int) (s e : Int), isW b w s e = true → e - s = w.length
  | [], s, e, h => by
    have := of_decide_eq_true h
    show e - s = 0
    omega
  | c :: w, s, e, h => by
    unfold isW at h
    simp only [Bool.and_eq_true] at h
    have := isW_len w (s + 1) e h.2.2
    show e - s = ((w.length + 1 : Nat) : Int)
    omega
theorem isW_uni {b : Int → Int} : ∀ (w w' : List Int) (s e : Int), isW b w s e = true → isW b w' s e = true → w = w'
  | [], [], _, _, _, _ => rfl
  | [], c :: w', s, e, h, h' => by
    have h1 := of_decide_eq_true h
    unfold isW at h'
    simp only [Bool.and_eq_true, decide_eq_true_eq] at h'
    omega
  | c :: w, [], s, e, h, h' => by
    have h1 := of_decide_eq_true h'
    unfold isW at h
    simp only [Bool.and_eq_true, decide_eq_true_eq] at h
    omega
  | c :: w, c' :: w', s, e, h, h' => by
    unfold isW at h h'
    simp only [Bool.and_eq_true, decide_eq_true_eq] at h h'
    rw [isW_uni w w' (s + 1) e h.2.2 h'.2.2, ← h.2.1, ← h'.2.1]
theorem wfind_rg (b : Int → Int) (s e : Int) : ∀ (ws : List (List Int)) (k : Int), wfind b s e ws k = -1 ∨ (k ≤ wfind b s e ws k ∧ wfind b s e ws k < k + ws.length)
  | [], k => .inl rfl
  | w :: ws, k => by
    unfold wfind
    by_cases c : isW b w s e = true
    · rw [if_pos c]
      right
      show k ≤ k ∧ k < k + ((ws.length + 1 : Nat) : Int)
      omega
    · rw [if_neg c]
      rcases wfind_rg b s e ws (k + 1) with h | h
      · exact .inl h
      · right
        show _ ∧ _ < k + ((ws.length + 1 : Nat) : Int)
        omega
theorem wfind_iff {b : Int → Int} {s e : Int} : ∀ (ws : List (List Int)) (k : Int), 0 ≤ k → ws.Pairwise (· ≠ ·) → ∀ (i : Nat), i < ws.length → (wfind b s e ws k = k + i ↔ isW b (ws.getD i []) s e = true)
  | [], _, _, _, i, hi => absurd hi (Nat.not_lt_zero i)
  | w :: ws, k, hk, hp, i, hi => by
    have hp' := List.pairwise_cons.mp hp
    unfold wfind
    by_cases c : isW b w s e = true
    · rw [if_pos c]
      cases i with
      | zero => exact ⟨fun _ => c, fun _ => by show k = k + 0; omega⟩
      | succ i =>
        refine ⟨fun q => by omega, fun q => ?_⟩
        have hl : i < ws.length := Nat.lt_of_succ_lt_succ hi
        have hm : ws.getD i [] ∈ ws := by
          have e : ws.getD i [] = ws[i] := by simp [List.getD, hl]
          rw [e]; exact List.getElem_mem hl
        exact absurd (isW_uni w (ws.getD i []) s e c q) (hp'.1 _ hm)
    · rw [if_neg c]
      cases i with
      | zero =>
        refine ⟨fun q => ?_, fun q => absurd q c⟩
        rcases wfind_rg b s e ws (k + 1) with h | h <;> omega
      | succ i =>
        have := wfind_iff (b := b) (s := s) (e := e) ws (k + 1) (by omega) hp'.2 i (Nat.lt_of_succ_lt_succ hi)
        show _ ↔ isW b (ws.getD i []) s e = true
        rw [← this]
        constructor <;> intro q <;> omega
theorem wls_ne : wls.Pairwise (· ≠ ·) := by decide
theorem wd_iff {b : Int → Int} {s e : Int} (i : Nat) (hi : i < 13) : wdA b s e = i ↔ isW b (wls.getD i []) s e = true := by
  have := wfind_iff (b := b) (s := s) (e := e) wls 0 (by decide) wls_ne i hi
  rw [← this]
  unfold wdA
  constructor <;> intro q <;> omega
theorem wd_rg (b : Int → Int) (s e : Int) : -1 ≤ wdA b s e ∧ wdA b s e < 13 := by
  have h : wdA b s e = -1 ∨ (0 ≤ wdA b s e ∧ wdA b s e < 0 + ((13 : Nat) : Int)) := wfind_rg b s e wls 0
  omega
/-- a number's value -/
def vlA (b : Int → Int) (s : Int) : Nat → Int
  | 0 => 0
  | k + 1 => 10 * vlA b s k + b (s + k) - 48
def nmA (b : Int → Int) (s e : Int) : Int := if e - s ≤ 3 then vlA b s (e - s).toNat else 9999
def tkV (b : Int → Int) (n i : Int) : Int := if tkK b n i = 2 then nmA b (tkS b n i) (tkE b n i) else 0
def tkW (b : Int → Int) (n i : Int) : Int := if tkK b n i = 1 then wdA b (tkS b n i) (tkE b n i) else -1
theorem rn_all {b : Int → Int} {kk : Int} : ∀ (k : Nat) (i j : Int), i ≤ j → j < rnA b kk k i → kdA (b j) = kk
  | 0, i, j, h1, h2 => by
    have : j < i := h2
    omega
  | k + 1, i, j, h1, h2 => by
    unfold rnA at h2
    by_cases c : kdA (b i) = kk
    · rw [if_pos c] at h2
      by_cases d : j = i
      · rw [d]; exact c
      · exact rn_all k (i + 1) j (by omega) h2
    · rw [if_neg c] at h2
      omega
theorem tk_all {b : Int → Int} {n i : Int} (hi : i ≤ n) (hk : tkK b n i = 1 ∨ tkK b n i = 2) {j : Int} (h1 : tkS b n i ≤ j) (h2 : j < tkE b n i) : kdA (b j) = tkK b n i := by
  have hr := tk_rg b hi
  have c : ¬ n ≤ tkS b n i := fun q => by have := hr.2.2.2.1.mpr q; omega
  by_cases d : j = tkS b n i
  · rw [d]; unfold tkK; rw [if_neg c]
  · have e : tkE b n i = rnA b (tkK b n i) (n - (tkS b n i + 1)).toNat (tkS b n i + 1) := by
      show (if n ≤ tkS b n i then _ else _) = _
      rw [if_neg c, if_pos hk]
    rw [e] at h2
    exact rn_all _ _ j (by omega) h2
theorem kd_num {c : Int} : kdA c = 2 ↔ 48 ≤ c ∧ c ≤ 57 := by
  unfold kdA
  split
  · constructor
    · intro q; exact absurd q (by decide)
    · intro q; omega
  · split
    · constructor
      · intro _; assumption
      · intro _; rfl
    · split
      · constructor
        · intro q; exact absurd q (by decide)
        · intro q; omega
      · constructor
        · intro q; exact absurd q (by decide)
        · intro q; omega
theorem kd_let {c : Int} : kdA c = 1 ↔ 97 ≤ c ∧ c ≤ 122 := by
  unfold kdA
  split
  · constructor
    · intro _; assumption
    · intro _; rfl
  · split
    · constructor
      · intro q; exact absurd q (by decide)
      · intro q; omega
    · split
      · constructor
        · intro q; exact absurd q (by decide)
        · intro q; omega
      · constructor
        · intro q; exact absurd q (by decide)
        · intro q; omega
theorem vl_rg {b : Int → Int} {s : Int} : ∀ (k : Nat), k ≤ 3 → (∀ j, s ≤ j → j < s + k → 48 ≤ b j ∧ b j ≤ 57) → 0 ≤ vlA b s k ∧ vlA b s k + 1 ≤ (if k = 0 then 1 else if k = 1 then 10 else if k = 2 then 100 else 1000)
  | 0, _, _ => ⟨Int.le_refl _, by show (0 : Int) + 1 ≤ 1; decide⟩
  | k + 1, hk, hd => by
    have h1 := vl_rg k (by omega) (fun j p q => hd j p (by omega))
    have h2 := hd (s + k) (by omega) (by omega)
    have e : vlA b s (k + 1) = 10 * vlA b s k + b (s + k) - 48 := rfl
    rw [e, if_neg (show ¬ k + 1 = 0 by omega)]
    revert h1
    rcases (show k = 0 ∨ k = 1 ∨ k = 2 by omega) with rfl | rfl | rfl
    · intro h1
      rw [if_pos rfl] at h1
      rw [if_pos rfl]
      omega
    · intro h1
      rw [if_neg (by decide), if_pos rfl] at h1
      rw [if_neg (by decide), if_pos rfl]
      omega
    · intro h1
      rw [if_neg (by decide), if_neg (by decide), if_pos rfl] at h1
      rw [if_neg (by decide), if_neg (by decide)]
      omega
theorem vl_999 {b : Int → Int} {s : Int} {k : Nat} (hk : k ≤ 3) (hd : ∀ j, s ≤ j → j < s + k → 48 ≤ b j ∧ b j ≤ 57) : 0 ≤ vlA b s k ∧ vlA b s k ≤ 999 := by
  have := vl_rg k hk hd
  split at this
  · omega
  · split at this
    · omega
    · split at this <;> omega
theorem tkV_rg {b : Int → Int} {n i : Int} (hi : i ≤ n) : 0 ≤ tkV b n i ∧ tkV b n i ≤ 9999 := by
  have hr := tk_rg b hi
  unfold tkV
  by_cases c : tkK b n i = 2
  · rw [if_pos c]
    unfold nmA
    by_cases d : tkE b n i - tkS b n i ≤ 3
    · rw [if_pos d]
      have := vl_999 (b := b) (s := tkS b n i) (k := (tkE b n i - tkS b n i).toNat) (by omega) (fun j p q => kd_num.mp (by rw [tk_all hi (.inr c) p (by omega)]; exact c))
      omega
    · rw [if_neg d]; decide
  · rw [if_neg c]; decide
theorem tkW_rg (b : Int → Int) (n i : Int) : -1 ≤ tkW b n i ∧ tkW b n i < 13 := by
  unfold tkW
  have := wd_rg b (tkS b n i) (tkE b n i)
  split <;> omega
section
variable {sc : Nat × (Nat → Int32)} {SH : List mCell} {S : mStore}
/-- the reference's tape holds a text's bytes -/
abbrev tapM (S : mStore) (b : Int → Int) (n : Int) : Prop := ∀ i, 0 ≤ i → i < n → S 99 i = b i
theorem byte_in (h0 : sMod SH) {b : Int → Int} {n i : Int} (hn : 0 ≤ n ∧ n ≤ 700) (hb : ∀ i, 0 ≤ b i ∧ b i < 256) (h5 : S 90 35 = n) (ht : tapM S b n) (hi : 0 ≤ i ∧ i < n) : G sc MX11_byteAt 0 [some (.ref 90), some (.int (I i))] [] SH S (rI (b i) SH S) := by
  refine qX11_byteAt_0 h0 ?_
  rw [h5, if_neg (by rw [I_le ⟨by omega, by omega⟩ ⟨by omega, by omega⟩]; omega), ht i hi.1 hi.2]
  refine ⟨⟨hi.1, by omega⟩, ?_⟩
  have := hb i
  rw [show ian (b i) 255 = b i from by rw [ian_m8]; omega]
theorem byte_out (h0 : sMod SH) {n : Int} (hn : 0 ≤ n ∧ n ≤ 700) (h5 : S 90 35 = n) {i : Int} (hi : i = n) : G sc MX11_byteAt 0 [some (.ref 90), some (.int (I i))] [] SH S (rI 0 SH S) := by
  refine qX11_byteAt_0 h0 ?_
  rw [h5, if_pos (by rw [I_le ⟨by omega, by omega⟩ ⟨by omega, by omega⟩]; omega)]
theorem isLet {c : Int} (hc : 0 ≤ c ∧ c < 256) : G sc MX11_isLetter 0 [some (.int (I c))] [] SH S (rI (if kdA c = 1 then 1 else 0) SH S) := by
  refine qX11_isLetter_0 ?_
  by_cases c1 : c < 97
  · rw [if_pos (by rw [I_lt ⟨by omega, by omega⟩ ⟨by decide, by decide⟩]; exact c1), if_neg (show ¬ kdA c = 1 from fun q => by have := kd_let.mp q; omega)]
    exact ⟨.inl rfl, rfl⟩
  · rw [if_neg (by rw [I_lt ⟨by omega, by omega⟩ ⟨by decide, by decide⟩]; exact c1)]
    by_cases c2 : 122 < c
    · rw [if_pos (by rw [I_lt ⟨by decide, by decide⟩ ⟨by omega, by omega⟩]; exact c2), if_neg (show ¬ kdA c = 1 from fun q => by have := kd_let.mp q; omega)]
      exact ⟨.inl rfl, rfl⟩
    · rw [if_neg (by rw [I_lt ⟨by decide, by decide⟩ ⟨by omega, by omega⟩]; exact c2), if_pos (show kdA c = 1 from kd_let.mpr (by omega))]
      exact ⟨.inr rfl, rfl⟩
theorem word1 (h0 : sMod SH) {b : Int → Int} {n f e : Int} (hn : 0 ≤ n ∧ n ≤ 700) (hb : ∀ i, 0 ≤ b i ∧ b i < 256) (h5 : S 90 35 = n) (ht : tapM S b n) (hf : 0 ≤ f ∧ f ≤ n) (he : f ≤ e ∧ e ≤ n) {r : mR × mW} {q : Int} : ∀ (w : List Int) (o : Nat) (k so : Int), f ≤ k → k + w.length < 2000 → (so = 0 ∨ so = 1) → o + w.length < 73 → (∀ j : Nat, j < w.length → (mwords.getD (o + j) 0).toInt = w.getD j 0 ∧ w.getD j 0 ≠ 32 ∧ 0 ≤ w.getD j 0 ∧ w.getD j 0 < 256) → (mwords.getD (o + w.length) 0).toInt = 32 → (if so = 1 ∧ isW b w k e = true then r = rI q SH S else G sc MX11_wordOf 11 [some (.ref 90), some (.int (I f)), some (.int (I e)), some (.int (I (q + 1))), some (.int (I f)), some (.int (I 1)), some (.int (I ((o : Int) + w.length + 1)))] [] SH S r) → G sc MX11_wordOf 11 [some (.ref 90), some (.int (I f)), some (.int (I e)), some (.int (I q)), some (.int (I k)), some (.int (I so)), some (.int (I o))] [] SH S r
  | [], o, k, so, hk, hk2, hso, ho, hw, h32, go => by
    have ho' : o < 73 := ho
    have hk3 : k + 0 < 2000 := hk2
    have h32' : (mwords.getD o 0).toInt = 32 := h32
    have e1 : ((o : Int) + (([] : List Int).length : Int) + 1) = (o : Int) + 1 := by show (o : Int) + 0 + 1 = _; omega
    rw [e1] at go
    refine qX11_wordOf_11 h0 ?_
    rw [if_neg (by rw [I_le ⟨by decide, by decide⟩ ⟨by omega, by omega⟩]; omega)]
    refine ⟨⟨by omega, by omega⟩, ?_⟩
    rw [Int.toNat_natCast, h32', if_pos rfl]
    rcases hso with rfl | rfl
    · rw [if_pos rfl]
      rw [if_neg (fun q => absurd q.1 (by decide))] at go
      exact go
    · rw [if_neg (by decide)]
      by_cases c : k = e
      · rw [if_pos (by rw [c])]
        rw [if_pos ⟨rfl, decide_eq_true c⟩] at go
        exact go
      · rw [if_neg (by rw [I_eq ⟨by omega, by omega⟩ ⟨by omega, by omega⟩]; exact c)]
        rw [if_neg (fun q => c (of_decide_eq_true q.2))] at go
        exact go
  | c :: w, o, k, so, hk, hk2, hso, ho, hw, h32, go => by
    have ho' : o + (w.length + 1) < 73 := ho
    have hk3 : k + ((w.length + 1 : Nat) : Int) < 2000 := hk2
    have hc : (mwords.getD o 0).toInt = c ∧ c ≠ 32 ∧ 0 ≤ c ∧ c < 256 := hw 0 (Nat.succ_pos _)
    have hw' : ∀ j : Nat, j < w.length → (mwords.getD (o + 1 + j) 0).toInt = w.getD j 0 ∧ w.getD j 0 ≠ 32 ∧ 0 ≤ w.getD j 0 ∧ w.getD j 0 < 256 := fun j hj => by
      have := hw (j + 1) (Nat.succ_lt_succ hj)
      rw [show o + 1 + j = o + (j + 1) by omega]
      exact this
    have h32' : (mwords.getD (o + 1 + w.length) 0).toInt = 32 := by
      rw [show o + 1 + w.length = o + (w.length + 1) by omega]; exact h32
    have e1 : ((o : Int) + ((c :: w).length : Int) + 1) = ((o + 1 : Nat) : Int) + (w.length : Int) + 1 := by
      show (o : Int) + ((w.length + 1 : Nat) : Int) + 1 = _
      omega
    rw [e1] at go
    have e2 : ((o + 1 : Nat) : Int) = (o : Int) + 1 := by omega
    have nx := fun so' (q1 : so' = 0 ∨ so' = 1) q2 => word1 h0 hn hb h5 ht hf he (r := r) (q := q) w (o + 1) (k + 1) so' (by omega) (by omega) q1 (by omega) hw' h32' q2
    rw [e2] at nx
    refine qX11_wordOf_11 h0 ?_
    rw [if_neg (by rw [I_le ⟨by decide, by decide⟩ ⟨by omega, by omega⟩]; omega)]
    refine ⟨⟨by omega, by omega⟩, ?_⟩
    rw [Int.toNat_natCast, hc.1, if_neg (by rw [I_eq ⟨by omega, by omega⟩ ⟨by decide, by decide⟩]; exact hc.2.1)]
    have no : ¬(so = 1 ∧ isW b (c :: w) k e = true) → G sc MX11_wordOf 11 [some (.ref 90), some (.int (I f)), some (.int (I e)), some (.int (I q)), some (.int (I (k + 1))), some (.int (I 0)), some (.int (I ((o : Int) + 1)))] [] SH S r := fun z => by
      rw [if_neg z, e2] at go
      refine nx 0 (.inl rfl) ?_
      rw [if_neg (fun q => absurd q.1 (by decide))]
      exact go
    rcases hso with rfl | rfl
    · rw [if_pos rfl]
      exact no (fun q => absurd q.1 (by decide))
    · rw [if_neg (by decide)]
      by_cases c1 : e ≤ k
      · rw [if_pos (by rw [I_le ⟨by omega, by omega⟩ ⟨by omega, by omega⟩]; exact c1)]
        refine no (fun z => ?_)
        have := z.2
        unfold isW at this
        simp only [Bool.and_eq_true, decide_eq_true_eq] at this
        omega
      · rw [if_neg (by rw [I_le ⟨by omega, by omega⟩ ⟨by omega, by omega⟩]; exact c1)]
        have hbk := hb k
        refine ⟨_, _, byte_in h0 hn hb h5 ht ⟨by omega, by omega⟩, ⟨by omega, by omega⟩, ?_⟩
        by_cases c2 : b k = c
        · rw [if_pos (by rw [c2])]
          refine nx 1 (.inr rfl) ?_
          have hi : isW b (c :: w) k e = isW b w (k + 1) e := by
            show (decide (k < e) && (decide (b k = c) && isW b w (k + 1) e)) = _
            rw [decide_eq_true (show k < e by omega), decide_eq_true c2]
            rfl
          rw [hi, e2] at go
          exact go
        · rw [if_neg (by rw [I_eq ⟨by omega, by omega⟩ ⟨by omega, by omega⟩]; exact c2)]
          refine no (fun z => ?_)
          have := z.2
          unfold isW at this
          simp only [Bool.and_eq_true, decide_eq_true_eq] at this
          exact c2 this.2.1
theorem wordOf_ok (h0 : sMod SH) {b : Int → Int} {n f e : Int} (hn : 0 ≤ n ∧ n ≤ 700) (hb : ∀ i, 0 ≤ b i ∧ b i < 256) (h5 : S 90 35 = n) (ht : tapM S b n) (hf : 0 ≤ f ∧ f ≤ n) (he : f ≤ e ∧ e ≤ n) {u3 u4 u5 u6 : Option Value} : G sc MX11_wordOf 0 [some (.ref 90), some (.int (I f)), some (.int (I e)), u3, u4, u5, u6] [] SH S (rI (wdA b f e) SH S) := by
  refine qX11_wordOf_0 h0 ?_
  have one := fun (r : mR × mW) (q : Int) (w : List Int) (o : Nat) (h1 : o + w.length < 73) (h2 : w.length ≤ 6) h3 h4 (g : if isW b w f e = true then r = rI q SH S else G sc MX11_wordOf 11 [some (.ref 90), some (.int (I f)), some (.int (I e)), some (.int (I (q + 1))), some (.int (I f)), some (.int (I 1)), some (.int (I ((o : Int) + w.length + 1)))] [] SH S r) => word1 (sc := sc) h0 hn hb h5 ht hf he (r := r) (q := q) w o f 1 (Int.le_refl _) (by omega) (.inr rfl) h1 h3 h4 (by
    by_cases z : isW b w f e = true
    · rw [if_pos ⟨rfl, z⟩]; rw [if_pos z] at g; exact g
    · rw [if_neg (fun y => z y.2)]; rw [if_neg z] at g; exact g)
  unfold wdA wls
  refine one _ 0 [102, 114, 97, 109, 101, 115] 0 (by decide) (by decide) (by decide) (by decide) ?_
  unfold wfind
  by_cases z : isW b [102, 114, 97, 109, 101, 115] f e = true
  · rw [if_pos z, if_pos z]
  rw [if_neg z, if_neg z]
  clear z
  show G sc MX11_wordOf 11 [some (.ref 90), some (.int (I f)), some (.int (I e)), some (.int (I 1)), some (.int (I f)), some (.int (I 1)), some (.int (I ((7 : Nat) : Int)))] [] SH S (rI (wfind b f e _ 1) SH S)
  refine one _ 1 [115, 104, 97, 114, 101] 7 (by decide) (by decide) (by decide) (by decide) ?_
  unfold wfind
  by_cases z : isW b [115, 104, 97, 114, 101] f e = true
  · rw [if_pos z, if_pos z]
  rw [if_neg z, if_neg z]
  clear z
  show G sc MX11_wordOf 11 [some (.ref 90), some (.int (I f)), some (.int (I e)), some (.int (I 2)), some (.int (I f)), some (.int (I 1)), some (.int (I ((13 : Nat) : Int)))] [] SH S (rI (wfind b f e _ 2) SH S)
  refine one _ 2 [114, 97, 116, 101] 13 (by decide) (by decide) (by decide) (by decide) ?_
  unfold wfind
  by_cases z : isW b [114, 97, 116, 101] f e = true
  · rw [if_pos z, if_pos z]
  rw [if_neg z, if_neg z]
  clear z
  show G sc MX11_wordOf 11 [some (.ref 90), some (.int (I f)), some (.int (I e)), some (.int (I 3)), some (.int (I f)), some (.int (I 1)), some (.int (I ((18 : Nat) : Int)))] [] SH S (rI (wfind b f e _ 3) SH S)
  refine one _ 3 [122, 101, 114, 111] 18 (by decide) (by decide) (by decide) (by decide) ?_
  unfold wfind
  by_cases z : isW b [122, 101, 114, 111] f e = true
  · rw [if_pos z, if_pos z]
  rw [if_neg z, if_neg z]
  clear z
  show G sc MX11_wordOf 11 [some (.ref 90), some (.int (I f)), some (.int (I e)), some (.int (I 4)), some (.int (I f)), some (.int (I 1)), some (.int (I ((23 : Nat) : Int)))] [] SH S (rI (wfind b f e _ 4) SH S)
  refine one _ 4 [115, 109, 97, 114, 116] 23 (by decide) (by decide) (by decide) (by decide) ?_
  unfold wfind
  by_cases z : isW b [115, 109, 97, 114, 116] f e = true
  · rw [if_pos z, if_pos z]
  rw [if_neg z, if_neg z]
  clear z
  show G sc MX11_wordOf 11 [some (.ref 90), some (.int (I f)), some (.int (I e)), some (.int (I 5)), some (.int (I f)), some (.int (I 1)), some (.int (I ((29 : Nat) : Int)))] [] SH S (rI (wfind b f e _ 5) SH S)
  refine one _ 5 [103, 117, 101, 115, 116] 29 (by decide) (by decide) (by decide) (by decide) ?_
  unfold wfind
  by_cases z : isW b [103, 117, 101, 115, 116] f e = true
  · rw [if_pos z, if_pos z]
  rw [if_neg z, if_neg z]
  clear z
  show G sc MX11_wordOf 11 [some (.ref 90), some (.int (I f)), some (.int (I e)), some (.int (I 6)), some (.int (I f)), some (.int (I 1)), some (.int (I ((35 : Nat) : Int)))] [] SH S (rI (wfind b f e _ 6) SH S)
  refine one _ 6 [112, 97, 103, 101] 35 (by decide) (by decide) (by decide) (by decide) ?_
  unfold wfind
  by_cases z : isW b [112, 97, 103, 101] f e = true
  · rw [if_pos z, if_pos z]
  rw [if_neg z, if_neg z]
  clear z
  show G sc MX11_wordOf 11 [some (.ref 90), some (.int (I f)), some (.int (I e)), some (.int (I 7)), some (.int (I f)), some (.int (I 1)), some (.int (I ((40 : Nat) : Int)))] [] SH S (rI (wfind b f e _ 7) SH S)
  refine one _ 7 [97, 100, 118, 105, 115, 101] 40 (by decide) (by decide) (by decide) (by decide) ?_
  unfold wfind
  by_cases z : isW b [97, 100, 118, 105, 115, 101] f e = true
  · rw [if_pos z, if_pos z]
  rw [if_neg z, if_neg z]
  clear z
  show G sc MX11_wordOf 11 [some (.ref 90), some (.int (I f)), some (.int (I e)), some (.int (I 8)), some (.int (I f)), some (.int (I 1)), some (.int (I ((47 : Nat) : Int)))] [] SH S (rI (wfind b f e _ 8) SH S)
  refine one _ 8 [119, 114, 105, 116, 101] 47 (by decide) (by decide) (by decide) (by decide) ?_
  unfold wfind
  by_cases z : isW b [119, 114, 105, 116, 101] f e = true
  · rw [if_pos z, if_pos z]
  rw [if_neg z, if_neg z]
  clear z
  show G sc MX11_wordOf 11 [some (.ref 90), some (.int (I f)), some (.int (I e)), some (.int (I 9)), some (.int (I f)), some (.int (I 1)), some (.int (I ((53 : Nat) : Int)))] [] SH S (rI (wfind b f e _ 9) SH S)
  refine one _ 9 [99, 111, 112, 121] 53 (by decide) (by decide) (by decide) (by decide) ?_
  unfold wfind
  by_cases z : isW b [99, 111, 112, 121] f e = true
  · rw [if_pos z, if_pos z]
  rw [if_neg z, if_neg z]
  clear z
  show G sc MX11_wordOf 11 [some (.ref 90), some (.int (I f)), some (.int (I e)), some (.int (I 10)), some (.int (I f)), some (.int (I 1)), some (.int (I ((58 : Nat) : Int)))] [] SH S (rI (wfind b f e _ 10) SH S)
  refine one _ 10 [100, 114, 111, 112] 58 (by decide) (by decide) (by decide) (by decide) ?_
  unfold wfind
  by_cases z : isW b [100, 114, 111, 112] f e = true
  · rw [if_pos z, if_pos z]
  rw [if_neg z, if_neg z]
  clear z
  show G sc MX11_wordOf 11 [some (.ref 90), some (.int (I f)), some (.int (I e)), some (.int (I 11)), some (.int (I f)), some (.int (I 1)), some (.int (I ((63 : Nat) : Int)))] [] SH S (rI (wfind b f e _ 11) SH S)
  refine one _ 11 [115, 99, 97, 110] 63 (by decide) (by decide) (by decide) (by decide) ?_
  unfold wfind
  by_cases z : isW b [115, 99, 97, 110] f e = true
  · rw [if_pos z, if_pos z]
  rw [if_neg z, if_neg z]
  clear z
  show G sc MX11_wordOf 11 [some (.ref 90), some (.int (I f)), some (.int (I e)), some (.int (I 12)), some (.int (I f)), some (.int (I 1)), some (.int (I ((68 : Nat) : Int)))] [] SH S (rI (wfind b f e _ 12) SH S)
  refine one _ 12 [116, 105, 99, 107] 68 (by decide) (by decide) (by decide) (by decide) ?_
  unfold wfind
  by_cases z : isW b [116, 105, 99, 107] f e = true
  · rw [if_pos z, if_pos z]
  rw [if_neg z, if_neg z]
  clear z
  refine qX11_wordOf_11 h0 ?_
  rw [if_pos (by decide)]
  rfl
end
