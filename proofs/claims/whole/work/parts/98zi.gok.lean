/-! ===== the reference's next token ===== -/
section
variable {sc : Nat × (Nat → Int32)} {SH : List mCell}
theorem skipM (h0 : sMod SH) {b : Int → Int} {n : Int} (hn : 0 ≤ n ∧ n ≤ 700) (hb : ∀ i, 0 ≤ b i ∧ b i < 256) {u : Option Value} {r : mR × mW} : ∀ (k : Nat) (i : Int) (S : mStore), i + k = n → 0 ≤ i → S 90 35 = n → tapM S b n → S 90 33 = i → G sc MX11_go 50 [some (.ref 90), u] [] SH (up S 90 33 (spA b k i)) r → G sc MX11_go 0 [some (.ref 90), u] [] SH S r
  | 0, i, S, hk, hi, h5, ht, h3, go => by
    refine qX11_go_0 h0 ?_
    rw [h5, h3, if_pos (by rw [I_le ⟨by omega, by omega⟩ ⟨by omega, by omega⟩]; omega)]
    rw [show up S 90 33 (spA b 0 i) = S from up_self h3] at go
    exact go
  | k + 1, i, S, hk, hi, h5, ht, h3, go => by
    have hbi := hb i
    have bt := byte_in (sc := sc) h0 hn hb h5 ht (i := i) ⟨hi, by omega⟩
    have again : b i = 32 ∨ b i = 10 → G sc MX11_go 0 [some (.ref 90), u] [] SH (up S 90 33 (S 90 33 + 1)) r := fun z => by
      refine skipM h0 hn hb k (i + 1) _ (by omega) (by omega) (by rw [up_at, if_neg (by decide)]; exact h5) (fun j p q => by rw [up_ne (by decide)]; exact ht j p q) (by rw [up_eq, h3]) ?_
      rw [up_up]
      unfold spA at go
      rw [if_pos z] at go
      exact go
    refine qX11_go_0 h0 ?_
    rw [h5, h3, if_neg (by rw [I_le ⟨by omega, by omega⟩ ⟨by omega, by omega⟩]; omega)]
    rw [h3] at again
    refine ⟨_, _, bt, ?_⟩
    rw [h3]
    by_cases c1 : b i = 32
    · rw [if_pos (by rw [c1])]
      exact again (.inl c1)
    · rw [if_neg (by rw [I_eq ⟨by omega, by omega⟩ ⟨by decide, by decide⟩]; exact c1)]
      refine ⟨_, _, bt, ?_⟩
      rw [h3]
      by_cases c2 : b i = 10
      · rw [if_pos (by rw [c2])]
        exact again (.inr c2)
      · rw [if_neg (by rw [I_eq ⟨by omega, by omega⟩ ⟨by decide, by decide⟩]; exact c2)]
        unfold spA at go
        rw [if_neg (fun q => q.elim c1 c2), up_self h3] at go
        exact go
theorem runM (h0 : sMod SH) {b : Int → Int} {n : Int} (hn : 0 ≤ n ∧ n ≤ 700) (hb : ∀ i, 0 ≤ b i ∧ b i < 256) {l1 s : Int} (hs : 0 ≤ s) : ∀ (k : Nat) (i : Int) (S : mStore), i + k = n → s ≤ i → S 90 35 = n → tapM S b n → S 90 33 = i → S 90 34 = s → G sc MX11_go 103 [some (.ref 90), some (.int (I l1))] [] SH S (rV SH (up (up (up S 90 33 (rnA b 1 k i)) 90 36 1) 90 38 (wdA b s (rnA b 1 k i))))
  | k, i, S, hk, hi, h5, ht, h3, h4 => by
    have stop : ∀ e, S 90 33 = e → 0 ≤ e → s ≤ e → e ≤ n → G sc MX11_wordOf 0 [some (.ref 90), some (.int (I ((up S 90 36 1) 90 34))), some (.int (I ((up S 90 36 1) 90 33))), none, none, none, none] [] SH (up S 90 36 1) (rI (wdA b s e) SH (up S 90 36 1)) := fun e he h1 h2 h3 => by
      rw [up_at, if_neg (by decide), up_at, if_neg (by decide), h4, he]
      exact wordOf_ok h0 hn hb (by rw [up_at, if_neg (by decide)]; exact h5) (fun j p q => by rw [up_ne (by decide)]; exact ht j p q) ⟨hs, by omega⟩ ⟨h2, h3⟩
    refine qX11_go_103 h0 ?_
    rw [h3]
    match k, hk with
    | 0, hk =>
      refine ⟨_, _, byte_out h0 hn h5 (by omega), _, _, isLet ⟨by decide, by decide⟩, ?_⟩
      rw [if_neg (show ¬ kdA 0 = 1 by decide), if_pos rfl]
      refine ⟨_, _, stop i h3 (by omega) hi (by omega), ?_⟩
      show _ = rV SH (up (up S 90 36 1) 90 38 (wdA b s i))
      rw [show rnA b 1 0 i = i from rfl, up_self h3]
    | k + 1, hk =>
      refine ⟨_, _, byte_in h0 hn hb h5 ht ⟨by omega, by omega⟩, _, _, isLet (hb i), ?_⟩
      unfold rnA
      by_cases c : kdA (b i) = 1
      · rw [if_pos c, if_pos c, if_neg (by decide)]
        have nx := runM h0 hn hb (l1 := l1) hs k (i + 1) (up S 90 33 (S 90 33 + 1)) (by omega) (by omega) (by rw [up_at, if_neg (by decide)]; exact h5) (fun j p q => by rw [up_ne (by decide)]; exact ht j p q) (by rw [up_eq, h3]) (by rw [up_at, if_neg (by decide)]; exact h4)
        rw [up_up] at nx
        rw [h3] at nx
        rw [h3]
        exact nx
      · rw [if_neg c, if_neg c, if_pos rfl]
        refine ⟨_, _, stop i h3 (by omega) hi (by omega), ?_⟩
        rw [up_self h3]
theorem digM (h0 : sMod SH) {b : Int → Int} {n : Int} (hn : 0 ≤ n ∧ n ≤ 700) (hb : ∀ i, 0 ≤ b i ∧ b i < 256) {l1 s : Int} (hs : 0 ≤ s) : ∀ (k : Nat) (i : Int) (S : mStore), i + k = n → s ≤ i → S 90 35 = n → tapM S b n → S 90 33 = i → S 90 34 = s → S 90 37 = nmA b s i → (∀ j, s ≤ j → j < i → kdA (b j) = 2) → G sc MX11_go 166 [some (.ref 90), some (.int (I l1))] [] SH S (rV SH (up (up (up S 90 37 (nmA b s (rnA b 2 k i))) 90 33 (rnA b 2 k i)) 90 36 2))
  | k, i, S, hk, hi, h5, ht, h3, h4, h7, hd => by
    have stop : ∀ (S1 : mStore), S1 = S → G sc MX11_go 247 [some (.ref 90), some (.int (I l1))] [] SH S1 (rV SH (up (up (up S 90 37 (nmA b s i)) 90 33 i) 90 36 2)) := fun S1 q => by
      subst q
      refine qX11_go_247 h0 ?_
      rw [up_self h7, up_self h3]
    refine qX11_go_166 h0 ?_
    rw [h3]
    match k, hk with
    | 0, hk =>
      refine ⟨_, _, byte_out h0 hn h5 (by omega), ?_⟩
      rw [if_pos (by decide)]
      exact stop _ rfl
    | k + 1, hk =>
      have hbi := hb i
      have bt := byte_in (sc := sc) h0 hn hb h5 ht (i := i) ⟨by omega, by omega⟩
      refine ⟨_, _, bt, ?_⟩
      unfold rnA
      by_cases c1 : b i < 48
      · rw [if_pos (by rw [I_lt ⟨by omega, by omega⟩ ⟨by decide, by decide⟩]; exact c1), if_neg (show ¬ kdA (b i) = 2 from fun q => by have := kd_num.mp q; omega)]
        exact stop _ rfl
      · rw [if_neg (by rw [I_lt ⟨by omega, by omega⟩ ⟨by decide, by decide⟩]; exact c1), h3]
        refine ⟨_, _, bt, ?_⟩
        by_cases c2 : 57 < b i
        · rw [if_pos (by rw [I_lt ⟨by decide, by decide⟩ ⟨by omega, by omega⟩]; exact c2), if_neg (show ¬ kdA (b i) = 2 from fun q => by have := kd_num.mp q; omega)]
          exact stop _ rfl
        · have kd : kdA (b i) = 2 := kd_num.mpr (by omega)
          rw [if_neg (by rw [I_lt ⟨by decide, by decide⟩ ⟨by omega, by omega⟩]; exact c2), if_pos kd]
          have nx : ∀ x, x = nmA b s (i + 1) → G sc MX11_go 166 [some (.ref 90), some (.int (I l1))] [] SH (up (up S 90 37 x) 90 33 (i + 1)) (rV SH (up (up (up S 90 37 (nmA b s (rnA b 2 k (i + 1)))) 90 33 (rnA b 2 k (i + 1))) 90 36 2)) := fun x hx => by
            have := digM h0 hn hb (l1 := l1) hs k (i + 1) (up (up S 90 37 x) 90 33 (i + 1)) (by omega) (by omega) (by rw [up_at, if_neg (by decide), up_at, if_neg (by decide)]; exact h5) (fun j p q => by rw [up_ne (by decide), up_ne (by decide)]; exact ht j p q) (by rw [up_eq]) (by rw [up_at, if_neg (by decide), up_at, if_neg (by decide)]; exact h4) (by rw [up_at, if_neg (by decide), up_eq]; exact hx) (fun j p q => by
              by_cases z : j = i
              · rw [z]; exact kd
              · exact hd j p (by omega))
            rw [up_swap (S := up S 90 37 x) (.inr (by decide)), up_up, up_up] at this
            exact this
          have ev : nmA b s i = (if i - s ≤ 3 then vlA b s (i - s).toNat else 9999) := rfl
          have ev' : nmA b s (i + 1) = (if i + 1 - s ≤ 3 then vlA b s (i + 1 - s).toNat else 9999) := rfl
          rw [h3, h4]
          by_cases c3 : 3 ≤ i - s
          · rw [if_pos (by rw [I_le ⟨by decide, by decide⟩ ⟨by omega, by omega⟩]; exact c3)]
            rw [up_at S, if_neg (by decide), h3]
            exact nx 9999 (by rw [ev', if_neg (by omega)])
          · rw [if_neg (by rw [I_le ⟨by decide, by decide⟩ ⟨by omega, by omega⟩]; exact c3)]
            refine ⟨_, _, bt, ?_⟩
            rw [up_at S, if_neg (by decide), h3]
            refine nx _ ?_
            rw [ev', if_pos (by omega), h7, ev, if_pos (by omega), show (i + 1 - s).toNat = (i - s).toNat + 1 by omega]
            show _ = 10 * vlA b s (i - s).toNat + b (s + ((i - s).toNat : Int)) - 48
            rw [show s + ((i - s).toNat : Int) = i by omega]
/-- the token at a place lies ahead of the reference -/
def tokM (S : mStore) (b : Int → Int) (n i : Int) : Prop := S 90 33 = tkE b n i ∧ S 90 34 = tkS b n i ∧ S 90 36 = tkK b n i ∧ S 90 37 = tkV b n i ∧ S 90 38 = tkW b n i
theorem go_ok (h0 : sMod SH) {b : Int → Int} {n i : Int} {S : mStore} (hn : 0 ≤ n ∧ n ≤ 700) (hb : ∀ i, 0 ≤ b i ∧ b i < 256) (h5 : S 90 35 = n) (h3 : S 90 33 = i) (hi : 0 ≤ i ∧ i ≤ n) (ht : tapM S b n) {u : Option Value} : ∃ S', G sc MX11_go 0 [some (.ref 90), u] [] SH S (rV SH S') ∧ tokM S' b n i ∧ (∀ f, f ≠ 33 → f ≠ 34 → f ≠ 36 → f ≠ 37 → f ≠ 38 → S' 90 f = S 90 f) ∧ (∀ j, j ≠ 90 → S' j = S j) := by
  have hr := tk_rg b (n := n) (i := i) hi.2
  have hr2 := hr.2.2.2.1
  generalize hS1 : up (up (up (up S 90 33 (tkS b n i)) 90 34 (tkS b n i)) 90 38 (-1)) 90 37 0 = S1
  have s33 : S1 90 33 = tkS b n i := by rw [← hS1, up_at, if_neg (by decide), up_at, if_neg (by decide), up_at, if_neg (by decide), up_eq]
  have s34 : S1 90 34 = tkS b n i := by rw [← hS1, up_at, if_neg (by decide), up_at, if_neg (by decide), up_eq]
  have s38 : S1 90 38 = -1 := by rw [← hS1, up_at, if_neg (by decide), up_eq]
  have s37 : S1 90 37 = 0 := by rw [← hS1, up_eq]
  have s35 : S1 90 35 = n := by rw [← hS1, up_at, if_neg (by decide), up_at, if_neg (by decide), up_at, if_neg (by decide), up_at, if_neg (by decide)]; exact h5
  have sf : ∀ f, f ≠ 33 → f ≠ 34 → f ≠ 37 → f ≠ 38 → S1 90 f = S 90 f := fun f q3 q4 q7 q8 => by rw [← hS1, up_at, if_neg q7, up_at, if_neg q8, up_at, if_neg q4, up_at, if_neg q3]
  have sj : ∀ j, j ≠ 90 → S1 j = S j := fun j hj => by rw [← hS1, up_ne hj, up_ne hj, up_ne hj, up_ne hj]
  have st : ∀ v r, G sc MX11_byteAt 0 [some (.ref 90), some (.int (I (tkS b n i)))] [] SH (up (up S 90 33 (tkS b n i)) 90 34 (tkS b n i)) (rI v SH (up (up S 90 33 (tkS b n i)) 90 34 (tkS b n i))) → (if I (tkS b n i) < I n then (∃ v103 S104, G sc MX11_isLetter 0 [some (.int (I v))] [] SH S1 (rI v103 SH S104) ∧ (if I v103 = I 0 then (if I v < I 48 then (if I v = I 59 then r = rV SH (up (up S104 90 33 ((S104 90 33) + 1)) 90 36 3) else r = rV SH (up (up S104 90 33 ((S104 90 33) + 1)) 90 36 4)) else (if I 57 < I v then (if I v = I 59 then r = rV SH (up (up S104 90 33 ((S104 90 33) + 1)) 90 36 3) else r = rV SH (up (up S104 90 33 ((S104 90 33) + 1)) 90 36 4)) else G sc MX11_go 166 [some (.ref 90), some (.int (I v))] [] SH S104 r)) else G sc MX11_go 103 [some (.ref 90), some (.int (I v))] [] SH S104 r)) else r = rV SH (up S1 90 36 0)) → G sc MX11_go 0 [some (.ref 90), u] [] SH S r := fun v r g1 g2 => by
    refine skipM h0 hn hb (n - i).toNat i S (by omega) hi.1 h5 ht h3 (qX11_go_50 h0 ?_)
    have e1 : up S 90 33 (spA b (n - i).toNat i) = up S 90 33 (tkS b n i) := rfl
    rw [e1, up_eq, up_at, if_neg (by decide), up_eq]
    refine ⟨_, _, g1, ?_⟩
    rw [hS1, s33, s35]
    exact g2
  have kr := kd_rg (b (tkS b n i))
  have e35 : up (up S 90 33 (tkS b n i)) 90 34 (tkS b n i) 90 35 = n := by rw [up_at, if_neg (by decide), up_at, if_neg (by decide)]; exact h5
  have e99 : tapM (up (up S 90 33 (tkS b n i)) 90 34 (tkS b n i)) b n := fun j p q => by rw [up_ne (by decide), up_ne (by decide)]; exact ht j p q
  have s99 : tapM S1 b n := fun j p q => by rw [sj 99 (by decide)]; exact ht j p q
  by_cases c : n ≤ tkS b n i
  · have ek : tkK b n i = 0 := by unfold tkK; rw [if_pos c]
    have ee : tkE b n i = tkS b n i := by unfold tkE; rw [if_pos c]
    refine ⟨up S1 90 36 0, st _ _ (byte_out h0 hn e35 (by omega)) (by rw [if_neg (by rw [I_lt ⟨by omega, by omega⟩ ⟨by omega, by omega⟩]; omega)]), ⟨by rw [up_at, if_neg (by decide), ee]; exact s33, by rw [up_at, if_neg (by decide)]; exact s34, by rw [up_eq, ek], by rw [up_at, if_neg (by decide), s37]; unfold tkV; rw [ek]; rfl, by rw [up_at, if_neg (by decide), s38]; unfold tkW; rw [ek]; rfl⟩, fun f q3 q4 q6 q7 q8 => by rw [up_at, if_neg q6]; exact sf f q3 q4 q7 q8, fun j hj => by rw [up_ne hj]; exact sj j hj⟩
  have ek : tkK b n i = kdA (b (tkS b n i)) := by unfold tkK; rw [if_neg c]
  have lt : I (tkS b n i) < I n := by rw [I_lt ⟨by omega, by omega⟩ ⟨by omega, by omega⟩]; omega
  have bt := byte_in (sc := sc) h0 hn hb e35 e99 (i := tkS b n i) ⟨by omega, by omega⟩
  have hbt := hb (tkS b n i)
  by_cases c1 : kdA (b (tkS b n i)) = 1
  · have ee : tkE b n i = rnA b 1 (n - (tkS b n i)).toNat (tkS b n i) := by
      show (if n ≤ tkS b n i then _ else _) = _
      rw [if_neg c, ek, c1, if_pos (.inl rfl), show (n - tkS b n i).toNat = (n - (tkS b n i + 1)).toNat + 1 by omega]
      show _ = if kdA (b (tkS b n i)) = 1 then _ else _
      rw [if_pos c1]
    refine ⟨up (up (up S1 90 33 (tkE b n i)) 90 36 1) 90 38 (wdA b (tkS b n i) (tkE b n i)), st _ _ bt ?_, ⟨by rw [up_at, if_neg (by decide), up_at, if_neg (by decide), up_eq], by rw [up_at, if_neg (by decide), up_at, if_neg (by decide), up_at, if_neg (by decide)]; exact s34, by rw [up_at, if_neg (by decide), up_eq, ek, c1], by rw [up_at, if_neg (by decide), up_at, if_neg (by decide), up_at, if_neg (by decide), s37]; unfold tkV; rw [ek, c1]; rfl, by rw [up_eq]; unfold tkW; rw [ek, c1]; rfl⟩, fun f q3 q4 q6 q7 q8 => by rw [up_at, if_neg q8, up_at, if_neg q6, up_at, if_neg q3]; exact sf f q3 q4 q7 q8, fun j hj => by rw [up_ne hj, up_ne hj, up_ne hj]; exact sj j hj⟩
    rw [if_pos lt]
    refine ⟨_, _, isLet hbt, ?_⟩
    rw [if_pos c1, if_neg (by decide), ee]
    exact runM h0 hn hb (by omega) _ _ S1 (by omega) (Int.le_refl _) s35 s99 s33 s34
  by_cases c2 : kdA (b (tkS b n i)) = 2
  · have hd := kd_num.mp c2
    have ee : tkE b n i = rnA b 2 (n - (tkS b n i)).toNat (tkS b n i) := by
      show (if n ≤ tkS b n i then _ else _) = _
      rw [if_neg c, ek, c2, if_pos (.inr rfl), show (n - tkS b n i).toNat = (n - (tkS b n i + 1)).toNat + 1 by omega]
      show _ = if kdA (b (tkS b n i)) = 2 then _ else _
      rw [if_pos c2]
    refine ⟨up (up (up S1 90 37 (nmA b (tkS b n i) (tkE b n i))) 90 33 (tkE b n i)) 90 36 2, st _ _ bt ?_, ⟨by rw [up_at, if_neg (by decide), up_eq], by rw [up_at, if_neg (by decide), up_at, if_neg (by decide), up_at, if_neg (by decide)]; exact s34, by rw [up_eq, ek, c2], by rw [up_at, if_neg (by decide), up_at, if_neg (by decide), up_eq]; unfold tkV; rw [ek, c2]; rfl, by rw [up_at, if_neg (by decide), up_at, if_neg (by decide), up_at, if_neg (by decide), s38]; unfold tkW; rw [ek, c2]; rfl⟩, fun f q3 q4 q6 q7 q8 => by rw [up_at, if_neg q6, up_at, if_neg q3, up_at, if_neg q7]; exact sf f q3 q4 q7 q8, fun j hj => by rw [up_ne hj, up_ne hj, up_ne hj]; exact sj j hj⟩
    rw [if_pos lt]
    refine ⟨_, _, isLet hbt, ?_⟩
    rw [if_neg c1, if_pos rfl, if_neg (by rw [I_lt ⟨by omega, by omega⟩ ⟨by decide, by decide⟩]; omega), if_neg (by rw [I_lt ⟨by decide, by decide⟩ ⟨by omega, by omega⟩]; omega), ee]
    exact digM h0 hn hb (by omega) _ _ S1 (by omega) (Int.le_refl _) s35 s99 s33 s34 (by rw [s37]; unfold nmA; rw [Int.sub_self]; rfl) (fun j p q => by omega)
  · have hd : ¬(48 ≤ b (tkS b n i) ∧ b (tkS b n i) ≤ 57) := fun q => c2 (kd_num.mpr q)
    have hl : ¬(97 ≤ b (tkS b n i) ∧ b (tkS b n i) ≤ 122) := fun q => c1 (kd_let.mpr q)
    have ee : tkE b n i = tkS b n i + 1 := by
      show (if n ≤ tkS b n i then _ else _) = _
      rw [if_neg c, ek, if_neg (fun q => q.elim c1 c2)]
    have e4 : kdA (b (tkS b n i)) = if b (tkS b n i) = 59 then 3 else 4 := by
      unfold kdA
      rw [if_neg hl, if_neg hd]
    refine ⟨up (up S1 90 33 (tkE b n i)) 90 36 (tkK b n i), st _ _ bt ?_, ⟨by rw [up_at, if_neg (by decide), up_eq], by rw [up_at, if_neg (by decide), up_at, if_neg (by decide)]; exact s34, by rw [up_eq], by rw [up_at, if_neg (by decide), up_at, if_neg (by decide), s37]; unfold tkV; rw [ek, if_neg c2], by rw [up_at, if_neg (by decide), up_at, if_neg (by decide), s38]; unfold tkW; rw [ek, if_neg c1]⟩, fun f q3 q4 q6 q7 q8 => by rw [up_at, if_neg q6, up_at, if_neg q3]; exact sf f q3 q4 q7 q8, fun j hj => by rw [up_ne hj, up_ne hj]; exact sj j hj⟩
    rw [if_pos lt]
    refine ⟨_, _, isLet hbt, ?_⟩
    rw [if_neg c1, if_pos rfl, s33, ek, ee]
    have fin : (if I (b (tkS b n i)) = I 59 then rV SH (up (up S1 90 33 (tkS b n i + 1)) 90 36 (kdA (b (tkS b n i)))) = rV SH (up (up S1 90 33 (tkS b n i + 1)) 90 36 3) else rV SH (up (up S1 90 33 (tkS b n i + 1)) 90 36 (kdA (b (tkS b n i)))) = rV SH (up (up S1 90 33 (tkS b n i + 1)) 90 36 4)) := by
      by_cases z : b (tkS b n i) = 59
      · rw [if_pos (by rw [z]), e4, if_pos z]
      · rw [if_neg (by rw [I_eq ⟨by omega, by omega⟩ ⟨by decide, by decide⟩]; exact z), e4, if_neg z]
    by_cases y : b (tkS b n i) < 48
    · rw [if_pos (by rw [I_lt ⟨by omega, by omega⟩ ⟨by decide, by decide⟩]; exact y)]
      exact fin
    · rw [if_neg (by rw [I_lt ⟨by omega, by omega⟩ ⟨by decide, by decide⟩]; exact y), if_pos (show I 57 < I (b (tkS b n i)) by rw [I_lt ⟨by decide, by decide⟩ ⟨by omega, by omega⟩]; omega)]
      exact fin
end
