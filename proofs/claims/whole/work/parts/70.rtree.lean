/-! ===== the reference's trees: rows of knots and depths ===== -/
abbrev rowf (R : Int → Int) (t n : Int) (p d : Int → Int) : Prop := R t = n ∧ ∀ i, 0 ≤ i → i < n → R (t + 1 + i) = p i ∧ R (t + 49 + i) = d i
/-- nothing but a tree's row has changed -/
abbrev rowF (S S' : mStore) (t : Int) : Prop := (∀ i, i < t ∨ t + 97 ≤ i → S' 91 i = S 91 i) ∧ ∀ j, j ≠ 91 → S' j = S j
def cutf (p : Int → Int) (c : Int) : Int → Int := fun i => if i < c then p i else p (i + 1)
def putf (p : Int → Int) (c x : Int) : Int → Int := fun i => if i < c then p i else if i = c then x else p (i - 1)
def decf (d : Int → Int) (j e : Int) : Int → Int := fun i => if j ≤ i ∧ i < e then d i - 1 else d i
theorem rowF_rf (S : mStore) (t : Int) : rowF S S t := ⟨fun _ _ => rfl, fun _ _ => rfl⟩
theorem rowF_tr {S S1 S2 : mStore} {t : Int} (h : rowF S S1 t) (h2 : rowF S1 S2 t) : rowF S S2 t := ⟨fun i hi => (h2.1 i hi).trans (h.1 i hi), fun j hj => (h2.2 j hj).trans (h.2 j hj)⟩
theorem rowF_up {S : mStore} {t i x : Int} (h : t ≤ i ∧ i < t + 97) : rowF S (up S 91 i x) t := ⟨fun k hk => by rw [up_at, if_neg (by omega)], fun j hj => up_ne hj⟩
theorem up2 (S : mStore) (x a y b z : Int) : up (up S 91 x a) 91 y b 91 z = if z = y then b else if z = x then a else S 91 z := by rw [up_at, up_at]
theorem up3 (S : mStore) (x a y b v w z : Int) : up (up (up S 91 x a) 91 y b) 91 v w 91 z = if z = v then w else if z = y then b else if z = x then a else S 91 z := by rw [up_at, up_at, up_at]
section
variable {sc : Nat × (Nat → Int32)} {SH : List mCell} {S : mStore} {t n c : Int} {p d : Int → Int}
theorem mplace_ok (h0 : sMod SH) (ht : 0 ≤ t ∧ t < 137300) (hn : 0 ≤ n ∧ n ≤ 48) (hr : rowf (S 91) t n p d) (hp : ∀ i, 0 ≤ i → i < n → 0 ≤ p i ∧ p i < 48) {x : Int} (hx : rg x) {u : Option Value} : G sc MX11_placeIn 0 [some (.ref 90), some (.int (I t)), some (.int (I x)), u] [] SH S (rI (fnd (fun i => decide (p i = x)) n.toNat 0) SH S) := by
  refine qX11_placeIn_0 h0 ?_
  obtain ⟨x1, x2⟩ := hx
  exact fnd_go (q := fun i => decide (p i = x)) (F := fun res i => G sc MX11_placeIn 2 [some (.ref 90), some (.int (I t)), some (.int (I x)), some (.int (I i))] [] SH S (rI res SH S)) (lo := 0) (hi := n)
    (fun i h1 h2 hq => by
      refine qX11_placeIn_2 h0 ?_
      have := hp i h1 h2
      rw [hr.1, (hr.2 i h1 h2).1]
      simp (disch := omega) only [iL, iE, iQ, ipos, ineg, an, if_true, if_false]
      rw [if_pos (by simpa using hq)]
      trivial)
    (fun res i h1 h2 hq hn => by
      refine qX11_placeIn_2 h0 ?_
      have := hp i h1 h2
      rw [hr.1, (hr.2 i h1 h2).1]
      simp (disch := omega) only [iL, iE, iQ, ipos, ineg, an, if_true, if_false]
      rw [if_neg (by simpa using hq)]
      exact hn)
    (by
      refine qX11_placeIn_2 h0 ?_
      rw [hr.1]
      simp (disch := omega) only [iL, iE, iQ, ipos, ineg, an, if_true, if_false])
    n.toNat 0 (by omega) (by omega)
theorem mbegin_lp (h0 : sMod SH) (ht : 0 ≤ t ∧ t < 137300) (hn : n ≤ 48) (hr : rowf (S 91) t n p d) (hd : ∀ i, 0 ≤ i → i < n → 0 ≤ d i ∧ d i < 48) (hc : 0 ≤ c ∧ c < n) {j : Int} (hj : 0 ≤ j ∧ j ≤ c) (h1 : ∀ i, j ≤ i → i < c → d c < d i) (h2 : j = 0 ∨ d (j - 1) ≤ d c) : ∀ (m : Nat) (k : Int), k ≤ c → k = j + m → G sc MX11_begin 2 [some (.ref 90), some (.int (I t)), some (.int (I c)), some (.int (I k))] [] SH S (rI j SH S)
  | 0, k, hk, hm => by
    refine qX11_begin_2 h0 ?_
    have e : k = j := by omega
    subst e
    by_cases e0 : k = 0
    · subst e0
      simp (disch := omega) only [iL, iE, iQ, ipos, ineg, an, if_true, if_false]
    · have q := h2.resolve_left e0
      have b1 := hd (k - 1) (by omega) (by omega)
      have b2 := hd c hc.1 hc.2
      rw [show t + 49 + k - 1 = t + 49 + (k - 1) by omega, (hr.2 (k - 1) (by omega) (by omega)).2, (hr.2 c hc.1 hc.2).2]
      simp (disch := omega) only [iL, iE, iQ, ipos, ineg, an, if_true, if_false]
  | m + 1, k, hk, hm => by
    refine qX11_begin_2 h0 ?_
    have b1 := hd (k - 1) (by omega) (by omega)
    have b2 := hd c hc.1 hc.2
    have b3 := h1 (k - 1) (by omega) (by omega)
    rw [show t + 49 + k - 1 = t + 49 + (k - 1) by omega, (hr.2 (k - 1) (by omega) (by omega)).2, (hr.2 c hc.1 hc.2).2]
    simp (disch := omega) only [iL, iE, iQ, ipos, ineg, an, if_true, if_false]
    exact mbegin_lp h0 ht hn hr hd hc hj h1 h2 m (k + -1) (by omega) (by omega)
theorem mbegin_ok (h0 : sMod SH) (ht : 0 ≤ t ∧ t < 137300) (hn : n ≤ 48) (hr : rowf (S 91) t n p d) (hd : ∀ i, 0 ≤ i → i < n → 0 ≤ d i ∧ d i < 48) (hc : 0 ≤ c ∧ c < n) {j : Int} (hj : 0 ≤ j ∧ j ≤ c) (h1 : ∀ i, j ≤ i → i < c → d c < d i) (h2 : j = 0 ∨ d (j - 1) ≤ d c) {u : Option Value} : G sc MX11_begin 0 [some (.ref 90), some (.int (I t)), some (.int (I c)), u] [] SH S (rI j SH S) := by
  refine qX11_begin_0 h0 ?_
  exact mbegin_lp h0 ht hn hr hd hc hj h1 h2 (c - j).toNat c (by omega) (by omega)
theorem mend_lp (h0 : sMod SH) (ht : 0 ≤ t ∧ t < 137300) (hn : n ≤ 48) (hr : rowf (S 91) t n p d) (hd : ∀ i, 0 ≤ i → i < n → 0 ≤ d i ∧ d i < 48) (hc : 0 ≤ c ∧ c < n) {e : Int} (he : c < e ∧ e ≤ n) (h1 : ∀ i, c < i → i < e → d c < d i) (h2 : e = n ∨ d e ≤ d c) : ∀ (m : Nat) (k : Int), c < k → k + m = e → G sc MX11_end 4 [some (.ref 90), some (.int (I t)), some (.int (I c)), some (.int (I k))] [] SH S (rI e SH S)
  | 0, k, hk, hm => by
    refine qX11_end_4 h0 ?_
    have ee : k = e := by omega
    subst ee
    rw [hr.1]
    by_cases e0 : k = n
    · subst e0
      simp (disch := omega) only [iL, iE, iQ, ipos, ineg, an, if_true, if_false]
    · have q := h2.resolve_left e0
      have b1 := hd k (by omega) (by omega)
      have b2 := hd c hc.1 hc.2
      rw [(hr.2 k (by omega) (by omega)).2, (hr.2 c hc.1 hc.2).2]
      simp (disch := omega) only [iL, iE, iQ, ipos, ineg, an, if_true, if_false]
  | m + 1, k, hk, hm => by
    refine qX11_end_4 h0 ?_
    have b1 := hd k (by omega) (by omega)
    have b2 := hd c hc.1 hc.2
    have b3 := h1 k (by omega) (by omega)
    rw [hr.1, (hr.2 k (by omega) (by omega)).2, (hr.2 c hc.1 hc.2).2]
    simp (disch := omega) only [iL, iE, iQ, ipos, ineg, an, if_true, if_false]
    exact mend_lp h0 ht hn hr hd hc he h1 h2 m (k + 1) (by omega) (by omega)
theorem mend_ok (h0 : sMod SH) (ht : 0 ≤ t ∧ t < 137300) (hn : n ≤ 48) (hr : rowf (S 91) t n p d) (hd : ∀ i, 0 ≤ i → i < n → 0 ≤ d i ∧ d i < 48) (hc : 0 ≤ c ∧ c < n) {e : Int} (he : c < e ∧ e ≤ n) (h1 : ∀ i, c < i → i < e → d c < d i) (h2 : e = n ∨ d e ≤ d c) {u : Option Value} : G sc MX11_end 0 [some (.ref 90), some (.int (I t)), some (.int (I c)), u] [] SH S (rI e SH S) := by
  refine qX11_end_0 h0 ?_
  exact mend_lp h0 ht hn hr hd hc he h1 h2 (e - c - 1).toNat (c + 1) (by omega) (by omega)
/-- one is cut out -/
theorem mcut_lp (h0 : sMod SH) (ht : 0 ≤ t ∧ t < 137300) (hn : n ≤ 48) (hc : 0 ≤ c ∧ c < n) : ∀ (m : Nat) (k : Int) {S : mStore}, c ≤ k → k + 1 + m = n → S 91 t = n → (∀ i, 0 ≤ i → i < n → S 91 (t + 1 + i) = (if i < k then cutf p c i else p i) ∧ S 91 (t + 49 + i) = (if i < k then cutf d c i else d i)) → ∃ S', G sc MX11_cutsOut 2 [some (.ref 90), some (.int (I t)), some (.int (I c)), some (.int (I k))] [] SH S (rV SH S') ∧ rowf (S' 91) t (n - 1) (cutf p c) (cutf d c) ∧ rowF S S' t
  | 0, k, S, hk, hm, hr, hv => by
    refine ⟨up S 91 t (n - 1), qX11_cutsOut_2 h0 ?_, ⟨?_, fun i h1 h2 => ?_⟩, rowF_up (by omega)⟩
    · rw [hr]
      simp (disch := omega) only [iL, iE, iQ, ipos, ineg, an, if_true, if_false]
    · rw [up_at, if_pos rfl]
    · have q := hv i h1 (by omega)
      rw [if_pos (by omega), if_pos (by omega)] at q
      rw [up_at, if_neg (by omega), up_at, if_neg (by omega)]
      exact q
  | m + 1, k, S, hk, hm, hr, hv => by
    have q1 := hv (k + 1) (by omega) (by omega)
    rw [if_neg (by omega), if_neg (by omega)] at q1
    obtain ⟨S', g', r', f'⟩ := mcut_lp h0 ht hn hc m (k + 1) (S := up (up S 91 (t + 1 + k) (p (k + 1))) 91 (t + 49 + k) (d (k + 1))) (by omega) (by omega) (by rw [up_at, if_neg (by omega), up_at, if_neg (by omega)]; exact hr) (fun i h1 h2 => by
      have q := hv i h1 h2
      have e1 : cutf p c k = p (k + 1) := if_neg (by omega)
      have e2 : cutf d c k = d (k + 1) := if_neg (by omega)
      by_cases e : i = k
      · subst e
        refine ⟨?_, ?_⟩
        · rw [up2, if_neg (by omega), if_pos rfl, if_pos (by omega), e1]
        · rw [up2, if_pos rfl, if_pos (by omega), e2]
      · refine ⟨?_, ?_⟩
        · rw [up2, if_neg (by omega), if_neg (by omega), q.1]
          by_cases e3 : i < k
          · rw [if_pos e3, if_pos (by omega)]
          · rw [if_neg e3, if_neg (by omega)]
        · rw [up2, if_neg (by omega), if_neg (by omega), q.2]
          by_cases e3 : i < k
          · rw [if_pos e3, if_pos (by omega)]
          · rw [if_neg e3, if_neg (by omega)])
    refine ⟨S', qX11_cutsOut_2 h0 ?_, r', rowF_tr (rowF_tr (rowF_up (by omega)) (rowF_up (by omega))) f'⟩
    rw [hr, show t + 2 + k = t + 1 + (k + 1) by omega, q1.1, show t + 49 + k + 1 = t + 49 + (k + 1) by omega, show up S 91 (t + 1 + k) (p (k + 1)) 91 (t + 49 + (k + 1)) = d (k + 1) by rw [up_at, if_neg (by omega)]; exact q1.2]
    simp (disch := omega) only [iL, iE, iQ, ipos, ineg, an, if_true, if_false]
    exact g'
theorem mcut_ok (h0 : sMod SH) (ht : 0 ≤ t ∧ t < 137300) (hn : n ≤ 48) (hr : rowf (S 91) t n p d) (hc : 0 ≤ c ∧ c < n) {u : Option Value} : ∃ S', G sc MX11_cutsOut 0 [some (.ref 90), some (.int (I t)), some (.int (I c)), u] [] SH S (rV SH S') ∧ rowf (S' 91) t (n - 1) (cutf p c) (cutf d c) ∧ rowF S S' t := by
  obtain ⟨S', g', r', f'⟩ := mcut_lp (sc := sc) (S := S) (p := p) (d := d) h0 ht hn hc (n - c - 1).toNat c (by omega) (by omega) hr.1 (fun i h1 h2 => by
    have q := hr.2 i h1 h2
    unfold cutf
    by_cases e : i < c
    · rw [if_pos e, if_pos e, if_pos e, if_pos e]; exact q
    · rw [if_neg e, if_neg e]; exact q)
  exact ⟨S', qX11_cutsOut_0 h0 g', r', f'⟩
/-- depths go down by one, one is cut out -/
theorem mlift_lp (h0 : sMod SH) (ht : 0 ≤ t ∧ t < 137300) (hn : n ≤ 48) (hc : 0 ≤ c ∧ c < n) {j e : Int} (hj : 0 ≤ j ∧ j ≤ e ∧ e ≤ n) : ∀ (m : Nat) (k : Int) {S : mStore}, j ≤ k → k + m = e → rowf (S 91) t n p (decf d j k) → ∃ S', G sc MX11_liftsOut 18 [some (.ref 90), some (.int (I t)), some (.int (I c)), some (.int (I j)), some (.int (I e)), some (.int (I k))] [] SH S (rV SH S') ∧ rowf (S' 91) t (n - 1) (cutf p c) (cutf (decf d j e) c) ∧ rowF S S' t
  | 0, k, S, hk, hm, hr => by
    have ee : k = e := by omega
    subst ee
    obtain ⟨S', g', r', f'⟩ := mcut_ok (sc := sc) h0 ht hn hr hc (u := none)
    refine ⟨S', qX11_liftsOut_18 h0 ?_, r', f'⟩
    simp (disch := omega) only [iL, iE, iQ, ipos, ineg, an, if_true, if_false]
    exact ⟨_, g', rfl⟩
  | m + 1, k, S, hk, hm, hr => by
    have q1 := (hr.2 k (by omega) (by omega)).2
    have e1 : decf d j k k = d k := if_neg (by omega)
    rw [e1] at q1
    obtain ⟨S', g', r', f'⟩ := mlift_lp h0 ht hn hc hj m (k + 1) (S := up S 91 (t + 49 + k) (d k - 1)) (by omega) (by omega) ⟨by rw [up_at, if_neg (by omega)]; exact hr.1, fun i h1 h2 => by
      have q := hr.2 i h1 h2
      rw [up_at, if_neg (by omega), up_at]
      refine ⟨q.1, ?_⟩
      by_cases e3 : i = k
      · subst e3
        rw [if_pos rfl]
        unfold decf; rw [if_pos (by omega)]
      · rw [if_neg (by omega), q.2]
        unfold decf
        by_cases e4 : j ≤ i ∧ i < k
        · rw [if_pos e4, if_pos (by omega)]
        · rw [if_neg e4, if_neg (by omega)]⟩
    refine ⟨S', qX11_liftsOut_18 h0 ?_, r', rowF_tr (rowF_up (by omega)) f'⟩
    rw [q1]
    simp (disch := omega) only [iL, iE, iQ, ipos, ineg, an, if_true, if_false]
    exact g'
theorem mlift_ok (h0 : sMod SH) (ht : 0 ≤ t ∧ t < 137300) (hn : n ≤ 48) (hr : rowf (S 91) t n p d) (hd : ∀ i, 0 ≤ i → i < n → 0 ≤ d i ∧ d i < 48) (hc : 0 ≤ c ∧ c < n) {j e : Int} (hj : 0 ≤ j ∧ j ≤ c) (j1 : ∀ i, j ≤ i → i < c → d c < d i) (j2 : j = 0 ∨ d (j - 1) ≤ d c) (he : c < e ∧ e ≤ n) (e1 : ∀ i, c < i → i < e → d c < d i) (e2 : e = n ∨ d e ≤ d c) {u u' u'' : Option Value} : ∃ S', G sc MX11_liftsOut 0 [some (.ref 90), some (.int (I t)), some (.int (I c)), u, u', u''] [] SH S (rV SH S') ∧ rowf (S' 91) t (n - 1) (cutf p c) (cutf (decf d j e) c) ∧ rowF S S' t := by
  have hr' : rowf (S 91) t n p (decf d j j) := ⟨hr.1, fun i h1 h2 => by
    have q := hr.2 i h1 h2
    refine ⟨q.1, q.2.trans ?_⟩
    unfold decf; rw [if_neg (by omega)]⟩
  obtain ⟨S', g', r', f'⟩ := mlift_lp (sc := sc) h0 ht hn hc (j := j) (e := e) ⟨hj.1, by omega, he.2⟩ (e - j).toNat j (by omega) (by omega) hr'
  exact ⟨S', qX11_liftsOut_0 h0 ⟨_, _, mbegin_ok h0 ht hn hr hd hc hj j1 j2, _, _, mend_ok h0 ht hn hr hd hc he e1 e2, g'⟩, r', f'⟩
/-- one is put in -/
theorem mput_lp (h0 : sMod SH) (ht : 0 ≤ t ∧ t < 137300) (hn : n ≤ 47) (hc : 0 ≤ c ∧ c ≤ n) {x y : Int} : ∀ (m : Nat) (k : Int) {S : mStore}, k = c + m → k ≤ n → S 91 t = n → (∀ i, 0 ≤ i → i ≤ n → i ≠ k → S 91 (t + 1 + i) = (if k < i then putf p c x i else p i) ∧ S 91 (t + 49 + i) = (if k < i then putf d c y i else d i)) → ∃ S', G sc MX11_putsIn 8 [some (.ref 90), some (.int (I t)), some (.int (I c)), some (.int (I x)), some (.int (I y)), some (.int (I k))] [] SH S (rV SH S') ∧ rowf (S' 91) t (n + 1) (putf p c x) (putf d c y) ∧ rowF S S' t
  | 0, k, S, hk, hkn, hr, hv => by
    have e : k = c := by omega
    subst e
    refine ⟨up (up (up S 91 (t + 1 + k) x) 91 (t + 49 + k) y) 91 t (n + 1), qX11_putsIn_8 h0 ?_, ⟨?_, fun i h1 h2 => ?_⟩, rowF_tr (rowF_tr (rowF_up (by omega)) (rowF_up (by omega))) (rowF_up (by omega))⟩
    · rw [show up (up S 91 (t + 1 + k) x) 91 (t + 49 + k) y 91 t = n by rw [up2, if_neg (by omega), if_neg (by omega)]; exact hr]
      simp (disch := omega) only [iL, iE, iQ, ipos, ineg, an, if_true, if_false]
    · rw [up_at, if_pos rfl]
    · by_cases e : i = k
      · subst e
        refine ⟨?_, ?_⟩
        · rw [up3, if_neg (by omega), if_neg (by omega), if_pos rfl]
          unfold putf
          rw [if_neg (by omega), if_pos rfl]
        · rw [up3, if_neg (by omega), if_pos rfl]
          unfold putf
          rw [if_neg (by omega), if_pos rfl]
      · have q := hv i h1 (by omega) e
        refine ⟨?_, ?_⟩
        · rw [up3, if_neg (by omega), if_neg (by omega), if_neg (by omega), q.1]
          by_cases e3 : k < i
          · rw [if_pos e3]
          · rw [if_neg e3]
            unfold putf
            rw [if_pos (by omega)]
        · rw [up3, if_neg (by omega), if_neg (by omega), if_neg (by omega), q.2]
          by_cases e3 : k < i
          · rw [if_pos e3]
          · rw [if_neg e3]
            unfold putf
            rw [if_pos (by omega)]
  | m + 1, k, S, hk, hkn, hr, hv => by
    have q1 := hv (k - 1) (by omega) (by omega) (by omega)
    rw [if_neg (by omega), if_neg (by omega)] at q1
    obtain ⟨S', g', r', f'⟩ := mput_lp h0 ht hn hc (x := x) (y := y) m (k + -1) (S := up (up S 91 (t + 1 + k) (p (k - 1))) 91 (t + 49 + k) (d (k - 1))) (by omega) (by omega) (by rw [up_at, if_neg (by omega), up_at, if_neg (by omega)]; exact hr) (fun i h1 h2 h3 => by
      by_cases e : i = k
      · subst e
        refine ⟨?_, ?_⟩
        · rw [up2, if_neg (by omega), if_pos rfl, if_pos (by omega)]
          unfold putf
          rw [if_neg (by omega), if_neg (by omega)]
        · rw [up2, if_pos rfl, if_pos (by omega)]
          unfold putf
          rw [if_neg (by omega), if_neg (by omega)]
      · have q := hv i h1 h2 e
        refine ⟨?_, ?_⟩
        · rw [up2, if_neg (by omega), if_neg (by omega), q.1]
          by_cases e3 : k < i
          · rw [if_pos e3, if_pos (by omega)]
          · rw [if_neg e3, if_neg (by omega)]
        · rw [up2, if_neg (by omega), if_neg (by omega), q.2]
          by_cases e3 : k < i
          · rw [if_pos e3, if_pos (by omega)]
          · rw [if_neg e3, if_neg (by omega)])
    refine ⟨S', qX11_putsIn_8 h0 ?_, r', rowF_tr (rowF_tr (rowF_up (by omega)) (rowF_up (by omega))) f'⟩
    rw [show t + k = t + 1 + (k - 1) by omega, q1.1, show t + 49 + k - 1 = t + 49 + (k - 1) by omega, show up S 91 (t + 1 + k) (p (k - 1)) 91 (t + 49 + (k - 1)) = d (k - 1) by rw [up_at, if_neg (by omega)]; exact q1.2]
    simp (disch := omega) only [iL, iE, iQ, ipos, ineg, an, if_true, if_false]
    exact g'
theorem mput_ok (h0 : sMod SH) (ht : 0 ≤ t ∧ t < 137300) (hn : 0 ≤ n ∧ n ≤ 47) (hr : rowf (S 91) t n p d) (hc : 0 ≤ c ∧ c ≤ n) {x y : Int} {u : Option Value} : ∃ S', G sc MX11_putsIn 0 [some (.ref 90), some (.int (I t)), some (.int (I c)), some (.int (I x)), some (.int (I y)), u] [] SH S (rV SH S') ∧ rowf (S' 91) t (n + 1) (putf p c x) (putf d c y) ∧ rowF S S' t := by
  obtain ⟨S', g', r', f'⟩ := mput_lp (sc := sc) (S := S) (p := p) (d := d) (x := x) (y := y) h0 ht hn.2 hc (n - c).toNat n (by omega) (by omega) hr.1 (fun i h1 h2 h3 => by
    rw [if_neg (by omega), if_neg (by omega)]
    exact hr.2 i h1 (by omega))
  refine ⟨S', qX11_putsIn_0 h0 ?_, r', f'⟩
  rw [hr.1]
  exact ⟨⟨by omega, by omega⟩, g'⟩
end
