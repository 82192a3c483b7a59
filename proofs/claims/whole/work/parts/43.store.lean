-- needs: 41.ops
/-! ===== worlds by shape and store: a store has an Int for each place and index ===== -/
abbrev mStore : Type := Nat → Int → Int
theorem I_add (x y : Int) : I x + I y = I (x + y) := (Int32.ofInt_add x y).symm
theorem I_sub (x y : Int) : I x - I y = I (x - y) := (Int32.ofInt_sub x y).symm
theorem I_mul (x y : Int) : I x * I y = I (x * y) := (Int32.ofInt_mul x y).symm
/-- within the range of int -/
abbrev rg (x : Int) : Prop := -2147483648 ≤ x ∧ x < 2147483648
theorem I_lt {x y : Int} (hx : rg x) (hy : rg y) : (I x < I y) ↔ x < y := by
  rw [Int32.lt_iff_toInt_lt, I_toInt hx, I_toInt hy]
theorem I_le {x y : Int} (hx : rg x) (hy : rg y) : (I x ≤ I y) ↔ x ≤ y := by
  rw [Int32.le_iff_toInt_le, I_toInt hx, I_toInt hy]
theorem I_eq {x y : Int} (hx : rg x) (hy : rg y) : (I x = I y) ↔ x = y := by
  rw [← Int32.toInt_inj, I_toInt hx, I_toInt hy]
def wv (s : Int → Int) (k : Nat) : Value → Value
  | .int _ => .int (I (s k))
  | v => v
def wc (s : Int → Int) : mCell → mCell
  | .inl (t, n, _) => .inl (t, n, fun i => I (s i))
  | .inr (.inl (n, _)) => .inr (.inl (n, fun i => Int64.ofInt (s i)))
  | .inr (.inr (.inl x)) => .inr (.inr (.inl x))
  | .inr (.inr (.inr (c, fs))) => .inr (.inr (.inr (c, fs.mapIdx fun k v => wv s k v)))
def wd (SH : List mCell) (S : mStore) : mW := SH.mapIdx fun j c => wc (S j) c
def up (S : mStore) (a : Nat) (z v : Int) : mStore := fun j i => if j = a ∧ i = z then v else S j i
/-- the first n of an array are those of another one -/
def cpy (S : mStore) (a b : Nat) (n : Int) : mStore := fun j i => if j = b ∧ 0 ≤ i ∧ i < n then S a i else S j i
theorem up_eq (S : mStore) (a : Nat) (z v : Int) : up S a z v a z = v := if_pos ⟨rfl, rfl⟩
theorem up_at (S : mStore) (a : Nat) (z v i : Int) : up S a z v a i = if i = z then v else S a i := by
  unfold up; simp
theorem up_ne {S : mStore} {a b : Nat} {z v : Int} (h : b ≠ a) : up S a z v b = S b := by
  funext i; unfold up; simp [h]
theorem cpy_at (S : mStore) (a b : Nat) (n i : Int) : cpy S a b n b i = if 0 ≤ i ∧ i < n then S a i else S b i := by
  unfold cpy; simp
theorem cpy_ne {S : mStore} {a b c : Nat} {n : Int} (h : c ≠ b) : cpy S a b n c = S c := by
  funext i; unfold cpy; simp [h]
theorem wd_get (SH : List mCell) (S : mStore) (a : Nat) : (wd SH S)[a]? = (SH[a]?).map (wc (S a)) := by
  unfold wd; rw [List.getElem?_mapIdx]
theorem wd_len (SH : List mCell) (S : mStore) : (wd SH S).length = SH.length := by
  unfold wd; rw [List.length_mapIdx]
theorem wd_set {SH : List mCell} {S S' : mStore} {a : Nat} {t c : mCell} (h : SH[a]? = some t) (hc : wc (S' a) t = c) (hS : ∀ j, j ≠ a → S' j = S j) : (wd SH S).set a c = wd SH S' := by
  apply List.ext_getElem?
  intro j
  rw [List.getElem?_set, wd_get, wd_get, wd_len]
  split
  · rename_i e; subst e
    have hl : a < SH.length := by
      rcases Nat.lt_or_ge a SH.length with h' | h'
      · exact h'
      · rw [List.getElem?_eq_none h'] at h; cases h
    rw [if_pos hl, h, ← hc]; rfl
  · rename_i e
    rw [hS j (fun h => e h.symm)]
theorem wd_set' {SH : List mCell} {S : mStore} {a : Nat} {t c c' : mCell} (h : SH[a]? = some t) (hc : wc (S a) c = c') : (wd SH S).set a c' = wd (SH.set a c) S := by
  apply List.ext_getElem?
  intro j
  rw [List.getElem?_set, wd_get, wd_get, wd_len, List.getElem?_set]
  split
  · rename_i e; subst e
    have hl : a < SH.length := by
      rcases Nat.lt_or_ge a SH.length with h' | h'
      · exact h'
      · rw [List.getElem?_eq_none h'] at h; cases h
    rw [if_pos hl, if_pos hl, ← hc]; rfl
  · rfl
theorem wd_app (SH : List mCell) (S : mStore) (c : mCell) : wd (SH ++ [c]) S = wd SH S ++ [wc (S SH.length) c] := by
  unfold wd
  rw [List.mapIdx_append]
  simp
theorem wd_cong {SH : List mCell} {S S' : mStore} (h : ∀ j, j < SH.length → S' j = S j) : wd SH S' = wd SH S := by
  apply List.ext_getElem?
  intro j
  rw [wd_get, wd_get]
  rcases Nat.lt_or_ge j SH.length with h' | h'
  · rw [h j h']
  · rw [List.getElem?_eq_none h']; rfl
theorem I_ix {z : Int} {n : Nat} (h0 : 0 ≤ z) (h1 : z < n) (hn : n < 2147483648) : ¬ (I z < 0 ∨ n ≤ (I z).toNatClampNeg) ∧ (I z).toNatClampNeg = z.toNat := by
  have e : (I z).toInt = z := I_toInt ⟨by omega, by omega⟩
  have e2 : (I z).toNatClampNeg = z.toNat := by rw [← Int32.toNat_toInt, e]
  refine ⟨?_, e2⟩
  rw [e2, Int32.lt_iff_toInt_lt, e]
  show ¬ (z < 0 ∨ _)
  omega
/-- int arrays, byte arrays, long arrays, objects -/
abbrev ar (SH : List mCell) (a n : Nat) : Prop := SH[a]? = some (mI n (fun _ => 0)) ∧ n < 2147483648
abbrev ab (SH : List mCell) (a n : Nat) : Prop := SH[a]? = some (mB n (fun _ => 0)) ∧ n < 2147483648
abbrev aj (SH : List mCell) (a n : Nat) : Prop := SH[a]? = some (mJ n (fun _ => 0)) ∧ n < 2147483648
abbrev ob (SH : List mCell) (a c : Nat) (fs : List Value) : Prop := SH[a]? = some (mO c fs)
section
variable {SH : List mCell} {S : mStore} {a b c k n : Nat} {z v : Int} {fs : List Value}
theorem gaI_wd (h : ar SH a n) (hz : 0 ≤ z ∧ z < n) : gaI (wd SH S) a (I z) = some (I (S a z)) := by
  unfold gaI
  rw [wd_get, h.1]
  obtain ⟨h1, h2⟩ := I_ix hz.1 hz.2 h.2
  refine (if_neg h1).trans ?_
  rw [h2]
  dsimp only
  rw [Int.toNat_of_nonneg hz.1]
theorem gaB_wd (h : ab SH a n) (hz : 0 ≤ z ∧ z < n) : gaB (wd SH S) a (I z) = some (I (S a z)) := by
  unfold gaB
  rw [wd_get, h.1]
  obtain ⟨h1, h2⟩ := I_ix hz.1 hz.2 h.2
  refine (if_neg h1).trans ?_
  rw [h2]
  dsimp only
  rw [Int.toNat_of_nonneg hz.1]
theorem gaJ_wd (h : aj SH a n) (hz : 0 ≤ z ∧ z < n) : gaJ (wd SH S) a (I z) = some (Int64.ofInt (S a z)) := by
  unfold gaJ
  rw [wd_get, h.1]
  obtain ⟨h1, h2⟩ := I_ix hz.1 hz.2 h.2
  refine (if_neg h1).trans ?_
  rw [h2]
  dsimp only
  rw [Int.toNat_of_nonneg hz.1]
theorem upd_wd (hz : 0 ≤ z) (x : Int32) (hx : x = I v) : upd (fun i : Nat => I (S a (i : Int))) z.toNat x = fun i : Nat => I (up S a z v a (i : Int)) := by
  funext i
  unfold upd up
  by_cases h : i = z.toNat
  · subst h
    rw [if_pos rfl, if_pos ⟨rfl, Int.toNat_of_nonneg hz⟩, hx]
  · rw [if_neg h, if_neg (by rintro ⟨-, e⟩; omega)]
theorem updL_wd (hz : 0 ≤ z) (x : Int64) (hx : x = Int64.ofInt v) : vp_updL (fun i : Nat => Int64.ofInt (S a (i : Int))) z.toNat x = fun i : Nat => Int64.ofInt (up S a z v a (i : Int)) := by
  funext i
  unfold vp_updL up
  by_cases h : i = z.toNat
  · subst h
    rw [if_pos rfl, if_pos ⟨rfl, Int.toNat_of_nonneg hz⟩, hx]
  · rw [if_neg h, if_neg (by rintro ⟨-, e⟩; omega)]
theorem paI_wd (h : ar SH a n) (hz : 0 ≤ z ∧ z < n) : paI (wd SH S) a (I z) (I v) = some (wd SH (up S a z v)) := by
  unfold paI mast
  dsimp only
  rw [wd_get, h.1]
  obtain ⟨h1, h2⟩ := I_ix hz.1 hz.2 h.2
  refine (if_neg h1).trans ?_
  rw [h2]
  congr 1
  refine wd_set h.1 ?_ (fun j hj => up_ne hj)
  show mI n _ = mI n _
  rw [upd_wd hz.1 _ rfl]
theorem paB_wd (h : ab SH a n) (hz : 0 ≤ z ∧ z < n) : paB (wd SH S) a (I z) (I v) = some (wd SH (up S a z ((I v).toInt8.toInt32).toInt)) := by
  unfold paB mast
  dsimp only
  rw [wd_get, h.1]
  obtain ⟨h1, h2⟩ := I_ix hz.1 hz.2 h.2
  refine (if_neg h1).trans ?_
  rw [h2]
  congr 1
  refine wd_set h.1 ?_ (fun j hj => up_ne hj)
  show mB n _ = mB n _
  rw [upd_wd hz.1 _ (I_of _).symm]
theorem paJ_wd (h : aj SH a n) (hz : 0 ≤ z ∧ z < n) (x : Int64) : paJ (wd SH S) a (I z) x = some (wd SH (up S a z x.toInt)) := by
  unfold paJ mast
  dsimp only
  rw [wd_get, h.1]
  obtain ⟨h1, h2⟩ := I_ix hz.1 hz.2 h.2
  refine (if_neg h1).trans ?_
  rw [h2]
  congr 1
  refine wd_set h.1 ?_ (fun j hj => up_ne hj)
  show mJ n _ = mJ n _
  rw [updL_wd hz.1 _ (Int64.ofInt_toInt x).symm]
theorem mgetf_wd (h : ob SH a c fs) : mgetf (wd SH S) c k a = (fs[k]?).map (wv (S a) k) := by
  unfold mgetf
  rw [wd_get, h]
  refine (if_pos rfl).trans ?_
  rw [List.getElem?_mapIdx]
theorem gfI_wd (h : ob SH a c fs) (hk : fs[k]? = some (.int 0)) : gfI (wd SH S) c k a = some (I (S a k)) := by
  unfold gfI
  rw [mgetf_wd h, hk]
  rfl
theorem gfR_wd (h : ob SH a c fs) (hk : fs[k]? = some (.ref b)) : gfR (wd SH S) c k a = some b := by
  unfold gfR
  rw [mgetf_wd h, hk]
  rfl
theorem lt_of_some {α : Type} {l : List α} {x : α} (h : l[k]? = some x) : k < l.length := by
  rcases Nat.lt_or_ge k l.length with h' | h'
  · exact h'
  · rw [List.getElem?_eq_none h'] at h; cases h
theorem pf_wd (h : ob SH a c fs) (hk : fs[k]? = some (.int 0)) : mputf (wd SH S) c k a (.int (I v)) = some (wd SH (up S a k v)) := by
  unfold mputf
  rw [wd_get, h]
  refine (if_pos rfl).trans ?_
  rw [List.length_mapIdx]
  refine (if_pos (lt_of_some hk)).trans ?_
  congr 1
  refine wd_set h ?_ (fun j hj => up_ne hj)
  show mO c _ = mO c _
  congr 1
  apply List.ext_getElem?
  intro j
  rw [List.getElem?_set, List.getElem?_mapIdx, List.length_mapIdx, List.getElem?_mapIdx]
  split
  · rename_i e; subst e
    rw [if_pos (lt_of_some hk), hk]
    show some (Value.int (I (up S a (k : Int) v a (k : Int)))) = some (Value.int (I v))
    rw [up_eq]
  · rename_i e
    cases fs[j]? with
    | none => rfl
    | some x =>
      show some (wv _ j x) = some (wv _ j x)
      cases x <;> try rfl
      show some (Value.int (I (up S a k v a j))) = some (Value.int (I (S a j)))
      rw [up_at, if_neg (by omega)]
theorem rcv_wd (h : ob SH a c fs) : rcv (wd SH S) c a = true := by
  unfold rcv mrecv
  dsimp only
  rw [wd_get, h]
  show (c == c) = true
  exact beq_self_eq_true c
theorem gln_wd (h : ar SH a n) : gln (wd SH S) a = some (I (n : Int)) := by
  unfold gln mlen?
  dsimp only
  rw [wd_get, h.1]
  rfl
theorem gln_wdJ (h : aj SH a n) : gln (wd SH S) a = some (I (n : Int)) := by
  unfold gln mlen?
  dsimp only
  rw [wd_get, h.1]
  rfl
theorem copy_wd {n0 n1 : Nat} (h0 : ar SH a n0) (h1 : ar SH b n1) (hn : 0 ≤ z ∧ z ≤ n0 ∧ z ≤ n1) : mcopy (wd SH S) [.ref a, .int (I 0), .ref b, .int (I 0), .int (I z)] = some (wd SH (cpy S a b z)) := by
  unfold mcopy
  dsimp only
  rw [wd_get, wd_get, h0.1, h1.1]
  have e : (I z).toNatClampNeg = z.toNat := by rw [← Int32.toNat_toInt, I_toInt ⟨by omega, by have := h0.2; omega⟩]
  have e0 : (I 0).toNatClampNeg = 0 := rfl
  refine (if_neg ?_).trans ?_
  · rw [e, e0]
    have hz : ¬ (I z < 0) := by
      rw [show (0 : Int32) = I 0 from rfl, I_lt ⟨by omega, by have := h0.2; omega⟩ ⟨by omega, by omega⟩]
      omega
    have h00 : ¬ (I 0 < 0) := by decide
    simp only [hz, h00, false_or]
    omega
  · rw [e, e0]
    congr 1
    refine wd_set h1.1 ?_ (fun j hj => cpy_ne hj)
    show mI n1 _ = mI n1 _
    congr 1
    congr 1
    congr 1
    funext i
    unfold va_cpy
    show I (cpy S a b z b (i : Int)) = _
    rw [cpy_at]
    by_cases hi : (i : Int) < z
    · rw [if_pos ⟨by omega, hi⟩, if_pos ⟨by omega, by omega⟩]
      simp
    · rw [if_neg (by omega), if_neg (by omega)]
end
/-- a run from a point to its end, in a world by shape and store -/
def G (sc : Nat × (Nat → Int32)) (M : mM) (pc : Nat) (ls : List (Option Value)) (st : List Value) (SH : List mCell) (S : mStore) (r : mR × mW) : Prop := R sc M pc ls st (wd SH S) = some r
abbrev rI (v : Int) (SH : List mCell) (S : mStore) : mR × mW := (.inl (some (.int (I v))), wd SH S)
abbrev rV (SH : List mCell) (S : mStore) : mR × mW := (.inl none, wd SH S)
abbrev rR (a : Nat) (SH : List mCell) (S : mStore) : mR × mW := (.inl (some (.ref a)), wd SH S)
abbrev rX (e : Nat) (SH : List mCell) (S : mStore) : mR × mW := (.inr e, wd SH S)
/-- operations whose value is told under bounds -/
def idv (x y : Int) : Int := (I x / I y).toInt
def ian (x y : Int) : Int := (I x &&& I y).toInt
def iro (x y : Int) : Int := (I x ||| I y).toInt
def ixr (x y : Int) : Int := (I x ^^^ I y).toInt
def isl (x y : Int) : Int := (I x <<< (I y &&& 31)).toInt
def isr (x y : Int) : Int := (I x >>> (I y &&& 31)).toInt
def isu (x y : Int) : Int := (((I x).toUInt32 >>> ((I y).toUInt32 &&& Int32.toUInt32 31)).toInt32).toInt
def ib8 (x : Int) : Int := ((I x).toInt8.toInt32).toInt
def j2i (x : Int64) : Int := x.toInt32.toInt
def jcm (x y : Int64) : Int := (lg_cmp x y).toInt
def i2j (x : Int) : Int64 := (I x).toInt64
def jsl (x : Int64) (y : Int) : Int64 := x <<< ((I y).toInt64 &&& 63)
def jsr (x : Int64) (y : Int) : Int64 := x >>> ((I y).toInt64 &&& 63)
def jsu (x : Int64) (y : Int) : Int64 := (x.toUInt64 >>> ((I y).toInt64.toUInt64 &&& Int64.toUInt64 63)).toInt64
section
variable {sc : Nat × (Nat → Int32)} {M : mM} {pc len : Nat} {ls : List (Option Value)} {st : List Value} {SH : List mCell} {S : mStore} {r : mR × mW} {P P1 P2 : Prop} {x y z : Int} {a b c k n idx : Nat} {fs : List Value}
theorem tt_iconst {z : Int} (hd : decode M.cc pc = .ok (.iconst z, 1)) (h : P → G sc M (pc + 1) ls (.int (I z) :: st) SH S r) : P → G sc M pc ls st SH S r := fun p => (s_iconst hd (oLe.rf _)).go (h p)
theorem tt_bipush {n : Int} (hd : decode M.cc pc = .ok (.bipush n, 2)) (hn : -128 ≤ n ∧ n < 128) (h : P → G sc M (pc + 2) ls (.int (I n) :: st) SH S r) : P → G sc M pc ls st SH S r := fun p => (s_bipush hd hn (oLe.rf _)).go (h p)
theorem tt_sipush {n : Int} (hd : decode M.cc pc = .ok (.sipush n, 3)) (hn : -32768 ≤ n ∧ n < 32768) (h : P → G sc M (pc + 3) ls (.int (I n) :: st) SH S r) : P → G sc M pc ls st SH S r := fun p => (s_sipush hd hn (oLe.rf _)).go (h p)
theorem tt_push {i : Instr} (z : Int) (hd : decode M.cc pc = .ok (i, len)) (hl : (len == mlen i) = true) (hc : mconst (mkT M.own) i = some (.int (I z))) (h : P → G sc M (pc + len) ls (.int (I z) :: st) SH S r) : P → G sc M pc ls st SH S r := fun p => (s_push z hd hl hc (oLe.rf _)).go (h p)
theorem tt_pushv {i : Instr} (x : Value) (hd : decode M.cc pc = .ok (i, len)) (hl : (len == mlen i) = true) (hc : mconst (mkT M.own) i = some x) (h : P → G sc M (pc + len) ls (x :: st) SH S r) : P → G sc M pc ls st SH S r := fun p => (s_pushv x hd hl hc (oLe.rf _)).go (h p)
theorem tt_ld {i : Instr} {k j : Nat} {v : Value} (hd : decode M.cc pc = .ok (i, len)) (hl : (len == mlen i) = true) (hc : mconst (mkT M.own) i = none) (hi : mload i = some (k, j)) (hv : mld ls j = some v) (hk : mkind v = k) (h : P → G sc M (pc + len) ls (v :: st) SH S r) : P → G sc M pc ls st SH S r := fun p => (s_ld hd hl hc hi hv hk (oLe.rf _)).go (h p)
theorem tt_st {i : Instr} {k j : Nat} {v : Value} (ls' : List (Option Value)) (hd : decode M.cc pc = .ok (i, len)) (hl : (len == mlen i) = true) (hc : mconst (mkT M.own) i = none) (hi : mload i = none) (hj : mstore i = some (k, j)) (hk : mkind v = k) (hs : mstl ls j v = some ls') (h : P → G sc M (pc + len) ls' st SH S r) : P → G sc M pc ls (v :: st) SH S r := fun p => (s_st ls' hd hl hc hi hj hk hs (oLe.rf _)).go (h p)
theorem tt_iinc {j : Nat} {n : Int} {x : Int} (ls' : List (Option Value)) (hd : decode M.cc pc = .ok (.iinc j n, 3)) (hv : mld ls j = some (.int (I x))) (hs : mstl ls j (.int (I (x + n))) = some ls') (h : P → G sc M (pc + 3) ls' st SH S r) : P → G sc M pc ls st SH S r := fun p => (s_iinc ls' hd hv (by rw [I_add]; exact hs) (oLe.rf _)).go (h p)
theorem tt_iadd (hd : decode M.cc pc = .ok (.iadd, 1)) (h : P → G sc M (pc + 1) ls (.int (I (x + y)) :: st) SH S r) : P → G sc M pc ls (.int (I y) :: .int (I x) :: st) SH S r := fun p => (s_iadd hd (oLe.rf _)).go (by rw [I_add]; exact h p)
theorem tt_isub (hd : decode M.cc pc = .ok (.isub, 1)) (h : P → G sc M (pc + 1) ls (.int (I (x - y)) :: st) SH S r) : P → G sc M pc ls (.int (I y) :: .int (I x) :: st) SH S r := fun p => (s_isub hd (oLe.rf _)).go (by rw [I_sub]; exact h p)
theorem tt_imul (hd : decode M.cc pc = .ok (.imul, 1)) (h : P → G sc M (pc + 1) ls (.int (I (x * y)) :: st) SH S r) : P → G sc M pc ls (.int (I y) :: .int (I x) :: st) SH S r := fun p => (s_imul hd (oLe.rf _)).go (by rw [I_mul]; exact h p)
theorem tt_iand (hd : decode M.cc pc = .ok (.iand, 1)) (h : P → G sc M (pc + 1) ls (.int (I (ian x y)) :: st) SH S r) : P → G sc M pc ls (.int (I y) :: .int (I x) :: st) SH S r := fun p => (s_iand hd (oLe.rf _)).go (by have q := h p; unfold ian at q; rw [I_of] at q; exact q)
theorem tt_ior (hd : decode M.cc pc = .ok (.ior, 1)) (h : P → G sc M (pc + 1) ls (.int (I (iro x y)) :: st) SH S r) : P → G sc M pc ls (.int (I y) :: .int (I x) :: st) SH S r := fun p => (s_ior hd (oLe.rf _)).go (by have q := h p; unfold iro at q; rw [I_of] at q; exact q)
theorem tt_ixor (hd : decode M.cc pc = .ok (.ixor, 1)) (h : P → G sc M (pc + 1) ls (.int (I (ixr x y)) :: st) SH S r) : P → G sc M pc ls (.int (I y) :: .int (I x) :: st) SH S r := fun p => (s_ixor hd (oLe.rf _)).go (by have q := h p; unfold ixr at q; rw [I_of] at q; exact q)
theorem tt_ishl (hd : decode M.cc pc = .ok (.ishl, 1)) (h : P → G sc M (pc + 1) ls (.int (I (isl x y)) :: st) SH S r) : P → G sc M pc ls (.int (I y) :: .int (I x) :: st) SH S r := fun p => (s_ishl hd (oLe.rf _)).go (by have q := h p; unfold isl at q; rw [I_of] at q; exact q)
theorem tt_ishr (hd : decode M.cc pc = .ok (.ishr, 1)) (h : P → G sc M (pc + 1) ls (.int (I (isr x y)) :: st) SH S r) : P → G sc M pc ls (.int (I y) :: .int (I x) :: st) SH S r := fun p => (s_ishr hd (oLe.rf _)).go (by have q := h p; unfold isr at q; rw [I_of] at q; exact q)
theorem tt_iushr (hd : decode M.cc pc = .ok (.iushr, 1)) (h : P → G sc M (pc + 1) ls (.int (I (isu x y)) :: st) SH S r) : P → G sc M pc ls (.int (I y) :: .int (I x) :: st) SH S r := fun p => (s_iushr hd (oLe.rf _)).go (by have q := h p; unfold isu at q; rw [I_of] at q; exact q)
theorem tt_idiv (hd : decode M.cc pc = .ok (.idiv, 1)) (hy : I y ≠ 0) (h : P → G sc M (pc + 1) ls (.int (I (idv x y)) :: st) SH S r) : P → G sc M pc ls (.int (I y) :: .int (I x) :: st) SH S r := fun p => (s_idiv hd hy (oLe.rf _)).go (by have q := h p; unfold idv at q; rw [I_of] at q; exact q)
theorem tt_irem (hd : decode M.cc pc = .ok (.irem, 1)) (hy : I y ≠ 0) (h : P → G sc M (pc + 1) ls (.int (I (x - idv x y * y)) :: st) SH S r) : P → G sc M pc ls (.int (I y) :: .int (I x) :: st) SH S r := fun p => (s_irem hd hy (oLe.rf _)).go (by have q := h p; unfold idv at q; rw [← I_sub, ← I_mul, I_of] at q; exact q)
theorem tt_idivc (hd : decode M.cc pc = .ok (.idiv, 1)) (h : P → G sc M (pc + 1) ls (.int (I (idv x y)) :: st) SH S r) : (I y ≠ I 0 ∧ P) → G sc M pc ls (.int (I y) :: .int (I x) :: st) SH S r := fun p => tt_idiv hd (fun e => p.1 e) h p.2
theorem tt_iremc (hd : decode M.cc pc = .ok (.irem, 1)) (h : P → G sc M (pc + 1) ls (.int (I (x - idv x y * y)) :: st) SH S r) : (I y ≠ I 0 ∧ P) → G sc M pc ls (.int (I y) :: .int (I x) :: st) SH S r := fun p => tt_irem hd p.1 h p.2
theorem tt_ladd {x y : Int64} (hd : decode M.cc pc = .ok (.ladd, 1)) (h : P → G sc M (pc + 1) ls (.long (x + y) :: st) SH S r) : P → G sc M pc ls (.long y :: .long x :: st) SH S r := fun p => (s_ladd hd (oLe.rf _)).go (h p)
theorem tt_lsub {x y : Int64} (hd : decode M.cc pc = .ok (.lsub, 1)) (h : P → G sc M (pc + 1) ls (.long (x - y) :: st) SH S r) : P → G sc M pc ls (.long y :: .long x :: st) SH S r := fun p => (s_lsub hd (oLe.rf _)).go (h p)
theorem tt_land {x y : Int64} (hd : decode M.cc pc = .ok (.land, 1)) (h : P → G sc M (pc + 1) ls (.long (x &&& y) :: st) SH S r) : P → G sc M pc ls (.long y :: .long x :: st) SH S r := fun p => (s_land hd (oLe.rf _)).go (h p)
theorem tt_lor {x y : Int64} (hd : decode M.cc pc = .ok (.lor, 1)) (h : P → G sc M (pc + 1) ls (.long (x ||| y) :: st) SH S r) : P → G sc M pc ls (.long y :: .long x :: st) SH S r := fun p => (s_lor hd (oLe.rf _)).go (h p)
theorem tt_lshl {x : Int64} {y : Int} (hd : decode M.cc pc = .ok (.lshl, 1)) (h : P → G sc M (pc + 1) ls (.long (jsl x y) :: st) SH S r) : P → G sc M pc ls (.int (I y) :: .long x :: st) SH S r := fun p => (s_lshl hd (oLe.rf _)).go (h p)
theorem tt_lshr {x : Int64} {y : Int} (hd : decode M.cc pc = .ok (.lshr, 1)) (h : P → G sc M (pc + 1) ls (.long (jsr x y) :: st) SH S r) : P → G sc M pc ls (.int (I y) :: .long x :: st) SH S r := fun p => (s_lshr hd (oLe.rf _)).go (h p)
theorem tt_lushr {x : Int64} {y : Int} (hd : decode M.cc pc = .ok (.lushr, 1)) (h : P → G sc M (pc + 1) ls (.long (jsu x y) :: st) SH S r) : P → G sc M pc ls (.int (I y) :: .long x :: st) SH S r := fun p => (s_lushr hd (oLe.rf _)).go (h p)
theorem tt_lcmp {x y : Int64} (hd : decode M.cc pc = .ok (.lcmp, 1)) (h : P → G sc M (pc + 1) ls (.int (I (jcm x y)) :: st) SH S r) : P → G sc M pc ls (.long y :: .long x :: st) SH S r := fun p => (s_lcmp hd (oLe.rf _)).go (by have q := h p; unfold jcm at q; rw [I_of] at q; exact q)
theorem tt_i2l (hd : decode M.cc pc = .ok (.i2l, 1)) (h : P → G sc M (pc + 1) ls (.long (i2j x) :: st) SH S r) : P → G sc M pc ls (.int (I x) :: st) SH S r := fun p => (s_i2l hd (oLe.rf _)).go (h p)
theorem tt_i2b (hd : decode M.cc pc = .ok (.i2b, 1)) (h : P → G sc M (pc + 1) ls (.int (I (ib8 x)) :: st) SH S r) : P → G sc M pc ls (.int (I x) :: st) SH S r := fun p => (s_i2b hd (oLe.rf _)).go (by have q := h p; unfold ib8 at q; rw [I_of] at q; exact q)
theorem tt_l2i {x : Int64} (hd : decode M.cc pc = .ok (.l2i, 1)) (h : P → G sc M (pc + 1) ls (.int (I (j2i x)) :: st) SH S r) : P → G sc M pc ls (.long x :: st) SH S r := fun p => (s_l2i hd (oLe.rf _)).go (by have q := h p; unfold j2i at q; rw [I_of] at q; exact q)
theorem tt_dup {v : Value} (hd : decode M.cc pc = .ok (.dup, 1)) (hv : v.category = 1) (h : P → G sc M (pc + 1) ls (v :: v :: st) SH S r) : P → G sc M pc ls (v :: st) SH S r := fun p => (s_dup hd hv (oLe.rf _)).go (h p)
theorem tt_pop {v : Value} (hd : decode M.cc pc = .ok (.pop, 1)) (hv : v.category = 1) (h : P → G sc M (pc + 1) ls st SH S r) : P → G sc M pc ls (v :: st) SH S r := fun p => (s_pop hd hv (oLe.rf _)).go (h p)
theorem tt_dup_x1 {v w : Value} (hd : decode M.cc pc = .ok (.dup_x1, 1)) (hv : v.category = 1) (hw : w.category = 1) (h : P → G sc M (pc + 1) ls (v :: w :: v :: st) SH S r) : P → G sc M pc ls (v :: w :: st) SH S r := fun p => (s_dup_x1 hd hv hw (oLe.rf _)).go (h p)
theorem tt_dup2 {v w : Value} (hd : decode M.cc pc = .ok (.dup2, 1)) (hv : v.category = 1) (hw : w.category = 1) (h : P → G sc M (pc + 1) ls (v :: w :: v :: w :: st) SH S r) : P → G sc M pc ls (v :: w :: st) SH S r := fun p => (s_dup2 hd hv hw (oLe.rf _)).go (h p)
theorem tt_goto {off : Int} (tgt : Nat) (hd : decode M.cc pc = .ok (.goto off, 3)) (ht : (pc : Int) + off = (tgt : Int)) (h : P → G sc M tgt ls st SH S r) : P → G sc M pc ls st SH S r := fun p => (s_goto tgt hd ht (oLe.rf _)).go (h p)
theorem ite_go {c : Prop} [Decidable c] {X1 X2 : Option (mR × mW)} (h1 : P1 → X1 = some r) (h2 : P2 → X2 = some r) (p : if c then P1 else P2) : (if c then X1 else X2) = some r := by
  split
  · rename_i h; rw [if_pos h] at p; exact h1 p
  · rename_i h; rw [if_neg h] at p; exact h2 p
theorem tt_if_eq {off : Int} (tgt : Nat) (hd : decode M.cc pc = .ok (.ifCond .eq off, 3)) (ht : (pc : Int) + off = (tgt : Int)) (h1 : P1 → G sc M tgt ls st SH S r) (h2 : P2 → G sc M (pc + 3) ls st SH S r) : (if I x = I 0 then P1 else P2) → G sc M pc ls (.int (I x) :: st) SH S r := fun p => (s_if_eq tgt hd ht (oLe.rf _) (oLe.rf _)).go (ite_go h1 h2 p)
theorem tt_ic_eq {off : Int} (tgt : Nat) (hd : decode M.cc pc = .ok (.if_icmp .eq off, 3)) (ht : (pc : Int) + off = (tgt : Int)) (h1 : P1 → G sc M tgt ls st SH S r) (h2 : P2 → G sc M (pc + 3) ls st SH S r) : (if I x = I y then P1 else P2) → G sc M pc ls (.int (I y) :: .int (I x) :: st) SH S r := fun p => (s_ic_eq tgt hd ht (oLe.rf _) (oLe.rf _)).go (ite_go h1 h2 p)
theorem tt_if_ne {off : Int} (tgt : Nat) (hd : decode M.cc pc = .ok (.ifCond .ne off, 3)) (ht : (pc : Int) + off = (tgt : Int)) (h1 : P1 → G sc M tgt ls st SH S r) (h2 : P2 → G sc M (pc + 3) ls st SH S r) : (if I x = I 0 then P2 else P1) → G sc M pc ls (.int (I x) :: st) SH S r := fun p => (s_if_ne tgt hd ht (oLe.rf _) (oLe.rf _)).go (ite_go h2 h1 p)
theorem tt_ic_ne {off : Int} (tgt : Nat) (hd : decode M.cc pc = .ok (.if_icmp .ne off, 3)) (ht : (pc : Int) + off = (tgt : Int)) (h1 : P1 → G sc M tgt ls st SH S r) (h2 : P2 → G sc M (pc + 3) ls st SH S r) : (if I x = I y then P2 else P1) → G sc M pc ls (.int (I y) :: .int (I x) :: st) SH S r := fun p => (s_ic_ne tgt hd ht (oLe.rf _) (oLe.rf _)).go (ite_go h2 h1 p)
theorem tt_if_lt {off : Int} (tgt : Nat) (hd : decode M.cc pc = .ok (.ifCond .lt off, 3)) (ht : (pc : Int) + off = (tgt : Int)) (h1 : P1 → G sc M tgt ls st SH S r) (h2 : P2 → G sc M (pc + 3) ls st SH S r) : (if I x < I 0 then P1 else P2) → G sc M pc ls (.int (I x) :: st) SH S r := fun p => (s_if_lt tgt hd ht (oLe.rf _) (oLe.rf _)).go (ite_go h1 h2 p)
theorem tt_ic_lt {off : Int} (tgt : Nat) (hd : decode M.cc pc = .ok (.if_icmp .lt off, 3)) (ht : (pc : Int) + off = (tgt : Int)) (h1 : P1 → G sc M tgt ls st SH S r) (h2 : P2 → G sc M (pc + 3) ls st SH S r) : (if I x < I y then P1 else P2) → G sc M pc ls (.int (I y) :: .int (I x) :: st) SH S r := fun p => (s_ic_lt tgt hd ht (oLe.rf _) (oLe.rf _)).go (ite_go h1 h2 p)
theorem tt_if_ge {off : Int} (tgt : Nat) (hd : decode M.cc pc = .ok (.ifCond .ge off, 3)) (ht : (pc : Int) + off = (tgt : Int)) (h1 : P1 → G sc M tgt ls st SH S r) (h2 : P2 → G sc M (pc + 3) ls st SH S r) : (if I 0 ≤ I x then P1 else P2) → G sc M pc ls (.int (I x) :: st) SH S r := fun p => (s_if_ge tgt hd ht (oLe.rf _) (oLe.rf _)).go (ite_go h1 h2 p)
theorem tt_ic_ge {off : Int} (tgt : Nat) (hd : decode M.cc pc = .ok (.if_icmp .ge off, 3)) (ht : (pc : Int) + off = (tgt : Int)) (h1 : P1 → G sc M tgt ls st SH S r) (h2 : P2 → G sc M (pc + 3) ls st SH S r) : (if I y ≤ I x then P1 else P2) → G sc M pc ls (.int (I y) :: .int (I x) :: st) SH S r := fun p => (s_ic_ge tgt hd ht (oLe.rf _) (oLe.rf _)).go (ite_go h1 h2 p)
theorem tt_if_gt {off : Int} (tgt : Nat) (hd : decode M.cc pc = .ok (.ifCond .gt off, 3)) (ht : (pc : Int) + off = (tgt : Int)) (h1 : P1 → G sc M tgt ls st SH S r) (h2 : P2 → G sc M (pc + 3) ls st SH S r) : (if I 0 < I x then P1 else P2) → G sc M pc ls (.int (I x) :: st) SH S r := fun p => (s_if_gt tgt hd ht (oLe.rf _) (oLe.rf _)).go (ite_go h1 h2 p)
theorem tt_ic_gt {off : Int} (tgt : Nat) (hd : decode M.cc pc = .ok (.if_icmp .gt off, 3)) (ht : (pc : Int) + off = (tgt : Int)) (h1 : P1 → G sc M tgt ls st SH S r) (h2 : P2 → G sc M (pc + 3) ls st SH S r) : (if I y < I x then P1 else P2) → G sc M pc ls (.int (I y) :: .int (I x) :: st) SH S r := fun p => (s_ic_gt tgt hd ht (oLe.rf _) (oLe.rf _)).go (ite_go h1 h2 p)
theorem tt_if_le {off : Int} (tgt : Nat) (hd : decode M.cc pc = .ok (.ifCond .le off, 3)) (ht : (pc : Int) + off = (tgt : Int)) (h1 : P1 → G sc M tgt ls st SH S r) (h2 : P2 → G sc M (pc + 3) ls st SH S r) : (if I x ≤ I 0 then P1 else P2) → G sc M pc ls (.int (I x) :: st) SH S r := fun p => (s_if_le tgt hd ht (oLe.rf _) (oLe.rf _)).go (ite_go h1 h2 p)
theorem tt_ic_le {off : Int} (tgt : Nat) (hd : decode M.cc pc = .ok (.if_icmp .le off, 3)) (ht : (pc : Int) + off = (tgt : Int)) (h1 : P1 → G sc M tgt ls st SH S r) (h2 : P2 → G sc M (pc + 3) ls st SH S r) : (if I x ≤ I y then P1 else P2) → G sc M pc ls (.int (I y) :: .int (I x) :: st) SH S r := fun p => (s_ic_le tgt hd ht (oLe.rf _) (oLe.rf _)).go (ite_go h1 h2 p)
theorem tt_getI (hd : decode M.cc pc = .ok (.getfield idx, 3)) (hT : mfT M.own idx = some (c, k)) (ho : ob SH a c fs) (hf : fs[k]? = some (.int 0)) (h : P → G sc M (pc + 3) ls (.int (I (S a k)) :: st) SH S r) : P → G sc M pc ls (.ref a :: st) SH S r := fun p => (s_getI hd hT (fun _ => oLe.rf _)).go (by rw [gfI_wd ho hf]; exact h p)
theorem tt_getR (hd : decode M.cc pc = .ok (.getfield idx, 3)) (hT : mfT M.own idx = some (c, k)) (ho : ob SH a c fs) (hf : fs[k]? = some (.ref b)) (h : P → G sc M (pc + 3) ls (.ref b :: st) SH S r) : P → G sc M pc ls (.ref a :: st) SH S r := fun p => (s_getR hd hT (fun _ => oLe.rf _)).go (by rw [gfR_wd ho hf]; exact h p)
theorem tt_putI (hd : decode M.cc pc = .ok (.putfield idx, 3)) (hT : mfT M.own idx = some (c, k)) (hm : mty c k = .int) (hq : mfin c k = false ∨ (M.nm.name = "<init>" ∧ M.own = c)) (ho : ob SH a c fs) (hf : fs[k]? = some (.int 0)) (h : P → G sc M (pc + 3) ls st SH (up S a k x) r) : P → G sc M pc ls (.int (I x) :: .ref a :: st) SH S r := fun p => (s_putI hd hT hm hq (fun _ => oLe.rf _)).go (by unfold pfI; rw [pf_wd ho hf]; exact h p)
theorem tt_putZ (hd : decode M.cc pc = .ok (.putfield idx, 3)) (hT : mfT M.own idx = some (c, k)) (hm : mty c k = .boolean) (hq : mfin c k = false ∨ (M.nm.name = "<init>" ∧ M.own = c)) (ho : ob SH a c fs) (hf : fs[k]? = some (.int 0)) (h : P → G sc M (pc + 3) ls st SH (up S a k x) r) : ((I x = I 0 ∨ I x = I 1) ∧ P) → G sc M pc ls (.int (I x) :: .ref a :: st) SH S r := fun p => (s_putZ hd hT hm hq (fun _ => oLe.rf _)).go (by unfold pfZ; rw [if_pos p.1, pf_wd ho hf]; exact h p.2)
theorem tt_getS {v : Value} (hd : decode M.cc pc = .ok (.getstatic idx, 3)) (hT : msT M.own idx = some v) (h : P → G sc M (pc + 3) ls (v :: st) SH S r) : P → G sc M pc ls st SH S r := fun p => (s_getS hd hT (oLe.rf _)).go (h p)
theorem tt_iaload (hd : decode M.cc pc = .ok (.iaload, 1)) {m : Int} (ha : ar SH a n) (hm : (n : Int) = m) (h : P → G sc M (pc + 1) ls (.int (I (S a z)) :: st) SH S r) : ((0 ≤ z ∧ z < m) ∧ P) → G sc M pc ls (.int (I z) :: .ref a :: st) SH S r := fun p => by
  subst hm
  exact (s_iaload hd (fun _ => oLe.rf _)).go (by rw [gaI_wd ha p.1]; exact h p.2)
theorem tt_baload (hd : decode M.cc pc = .ok (.baload, 1)) {m : Int} (ha : ab SH a n) (hm : (n : Int) = m) (h : P → G sc M (pc + 1) ls (.int (I (S a z)) :: st) SH S r) : ((0 ≤ z ∧ z < m) ∧ P) → G sc M pc ls (.int (I z) :: .ref a :: st) SH S r := fun p => by
  subst hm
  exact (s_baload hd (fun _ => oLe.rf _)).go (by rw [gaB_wd ha p.1]; exact h p.2)
theorem tt_laload (hd : decode M.cc pc = .ok (.laload, 1)) {m : Int} (ha : aj SH a n) (hm : (n : Int) = m) (h : P → G sc M (pc + 1) ls (.long (Int64.ofInt (S a z)) :: st) SH S r) : ((0 ≤ z ∧ z < m) ∧ P) → G sc M pc ls (.int (I z) :: .ref a :: st) SH S r := fun p => by
  subst hm
  exact (s_laload hd (fun _ => oLe.rf _)).go (by rw [gaJ_wd ha p.1]; exact h p.2)
theorem tt_iastore (hd : decode M.cc pc = .ok (.iastore, 1)) {m : Int} (ha : ar SH a n) (hm : (n : Int) = m) (h : P → G sc M (pc + 1) ls st SH (up S a z x) r) : ((0 ≤ z ∧ z < m) ∧ P) → G sc M pc ls (.int (I x) :: .int (I z) :: .ref a :: st) SH S r := fun p => by
  subst hm
  exact (s_iastore hd (fun _ => oLe.rf _)).go (by rw [paI_wd ha p.1]; exact h p.2)
theorem tt_bastore (hd : decode M.cc pc = .ok (.bastore, 1)) {m : Int} (ha : ab SH a n) (hm : (n : Int) = m) (h : P → G sc M (pc + 1) ls st SH (up S a z (ib8 x)) r) : ((0 ≤ z ∧ z < m) ∧ P) → G sc M pc ls (.int (I x) :: .int (I z) :: .ref a :: st) SH S r := fun p => by
  subst hm
  exact (s_bastore hd (fun _ => oLe.rf _)).go (by rw [paB_wd ha p.1]; exact h p.2)
theorem tt_lastore {x : Int64} (hd : decode M.cc pc = .ok (.lastore, 1)) {m : Int} (ha : aj SH a n) (hm : (n : Int) = m) (h : P → G sc M (pc + 1) ls st SH (up S a z x.toInt) r) : ((0 ≤ z ∧ z < m) ∧ P) → G sc M pc ls (.long x :: .int (I z) :: .ref a :: st) SH S r := fun p => by
  subst hm
  exact (s_lastore hd (fun _ => oLe.rf _)).go (by rw [paJ_wd ha p.1]; exact h p.2)
theorem tt_scload (hd : decode M.cc pc = .ok (.iaload, 1)) (h : P → G sc M (pc + 1) ls (.int (I (sc.2 z.toNat).toInt) :: st) SH S r) : ((0 ≤ z ∧ z < sc.1 ∧ sc.1 < 2147483648) ∧ P) → G sc M pc ls (.int (I z) :: .retAddr 0 :: st) SH S r := fun p => (s_scload hd (fun _ => oLe.rf _)).go (by
  have q := h p.2
  unfold gsc
  obtain ⟨h1, h2⟩ := I_ix p.1.1 p.1.2.1 p.1.2.2
  rw [if_neg h1, h2]
  rw [I_of] at q
  exact q)
theorem tt_wdload (hd : decode M.cc pc = .ok (.baload, 1)) (h : P → G sc M (pc + 1) ls (.int (I (mwords.getD z.toNat 0).toInt) :: st) SH S r) : ((0 ≤ z ∧ z < 73) ∧ P) → G sc M pc ls (.int (I z) :: .retAddr 1 :: st) SH S r := fun p => (s_wdload hd (fun _ => oLe.rf _)).go (by
  have q := h p.2
  unfold gwd
  obtain ⟨h1, h2⟩ := I_ix (n := mwords.length) p.1.1 p.1.2 (by decide)
  rw [if_neg h1, h2]
  rw [I_of] at q
  exact q)
theorem tt_len (hd : decode M.cc pc = .ok (.arraylength, 1)) (ha : ar SH a n) (h : P → G sc M (pc + 1) ls (.int (I n) :: st) SH S r) : P → G sc M pc ls (.ref a :: st) SH S r := fun p => (s_len hd (fun _ => oLe.rf _)).go (by rw [gln_wd ha]; exact h p)
theorem tt_lenJ (hd : decode M.cc pc = .ok (.arraylength, 1)) (ha : aj SH a n) (h : P → G sc M (pc + 1) ls (.int (I n) :: st) SH S r) : P → G sc M pc ls (.ref a :: st) SH S r := fun p => (s_len hd (fun _ => oLe.rf _)).go (by rw [gln_wdJ ha]; exact h p)
theorem tt_lenK {k n : Nat} (hd : decode M.cc pc = .ok (.arraylength, 1)) (hn : mlen? sc (wd SH S) (.retAddr k) = some (Int32.ofNat n)) (h : P → G sc M (pc + 1) ls (.int (I (n : Nat)) :: st) SH S r) : P → G sc M pc ls (.retAddr k :: st) SH S r := fun p => (s_lenK hd hn (oLe.rf _)).go (h p)
theorem tt_throw {idx ic c : Nat} (k : Nat) (hd : decode M.cc pc = .ok (.new idx, 3)) (hT : mnT M.own idx = some c) (hk : c = 100 + k) (d1 : decode M.cc (pc + 3) = .ok (.dup, 1)) (d2 : decode M.cc (pc + 4) = .ok (.invokespecial ic, 3)) (d3 : decode M.cc (pc + 7) = .ok (.athrow, 1)) (hc : mthrow M.own idx ic c = true ∧ M.hs = [] ∧ 6 ≤ M.rank ∧ mwt st = true) : r = rX k (SH ++ [mO (12 + k) []]) S → G sc M pc ls st SH S r := fun p => (s_throw k hd hT hk d1 d2 d3 hc).go (by
  subst p
  show some (_, _) = some (_, _)
  rw [wd_app]
  rfl)
theorem tt_iret (hd : decode M.cc pc = .ok (.ireturn, 1)) (hr : M.ret = some .int) : r = rI x SH S → G sc M pc ls [.int (I x)] SH S r := fun p => (s_iret hd hr).go (by rw [p])
theorem tt_zret (hd : decode M.cc pc = .ok (.ireturn, 1)) (hr : M.ret = some .boolean) : ((I x = I 0 ∨ I x = I 1) ∧ r = rI x SH S) → G sc M pc ls [.int (I x)] SH S r := fun p => (s_zret hd hr).go (by unfold rZ; rw [if_pos p.1, p.2])
theorem tt_ret (hd : decode M.cc pc = .ok (.return_, 1)) (hr : M.ret = none) : r = rV SH S → G sc M pc ls [] SH S r := fun p => (s_ret hd hr).go (by rw [p])
end
section
variable {sc : Nat × (Nat → Int32)} {M M' : mM} {pc len : Nat} {ls ls' : List (Option Value)} {st rest : List Value} {SH : List mCell} {S : mStore} {r : mR × mW} {P : Prop} {a c n idx : Nat} {As as : List Value} {fs : List Value}
theorem tt_vcIN {P : Int → mStore → Prop} {As : List Value} (hd : decode M.cc pc = .ok (.invokevirtual idx, 3)) (hT : mcT M.own idx = some (0, n, M')) (hc : M'.own = c) (rest : List Value) (hp : mpop n st = some (.ref a :: As, rest)) (hL : mlocals M'.nL (.ref a :: As) = ls') (hw : mwt rest = true ∧ M'.rank < M.rank ∧ (menter (.ref a :: As)).length ≤ M'.nL) (ho : ob SH a c fs) (h : ∀ v S1, P v S1 → G sc M (pc + 3) ls (.int (I v) :: rest) SH S1 r) : (∃ v S1, G sc M' 0 ls' [] SH S (rI v SH S1) ∧ P v S1) → G sc M pc ls st SH S r := by
  rintro ⟨v, S1, hg, hpp⟩
  have hg : R sc M' 0 ls' [] (wd SH S) = some (rI v SH S1) := hg
  refine (s_vcIN hd hT hc rest hp hL hw (fun _ _ => oLe.rf _)).go ?_
  rw [if_pos (rcv_wd ho)]
  rw [hg]
  exact h v S1 hpp
theorem tt_vcVN {P : mStore → Prop} {As : List Value} (hd : decode M.cc pc = .ok (.invokevirtual idx, 3)) (hT : mcT M.own idx = some (0, n, M')) (hc : M'.own = c) (rest : List Value) (hp : mpop n st = some (.ref a :: As, rest)) (hL : mlocals M'.nL (.ref a :: As) = ls') (hw : mwt rest = true ∧ M'.rank < M.rank ∧ (menter (.ref a :: As)).length ≤ M'.nL) (ho : ob SH a c fs) (h : ∀ S1, P S1 → G sc M (pc + 3) ls (rest) SH S1 r) : (∃ S1, G sc M' 0 ls' [] SH S (rV SH S1) ∧ P S1) → G sc M pc ls st SH S r := by
  rintro ⟨S1, hg, hpp⟩
  have hg : R sc M' 0 ls' [] (wd SH S) = some (rV SH S1) := hg
  refine (s_vcVN hd hT hc rest hp hL hw (fun _ => oLe.rf _)).go ?_
  rw [if_pos (rcv_wd ho)]
  rw [hg]
  exact h S1 hpp
theorem tt_vcRN {P : Nat → mStore → Prop} {As : List Value} (hd : decode M.cc pc = .ok (.invokevirtual idx, 3)) (hT : mcT M.own idx = some (0, n, M')) (hc : M'.own = c) (rest : List Value) (hp : mpop n st = some (.ref a :: As, rest)) (hL : mlocals M'.nL (.ref a :: As) = ls') (hw : mwt rest = true ∧ M'.rank < M.rank ∧ (menter (.ref a :: As)).length ≤ M'.nL) (ho : ob SH a c fs) (h : ∀ v S1, P v S1 → G sc M (pc + 3) ls (.ref v :: rest) SH S1 r) : (∃ v S1, G sc M' 0 ls' [] SH S (rR v SH S1) ∧ P v S1) → G sc M pc ls st SH S r := by
  rintro ⟨v, S1, hg, hpp⟩
  have hg : R sc M' 0 ls' [] (wd SH S) = some (rR v SH S1) := hg
  refine (s_vcRN hd hT hc rest hp hL hw (fun _ _ => oLe.rf _)).go ?_
  rw [if_pos (rcv_wd ho)]
  rw [hg]
  exact h v S1 hpp
theorem tt_vcI {P : Int → mStore → Prop} {As : List Value} (hd : decode M.cc pc = .ok (.invokevirtual idx, 3)) (hT : mcT M.own idx = some (0, n, M')) (hc : M'.own = c) (rest : List Value) (hp : mpop n st = some (.ref a :: As, rest)) (hL : mlocals M'.nL (.ref a :: As) = ls') (hw : mwt rest = true ∧ M'.rank < M.rank ∧ (menter (.ref a :: As)).length ≤ M'.nL) (ho : ob SH a c fs) (hh : M.hs = []) (h : ∀ v S1, P v S1 → G sc M (pc + 3) ls (.int (I v) :: rest) SH S1 r) : ((∃ v S1, G sc M' 0 ls' [] SH S (rI v SH S1) ∧ P v S1) ∨ (∃ e SH1 S1, G sc M' 0 ls' [] SH S (rX e SH1 S1) ∧ r = rX e SH1 S1)) → G sc M pc ls st SH S r := by
  rintro (⟨v, S1, hg, hpp⟩ | ⟨e, SH1, S1, hg, rfl⟩)
  · have hg : R sc M' 0 ls' [] (wd SH S) = some (rI v SH S1) := hg
    refine (s_vcI hd hT hc rest hp hL hw hh (fun _ _ => oLe.rf _)).go ?_
    rw [if_pos (rcv_wd ho)]
    rw [hg]
    exact h v S1 hpp
  · have hg : R sc M' 0 ls' [] (wd SH S) = some (rX e SH1 S1) := hg
    refine (s_vcI hd hT hc rest hp hL hw hh (fun _ _ => oLe.rf _)).go ?_
    rw [if_pos (rcv_wd ho)]
    rw [hg]
    rfl
theorem tt_vcV {P : mStore → Prop} {As : List Value} (hd : decode M.cc pc = .ok (.invokevirtual idx, 3)) (hT : mcT M.own idx = some (0, n, M')) (hc : M'.own = c) (rest : List Value) (hp : mpop n st = some (.ref a :: As, rest)) (hL : mlocals M'.nL (.ref a :: As) = ls') (hw : mwt rest = true ∧ M'.rank < M.rank ∧ (menter (.ref a :: As)).length ≤ M'.nL) (ho : ob SH a c fs) (hh : M.hs = []) (h : ∀ S1, P S1 → G sc M (pc + 3) ls (rest) SH S1 r) : ((∃ S1, G sc M' 0 ls' [] SH S (rV SH S1) ∧ P S1) ∨ (∃ e SH1 S1, G sc M' 0 ls' [] SH S (rX e SH1 S1) ∧ r = rX e SH1 S1)) → G sc M pc ls st SH S r := by
  rintro (⟨S1, hg, hpp⟩ | ⟨e, SH1, S1, hg, rfl⟩)
  · have hg : R sc M' 0 ls' [] (wd SH S) = some (rV SH S1) := hg
    refine (s_vcV hd hT hc rest hp hL hw hh (fun _ => oLe.rf _)).go ?_
    rw [if_pos (rcv_wd ho)]
    rw [hg]
    exact h S1 hpp
  · have hg : R sc M' 0 ls' [] (wd SH S) = some (rX e SH1 S1) := hg
    refine (s_vcV hd hT hc rest hp hL hw hh (fun _ => oLe.rf _)).go ?_
    rw [if_pos (rcv_wd ho)]
    rw [hg]
    rfl
theorem tt_scIN {P : Int → mStore → Prop} {as : List Value} (hd : decode M.cc pc = .ok (.invokestatic idx, 3)) (hT : mcT M.own idx = some (2, n, M')) (rest : List Value) (hp : mpop n st = some (as, rest)) (hL : mlocals M'.nL as = ls') (hw : mwt rest = true ∧ M'.rank < M.rank ∧ (menter as).length ≤ M'.nL) (h : ∀ v S1, P v S1 → G sc M (pc + 3) ls (.int (I v) :: rest) SH S1 r) : (∃ v S1, G sc M' 0 ls' [] SH S (rI v SH S1) ∧ P v S1) → G sc M pc ls st SH S r := by
  rintro ⟨v, S1, hg, hpp⟩
  have hg : R sc M' 0 ls' [] (wd SH S) = some (rI v SH S1) := hg
  refine (s_scIN hd hT rest hp hL hw (fun _ _ => oLe.rf _)).go ?_
  rw [hg]
  exact h v S1 hpp
theorem tt_scVN {P : mStore → Prop} {as : List Value} (hd : decode M.cc pc = .ok (.invokestatic idx, 3)) (hT : mcT M.own idx = some (2, n, M')) (rest : List Value) (hp : mpop n st = some (as, rest)) (hL : mlocals M'.nL as = ls') (hw : mwt rest = true ∧ M'.rank < M.rank ∧ (menter as).length ≤ M'.nL) (h : ∀ S1, P S1 → G sc M (pc + 3) ls (rest) SH S1 r) : (∃ S1, G sc M' 0 ls' [] SH S (rV SH S1) ∧ P S1) → G sc M pc ls st SH S r := by
  rintro ⟨S1, hg, hpp⟩
  have hg : R sc M' 0 ls' [] (wd SH S) = some (rV SH S1) := hg
  refine (s_scVN hd hT rest hp hL hw (fun _ => oLe.rf _)).go ?_
  rw [hg]
  exact h S1 hpp
theorem tt_scI {P : Int → mStore → Prop} {as : List Value} (hd : decode M.cc pc = .ok (.invokestatic idx, 3)) (hT : mcT M.own idx = some (2, n, M')) (rest : List Value) (hp : mpop n st = some (as, rest)) (hL : mlocals M'.nL as = ls') (hw : mwt rest = true ∧ M'.rank < M.rank ∧ (menter as).length ≤ M'.nL) (hh : M.hs = []) (h : ∀ v S1, P v S1 → G sc M (pc + 3) ls (.int (I v) :: rest) SH S1 r) : ((∃ v S1, G sc M' 0 ls' [] SH S (rI v SH S1) ∧ P v S1) ∨ (∃ e SH1 S1, G sc M' 0 ls' [] SH S (rX e SH1 S1) ∧ r = rX e SH1 S1)) → G sc M pc ls st SH S r := by
  rintro (⟨v, S1, hg, hpp⟩ | ⟨e, SH1, S1, hg, rfl⟩)
  · have hg : R sc M' 0 ls' [] (wd SH S) = some (rI v SH S1) := hg
    refine (s_scI hd hT rest hp hL hw hh (fun _ _ => oLe.rf _)).go ?_
    rw [hg]
    exact h v S1 hpp
  · have hg : R sc M' 0 ls' [] (wd SH S) = some (rX e SH1 S1) := hg
    refine (s_scI hd hT rest hp hL hw hh (fun _ _ => oLe.rf _)).go ?_
    rw [hg]
    rfl
theorem tt_scV {P : mStore → Prop} {as : List Value} (hd : decode M.cc pc = .ok (.invokestatic idx, 3)) (hT : mcT M.own idx = some (2, n, M')) (rest : List Value) (hp : mpop n st = some (as, rest)) (hL : mlocals M'.nL as = ls') (hw : mwt rest = true ∧ M'.rank < M.rank ∧ (menter as).length ≤ M'.nL) (hh : M.hs = []) (h : ∀ S1, P S1 → G sc M (pc + 3) ls (rest) SH S1 r) : ((∃ S1, G sc M' 0 ls' [] SH S (rV SH S1) ∧ P S1) ∨ (∃ e SH1 S1, G sc M' 0 ls' [] SH S (rX e SH1 S1) ∧ r = rX e SH1 S1)) → G sc M pc ls st SH S r := by
  rintro (⟨S1, hg, hpp⟩ | ⟨e, SH1, S1, hg, rfl⟩)
  · have hg : R sc M' 0 ls' [] (wd SH S) = some (rV SH S1) := hg
    refine (s_scV hd hT rest hp hL hw hh (fun _ => oLe.rf _)).go ?_
    rw [hg]
    exact h S1 hpp
  · have hg : R sc M' 0 ls' [] (wd SH S) = some (rX e SH1 S1) := hg
    refine (s_scV hd hT rest hp hL hw hh (fun _ => oLe.rf _)).go ?_
    rw [hg]
    rfl
theorem tt_ncIN {P : Int → mStore → Prop} {as : List Value} (hd : decode M.cc pc = .ok (.invokestatic idx, 3)) (hT : mcT M.own idx = some (5, n, M')) (rest : List Value) (hp : mpop n st = some (as, rest)) (hL : mlocals M'.nL as = ls') (hw : mwt rest = true ∧ M'.rank < M.rank ∧ (menter as).length ≤ M'.nL) (h : ∀ v S1, P v S1 → G sc M (pc + 3) ls (.int (I v) :: rest) SH S1 r) : (∃ v S1, G sc M' 0 ls' [] SH S (rI v SH S1) ∧ P v S1) → G sc M pc ls st SH S r := by
  rintro ⟨v, S1, hg, hpp⟩
  have hg : R sc M' 0 ls' [] (wd SH S) = some (rI v SH S1) := hg
  refine (s_ncIN hd hT rest hp hL hw (fun _ _ => oLe.rf _)).go ?_
  rw [hg]
  exact h v S1 hpp
theorem tt_obj (hd : decode M.cc pc = .ok (.invokespecial idx, 3)) (hT : mcT M.own idx = some (10, n, M')) (rest : List Value) (hp : mpop n st = some (as, rest)) (hr : mref as = true) (hw : mwt rest = true ∧ M'.rank < M.rank ∧ (menter as).length ≤ M'.nL) (h : P → G sc M (pc + 3) ls rest SH S r) : P → G sc M pc ls st SH S r := fun p => (s_obj hd hT rest hp hr hw (oLe.rf _)).go (h p)
theorem tt_copy {n0 n1 b : Nat} {z : Int} (hd : decode M.cc pc = .ok (.invokestatic idx, 3)) (hT : mcT M.own idx = some (11, n, M')) (rest : List Value) (hp : mpop n st = some ([.ref a, .int (I 0), .ref b, .int (I 0), .int (I z)], rest)) (hw : mwt rest = true ∧ M'.rank < M.rank ∧ (menter [.ref a, .int (I 0), .ref b, .int (I 0), .int (I z)]).length ≤ M'.nL) (h0 : ar SH a n0) (h1 : ar SH b n1) (hz : 0 ≤ z ∧ z ≤ n0 ∧ z ≤ n1) (h : P → G sc M (pc + 3) ls rest SH (cpy S a b z) r) : P → G sc M pc ls st SH S r := fun p => (s_copy hd hT rest hp hw (fun _ => oLe.rf _)).go (by rw [copy_wd h0 h1 hz]; exact h p)
theorem tt_slen {j : Nat} (hd : decode M.cc pc = .ok (.invokevirtual 44, 3)) (hT : mcT M.own 44 = some (12, n, M')) (rest : List Value) (hp : mpop n st = some ([.retAddr j], rest)) (hw : mwt rest = true ∧ M'.rank < M.rank ∧ (menter [.retAddr j]).length ≤ M'.nL) (hr : 6 ≤ M.rank ∧ M.own = 8) {P : List Int32 → Prop} (h : ∀ t, P t → G sc M (pc + 3) ls (.int (I t.length) :: rest) SH S r) : (∃ t, mstrs j = some t ∧ P t) → G sc M pc ls st SH S r := by
  rintro ⟨t, ht, p⟩
  refine (s_slen hd hT rest hp hw hr (fun _ => oLe.rf _)).go ?_
  unfold gst
  rw [ht]
  exact h t p
theorem tt_scha {j : Nat} {i : Int} (hd : decode M.cc pc = .ok (.invokevirtual 49, 3)) (hT : mcT M.own 49 = some (13, n, M')) (rest : List Value) (hp : mpop n st = some ([.retAddr j, .int (I i)], rest)) (hw : mwt rest = true ∧ M'.rank < M.rank ∧ (menter [.retAddr j, .int (I i)]).length ≤ M'.nL) (hr : 6 ≤ M.rank ∧ M.own = 8) {P : List Int32 → Prop} (h : ∀ t, P t → G sc M (pc + 3) ls (.int (I (t.getD i.toNat 0).toInt) :: rest) SH S r) : (∃ t, mstrs j = some t ∧ (0 ≤ i ∧ i < t.length ∧ t.length < 2147483648) ∧ P t) → G sc M pc ls st SH S r := by
  rintro ⟨t, ht, hi, p⟩
  refine (s_scha hd hT rest hp hw hr (fun _ => oLe.rf _)).go ?_
  unfold gst
  rw [ht]
  have q := h t p
  obtain ⟨h1, h2⟩ := I_ix hi.1 hi.2.1 hi.2.2
  rw [I_of] at q
  show (if _ then _ else _) = _
  rw [if_neg h1, h2]
  exact q
def swp (x lo : Int) (Pd : Prop) : List Prop → Prop
  | [] => Pd
  | P :: Ps => if I x = I lo then P else swp x (lo + 1) Pd Ps
def swu (sc : Nat × (Nat → Int32)) (M : mM) (pc : Nat) (ls : List (Option Value)) (st : List Value) (SH : List mCell) (S : mStore) (r : mR × mW) : List Prop → List Int → Prop
  | [], [] => True
  | P :: Ps, off :: offs => (∃ tgt : Nat, (pc : Int) + off = (tgt : Int) ∧ (P → G sc M tgt ls st SH S r)) ∧ swu sc M pc ls st SH S r Ps offs
  | _, _ => False
theorem swu_len : ∀ {Ps : List Prop} {offs : List Int}, swu sc M pc ls st SH S r Ps offs → Ps.length = offs.length
  | [], [], _ => rfl
  | _ :: _, _ :: _, h => by
    rw [List.length_cons, List.length_cons, swu_len h.2]
  | [], _ :: _, h => h.elim
  | _ :: _, [], h => h.elim
theorem swu_t : ∀ {Ps : List Prop} {offs : List Int}, swu sc M pc ls st SH S r Ps offs → swt sc M pc ls st (wd SH S) (offs.map fun off => R sc M ((pc : Int) + off).toNat ls st (wd SH S)) offs
  | [], [], _ => trivial
  | _ :: _, off :: _, h => by
    obtain ⟨⟨tgt, e, _⟩, h2⟩ := h
    refine ⟨⟨tgt, e, ?_⟩, swu_t h2⟩
    dsimp only
    rw [e]
    exact oLe.rf _
  | [], _ :: _, h => h.elim
  | _ :: _, [], h => h.elim
theorem swu_go {x : Int} {Pd : Prop} {Xd : Option (mR × mW)} (hX : Pd → Xd = some r) : ∀ {Ps : List Prop} {offs : List Int} {lo : Int}, swu sc M pc ls st SH S r Ps offs → swp x lo Pd Ps → swc (I x) lo Xd (offs.map fun off => R sc M ((pc : Int) + off).toNat ls st (wd SH S)) = some r
  | [], [], _, _, p => hX p
  | P :: _, off :: _, lo, h, p => by
    obtain ⟨⟨tgt, e, hg⟩, h2⟩ := h
    rw [List.map_cons, swc]
    unfold swp at p
    split
    · rename_i hx
      rw [if_pos hx] at p
      rw [e]
      exact hg p
    · rename_i hx
      rw [if_neg hx] at p
      exact swu_go hX h2 p
  | [], _ :: _, _, h, _ => h.elim
  | _ :: _, [], _, h, _ => h.elim
theorem tt_switch {x : Int} {d lo hi : Int} {offs : Array Int} {Pd : Prop} {Ps : List Prop} (td : Nat) (hdc : decode M.cc pc = .ok (.tableswitch d lo hi offs, len)) (hlo : -2147483648 ≤ lo ∧ lo + Ps.length < 2147483648) (hhi : hi = lo + Ps.length - 1) (ht : (pc : Int) + d = (td : Int)) (hX : Pd → G sc M td ls st SH S r) (hs : swu sc M pc ls st SH S r Ps offs.toList) : swp x lo Pd Ps → G sc M pc ls (.int (I x) :: st) SH S r := by
  intro p
  have hl := swu_len hs
  refine (s_switch td hdc ?_ ?_ ht (oLe.rf _) (swu_t hs)).go (swu_go hX hs p)
  · rw [List.length_map, ← hl]; exact hlo
  · rw [List.length_map, ← hl]; exact hhi
end
section
variable {sc : Nat × (Nat → Int32)} {M M' : mM} {pc : Nat} {ls ls' : List (Option Value)} {st : List Value} {SH : List mCell} {S : mStore} {r : mR × mW} {a c n idx : Nat} {fs : List Value} {Q : List mCell → Prop}
/-- calls that make objects -/
theorem tt_vcVA {P : List mCell → mStore → Prop} {As : List Value} (hd : decode M.cc pc = .ok (.invokevirtual idx, 3)) (hT : mcT M.own idx = some (0, n, M')) (hc : M'.own = c) (rest : List Value) (hp : mpop n st = some (.ref a :: As, rest)) (hL : mlocals M'.nL (.ref a :: As) = ls') (hw : mwt rest = true ∧ M'.rank < M.rank ∧ (menter (.ref a :: As)).length ≤ M'.nL) (ho : ob SH a c fs) (h : ∀ SH1 S1, Q SH1 → P SH1 S1 → G sc M (pc + 3) ls rest SH1 S1 r) : (∃ SH1 S1, Q SH1 ∧ G sc M' 0 ls' [] SH S (rV SH1 S1) ∧ P SH1 S1) → G sc M pc ls st SH S r := by
  rintro ⟨SH1, S1, hq, hg, hp1⟩
  have hg : R sc M' 0 ls' [] (wd SH S) = some (rV SH1 S1) := hg
  refine (s_vcVN hd hT hc rest hp hL hw (fun _ => oLe.rf _)).go ?_
  rw [if_pos (rcv_wd ho), hg]
  exact h SH1 S1 hq hp1
theorem tt_vcIA {P : Int → List mCell → mStore → Prop} {As : List Value} (hd : decode M.cc pc = .ok (.invokevirtual idx, 3)) (hT : mcT M.own idx = some (0, n, M')) (hc : M'.own = c) (rest : List Value) (hp : mpop n st = some (.ref a :: As, rest)) (hL : mlocals M'.nL (.ref a :: As) = ls') (hw : mwt rest = true ∧ M'.rank < M.rank ∧ (menter (.ref a :: As)).length ≤ M'.nL) (ho : ob SH a c fs) (h : ∀ v SH1 S1, Q SH1 → P v SH1 S1 → G sc M (pc + 3) ls (.int (I v) :: rest) SH1 S1 r) : (∃ v SH1 S1, Q SH1 ∧ G sc M' 0 ls' [] SH S (rI v SH1 S1) ∧ P v SH1 S1) → G sc M pc ls st SH S r := by
  rintro ⟨v, SH1, S1, hq, hg, hp1⟩
  have hg : R sc M' 0 ls' [] (wd SH S) = some (rI v SH1 S1) := hg
  refine (s_vcIN hd hT hc rest hp hL hw (fun _ _ => oLe.rf _)).go ?_
  rw [if_pos (rcv_wd ho), hg]
  exact h v SH1 S1 hq hp1
end
