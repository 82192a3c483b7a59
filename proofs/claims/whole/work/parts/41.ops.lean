-- needs: 40.run
/-! ===== steps of runs, one a kind of instruction; what a run is bounded by from below is a program ===== -/
def I (z : Int) : Int32 := Int32.ofInt z
def gfI (g : mW) (c k a : Nat) : Option Int32 := match mgetf g c k a with
  | some (.int x) => some x
  | _ => none
def gfR (g : mW) (c k a : Nat) : Option Nat := match mgetf g c k a with
  | some (.ref x) => some x
  | _ => none
def pfI (g : mW) (c k a : Nat) (x : Int32) : Option mW := mputf g c k a (.int x)
def pfZ (g : mW) (c k a : Nat) (x : Int32) : Option mW := if x = I 0 ∨ x = I 1 then mputf g c k a (.int x) else none
def pfR (g : mW) (c k a : Nat) (x : Nat) : Option mW := mputf g c k a (.ref x)
def gaI (g : mW) (a : Nat) (i : Int32) : Option Int32 := match g[a]? with
  | some (.inl (0, n, f)) => if i < 0 ∨ n ≤ i.toNatClampNeg then none else some (f i.toNatClampNeg)
  | _ => none
def gaB (g : mW) (a : Nat) (i : Int32) : Option Int32 := match g[a]? with
  | some (.inl (1, n, f)) => if i < 0 ∨ n ≤ i.toNatClampNeg then none else some (f i.toNatClampNeg)
  | _ => none
def gaJ (g : mW) (a : Nat) (i : Int32) : Option Int64 := match g[a]? with
  | some (.inr (.inl (n, f))) => if i < 0 ∨ n ≤ i.toNatClampNeg then none else some (f i.toNatClampNeg)
  | _ => none
def gsc (sc : Nat × (Nat → Int32)) (i : Int32) : Option Int32 := if i < 0 ∨ sc.1 ≤ i.toNatClampNeg then none else some (sc.2 i.toNatClampNeg)
def gwd (i : Int32) : Option Int32 := if i < 0 ∨ mwords.length ≤ i.toNatClampNeg then none else some (mwords.getD i.toNatClampNeg 0)
def paI (g : mW) (a : Nat) (i x : Int32) : Option mW := mast g .iastore a i (.int x)
def paB (g : mW) (a : Nat) (i x : Int32) : Option mW := mast g .bastore a i (.int x)
def paJ (g : mW) (a : Nat) (i : Int32) (x : Int64) : Option mW := mast g .lastore a i (.long x)
def gln (g : mW) (a : Nat) : Option Int32 := mlen? (0, fun _ => 0) g (.ref a)
def nw (g : mW) (c : Nat) (k : Nat → mW → Option (mR × mW)) : Option (mR × mW) := k g.length (g ++ [mO c (mdf c)])
def nwa (g : mW) (t : ArrayType) (n : Int32) (k : Nat → mW → Option (mR × mW)) : Option (mR × mW) := match mnewa t n with
  | some c => k g.length (g ++ [c])
  | none => none
def rcv (g : mW) (c a : Nat) : Bool := mrecv g c [.ref a]
def rZ (x : Int32) (g : mW) : Option (mR × mW) := if x = I 0 ∨ x = I 1 then some (.inl (some (.int x)), g) else none
/-- behind a call: an int, nothing, a reference; exceptions go through, or (N) do not come -/
def cI (o : Option (mR × mW)) (k : Int32 → mW → Option (mR × mW)) : Option (mR × mW) := match o with
  | some (.inl (some (.int v)), g) => k v g
  | some (.inr e, g) => some (.inr e, g)
  | _ => none
def cV (o : Option (mR × mW)) (k : mW → Option (mR × mW)) : Option (mR × mW) := match o with
  | some (.inl none, g) => k g
  | some (.inr e, g) => some (.inr e, g)
  | _ => none
def cIN (o : Option (mR × mW)) (k : Int32 → mW → Option (mR × mW)) : Option (mR × mW) := match o with
  | some (.inl (some (.int v)), g) => k v g
  | _ => none
def cVN (o : Option (mR × mW)) (k : mW → Option (mR × mW)) : Option (mR × mW) := match o with
  | some (.inl none, g) => k g
  | _ => none
def cRN (o : Option (mR × mW)) (k : Nat → mW → Option (mR × mW)) : Option (mR × mW) := match o with
  | some (.inl (some (.ref v)), g) => k v g
  | _ => none
def cH (o : Option (mR × mW)) (k : Int32 → mW → Option (mR × mW)) (h : Nat → mW → Option (mR × mW)) : Option (mR × mW) := match o with
  | some (.inl (some (.int v)), g) => k v g
  | some (.inr e, g) => h e g
  | _ => none
def gst (j : Nat) : Option (List Int32) := mstrs j
def swc (x : Int32) (lo : Int) (Xd : Option (mR × mW)) : List (Option (mR × mW)) → Option (mR × mW)
  | [] => Xd
  | X :: r => if x = I lo then X else swc x (lo + 1) Xd r
section
variable {sc : Nat × (Nat → Int32)} {M : mM} {pc len : Nat} {ls : List (Option Value)} {st : List Value} {g : mW} {X : Option (mR × mW)}
theorem R_one {i : Instr} {pc' : Nat} {ls' : List (Option Value)} {st' : List Value} {g' : mW} (hd : decode M.cc pc = .ok (i, len)) (hl : (len == mlen i || msw i) = true) (hs : ∀ K : mK, mstep sc K M pc i ls st g = K M pc' ls' st' g') (h : oLe X (R sc M pc' ls' st' g')) : oLe X (R sc M pc ls st g) := by
  intro r hr
  obtain ⟨n, hn⟩ := R_iff.mp (h r hr)
  refine R_of hd ?_ ((hs (mx sc n)).trans hn)
  simpa using hl
theorem R_end {i : Instr} {r : mR × mW} (hd : decode M.cc pc = .ok (i, len)) (hl : (len == mlen i || msw i) = true) (hs : ∀ K : mK, mstep sc K M pc i ls st g = some r) : oLe (some r) (R sc M pc ls st g) := by
  intro r' hr
  cases hr
  refine R_of (n := 0) hd ?_ (hs _)
  simpa using hl
theorem mstep_pure {K : mK} {i : Instr} {ls' : List (Option Value)} {st' : List Value} (h : mpure (mkT M.own) i ls st = some (ls', st')) : mstep sc K M pc i ls st g = K M (pc + mlen i) ls' st' g := by
  unfold mstep; rw [h]
/-- constants, loads, stores -/
theorem s_pure {i : Instr} {ls' : List (Option Value)} {st' : List Value} (hd : decode M.cc pc = .ok (i, len)) (hl : (len == mlen i) = true) (hp : mpure (mkT M.own) i ls st = some (ls', st')) (h : oLe X (R sc M (pc + len) ls' st' g)) : oLe X (R sc M pc ls st g) := by
  have e : len = mlen i := by simpa using hl
  subst e
  exact R_one hd (by simp) (fun K => mstep_pure hp) h
theorem s_iconst {z : Int} (hd : decode M.cc pc = .ok (.iconst z, 1)) (h : oLe X (R sc M (pc + 1) ls (.int (I z) :: st) g)) : oLe X (R sc M pc ls st g) := s_pure hd rfl rfl h
theorem s_push {i : Instr} (z : Int) (hd : decode M.cc pc = .ok (i, len)) (hl : (len == mlen i) = true) (hc : mconst (mkT M.own) i = some (.int (I z))) (h : oLe X (R sc M (pc + len) ls (.int (I z) :: st) g)) : oLe X (R sc M pc ls st g) := s_pure hd hl (by unfold mpure; rw [hc]) h
theorem I_8 {n : Int} (h : -128 ≤ n ∧ n < 128) : (Int8.ofInt n).toInt32 = I n := by
  unfold I
  rw [← Int32.toInt_inj, Int8.toInt_toInt32, Int8.toInt_ofInt, Int32.toInt_ofInt, Int.bmod_def, Int.bmod_def]
  rw [show ((Int32.size : Nat) : Int) = 4294967296 from rfl, show ((Int8.size : Nat) : Int) = 256 from rfl]
  omega
theorem I_16 {n : Int} (h : -32768 ≤ n ∧ n < 32768) : (Int16.ofInt n).toInt32 = I n := by
  unfold I
  rw [← Int32.toInt_inj, Int16.toInt_toInt32, Int16.toInt_ofInt, Int32.toInt_ofInt, Int.bmod_def, Int.bmod_def]
  rw [show ((Int32.size : Nat) : Int) = 4294967296 from rfl, show ((Int16.size : Nat) : Int) = 65536 from rfl]
  omega
theorem s_bipush {n : Int} (hd : decode M.cc pc = .ok (.bipush n, 2)) (hn : -128 ≤ n ∧ n < 128) (h : oLe X (R sc M (pc + 2) ls (.int (I n) :: st) g)) : oLe X (R sc M pc ls st g) := s_pure hd rfl (by simp only [mpure, mconst]; rw [I_8 hn]) h
theorem s_sipush {n : Int} (hd : decode M.cc pc = .ok (.sipush n, 3)) (hn : -32768 ≤ n ∧ n < 32768) (h : oLe X (R sc M (pc + 3) ls (.int (I n) :: st) g)) : oLe X (R sc M pc ls st g) := s_pure hd rfl (by simp only [mpure, mconst]; rw [I_16 hn]) h
theorem s_pushv {i : Instr} (x : Value) (hd : decode M.cc pc = .ok (i, len)) (hl : (len == mlen i) = true) (hc : mconst (mkT M.own) i = some x) (h : oLe X (R sc M (pc + len) ls (x :: st) g)) : oLe X (R sc M pc ls st g) := s_pure hd hl (by unfold mpure; rw [hc]) h
theorem s_ld {i : Instr} {k j : Nat} {v : Value} (hd : decode M.cc pc = .ok (i, len)) (hl : (len == mlen i) = true) (hc : mconst (mkT M.own) i = none) (hi : mload i = some (k, j)) (hv : mld ls j = some v) (hk : mkind v = k) (h : oLe X (R sc M (pc + len) ls (v :: st) g)) : oLe X (R sc M pc ls st g) := s_pure hd hl (by unfold mpure; rw [hc, hi]; dsimp only; rw [hv]; dsimp only; rw [if_pos hk]) h
theorem s_st {i : Instr} {k j : Nat} {v : Value} (ls' : List (Option Value)) (hd : decode M.cc pc = .ok (i, len)) (hl : (len == mlen i) = true) (hc : mconst (mkT M.own) i = none) (hi : mload i = none) (hj : mstore i = some (k, j)) (hk : mkind v = k) (hs : mstl ls j v = some ls') (h : oLe X (R sc M (pc + len) ls' st g)) : oLe X (R sc M pc ls (v :: st) g) := s_pure hd hl (by unfold mpure; rw [hc, hi, hj]; dsimp only; rw [if_pos hk, hs]; rfl) h
theorem s_iinc {j : Nat} {n : Int} {x : Int32} (ls' : List (Option Value)) (hd : decode M.cc pc = .ok (.iinc j n, 3)) (hv : mld ls j = some (.int x)) (hs : mstl ls j (.int (x + I n)) = some ls') (h : oLe X (R sc M (pc + 3) ls' st g)) : oLe X (R sc M pc ls st g) := s_pure hd rfl (by
  have hs' : mstl ls j (.int (x + Int32.ofInt n)) = some ls' := hs
  simp only [mpure, mconst, mload, mstore]; rw [hv]; dsimp only; rw [hs']; rfl) h

theorem s_iadd {x y : Int32} (hd : decode M.cc pc = .ok (.iadd, 1)) (h : oLe X (R sc M (pc + 1) ls (.int (x + y) :: st) g)) : oLe X (R sc M pc ls (.int y :: .int x :: st) g) := s_pure hd rfl rfl h
theorem s_isub {x y : Int32} (hd : decode M.cc pc = .ok (.isub, 1)) (h : oLe X (R sc M (pc + 1) ls (.int (x - y) :: st) g)) : oLe X (R sc M pc ls (.int y :: .int x :: st) g) := s_pure hd rfl rfl h
theorem s_imul {x y : Int32} (hd : decode M.cc pc = .ok (.imul, 1)) (h : oLe X (R sc M (pc + 1) ls (.int (x * y) :: st) g)) : oLe X (R sc M pc ls (.int y :: .int x :: st) g) := s_pure hd rfl rfl h
theorem s_iand {x y : Int32} (hd : decode M.cc pc = .ok (.iand, 1)) (h : oLe X (R sc M (pc + 1) ls (.int (x &&& y) :: st) g)) : oLe X (R sc M pc ls (.int y :: .int x :: st) g) := s_pure hd rfl rfl h
theorem s_ior {x y : Int32} (hd : decode M.cc pc = .ok (.ior, 1)) (h : oLe X (R sc M (pc + 1) ls (.int (x ||| y) :: st) g)) : oLe X (R sc M pc ls (.int y :: .int x :: st) g) := s_pure hd rfl rfl h
theorem s_ixor {x y : Int32} (hd : decode M.cc pc = .ok (.ixor, 1)) (h : oLe X (R sc M (pc + 1) ls (.int (x ^^^ y) :: st) g)) : oLe X (R sc M pc ls (.int y :: .int x :: st) g) := s_pure hd rfl rfl h
theorem s_ishl {x y : Int32} (hd : decode M.cc pc = .ok (.ishl, 1)) (h : oLe X (R sc M (pc + 1) ls (.int (x <<< (y &&& 31)) :: st) g)) : oLe X (R sc M pc ls (.int y :: .int x :: st) g) := s_pure hd rfl rfl h
theorem s_ishr {x y : Int32} (hd : decode M.cc pc = .ok (.ishr, 1)) (h : oLe X (R sc M (pc + 1) ls (.int (x >>> (y &&& 31)) :: st) g)) : oLe X (R sc M pc ls (.int y :: .int x :: st) g) := s_pure hd rfl rfl h
theorem s_iushr {x y : Int32} (hd : decode M.cc pc = .ok (.iushr, 1)) (h : oLe X (R sc M (pc + 1) ls (.int ((x.toUInt32 >>> (y.toUInt32 &&& Int32.toUInt32 31)).toInt32) :: st) g)) : oLe X (R sc M pc ls (.int y :: .int x :: st) g) := s_pure hd rfl rfl h
theorem s_idiv {x y : Int32} (hd : decode M.cc pc = .ok (.idiv, 1)) (hy : y ≠ 0) (h : oLe X (R sc M (pc + 1) ls (.int (x / y) :: st) g)) : oLe X (R sc M pc ls (.int y :: .int x :: st) g) := s_pure hd rfl (by simp only [mpure, mconst, mload, mstore, mbin]; rw [if_neg hy]; rfl) h
theorem s_idivc {x y : Int32} (hd : decode M.cc pc = .ok (.idiv, 1)) (h : oLe X (R sc M (pc + 1) ls (.int (x / y) :: st) g)) : oLe (if y = I 0 then none else X) (R sc M pc ls (.int y :: .int x :: st) g) := by
  split
  · exact oLe.none _
  · rename_i hy; exact s_idiv hd hy h
theorem s_irem {x y : Int32} (hd : decode M.cc pc = .ok (.irem, 1)) (hy : y ≠ 0) (h : oLe X (R sc M (pc + 1) ls (.int (x - x / y * y) :: st) g)) : oLe X (R sc M pc ls (.int y :: .int x :: st) g) := s_pure hd rfl (by simp only [mpure, mconst, mload, mstore, mbin]; rw [if_neg hy]; rfl) h
theorem s_iremc {x y : Int32} (hd : decode M.cc pc = .ok (.irem, 1)) (h : oLe X (R sc M (pc + 1) ls (.int (x - x / y * y) :: st) g)) : oLe (if y = I 0 then none else X) (R sc M pc ls (.int y :: .int x :: st) g) := by
  split
  · exact oLe.none _
  · rename_i hy; exact s_irem hd hy h
theorem s_ladd {x y : Int64} (hd : decode M.cc pc = .ok (.ladd, 1)) (h : oLe X (R sc M (pc + 1) ls (.long (x + y) :: st) g)) : oLe X (R sc M pc ls (.long y :: .long x :: st) g) := s_pure hd rfl rfl h
theorem s_lsub {x y : Int64} (hd : decode M.cc pc = .ok (.lsub, 1)) (h : oLe X (R sc M (pc + 1) ls (.long (x - y) :: st) g)) : oLe X (R sc M pc ls (.long y :: .long x :: st) g) := s_pure hd rfl rfl h
theorem s_land {x y : Int64} (hd : decode M.cc pc = .ok (.land, 1)) (h : oLe X (R sc M (pc + 1) ls (.long (x &&& y) :: st) g)) : oLe X (R sc M pc ls (.long y :: .long x :: st) g) := s_pure hd rfl rfl h
theorem s_lor {x y : Int64} (hd : decode M.cc pc = .ok (.lor, 1)) (h : oLe X (R sc M (pc + 1) ls (.long (x ||| y) :: st) g)) : oLe X (R sc M pc ls (.long y :: .long x :: st) g) := s_pure hd rfl rfl h
theorem s_lcmp {x y : Int64} (hd : decode M.cc pc = .ok (.lcmp, 1)) (h : oLe X (R sc M (pc + 1) ls (.int (lg_cmp x y) :: st) g)) : oLe X (R sc M pc ls (.long y :: .long x :: st) g) := s_pure hd rfl rfl h
theorem s_lshl {x : Int64} {y : Int32} (hd : decode M.cc pc = .ok (.lshl, 1)) (h : oLe X (R sc M (pc + 1) ls (.long (x <<< (y.toInt64 &&& 63)) :: st) g)) : oLe X (R sc M pc ls (.int y :: .long x :: st) g) := s_pure hd rfl rfl h
theorem s_lshr {x : Int64} {y : Int32} (hd : decode M.cc pc = .ok (.lshr, 1)) (h : oLe X (R sc M (pc + 1) ls (.long (x >>> (y.toInt64 &&& 63)) :: st) g)) : oLe X (R sc M pc ls (.int y :: .long x :: st) g) := s_pure hd rfl rfl h
theorem s_lushr {x : Int64} {y : Int32} (hd : decode M.cc pc = .ok (.lushr, 1)) (h : oLe X (R sc M (pc + 1) ls (.long ((x.toUInt64 >>> (y.toInt64.toUInt64 &&& Int64.toUInt64 63)).toInt64) :: st) g)) : oLe X (R sc M pc ls (.int y :: .long x :: st) g) := s_pure hd rfl rfl h
theorem s_i2l {x : Int32} (hd : decode M.cc pc = .ok (.i2l, 1)) (h : oLe X (R sc M (pc + 1) ls (.long x.toInt64 :: st) g)) : oLe X (R sc M pc ls (.int x :: st) g) := s_pure hd rfl rfl h
theorem s_i2b {x : Int32} (hd : decode M.cc pc = .ok (.i2b, 1)) (h : oLe X (R sc M (pc + 1) ls (.int x.toInt8.toInt32 :: st) g)) : oLe X (R sc M pc ls (.int x :: st) g) := s_pure hd rfl rfl h
theorem s_l2i {x : Int64} (hd : decode M.cc pc = .ok (.l2i, 1)) (h : oLe X (R sc M (pc + 1) ls (.int x.toInt32 :: st) g)) : oLe X (R sc M pc ls (.long x :: st) g) := s_pure hd rfl rfl h
theorem s_dup {v : Value} (hd : decode M.cc pc = .ok (.dup, 1)) (hv : v.category = 1) (h : oLe X (R sc M (pc + 1) ls (v :: v :: st) g)) : oLe X (R sc M pc ls (v :: st) g) := s_pure hd rfl (by simp only [mpure, mconst, mload, mstore, mbin, mbinl, mshl, mrest]; rw [if_pos hv]; rfl) h
theorem s_pop {v : Value} (hd : decode M.cc pc = .ok (.pop, 1)) (hv : v.category = 1) (h : oLe X (R sc M (pc + 1) ls st g)) : oLe X (R sc M pc ls (v :: st) g) := s_pure hd rfl (by simp only [mpure, mconst, mload, mstore, mbin, mbinl, mshl, mrest]; rw [if_pos hv]; rfl) h
theorem s_dup_x1 {v w : Value} (hd : decode M.cc pc = .ok (.dup_x1, 1)) (hv : v.category = 1) (hw : w.category = 1) (h : oLe X (R sc M (pc + 1) ls (v :: w :: v :: st) g)) : oLe X (R sc M pc ls (v :: w :: st) g) := s_pure hd rfl (by simp only [mpure, mconst, mload, mstore, mbin, mbinl, mshl, mrest]; rw [if_pos hv, if_pos hw]; rfl) h
theorem s_dup2 {v w : Value} (hd : decode M.cc pc = .ok (.dup2, 1)) (hv : v.category = 1) (hw : w.category = 1) (h : oLe X (R sc M (pc + 1) ls (v :: w :: v :: w :: st) g)) : oLe X (R sc M pc ls (v :: w :: st) g) := s_pure hd rfl (by simp only [mpure, mconst, mload, mstore, mbin, mbinl, mshl, mrest]; rw [if_pos hv, if_pos hw]; rfl) h
/-- jumps -/
theorem mto_eq {K : mK} {off : Int} {tgt : Nat} (ht : (pc : Int) + off = (tgt : Int)) : mto K M ls st g pc off = K M tgt ls st g := by
  unfold mto
  rw [if_neg (by omega), ht]
  rfl
theorem mbr_eq {K : mK} {off : Int} {tgt : Nat} {b : Bool} (ht : (pc : Int) + off = (tgt : Int)) : mbr K M ls st g pc off b = if b = true then K M tgt ls st g else K M (pc + 3) ls st g := by
  unfold mbr
  rw [if_neg (by omega), ht]
  rfl
theorem s_goto {off : Int} (tgt : Nat) (hd : decode M.cc pc = .ok (.goto off, 3)) (ht : (pc : Int) + off = (tgt : Int)) (h : oLe X (R sc M tgt ls st g)) : oLe X (R sc M pc ls st g) := R_one hd rfl (fun K => mto_eq ht) h
theorem s_br {i : Instr} {b : Bool} {P : Prop} [Decidable P] {X1 X2 : Option (mR × mW)} {tgt : Nat} {st' : List Value} (hd : decode M.cc pc = .ok (i, 3)) (hl : (3 == mlen i || msw i) = true) (hs : ∀ K : mK, mstep sc K M pc i ls st g = if b = true then K M tgt ls st' g else K M (pc + 3) ls st' g) (hP : b = decide P) (h1 : oLe X1 (R sc M tgt ls st' g)) (h2 : oLe X2 (R sc M (pc + 3) ls st' g)) : oLe (if P then X1 else X2) (R sc M pc ls st g) := by
  split
  · rename_i p
    exact R_one hd hl (fun K => (hs K).trans (by rw [hP, if_pos (by simpa using p)])) h1
  · rename_i p
    exact R_one hd hl (fun K => (hs K).trans (by rw [hP, if_neg (by simpa using p)])) h2
theorem s_brn {i : Instr} {b : Bool} {P : Prop} [Decidable P] {X1 X2 : Option (mR × mW)} {tgt : Nat} {st' : List Value} (hd : decode M.cc pc = .ok (i, 3)) (hl : (3 == mlen i || msw i) = true) (hs : ∀ K : mK, mstep sc K M pc i ls st g = if b = true then K M tgt ls st' g else K M (pc + 3) ls st' g) (hP : b = !decide P) (h1 : oLe X1 (R sc M tgt ls st' g)) (h2 : oLe X2 (R sc M (pc + 3) ls st' g)) : oLe (if P then X2 else X1) (R sc M pc ls st g) := by
  split
  · rename_i p
    exact R_one hd hl (fun K => (hs K).trans (by rw [hP, if_neg (by simpa using p)])) h2
  · rename_i p
    exact R_one hd hl (fun K => (hs K).trans (by rw [hP, if_pos (by simpa using p)])) h1

theorem s_if_eq {off : Int} {x : Int32} {X1 X2 : Option (mR × mW)} (tgt : Nat) (hd : decode M.cc pc = .ok (.ifCond .eq off, 3)) (ht : (pc : Int) + off = (tgt : Int)) (h1 : oLe X1 (R sc M tgt ls st g)) (h2 : oLe X2 (R sc M (pc + 3) ls st g)) : oLe (if x = I 0 then X1 else X2) (R sc M pc ls (.int x :: st) g) := s_br hd rfl (fun K => mbr_eq ht) rfl h1 h2
theorem s_ic_eq {off : Int} {x y : Int32} {X1 X2 : Option (mR × mW)} (tgt : Nat) (hd : decode M.cc pc = .ok (.if_icmp .eq off, 3)) (ht : (pc : Int) + off = (tgt : Int)) (h1 : oLe X1 (R sc M tgt ls st g)) (h2 : oLe X2 (R sc M (pc + 3) ls st g)) : oLe (if x = y then X1 else X2) (R sc M pc ls (.int y :: .int x :: st) g) := s_br hd rfl (fun K => mbr_eq ht) rfl h1 h2
theorem s_if_ne {off : Int} {x : Int32} {X1 X2 : Option (mR × mW)} (tgt : Nat) (hd : decode M.cc pc = .ok (.ifCond .ne off, 3)) (ht : (pc : Int) + off = (tgt : Int)) (h1 : oLe X1 (R sc M tgt ls st g)) (h2 : oLe X2 (R sc M (pc + 3) ls st g)) : oLe (if x = I 0 then X2 else X1) (R sc M pc ls (.int x :: st) g) := s_brn hd rfl (fun K => mbr_eq ht) rfl h1 h2
theorem s_ic_ne {off : Int} {x y : Int32} {X1 X2 : Option (mR × mW)} (tgt : Nat) (hd : decode M.cc pc = .ok (.if_icmp .ne off, 3)) (ht : (pc : Int) + off = (tgt : Int)) (h1 : oLe X1 (R sc M tgt ls st g)) (h2 : oLe X2 (R sc M (pc + 3) ls st g)) : oLe (if x = y then X2 else X1) (R sc M pc ls (.int y :: .int x :: st) g) := s_brn hd rfl (fun K => mbr_eq ht) rfl h1 h2
theorem s_if_lt {off : Int} {x : Int32} {X1 X2 : Option (mR × mW)} (tgt : Nat) (hd : decode M.cc pc = .ok (.ifCond .lt off, 3)) (ht : (pc : Int) + off = (tgt : Int)) (h1 : oLe X1 (R sc M tgt ls st g)) (h2 : oLe X2 (R sc M (pc + 3) ls st g)) : oLe (if x < I 0 then X1 else X2) (R sc M pc ls (.int x :: st) g) := s_br hd rfl (fun K => mbr_eq ht) rfl h1 h2
theorem s_ic_lt {off : Int} {x y : Int32} {X1 X2 : Option (mR × mW)} (tgt : Nat) (hd : decode M.cc pc = .ok (.if_icmp .lt off, 3)) (ht : (pc : Int) + off = (tgt : Int)) (h1 : oLe X1 (R sc M tgt ls st g)) (h2 : oLe X2 (R sc M (pc + 3) ls st g)) : oLe (if x < y then X1 else X2) (R sc M pc ls (.int y :: .int x :: st) g) := s_br hd rfl (fun K => mbr_eq ht) rfl h1 h2
theorem s_if_ge {off : Int} {x : Int32} {X1 X2 : Option (mR × mW)} (tgt : Nat) (hd : decode M.cc pc = .ok (.ifCond .ge off, 3)) (ht : (pc : Int) + off = (tgt : Int)) (h1 : oLe X1 (R sc M tgt ls st g)) (h2 : oLe X2 (R sc M (pc + 3) ls st g)) : oLe (if I 0 ≤ x then X1 else X2) (R sc M pc ls (.int x :: st) g) := s_br hd rfl (fun K => mbr_eq ht) rfl h1 h2
theorem s_ic_ge {off : Int} {x y : Int32} {X1 X2 : Option (mR × mW)} (tgt : Nat) (hd : decode M.cc pc = .ok (.if_icmp .ge off, 3)) (ht : (pc : Int) + off = (tgt : Int)) (h1 : oLe X1 (R sc M tgt ls st g)) (h2 : oLe X2 (R sc M (pc + 3) ls st g)) : oLe (if y ≤ x then X1 else X2) (R sc M pc ls (.int y :: .int x :: st) g) := s_br hd rfl (fun K => mbr_eq ht) rfl h1 h2
theorem s_if_gt {off : Int} {x : Int32} {X1 X2 : Option (mR × mW)} (tgt : Nat) (hd : decode M.cc pc = .ok (.ifCond .gt off, 3)) (ht : (pc : Int) + off = (tgt : Int)) (h1 : oLe X1 (R sc M tgt ls st g)) (h2 : oLe X2 (R sc M (pc + 3) ls st g)) : oLe (if I 0 < x then X1 else X2) (R sc M pc ls (.int x :: st) g) := s_br hd rfl (fun K => mbr_eq ht) rfl h1 h2
theorem s_ic_gt {off : Int} {x y : Int32} {X1 X2 : Option (mR × mW)} (tgt : Nat) (hd : decode M.cc pc = .ok (.if_icmp .gt off, 3)) (ht : (pc : Int) + off = (tgt : Int)) (h1 : oLe X1 (R sc M tgt ls st g)) (h2 : oLe X2 (R sc M (pc + 3) ls st g)) : oLe (if y < x then X1 else X2) (R sc M pc ls (.int y :: .int x :: st) g) := s_br hd rfl (fun K => mbr_eq ht) rfl h1 h2
theorem s_if_le {off : Int} {x : Int32} {X1 X2 : Option (mR × mW)} (tgt : Nat) (hd : decode M.cc pc = .ok (.ifCond .le off, 3)) (ht : (pc : Int) + off = (tgt : Int)) (h1 : oLe X1 (R sc M tgt ls st g)) (h2 : oLe X2 (R sc M (pc + 3) ls st g)) : oLe (if x ≤ I 0 then X1 else X2) (R sc M pc ls (.int x :: st) g) := s_br hd rfl (fun K => mbr_eq ht) rfl h1 h2
theorem s_ic_le {off : Int} {x y : Int32} {X1 X2 : Option (mR × mW)} (tgt : Nat) (hd : decode M.cc pc = .ok (.if_icmp .le off, 3)) (ht : (pc : Int) + off = (tgt : Int)) (h1 : oLe X1 (R sc M tgt ls st g)) (h2 : oLe X2 (R sc M (pc + 3) ls st g)) : oLe (if x ≤ y then X1 else X2) (R sc M pc ls (.int y :: .int x :: st) g) := s_br hd rfl (fun K => mbr_eq ht) rfl h1 h2
/-- fields -/
theorem oLe_bind {α β : Type} {o : Option α} {F : α → Option β} {Y : Option β} (h : ∀ x, o = some x → oLe (F x) Y) : oLe (o.bind F) Y := by
  cases o with
  | none => exact oLe.none _
  | some x => exact h x rfl
theorem s_getI {idx c k a : Nat} {F : Int32 → Option (mR × mW)} (hd : decode M.cc pc = .ok (.getfield idx, 3)) (hT : mfT M.own idx = some (c, k)) (h : ∀ x, oLe (F x) (R sc M (pc + 3) ls (.int x :: st) g)) : oLe ((gfI g c k a).bind F) (R sc M pc ls (.ref a :: st) g) := by
  refine oLe_bind fun x hx => R_one hd rfl (fun K => ?_) (h x)
  simp only [mstep, mpure, mconst, mload, mstore, mbin, mbinl, mshl, mrest, Option.map_none]
  rw [hT]; try dsimp only
  unfold gfI at hx
  split at hx
  · rename_i v hv; cases hx; rw [hv]
  · cases hx
theorem s_getR {idx c k a : Nat} {F : Nat → Option (mR × mW)} (hd : decode M.cc pc = .ok (.getfield idx, 3)) (hT : mfT M.own idx = some (c, k)) (h : ∀ x, oLe (F x) (R sc M (pc + 3) ls (.ref x :: st) g)) : oLe ((gfR g c k a).bind F) (R sc M pc ls (.ref a :: st) g) := by
  refine oLe_bind fun x hx => R_one hd rfl (fun K => ?_) (h x)
  simp only [mstep, mpure, mconst, mload, mstore, mbin, mbinl, mshl, mrest, Option.map_none]
  rw [hT]; try dsimp only
  unfold gfR at hx
  split at hx
  · rename_i v hv; cases hx; rw [hv]
  · cases hx
theorem s_put {idx c k a : Nat} {v : Value} {F : mW → Option (mR × mW)} (hd : decode M.cc pc = .ok (.putfield idx, 3)) (hT : mfT M.own idx = some (c, k)) (hm : mfit (mty c k) v = true) (hf : mfin c k = false ∨ (M.nm.name = "<init>" ∧ M.own = c)) (h : ∀ g1, oLe (F g1) (R sc M (pc + 3) ls st g1)) : oLe ((mputf g c k a v).bind F) (R sc M pc ls (v :: .ref a :: st) g) := by
  refine oLe_bind fun g1 hg => R_one hd rfl (fun K => ?_) (h g1)
  simp only [mstep, mpure, mconst, mload, mstore, mbin, mbinl, mshl, mrest, Option.map_none]
  rw [hT]; try dsimp only
  rw [if_pos hm, hg]; try dsimp only
  rw [if_pos hf]
theorem s_putI {idx c k a : Nat} {x : Int32} {F : mW → Option (mR × mW)} (hd : decode M.cc pc = .ok (.putfield idx, 3)) (hT : mfT M.own idx = some (c, k)) (hm : mty c k = .int) (hf : mfin c k = false ∨ (M.nm.name = "<init>" ∧ M.own = c)) (h : ∀ g1, oLe (F g1) (R sc M (pc + 3) ls st g1)) : oLe ((pfI g c k a x).bind F) (R sc M pc ls (.int x :: .ref a :: st) g) := s_put hd hT (by rw [hm]; rfl) hf h
theorem s_putZ {idx c k a : Nat} {x : Int32} {F : mW → Option (mR × mW)} (hd : decode M.cc pc = .ok (.putfield idx, 3)) (hT : mfT M.own idx = some (c, k)) (hm : mty c k = .boolean) (hf : mfin c k = false ∨ (M.nm.name = "<init>" ∧ M.own = c)) (h : ∀ g1, oLe (F g1) (R sc M (pc + 3) ls st g1)) : oLe ((pfZ g c k a x).bind F) (R sc M pc ls (.int x :: .ref a :: st) g) := by
  unfold pfZ
  split
  · rename_i hx
    exact s_put hd hT (by rw [hm]; rcases hx with rfl | rfl <;> rfl) hf h
  · exact oLe.none _
theorem s_putR {idx c k a b : Nat} {F : mW → Option (mR × mW)} (hd : decode M.cc pc = .ok (.putfield idx, 3)) (hT : mfT M.own idx = some (c, k)) (hm : mfit (mty c k) (.ref 0) = true) (hf : mfin c k = false ∨ (M.nm.name = "<init>" ∧ M.own = c)) (h : ∀ g1, oLe (F g1) (R sc M (pc + 3) ls st g1)) : oLe ((pfR g c k a b).bind F) (R sc M pc ls (.ref b :: .ref a :: st) g) := s_put hd hT (by cases h : mty c k <;> rw [h] at hm <;> first | rfl | exact hm) hf h
theorem s_getS {idx : Nat} {v : Value} (hd : decode M.cc pc = .ok (.getstatic idx, 3)) (hT : msT M.own idx = some v) (h : oLe X (R sc M (pc + 3) ls (v :: st) g)) : oLe X (R sc M pc ls st g) := by
  refine R_one hd rfl (fun K => ?_) h
  simp only [mstep, mpure, mconst, mload, mstore, mbin, mbinl, mshl, mrest, Option.map_none]
  rw [hT]
/-- arrays -/
theorem s_lda {i : Instr} {v : Value} {n : Int32} {x : Value} (hd : decode M.cc pc = .ok (i, 1)) (hl : (1 == mlen i) = true) (hs : ∀ K : mK, mstep sc K M pc i ls (.int n :: v :: st) g = mldA sc K M pc ls (.int n :: v :: st) g i) (hx : mald sc g i v n = some x) (h : oLe X (R sc M (pc + 1) ls (x :: st) g)) : oLe X (R sc M pc ls (.int n :: v :: st) g) := by
  refine R_one hd (by simp only [hl, Bool.true_or]) (fun K => (hs K).trans ?_) h
  unfold mldA
  dsimp only
  rw [hx]
theorem s_iaload {a : Nat} {n : Int32} {F : Int32 → Option (mR × mW)} (hd : decode M.cc pc = .ok (.iaload, 1)) (h : ∀ x, oLe (F x) (R sc M (pc + 1) ls (.int x :: st) g)) : oLe ((gaI g a n).bind F) (R sc M pc ls (.int n :: .ref a :: st) g) := by
  refine oLe_bind fun x hx => s_lda hd rfl (fun K => rfl) ?_ (h x)
  unfold gaI at hx
  simp only [mald]
  split at hx
  · rename_i m f hg
    rw [hg]
    split at hx
    · cases hx
    · rename_i hb; cases hx; exact if_neg hb
  · cases hx
theorem s_baload {a : Nat} {n : Int32} {F : Int32 → Option (mR × mW)} (hd : decode M.cc pc = .ok (.baload, 1)) (h : ∀ x, oLe (F x) (R sc M (pc + 1) ls (.int x :: st) g)) : oLe ((gaB g a n).bind F) (R sc M pc ls (.int n :: .ref a :: st) g) := by
  refine oLe_bind fun x hx => s_lda hd rfl (fun K => rfl) ?_ (h x)
  unfold gaB at hx
  simp only [mald]
  split at hx
  · rename_i m f hg
    rw [hg]
    split at hx
    · cases hx
    · rename_i hb; cases hx; exact if_neg hb
  · cases hx
theorem s_laload {a : Nat} {n : Int32} {F : Int64 → Option (mR × mW)} (hd : decode M.cc pc = .ok (.laload, 1)) (h : ∀ x, oLe (F x) (R sc M (pc + 1) ls (.long x :: st) g)) : oLe ((gaJ g a n).bind F) (R sc M pc ls (.int n :: .ref a :: st) g) := by
  refine oLe_bind fun x hx => s_lda hd rfl (fun K => rfl) ?_ (h x)
  unfold gaJ at hx
  simp only [mald]
  split at hx
  · rename_i m f hg
    rw [hg]
    split at hx
    · cases hx
    · rename_i hb; cases hx; exact if_neg hb
  · cases hx
theorem s_scload {n : Int32} {F : Int32 → Option (mR × mW)} (hd : decode M.cc pc = .ok (.iaload, 1)) (h : ∀ x, oLe (F x) (R sc M (pc + 1) ls (.int x :: st) g)) : oLe ((gsc sc n).bind F) (R sc M pc ls (.int n :: .retAddr 0 :: st) g) := by
  refine oLe_bind fun x hx => s_lda hd rfl (fun K => rfl) ?_ (h x)
  unfold gsc at hx
  simp only [mald]
  split at hx
  · cases hx
  · rename_i hb; cases hx; rw [if_neg hb]
theorem s_wdload {n : Int32} {F : Int32 → Option (mR × mW)} (hd : decode M.cc pc = .ok (.baload, 1)) (h : ∀ x, oLe (F x) (R sc M (pc + 1) ls (.int x :: st) g)) : oLe ((gwd n).bind F) (R sc M pc ls (.int n :: .retAddr 1 :: st) g) := by
  refine oLe_bind fun x hx => s_lda hd rfl (fun K => rfl) ?_ (h x)
  unfold gwd at hx
  simp only [mald]
  split at hx
  · cases hx
  · rename_i hb; cases hx; rw [if_neg hb]
theorem s_sta {i : Instr} {a : Nat} {n : Int32} {v : Value} {F : mW → Option (mR × mW)} (hd : decode M.cc pc = .ok (i, 1)) (hl : (1 == mlen i) = true) (hs : ∀ K : mK, mstep sc K M pc i ls (v :: .int n :: .ref a :: st) g = mstA K M pc ls (v :: .int n :: .ref a :: st) g i) (h : ∀ g1, oLe (F g1) (R sc M (pc + 1) ls st g1)) : oLe ((mast g i a n v).bind F) (R sc M pc ls (v :: .int n :: .ref a :: st) g) := by
  refine oLe_bind fun g1 hg => R_one hd (by simp only [hl, Bool.true_or]) (fun K => (hs K).trans ?_) (h g1)
  unfold mstA
  dsimp only
  rw [hg]
theorem s_iastore {a : Nat} {n x : Int32} {F : mW → Option (mR × mW)} (hd : decode M.cc pc = .ok (.iastore, 1)) (h : ∀ g1, oLe (F g1) (R sc M (pc + 1) ls st g1)) : oLe ((paI g a n x).bind F) (R sc M pc ls (.int x :: .int n :: .ref a :: st) g) := s_sta hd rfl (fun K => rfl) h
theorem s_bastore {a : Nat} {n x : Int32} {F : mW → Option (mR × mW)} (hd : decode M.cc pc = .ok (.bastore, 1)) (h : ∀ g1, oLe (F g1) (R sc M (pc + 1) ls st g1)) : oLe ((paB g a n x).bind F) (R sc M pc ls (.int x :: .int n :: .ref a :: st) g) := s_sta hd rfl (fun K => rfl) h
theorem s_lastore {a : Nat} {n : Int32} {x : Int64} {F : mW → Option (mR × mW)} (hd : decode M.cc pc = .ok (.lastore, 1)) (h : ∀ g1, oLe (F g1) (R sc M (pc + 1) ls st g1)) : oLe ((paJ g a n x).bind F) (R sc M pc ls (.long x :: .int n :: .ref a :: st) g) := s_sta hd rfl (fun K => rfl) h
theorem s_len {a : Nat} {F : Int32 → Option (mR × mW)} (hd : decode M.cc pc = .ok (.arraylength, 1)) (h : ∀ x, oLe (F x) (R sc M (pc + 1) ls (.int x :: st) g)) : oLe ((gln g a).bind F) (R sc M pc ls (.ref a :: st) g) := by
  refine oLe_bind fun x hx => R_one hd rfl (fun K => ?_) (h x)
  simp only [mstep, mpure, mconst, mload, mstore, mbin, mbinl, mshl, mrest, Option.map_none]
  have e : mlen? sc g (.ref a) = mlen? (0, fun _ => 0) g (.ref a) := rfl
  unfold gln at hx
  rw [e, hx]
theorem s_lenK {k : Nat} {n : Int32} (hd : decode M.cc pc = .ok (.arraylength, 1)) (hn : mlen? sc g (.retAddr k) = some n) (h : oLe X (R sc M (pc + 1) ls (.int n :: st) g)) : oLe X (R sc M pc ls (.retAddr k :: st) g) := by
  refine R_one hd rfl (fun K => ?_) h
  simp only [mstep, mpure, mconst, mload, mstore, mbin, mbinl, mshl, mrest, Option.map_none]
  rw [hn]
theorem s_new {idx c : Nat} {F : Nat → mW → Option (mR × mW)} (hd : decode M.cc pc = .ok (.new idx, 3)) (hT : mnT M.own idx = some c) (hc : c < 100) (h : ∀ a g1, oLe (F a g1) (R sc M (pc + 3) ls (.ref a :: st) g1)) : oLe (nw g c F) (R sc M pc ls st g) := by
  refine R_one hd rfl (fun K => ?_) (h _ _)
  simp only [mstep, mpure, mconst, mload, mstore, mbin, mbinl, mshl, mrest, Option.map_none]
  rw [hT]; try dsimp only
  rw [if_pos hc]
theorem s_newarr {t : ArrayType} {n : Int32} {F : Nat → mW → Option (mR × mW)} (hd : decode M.cc pc = .ok (.newarray t, 2)) (h : ∀ a g1, oLe (F a g1) (R sc M (pc + 2) ls (.ref a :: st) g1)) : oLe (nwa g t n F) (R sc M pc ls (.int n :: st) g) := by
  unfold nwa
  split
  · rename_i c hc
    refine R_one hd rfl (fun K => ?_) (h _ _)
    simp only [mstep, mpure, mconst, mload, mstore, mbin, mbinl, mshl, mrest, Option.map_none]
    rw [hc]
  · exact oLe.none _
theorem s_throw {idx ic c : Nat} (k : Nat) (hd : decode M.cc pc = .ok (.new idx, 3)) (hT : mnT M.own idx = some c) (hk : c = 100 + k) (d1 : decode M.cc (pc + 3) = .ok (.dup, 1)) (d2 : decode M.cc (pc + 4) = .ok (.invokespecial ic, 3)) (d3 : decode M.cc (pc + 7) = .ok (.athrow, 1)) (hc : mthrow M.own idx ic c = true ∧ M.hs = [] ∧ 6 ≤ M.rank ∧ mwt st = true) : oLe (some (.inr k, g ++ [mO (12 + k) []])) (R sc M pc ls st g) := by
  refine R_end hd rfl (fun K => ?_)
  simp only [mstep, mpure, mconst, mload, mstore, mbin, mbinl, mshl, mrest, Option.map_none]
  rw [hT]; try dsimp only
  subst hk
  rw [if_neg (by omega), d1, d2, d3]
  refine (if_pos hc).trans ?_
  rw [show 100 + k - 100 = k by omega, show 100 + k - 88 = 12 + k by omega]
/-- ends -/
theorem s_iret {x : Int32} (hd : decode M.cc pc = .ok (.ireturn, 1)) (hr : M.ret = some .int) : oLe (some (.inl (some (.int x)), g)) (R sc M pc ls [.int x] g) := by
  refine R_end hd rfl (fun K => ?_)
  show (if mkind (.int x) = 0 ∧ mretok M.ret (some (.int x)) = true then _ else _) = _
  rw [hr, if_pos ⟨rfl, rfl⟩]
theorem s_zret {x : Int32} (hd : decode M.cc pc = .ok (.ireturn, 1)) (hr : M.ret = some .boolean) : oLe (rZ x g) (R sc M pc ls [.int x] g) := by
  unfold rZ
  split
  · rename_i hx
    refine R_end hd rfl (fun K => ?_)
    show (if mkind (.int x) = 0 ∧ mretok M.ret (some (.int x)) = true then _ else _) = _
    rw [hr, if_pos ⟨rfl, by rcases hx with rfl | rfl <;> rfl⟩]
  · exact oLe.none _
theorem s_ret (hd : decode M.cc pc = .ok (.return_, 1)) (hr : M.ret = none) : oLe (some (.inl none, g)) (R sc M pc ls [] g) := by
  refine R_end hd rfl (fun K => ?_)
  show (if ([] : List Value) = [] ∧ mretok M.ret none = true then _ else _) = _
  rw [hr, if_pos ⟨rfl, rfl⟩]
/-- calls -/
theorem R_two {i : Instr} {o : Option (mR × mW)} {M1 : mM} {pc1 : Nat} {ls1 : List (Option Value)} {st1 : List Value} {r1 : mR} {g1 : mW} (hd : decode M.cc pc = .ok (i, len)) (hl : (len == mlen i || msw i) = true) (h1 : R sc M1 pc1 ls1 st1 g = some (r1, g1)) (h2 : oLe o (R sc M (pc + 3) ls st g1)) {stt : List Value}
    (hs : ∀ (K : mK), K M1 pc1 ls1 st1 g = some (r1, g1) → mstep sc K M pc i ls stt g = K M (pc + 3) ls st g1) : oLe o (R sc M pc ls stt g) := by
  intro r hr
  obtain ⟨n, hn⟩ := R_iff.mp (h2 r hr)
  obtain ⟨m, hm⟩ := R_iff.mp h1
  have a := mx_le sc (Nat.le_max_left n m) M (pc + 3) ls st g1 _ hn
  have b := mx_le sc (Nat.le_max_right n m) M1 pc1 ls1 st1 g _ hm
  refine R_of hd ?_ ((hs _ b).trans a)
  simpa using hl
theorem R_thr {i : Instr} {M1 : mM} {pc1 : Nat} {ls1 : List (Option Value)} {st1 : List Value} {e : Nat} {g1 : mW} (hd : decode M.cc pc = .ok (i, len)) (hl : (len == mlen i || msw i) = true) (h1 : R sc M1 pc1 ls1 st1 g = some (.inr e, g1)) {stt : List Value}
    (hs : ∀ (K : mK), K M1 pc1 ls1 st1 g = some (.inr e, g1) → mstep sc K M pc i ls stt g = some (.inr e, g1)) : oLe (some (.inr e, g1)) (R sc M pc ls stt g) := by
  intro r hr
  cases hr
  obtain ⟨m, hm⟩ := R_iff.mp h1
  refine R_of hd ?_ (hs _ hm)
  simpa using hl
theorem mcall_0 {K : mK} {idx n : Nat} {M' : mM} {as rest : List Value} (hT : mcT M.own idx = some (0, n, M')) (hp : mpop n st = some (as, rest)) (hw : mwt rest = true ∧ M'.rank < M.rank ∧ (menter as).length ≤ M'.nL) (hr : mrecv g M'.own as = true) : mcall K M pc ls st g idx 0 = mback K M pc ls rest (K M' 0 (mlocals M'.nL as) [] g) := by
  unfold mcall
  rw [hT]; dsimp only; rw [hp]; dsimp only
  rw [if_pos hw, if_pos ⟨rfl, rfl⟩, if_pos hr]
theorem mcall_2 {K : mK} {idx n : Nat} {M' : mM} {as rest : List Value} (hT : mcT M.own idx = some (2, n, M')) (hp : mpop n st = some (as, rest)) (hw : mwt rest = true ∧ M'.rank < M.rank ∧ (menter as).length ≤ M'.nL) : mcall K M pc ls st g idx 2 = mback K M pc ls rest (K M' 0 (mlocals M'.nL as) [] g) := by
  unfold mcall
  rw [hT]; dsimp only; rw [hp]; dsimp only
  rw [if_pos hw, if_neg (by decide), if_pos ⟨rfl, rfl⟩]
theorem mcall_1 {K : mK} {idx n k : Nat} {M' : mM} {as rest : List Value} (hT : mcT M.own idx = some (k, n, M')) (hk : k = 1 ∨ k = 4) (hp : mpop n st = some (as, rest)) (hw : mwt rest = true ∧ M'.rank < M.rank ∧ (menter as).length ≤ M'.nL) (hr : mref as = true) : mcall K M pc ls st g idx 1 = mbackR K M pc ls rest (K M' 0 (mlocals M'.nL as) [] g) := by
  unfold mcall
  rw [hT]; dsimp only; rw [hp]; dsimp only
  rw [if_pos hw, if_neg (by omega), if_neg (by omega), if_pos ⟨hk, rfl⟩, if_pos hr]
theorem mcall_5 {K : mK} {idx n : Nat} {M' : mM} {as rest : List Value} (hT : mcT M.own idx = some (5, n, M')) (hp : mpop n st = some (as, rest)) (hw : mwt rest = true ∧ M'.rank < M.rank ∧ (menter as).length ≤ M'.nL) : mcall K M pc ls st g idx 2 = mbackR K M pc ls rest (K M' 0 (mlocals M'.nL as) [] g) := by
  unfold mcall
  rw [hT]; dsimp only; rw [hp]; dsimp only
  rw [if_pos hw, if_neg (by decide), if_neg (by decide), if_neg (by decide), if_pos ⟨rfl, rfl⟩]
theorem mcall_10 {K : mK} {idx n : Nat} {M' : mM} {as rest : List Value} (hT : mcT M.own idx = some (10, n, M')) (hp : mpop n st = some (as, rest)) (hw : mwt rest = true ∧ M'.rank < M.rank ∧ (menter as).length ≤ M'.nL) (hr : mref as = true) : mcall K M pc ls st g idx 1 = K M (pc + 3) ls rest g := by
  unfold mcall
  rw [hT]; dsimp only; rw [hp]; dsimp only
  rw [if_pos hw, if_neg (by decide), if_neg (by decide), if_neg (by decide), if_neg (by decide), if_pos ⟨rfl, rfl⟩, if_pos hr]
theorem mcall_11 {K : mK} {idx n : Nat} {M' : mM} {as rest : List Value} {g' : mW} (hT : mcT M.own idx = some (11, n, M')) (hp : mpop n st = some (as, rest)) (hw : mwt rest = true ∧ M'.rank < M.rank ∧ (menter as).length ≤ M'.nL) (hc : mcopy g as = some g') : mcall K M pc ls st g idx 2 = K M (pc + 3) ls rest g' := by
  unfold mcall
  rw [hT]; dsimp only; rw [hp]; dsimp only
  rw [if_pos hw, if_neg (by decide), if_neg (by decide), if_neg (by decide), if_neg (by decide), if_neg (by decide), if_pos ⟨rfl, rfl⟩, hc]
theorem mcall_12 {K : mK} {n : Nat} {M' : mM} {rest : List Value} {j : Nat} {t : List Int32} (hT : mcT M.own 44 = some (12, n, M')) (hp : mpop n st = some ([.retAddr j], rest)) (hw : mwt rest = true ∧ M'.rank < M.rank ∧ (menter [.retAddr j]).length ≤ M'.nL) (hr : 6 ≤ M.rank ∧ M.own = 8) (hc : mstrs j = some t) : mcall K M pc ls st g 44 0 = K M (pc + 3) ls (.int (Int32.ofNat t.length) :: rest) g := by
  unfold mcall
  rw [hT]; dsimp only; rw [hp]; dsimp only
  rw [if_pos hw, if_neg (by decide), if_neg (by decide), if_neg (by decide), if_neg (by decide), if_neg (by decide), if_neg (by decide), if_pos ⟨rfl, rfl, hr.1, hr.2, rfl⟩, hc]
theorem mcall_13 {K : mK} {n : Nat} {M' : mM} {rest : List Value} {j : Nat} {i : Int32} {t : List Int32} (hT : mcT M.own 49 = some (13, n, M')) (hp : mpop n st = some ([.retAddr j, .int i], rest)) (hw : mwt rest = true ∧ M'.rank < M.rank ∧ (menter [.retAddr j, .int i]).length ≤ M'.nL) (hr : 6 ≤ M.rank ∧ M.own = 8) (hc : mstrs j = some t) (hi : ¬ (i < 0 ∨ t.length ≤ i.toNatClampNeg)) : mcall K M pc ls st g 49 0 = K M (pc + 3) ls (.int (t.getD i.toNatClampNeg 0) :: rest) g := by
  unfold mcall
  rw [hT]; dsimp only; rw [hp]; dsimp only
  rw [if_pos hw, if_neg (by decide), if_neg (by decide), if_neg (by decide), if_neg (by decide), if_neg (by decide), if_neg (by decide), if_neg (by omega), if_pos ⟨rfl, rfl, hr.1, hr.2, rfl⟩, hc]
  exact if_neg hi
section
variable {ls' : List (Option Value)} {rest : List Value} {as : List Value} {idx n : Nat} {M' : mM}
/-- a virtual call that returns an int, or nothing; N: no exception comes -/
theorem s_vcI {F : Int32 → mW → Option (mR × mW)} {a : Nat} {As : List Value} (hd : decode M.cc pc = .ok (.invokevirtual idx, 3)) (hT : mcT M.own idx = some (0, n, M')) {c : Nat} (hc : M'.own = c) (rest : List Value) (hp : mpop n st = some (.ref a :: As, rest)) (hL : mlocals M'.nL (.ref a :: As) = ls') (hw : mwt rest = true ∧ M'.rank < M.rank ∧ (menter (.ref a :: As)).length ≤ M'.nL) (hh : M.hs = []) (h : ∀ v g1, oLe (F v g1) (R sc M (pc + 3) ls (.int v :: rest) g1)) : oLe (if rcv g c a = true then cI (R sc M' 0 ls' [] g) F else none) (R sc M pc ls st g) := by
  subst hL hc
  split
  · rename_i hr
    unfold cI
    split
    · rename_i v g1 hv
      exact R_two hd rfl hv (h v g1) (fun K hK => (mcall_0 (pc := pc) hT hp hw hr).trans (by rw [hK]; rfl))
    · rename_i e g1 hv
      refine R_thr hd rfl hv (fun K hK => (mcall_0 (pc := pc) hT hp hw hr).trans ?_)
      rw [hK]
      show (match mhand M.hs pc e with
        | none => _
        | some hp => _) = _
      rw [hh]; rfl
    · exact oLe.none _
  · exact oLe.none _
theorem s_vcV {F : mW → Option (mR × mW)} {a : Nat} {As : List Value} (hd : decode M.cc pc = .ok (.invokevirtual idx, 3)) (hT : mcT M.own idx = some (0, n, M')) {c : Nat} (hc : M'.own = c) (rest : List Value) (hp : mpop n st = some (.ref a :: As, rest)) (hL : mlocals M'.nL (.ref a :: As) = ls') (hw : mwt rest = true ∧ M'.rank < M.rank ∧ (menter (.ref a :: As)).length ≤ M'.nL) (hh : M.hs = []) (h : ∀ g1, oLe (F g1) (R sc M (pc + 3) ls rest g1)) : oLe (if rcv g c a = true then cV (R sc M' 0 ls' [] g) F else none) (R sc M pc ls st g) := by
  subst hL hc
  split
  · rename_i hr
    unfold cV
    split
    · rename_i g1 hv
      exact R_two hd rfl hv (h g1) (fun K hK => (mcall_0 (pc := pc) hT hp hw hr).trans (by rw [hK]; rfl))
    · rename_i e g1 hv
      refine R_thr hd rfl hv (fun K hK => (mcall_0 (pc := pc) hT hp hw hr).trans ?_)
      rw [hK]
      show (match mhand M.hs pc e with
        | none => _
        | some hp => _) = _
      rw [hh]; rfl
    · exact oLe.none _
  · exact oLe.none _
theorem s_vcIN {F : Int32 → mW → Option (mR × mW)} {a : Nat} {As : List Value} (hd : decode M.cc pc = .ok (.invokevirtual idx, 3)) (hT : mcT M.own idx = some (0, n, M')) {c : Nat} (hc : M'.own = c) (rest : List Value) (hp : mpop n st = some (.ref a :: As, rest)) (hL : mlocals M'.nL (.ref a :: As) = ls') (hw : mwt rest = true ∧ M'.rank < M.rank ∧ (menter (.ref a :: As)).length ≤ M'.nL) (h : ∀ v g1, oLe (F v g1) (R sc M (pc + 3) ls (.int v :: rest) g1)) : oLe (if rcv g c a = true then cIN (R sc M' 0 ls' [] g) F else none) (R sc M pc ls st g) := by
  subst hL hc
  split
  · rename_i hr
    unfold cIN
    split
    · rename_i v g1 hv
      exact R_two hd rfl hv (h v g1) (fun K hK => (mcall_0 (pc := pc) hT hp hw hr).trans (by rw [hK]; rfl))
    · exact oLe.none _
  · exact oLe.none _
theorem s_vcVN {F : mW → Option (mR × mW)} {a : Nat} {As : List Value} (hd : decode M.cc pc = .ok (.invokevirtual idx, 3)) (hT : mcT M.own idx = some (0, n, M')) {c : Nat} (hc : M'.own = c) (rest : List Value) (hp : mpop n st = some (.ref a :: As, rest)) (hL : mlocals M'.nL (.ref a :: As) = ls') (hw : mwt rest = true ∧ M'.rank < M.rank ∧ (menter (.ref a :: As)).length ≤ M'.nL) (h : ∀ g1, oLe (F g1) (R sc M (pc + 3) ls rest g1)) : oLe (if rcv g c a = true then cVN (R sc M' 0 ls' [] g) F else none) (R sc M pc ls st g) := by
  subst hL hc
  split
  · rename_i hr
    unfold cVN
    split
    · rename_i g1 hv
      exact R_two hd rfl hv (h g1) (fun K hK => (mcall_0 (pc := pc) hT hp hw hr).trans (by rw [hK]; rfl))
    · exact oLe.none _
  · exact oLe.none _
theorem s_vcRN {F : Nat → mW → Option (mR × mW)} {a : Nat} {As : List Value} (hd : decode M.cc pc = .ok (.invokevirtual idx, 3)) (hT : mcT M.own idx = some (0, n, M')) {c : Nat} (hc : M'.own = c) (rest : List Value) (hp : mpop n st = some (.ref a :: As, rest)) (hL : mlocals M'.nL (.ref a :: As) = ls') (hw : mwt rest = true ∧ M'.rank < M.rank ∧ (menter (.ref a :: As)).length ≤ M'.nL) (h : ∀ v g1, oLe (F v g1) (R sc M (pc + 3) ls (.ref v :: rest) g1)) : oLe (if rcv g c a = true then cRN (R sc M' 0 ls' [] g) F else none) (R sc M pc ls st g) := by
  subst hL hc
  split
  · rename_i hr
    unfold cRN
    split
    · rename_i v g1 hv
      exact R_two hd rfl hv (h v g1) (fun K hK => (mcall_0 (pc := pc) hT hp hw hr).trans (by rw [hK]; rfl))
    · exact oLe.none _
  · exact oLe.none _
theorem s_scI {F : Int32 → mW → Option (mR × mW)} {as : List Value} (hd : decode M.cc pc = .ok (.invokestatic idx, 3)) (hT : mcT M.own idx = some (2, n, M')) (rest : List Value) (hp : mpop n st = some (as, rest)) (hL : mlocals M'.nL as = ls') (hw : mwt rest = true ∧ M'.rank < M.rank ∧ (menter as).length ≤ M'.nL) (hh : M.hs = []) (h : ∀ v g1, oLe (F v g1) (R sc M (pc + 3) ls (.int v :: rest) g1)) : oLe (cI (R sc M' 0 ls' [] g) F) (R sc M pc ls st g) := by
  subst hL
  unfold cI
  split
  · rename_i v g1 hv
    exact R_two hd rfl hv (h v g1) (fun K hK => (mcall_2 (pc := pc) hT hp hw).trans (by rw [hK]; rfl))
  · rename_i e g1 hv
    refine R_thr hd rfl hv (fun K hK => (mcall_2 (pc := pc) hT hp hw).trans ?_)
    rw [hK]
    show (match mhand M.hs pc e with
      | none => _
      | some hp => _) = _
    rw [hh]; rfl
  · exact oLe.none _
theorem s_scV {F : mW → Option (mR × mW)} {as : List Value} (hd : decode M.cc pc = .ok (.invokestatic idx, 3)) (hT : mcT M.own idx = some (2, n, M')) (rest : List Value) (hp : mpop n st = some (as, rest)) (hL : mlocals M'.nL as = ls') (hw : mwt rest = true ∧ M'.rank < M.rank ∧ (menter as).length ≤ M'.nL) (hh : M.hs = []) (h : ∀ g1, oLe (F g1) (R sc M (pc + 3) ls rest g1)) : oLe (cV (R sc M' 0 ls' [] g) F) (R sc M pc ls st g) := by
  subst hL
  unfold cV
  split
  · rename_i g1 hv
    exact R_two hd rfl hv (h g1) (fun K hK => (mcall_2 (pc := pc) hT hp hw).trans (by rw [hK]; rfl))
  · rename_i e g1 hv
    refine R_thr hd rfl hv (fun K hK => (mcall_2 (pc := pc) hT hp hw).trans ?_)
    rw [hK]
    show (match mhand M.hs pc e with
      | none => _
      | some hp => _) = _
    rw [hh]; rfl
  · exact oLe.none _
theorem s_scIN {F : Int32 → mW → Option (mR × mW)} {as : List Value} (hd : decode M.cc pc = .ok (.invokestatic idx, 3)) (hT : mcT M.own idx = some (2, n, M')) (rest : List Value) (hp : mpop n st = some (as, rest)) (hL : mlocals M'.nL as = ls') (hw : mwt rest = true ∧ M'.rank < M.rank ∧ (menter as).length ≤ M'.nL) (h : ∀ v g1, oLe (F v g1) (R sc M (pc + 3) ls (.int v :: rest) g1)) : oLe (cIN (R sc M' 0 ls' [] g) F) (R sc M pc ls st g) := by
  subst hL
  unfold cIN
  split
  · rename_i v g1 hv
    exact R_two hd rfl hv (h v g1) (fun K hK => (mcall_2 (pc := pc) hT hp hw).trans (by rw [hK]; rfl))
  · exact oLe.none _
theorem s_scVN {F : mW → Option (mR × mW)} {as : List Value} (hd : decode M.cc pc = .ok (.invokestatic idx, 3)) (hT : mcT M.own idx = some (2, n, M')) (rest : List Value) (hp : mpop n st = some (as, rest)) (hL : mlocals M'.nL as = ls') (hw : mwt rest = true ∧ M'.rank < M.rank ∧ (menter as).length ≤ M'.nL) (h : ∀ g1, oLe (F g1) (R sc M (pc + 3) ls rest g1)) : oLe (cVN (R sc M' 0 ls' [] g) F) (R sc M pc ls st g) := by
  subst hL
  unfold cVN
  split
  · rename_i g1 hv
    exact R_two hd rfl hv (h g1) (fun K hK => (mcall_2 (pc := pc) hT hp hw).trans (by rw [hK]; rfl))
  · exact oLe.none _
theorem s_ncIN {F : Int32 → mW → Option (mR × mW)} {as : List Value} (hd : decode M.cc pc = .ok (.invokestatic idx, 3)) (hT : mcT M.own idx = some (5, n, M')) (rest : List Value) (hp : mpop n st = some (as, rest)) (hL : mlocals M'.nL as = ls') (hw : mwt rest = true ∧ M'.rank < M.rank ∧ (menter as).length ≤ M'.nL) (h : ∀ v g1, oLe (F v g1) (R sc M (pc + 3) ls (.int v :: rest) g1)) : oLe (cIN (R sc M' 0 ls' [] g) F) (R sc M pc ls st g) := by
  subst hL
  unfold cIN
  split
  · rename_i v g1 hv
    exact R_two hd rfl hv (h v g1) (fun K hK => (mcall_5 (pc := pc) hT hp hw).trans (by rw [hK]; rfl))
  · exact oLe.none _
theorem s_inVN {F : mW → Option (mR × mW)} {k : Nat} {as : List Value} (hd : decode M.cc pc = .ok (.invokespecial idx, 3)) (hT : mcT M.own idx = some (k, n, M')) (hk : k = 1 ∨ k = 4) (rest : List Value) (hp : mpop n st = some (as, rest)) (hr : mref as = true) (hL : mlocals M'.nL as = ls') (hw : mwt rest = true ∧ M'.rank < M.rank ∧ (menter as).length ≤ M'.nL) (h : ∀ g1, oLe (F g1) (R sc M (pc + 3) ls rest g1)) : oLe (cVN (R sc M' 0 ls' [] g) F) (R sc M pc ls st g) := by
  subst hL
  unfold cVN
  split
  · rename_i g1 hv
    exact R_two hd rfl hv (h g1) (fun K hK => (mcall_1 (pc := pc) hT hk hp hw hr).trans (by rw [hK]; rfl))
  · exact oLe.none _
theorem s_obj {as : List Value} (hd : decode M.cc pc = .ok (.invokespecial idx, 3)) (hT : mcT M.own idx = some (10, n, M')) (rest : List Value) (hp : mpop n st = some (as, rest)) (hr : mref as = true) (hw : mwt rest = true ∧ M'.rank < M.rank ∧ (menter as).length ≤ M'.nL) (h : oLe X (R sc M (pc + 3) ls rest g)) : oLe X (R sc M pc ls st g) := R_one hd rfl (fun K => mcall_10 (pc := pc) hT hp hw hr) h
theorem s_copy {F : mW → Option (mR × mW)} {as : List Value} (hd : decode M.cc pc = .ok (.invokestatic idx, 3)) (hT : mcT M.own idx = some (11, n, M')) (rest : List Value) (hp : mpop n st = some (as, rest)) (hw : mwt rest = true ∧ M'.rank < M.rank ∧ (menter as).length ≤ M'.nL) (h : ∀ g1, oLe (F g1) (R sc M (pc + 3) ls rest g1)) : oLe ((mcopy g as).bind F) (R sc M pc ls st g) := oLe_bind fun g1 hg => R_one hd rfl (fun K => mcall_11 (pc := pc) hT hp hw hg) (h g1)
theorem s_slen {F : List Int32 → Option (mR × mW)} {j : Nat} (hd : decode M.cc pc = .ok (.invokevirtual 44, 3)) (hT : mcT M.own 44 = some (12, n, M')) (rest : List Value) (hp : mpop n st = some ([.retAddr j], rest)) (hw : mwt rest = true ∧ M'.rank < M.rank ∧ (menter [.retAddr j]).length ≤ M'.nL) (hr : 6 ≤ M.rank ∧ M.own = 8) (h : ∀ t, oLe (F t) (R sc M (pc + 3) ls (.int (Int32.ofNat t.length) :: rest) g)) : oLe ((gst j).bind F) (R sc M pc ls st g) := oLe_bind fun t ht => R_one hd rfl (fun K => mcall_12 (pc := pc) hT hp hw hr ht) (h t)
theorem s_scha {F : List Int32 → Option (mR × mW)} {j : Nat} {i : Int32} (hd : decode M.cc pc = .ok (.invokevirtual 49, 3)) (hT : mcT M.own 49 = some (13, n, M')) (rest : List Value) (hp : mpop n st = some ([.retAddr j, .int i], rest)) (hw : mwt rest = true ∧ M'.rank < M.rank ∧ (menter [.retAddr j, .int i]).length ≤ M'.nL) (hr : 6 ≤ M.rank ∧ M.own = 8) (h : ∀ t, oLe (F t) (R sc M (pc + 3) ls (.int (t.getD i.toNatClampNeg 0) :: rest) g)) : oLe ((gst j).bind fun t => if i < 0 ∨ t.length ≤ i.toNatClampNeg then none else F t) (R sc M pc ls st g) := oLe_bind fun t ht => by
  split
  · exact oLe.none _
  · rename_i hi
    exact R_one hd rfl (fun K => mcall_13 (pc := pc) hT hp hw hr ht hi) (h t)
/-- a call of the class in the law: a value or an exception -/
theorem s_vcH {F : Int32 → mW → Option (mR × mW)} {H : Nat → mW → Option (mR × mW)} {a : Nat} {As : List Value} (hd : decode M.cc pc = .ok (.invokevirtual idx, 3)) (hT : mcT M.own idx = some (0, n, M')) {c : Nat} (hc : M'.own = c) (rest : List Value) (hp : mpop n st = some (.ref a :: As, rest)) (hL : mlocals M'.nL (.ref a :: As) = ls') (hw : mwt rest = true ∧ M'.rank < M.rank ∧ (menter (.ref a :: As)).length ≤ M'.nL) (h : ∀ v g1, oLe (F v g1) (R sc M (pc + 3) ls (.int v :: rest) g1))
    (hH : ∀ e g1, ∃ o, oLe (H e g1) o ∧ ∀ r, o = some r → ∃ m, ∀ k, mback (mx sc (m + k)) M pc ls rest (some (.inr e, g1)) = some r) : oLe (if rcv g c a = true then cH (R sc M' 0 ls' [] g) F H else none) (R sc M pc ls st g) := by
  subst hL hc
  split
  · rename_i hr
    unfold cH
    split
    · rename_i v g1 hv
      exact R_two hd rfl hv (h v g1) (fun K hK => (mcall_0 (pc := pc) hT hp hw hr).trans (by rw [hK]; rfl))
    · rename_i e g1 hv
      intro r hr2
      obtain ⟨o, ho, hb⟩ := hH e g1
      obtain ⟨m, hm⟩ := hb r (ho r hr2)
      obtain ⟨m2, hm2⟩ := R_iff.mp hv
      have b := mx_le sc (Nat.le_add_left m2 m) M' 0 _ [] g _ hm2
      refine R_of hd (Or.inl rfl) (n := m + m2) ((mcall_0 (pc := pc) hT hp hw hr).trans ?_)
      rw [b]
      exact hm m2
    · exact oLe.none _
  · exact oLe.none _
end
theorem s_hand1 {e hp j : Nat} {g1 : mW} {rest : List Value} {k : Fin 4} {ls' : List (Option Value)} (hj : (k : Nat) = j) (he : mhand M.hs pc e = some hp) (hc : M.own = 12 ∧ (M.hs.all fun h => decide (h.2.2.2 < 2)) = true ∧ e < 2) (hd : decode M.cc hp = .ok (.astore_n k, 1)) (hs : mset ls j none = some ls') : ∀ r, R sc M (hp + 1) ls' [] g1 = some r → ∃ m, ∀ k, mback (mx sc (m + k)) M pc ls rest (some (.inr e, g1)) = some r := by
  intro r hr
  obtain ⟨m, hm⟩ := R_iff.mp hr
  refine ⟨m, fun q => ?_⟩
  show (match mhand M.hs pc e with
    | none => _
    | some hp => _) = _
  rw [he]; dsimp only
  rw [if_pos hc, hd]
  show (match mset ls (k : Nat) none with
    | some ls' => mx sc (m + q) M (hp + 1) ls' [] g1
    | none => none) = _
  rw [hj, hs]
  exact mx_le sc (Nat.le_add_right m q) _ _ _ _ _ _ hm
theorem s_hand2 {e hp j : Nat} {g1 : mW} {rest : List Value} {ls' : List (Option Value)} (he : mhand M.hs pc e = some hp) (hc : M.own = 12 ∧ (M.hs.all fun h => decide (h.2.2.2 < 2)) = true ∧ e < 2) (hd : decode M.cc hp = .ok (.astore j, 2)) (hs : mset ls j none = some ls') : ∀ r, R sc M (hp + 2) ls' [] g1 = some r → ∃ m, ∀ k, mback (mx sc (m + k)) M pc ls rest (some (.inr e, g1)) = some r := by
  intro r hr
  obtain ⟨m, hm⟩ := R_iff.mp hr
  refine ⟨m, fun q => ?_⟩
  show (match mhand M.hs pc e with
    | none => _
    | some hp => _) = _
  rw [he]; dsimp only
  rw [if_pos hc, hd]
  show (match mset ls j none with
    | some ls' => mx sc (m + q) M (hp + 2) ls' [] g1
    | none => none) = _
  rw [hs]
  exact mx_le sc (Nat.le_add_right m q) _ _ _ _ _ _ hm
/-- a switch -/
def swt (sc : Nat × (Nat → Int32)) (M : mM) (pc : Nat) (ls : List (Option Value)) (st : List Value) (g : mW) : List (Option (mR × mW)) → List Int → Prop
  | [], [] => True
  | X :: r, off :: s => (∃ tgt : Nat, (pc : Int) + off = (tgt : Int) ∧ oLe X (R sc M tgt ls st g)) ∧ swt sc M pc ls st g r s
  | _, _ => False
theorem I_toInt {z : Int} (h : -2147483648 ≤ z ∧ z < 2147483648) : (I z).toInt = z := by
  unfold I
  rw [Int32.toInt_ofInt]
  rw [Int.bmod_def]
  rw [show ((Int32.size : Nat) : Int) = 4294967296 from rfl]
  omega
theorem I_of (x : Int32) : I x.toInt = x := Int32.ofInt_toInt x
theorem swc_le {x : Int32} {Xd : Option (mR × mW)} {Xs : List (Option (mR × mW))} {offs : List Int} {lo : Int} {Y : Option (mR × mW)} (hlo : -2147483648 ≤ lo ∧ lo + Xs.length < 2147483648) (hs : swt sc M pc ls st g Xs offs)
    (h : ∀ off, 0 ≤ x.toInt - lo → offs[(x.toInt - lo).toNat]? = some off → ∀ X, (∃ tgt : Nat, (pc : Int) + off = (tgt : Int) ∧ oLe X (R sc M tgt ls st g)) → oLe X Y) (hd : (x.toInt < lo ∨ lo + Xs.length ≤ x.toInt) → oLe Xd Y) : oLe (swc x lo Xd Xs) Y := by
  induction Xs generalizing lo offs with
  | nil => exact hd (by simp; omega)
  | cons X r ih =>
    cases offs with
    | nil => exact hs.elim
    | cons off s =>
      unfold swc
      have hx : x = I lo ↔ x.toInt = lo := by
        constructor
        · rintro rfl; exact I_toInt (by simp at hlo; omega)
        · intro h; rw [← h, I_of]
      split
      · rename_i e
        have e2 := hx.mp e
        exact h off (by omega) (by rw [e2]; simp) X hs.1
      · rename_i e
        have e2 : x.toInt ≠ lo := fun q => e (hx.mpr q)
        refine ih (lo := lo + 1) (by simp at hlo; omega) hs.2 (fun off' h0 h1 X' hX => ?_) (fun hh => hd ?_)
        · refine h off' (by omega) ?_ X' hX
          rw [show (x.toInt - lo).toNat = (x.toInt - (lo + 1)).toNat + 1 by omega]
          simpa using h1
        · simp at hh ⊢; omega
theorem s_switch {x : Int32} {d lo hi : Int} {offs : Array Int} {Xd : Option (mR × mW)} {Xs : List (Option (mR × mW))} (td : Nat) (hdc : decode M.cc pc = .ok (.tableswitch d lo hi offs, len)) (hlo : -2147483648 ≤ lo ∧ lo + Xs.length < 2147483648) (hhi : hi = lo + Xs.length - 1) (ht : (pc : Int) + d = (td : Int)) (hX : oLe Xd (R sc M td ls st g)) (hs : swt sc M pc ls st g Xs offs.toList) : oLe (swc x lo Xd Xs) (R sc M pc ls (.int x :: st) g) := by
  refine swc_le hlo hs (fun off h0 ho X hX' => ?_) (fun hh => ?_)
  · obtain ⟨tgt, e1, e2⟩ := hX'
    refine R_one hdc (by simp [msw]) (fun K => ?_) e2
    simp only [mstep, mpure, mconst, mload, mstore, mbin, mbinl, mshl, mrest, Option.map_none]
    have hlen : ∀ (Xs : List (Option (mR × mW))) (offs : List Int), swt sc M pc ls st g Xs offs → Xs.length = offs.length := by
      intro Xs
      induction Xs with
      | nil => intro offs h; cases offs with
        | nil => rfl
        | cons _ _ => exact h.elim
      | cons _ _ ih => intro offs h; cases offs with
        | nil => exact h.elim
        | cons _ _ => simp [ih _ h.2]
    have hb := (List.getElem?_eq_some_iff.mp ho).1
    rw [← hlen _ _ hs] at hb
    rw [if_neg (by omega), ← Array.getElem?_toList, ho]
    exact mto_eq e1
  · refine R_one hdc (by simp [msw]) (fun K => ?_) hX
    simp only [mstep, mpure, mconst, mload, mstore, mbin, mbinl, mshl, mrest, Option.map_none]
    rw [if_pos (by omega)]
    exact mto_eq ht
end
