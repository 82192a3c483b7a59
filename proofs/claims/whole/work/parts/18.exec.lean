/-! ===== the interpreter over the tables ===== -/
def mcmp : ClassFile.Cond → Int32 → Int32 → Bool
  | .eq, x, y => decide (x = y)
  | .ne, x, y => !decide (x = y)
  | .lt, x, y => decide (x < y)
  | .ge, x, y => decide (y ≤ x)
  | .gt, x, y => decide (y < x)
  | .le, x, y => decide (x ≤ y)
def mfit : FieldType → Value → Bool
  | .int, .int _ => true
  | .boolean, .int x => x == 0 || x == 1
  | .object _, .ref _ => true
  | .array _, .ref _ => true
  | _, _ => false
def mretok : Option FieldType → Option Value → Bool
  | none, none => true
  | some .int, some (.int _) => true
  | some .boolean, some (.int x) => x == 0 || x == 1
  | some (.object _), some (.ref _) => true
  | _, _ => false
def mpop (n : Nat) (st : List Value) : Option (List Value × List Value) := if n ≤ st.length then some ((st.take n).reverse, st.drop n) else none
def mwt (st : List Value) : Bool := decide ((st.map fun v => v.category).sum ≤ 8)
def mgetf (g : mW) (c k a : Nat) : Option Value := match g[a]? with
  | some (.inr (.inr (.inr (c', fs)))) => if c' = c then fs[k]? else none
  | _ => none
def mputf (g : mW) (c k a : Nat) (v : Value) : Option mW := match g[a]? with
  | some (.inr (.inr (.inr (c', fs)))) => if c' = c then (if k < fs.length then some (g.set a (mO c (fs.set k v))) else none) else none
  | _ => none
def mrecv (g : mW) (c : Nat) : List Value → Bool
  | .ref b :: _ => (match g[b]? with
    | some (.inr (.inr (.inr (c', _)))) => c' == c
    | _ => false)
  | _ => false
def mref : List Value → Bool
  | .ref _ :: _ => true
  | _ => false
/-- an array's place: read, written -/
def mlen? (sc : Nat × (Nat → Int32)) (g : mW) : Value → Option Int32
  | .ref a => (match g[a]? with
    | some (.inl (t, n, _)) => if t < 2 then some (Int32.ofNat n) else none
    | some (.inr (.inl (n, _))) => some (Int32.ofNat n)
    | some (.inr (.inr (.inl (n, _)))) => some (Int32.ofNat n)
    | _ => none)
  | .retAddr 0 => some (Int32.ofNat sc.1)
  | .retAddr 1 => some (Int32.ofNat mwords.length)
  | _ => none
def mald (sc : Nat × (Nat → Int32)) (g : mW) : Instr → Value → Int32 → Option Value
  | .iaload, .ref a, i => (match g[a]? with
    | some (.inl (0, n, f)) => if i < 0 ∨ n ≤ i.toNatClampNeg then none else some (.int (f i.toNatClampNeg))
    | _ => none)
  | .baload, .ref a, i => (match g[a]? with
    | some (.inl (1, n, f)) => if i < 0 ∨ n ≤ i.toNatClampNeg then none else some (.int (f i.toNatClampNeg))
    | _ => none)
  | .laload, .ref a, i => (match g[a]? with
    | some (.inr (.inl (n, f))) => if i < 0 ∨ n ≤ i.toNatClampNeg then none else some (.long (f i.toNatClampNeg))
    | _ => none)
  | .aaload, .ref a, i => (match g[a]? with
    | some (.inr (.inr (.inl (n, f)))) => if i < 0 ∨ n ≤ i.toNatClampNeg then none else some (va_rf (f i.toNatClampNeg))
    | _ => none)
  | .iaload, .retAddr 0, i => if i < 0 ∨ sc.1 ≤ i.toNatClampNeg then none else some (.int (sc.2 i.toNatClampNeg))
  | .baload, .retAddr 1, i => if i < 0 ∨ mwords.length ≤ i.toNatClampNeg then none else some (.int (mwords.getD i.toNatClampNeg 0))
  | _, _, _ => none
def mast (g : mW) : Instr → Nat → Int32 → Value → Option mW
  | .iastore, a, i, .int x => (match g[a]? with
    | some (.inl (0, n, f)) => if i < 0 ∨ n ≤ i.toNatClampNeg then none else some (g.set a (mI n (upd f i.toNatClampNeg x)))
    | _ => none)
  | .bastore, a, i, .int x => (match g[a]? with
    | some (.inl (1, n, f)) => if i < 0 ∨ n ≤ i.toNatClampNeg then none else some (g.set a (mB n (upd f i.toNatClampNeg x.toInt8.toInt32)))
    | _ => none)
  | .lastore, a, i, .long x => (match g[a]? with
    | some (.inr (.inl (n, f))) => if i < 0 ∨ n ≤ i.toNatClampNeg then none else some (g.set a (mJ n (vp_updL f i.toNatClampNeg x)))
    | _ => none)
  | .aastore, a, i, .ref x => (match g[a]? with
    | some (.inr (.inr (.inl (n, f)))) => if mrecv g 7 [.ref x] then (if i < 0 ∨ n ≤ i.toNatClampNeg then none else some (g.set a (mS n (va_up f i.toNatClampNeg (some x))))) else none
    | _ => none)
  | _, _, _, _ => none
def mnewa : ArrayType → Int32 → Option mCell
  | .int, n => if n < 0 ∨ 1000000 < n.toNatClampNeg then none else some (mI n.toNatClampNeg (fun _ => 0))
  | .byte, n => if n < 0 ∨ 1000000 < n.toNatClampNeg then none else some (mB n.toNatClampNeg (fun _ => 0))
  | .long, n => if n < 0 ∨ 1000000 < n.toNatClampNeg then none else some (mJ n.toNatClampNeg (fun _ => 0))
  | _, _ => none
/-- System.arraycopy over int arrays -/
def mcopy (g : mW) : List Value → Option mW
  | [.ref a, .int sp, .ref b, .int dp, .int n] => (match g[a]?, g[b]? with
    | some (.inl (0, n0, f)), some (.inl (0, n1, h)) =>
      if sp < 0 ∨ dp < 0 ∨ n < 0 ∨ n0 < sp.toNatClampNeg + n.toNatClampNeg ∨ n1 < dp.toNatClampNeg + n.toNatClampNeg then none
      else some (g.set b (mI n1 (va_cpy f h sp.toNatClampNeg dp.toNatClampNeg n.toNatClampNeg)))
    | _, _ => none)
  | _ => none
/-- the handler for an exception of kind k thrown at pc -/
def mhand : List (Nat × Nat × Nat × Nat) → Nat → Nat → Option Nat
  | [], _, _ => none
  | (a, b, h, t) :: r, pc, k => if a ≤ pc ∧ pc < b ∧ t = k then some h else mhand r pc k
abbrev mK : Type := mM → Nat → List (Option Value) → List Value → mW → Option (mR × mW)
def mto (K : mK) (M : mM) (ls : List (Option Value)) (st : List Value) (g : mW) (pc : Nat) (off : Int) : Option (mR × mW) :=
  if (pc : Int) + off < 0 then none else K M ((pc : Int) + off).toNat ls st g
/-- a branch -/
def mbr (K : mK) (M : mM) (ls : List (Option Value)) (st : List Value) (g : mW) (pc : Nat) (off : Int) (b : Bool) : Option (mR × mW) :=
  if (pc : Int) + off < 0 then none else if b = true then K M ((pc : Int) + off).toNat ls st g else K M (pc + 3) ls st g
/-- behind a call: a value; an exception, caught here or not -/
def mback (K : mK) (M : mM) (pc : Nat) (ls : List (Option Value)) (rest : List Value) : Option (mR × mW) → Option (mR × mW)
  | none => none
  | some (.inl v, g) => K M (pc + 3) ls (v.toList ++ rest) g
  | some (.inr k, g) => (match mhand M.hs pc k with
    | none => if M.hs = [] then some (.inr k, g) else none
    | some hp => if M.own = 12 ∧ (M.hs.all fun h => decide (h.2.2.2 < 2)) = true ∧ k < 2 then (match decode M.cc hp with
      | .ok (.astore_n j, 1) => (match mset ls j none with
        | some ls' => K M (hp + 1) ls' [] g
        | none => none)
      | .ok (.astore j, 2) => (match mset ls j none with
        | some ls' => K M (hp + 2) ls' [] g
        | none => none)
      | _ => none) else none)
/-- behind a call that must return -/
def mbackR (K : mK) (M : mM) (pc : Nat) (ls : List (Option Value)) (rest : List Value) : Option (mR × mW) → Option (mR × mW)
  | some (.inl v, g) => K M (pc + 3) ls (v.toList ++ rest) g
  | _ => none
def mcall (K : mK) (M : mM) (pc : Nat) (ls : List (Option Value)) (st : List Value) (g : mW) (idx : Nat) (special : Nat) : Option (mR × mW) :=
  match mcT M.own idx with
  | none => none
  | some (k, n, M') => match mpop n st with
    | none => none
    | some (as, rest) =>
      if mwt rest = true ∧ M'.rank < M.rank ∧ (menter as).length ≤ M'.nL then
        (if k = 0 ∧ special = 0 then (if mrecv g M'.own as = true then mback K M pc ls rest (K M' 0 (mlocals M'.nL as) [] g) else none)
        else if k = 2 ∧ special = 2 then mback K M pc ls rest (K M' 0 (mlocals M'.nL as) [] g)
        else if (k = 1 ∨ k = 4) ∧ special = 1 then (if mref as = true then mbackR K M pc ls rest (K M' 0 (mlocals M'.nL as) [] g) else none)
        else if k = 5 ∧ special = 2 then mbackR K M pc ls rest (K M' 0 (mlocals M'.nL as) [] g)
        else if k = 10 ∧ special = 1 then (if mref as = true then K M (pc + 3) ls rest g else none)
        else if k = 11 ∧ special = 2 then (match mcopy g as with
          | some g' => K M (pc + 3) ls rest g'
          | none => none)
        else if k = 12 ∧ special = 0 ∧ 6 ≤ M.rank ∧ M.own = 8 ∧ idx = 44 then (match as with
          | [.retAddr j] => (match mstrs j with
            | some t => K M (pc + 3) ls (.int (Int32.ofNat t.length) :: rest) g
            | none => none)
          | _ => none)
        else if k = 13 ∧ special = 0 ∧ 6 ≤ M.rank ∧ M.own = 8 ∧ idx = 49 then (match as with
          | [.retAddr j, .int i] => (match mstrs j with
            | some t => if i < 0 ∨ t.length ≤ i.toNatClampNeg then none else K M (pc + 3) ls (.int (t.getD i.toNatClampNeg 0) :: rest) g
            | none => none)
          | _ => none)
        else none)
      else none
def mldA (sc : Nat × (Nat → Int32)) (K : mK) (M : mM) (pc : Nat) (ls : List (Option Value)) (st : List Value) (g : mW) (i : Instr) : Option (mR × mW) := match st with
  | .int n :: v :: st => (match mald sc g i v n with
    | some x => K M (pc + 1) ls (x :: st) g
    | none => none)
  | _ => none
def mstA (K : mK) (M : mM) (pc : Nat) (ls : List (Option Value)) (st : List Value) (g : mW) (i : Instr) : Option (mR × mW) := match st with
  | v :: .int j :: .ref a :: st => (match mast g i a j v with
    | some g' => K M (pc + 1) ls st g'
    | none => none)
  | _ => none
def mstep (sc : Nat × (Nat → Int32)) (K : mK) (M : mM) (pc : Nat) (i : Instr) (ls : List (Option Value)) (st : List Value) (g : mW) : Option (mR × mW) :=
  match mpure (mkT M.own) i ls st with
  | some (ls', st') => K M (pc + mlen i) ls' st' g
  | none => match i with
    | .goto off => mto K M ls st g pc off
    | .ifCond c off => (match st with
      | .int x :: st => mbr K M ls st g pc off (mcmp c x 0)
      | _ => none)
    | .if_icmp c off => (match st with
      | .int y :: .int x :: st => mbr K M ls st g pc off (mcmp c x y)
      | _ => none)
    | .ifnonnull off => (match st with
      | .ref _ :: st => mto K M ls st g pc off
      | .null :: st => K M (pc + 3) ls st g
      | _ => none)
    | .tableswitch d lo hi offs => (match st with
      | .int x :: st => if x.toInt < lo ∨ hi < x.toInt then mto K M ls st g pc d else (match offs[(x.toInt - lo).toNat]? with
        | some off => mto K M ls st g pc off
        | none => none)
      | _ => none)
    | .getfield idx => (match st, mfT M.own idx with
      | .ref a :: st, some (c, k) => (match mgetf g c k a with
        | some v => K M (pc + 3) ls (v :: st) g
        | none => none)
      | _, _ => none)
    | .putfield idx => (match st, mfT M.own idx with
      | v :: .ref a :: st, some (c, k) => if mfit (mty c k) v = true then (match mputf g c k a v with
        | some g' => if mfin c k = false ∨ (M.nm.name = "<init>" ∧ M.own = c) then K M (pc + 3) ls st g' else none
        | none => none) else none
      | _, _ => none)
    | .getstatic idx => (match msT M.own idx with
      | some v => K M (pc + 3) ls (v :: st) g
      | none => none)
    | .arraylength => (match st with
      | v :: st => (match mlen? sc g v with
        | some n => K M (pc + 1) ls (.int n :: st) g
        | none => none)
      | _ => none)
    | .new idx => (match mnT M.own idx with
      | none => none
      | some c => if c < 100 then K M (pc + 3) ls (.ref g.length :: st) (g ++ [mO c (mdf c)])
        else (match decode M.cc (pc + 3), decode M.cc (pc + 4), decode M.cc (pc + 7) with
          | .ok (.dup, 1), .ok (.invokespecial ic, 3), .ok (.athrow, 1) => if mthrow M.own idx ic c = true ∧ M.hs = [] ∧ 6 ≤ M.rank ∧ mwt st = true then some (.inr (c - 100), g ++ [mO (c - 88) []]) else none
          | _, _, _ => none))
    | .anewarray idx => (match st, mqT M.own idx with
      | .int n :: st, true => if n < 0 ∨ 1000000 < n.toNatClampNeg then none else K M (pc + 3) ls (.ref g.length :: st) (g ++ [mS n.toNatClampNeg (fun _ => none)])
      | _, _ => none)
    | .invokevirtual idx => mcall K M pc ls st g idx 0
    | .invokespecial idx => mcall K M pc ls st g idx 1
    | .invokestatic idx => mcall K M pc ls st g idx 2
    | .ireturn => (match st with
      | [v] => if mkind v = 0 ∧ mretok M.ret (some v) = true then some (.inl (some v), g) else none
      | _ => none)
    | .areturn => (match st with
      | [v] => if mkind v = 2 ∧ mretok M.ret (some v) = true then some (.inl (some v), g) else none
      | _ => none)
    | .return_ => if st = [] ∧ mretok M.ret none = true then some (.inl none, g) else none
    | .iaload => mldA sc K M pc ls st g .iaload
    | .baload => mldA sc K M pc ls st g .baload
    | .laload => mldA sc K M pc ls st g .laload
    | .aaload => mldA sc K M pc ls st g .aaload
    | .iastore => mstA K M pc ls st g .iastore
    | .bastore => mstA K M pc ls st g .bastore
    | .lastore => mstA K M pc ls st g .lastore
    | .aastore => mstA K M pc ls st g .aastore
    | .newarray t => (match st with
      | .int n :: st => (match mnewa t n with
        | some c => K M (pc + 2) ls (.ref g.length :: st) (g ++ [c])
        | none => none)
      | _ => none)
    | _ => none
/-- n steps at the most, calls within them -/
def mx (sc : Nat × (Nat → Int32)) : Nat → mK
  | 0 => fun _ _ _ _ _ => none
  | n + 1 => fun M pc ls st g => match decode M.cc pc with
    | .ok (i, len) => if len = mlen i ∨ msw i = true then mstep sc (mx sc n) M pc i ls st g else none
    | .error _ => none
