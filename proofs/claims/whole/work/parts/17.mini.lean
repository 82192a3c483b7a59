/-- a local is read; a local is written (no half of a long is cut) -/
def mld : List (Option Value) → Nat → Option Value
  | [], _ => none
  | a :: _, 0 => a
  | _ :: t, i + 1 => mld t i
/-- 0: an int, 1: a long, 2: a reference -/
def mkind : Value → Nat
  | .int _ => 0
  | .long _ => 1
  | .ref _ => 2
  | .retAddr _ => 2
  | _ => 9
def mlong : Option Value → Bool
  | some v => v.category == 2
  | none => false
def mset : List (Option Value) → Nat → Option Value → Option (List (Option Value))
  | [], _, _ => none
  | _ :: t, 0, v => some (v :: t)
  | a :: t, 1, v => if mlong a then none else (mset t 0 v).map (a :: ·)
  | a :: t, i + 2, v => (mset t (i + 1) v).map (a :: ·)
def mstl (ls : List (Option Value)) (j : Nat) (v : Value) : Option (List (Option Value)) :=
  if v.category = 2 then (if j + 1 < ls.length then mset (ls.set (j + 1) none) j (some v) else none) else mset ls j (some v)
/-- the locals at the entry -/
def menter : List Value → List (Option Value)
  | [] => []
  | v :: vs => if v.category = 2 then some v :: none :: menter vs else some v :: menter vs
def mlocals (n : Nat) (vs : List Value) : List (Option Value) := menter vs ++ List.replicate (n - (menter vs).length) none
/-- how long an instruction is -/
def mlen : Instr → Nat
  | .iload _ | .lload _ | .aload _ | .istore _ | .lstore _ | .astore _ | .bipush _ | .ldc _ | .newarray _ => 2
  | .iinc _ _ | .sipush _ | .ldc_w _ | .ldc2_w _ | .ifCond _ _ | .if_icmp _ _ | .ifnonnull _ | .goto _ | .getfield _ | .putfield _ | .getstatic _ | .invokevirtual _ | .invokespecial _ | .invokestatic _ | .new _ | .anewarray _ => 3
  | _ => 1
/-- constants, loads, stores, int operations, long operations -/
def mconst (cst : Nat → Option Value) : Instr → Option Value
  | .iconst n => some (.int (Int32.ofInt n))
  | .bipush n => some (.int (Int8.ofInt n).toInt32)
  | .sipush n => some (.int (Int16.ofInt n).toInt32)
  | .lconst n => some (.long (Int64.ofNat (n : Nat)))
  | .ldc i => (match cst i with
    | some v => if mkind v = 1 then none else some v
    | none => none)
  | .ldc_w i => (match cst i with
    | some v => if mkind v = 0 then some v else none
    | none => none)
  | .ldc2_w i => (match cst i with
    | some v => if mkind v = 1 then some v else none
    | none => none)
  | _ => none
def mload : Instr → Option (Nat × Nat)
  | .iload_n k => some (0, k)
  | .iload k => some (0, k)
  | .lload_n k => some (1, k)
  | .lload k => some (1, k)
  | .aload_n k => some (2, k)
  | .aload k => some (2, k)
  | _ => none
def mstore : Instr → Option (Nat × Nat)
  | .istore_n k => some (0, k)
  | .istore k => some (0, k)
  | .lstore_n k => some (1, k)
  | .lstore k => some (1, k)
  | .astore_n k => some (2, k)
  | .astore k => some (2, k)
  | _ => none
def mbin : Instr → Option (Int32 → Int32 → Option Int32)
  | .iadd => some fun x y => some (x + y)
  | .isub => some fun x y => some (x - y)
  | .imul => some fun x y => some (x * y)
  | .idiv => some fun x y => if y = 0 then none else some (x / y)
  | .irem => some fun x y => if y = 0 then none else some (x - x / y * y)
  | .iand => some fun x y => some (x &&& y)
  | .ior => some fun x y => some (x ||| y)
  | .ixor => some fun x y => some (x ^^^ y)
  | .ishl => some fun x y => some (x <<< (y &&& 31))
  | .ishr => some fun x y => some (x >>> (y &&& 31))
  | .iushr => some fun x y => some (x.toUInt32 >>> (y.toUInt32 &&& Int32.toUInt32 31)).toInt32
  | _ => none
def mbinl : Instr → Option (Int64 → Int64 → Value)
  | .ladd => some fun x y => .long (x + y)
  | .lsub => some fun x y => .long (x - y)
  | .land => some fun x y => .long (x &&& y)
  | .lor => some fun x y => .long (x ||| y)
  | .lcmp => some fun x y => .int (lg_cmp x y)
  | _ => none
def mshl : Instr → Option (Int64 → Int32 → Int64)
  | .lshl => some fun x y => x <<< (y.toInt64 &&& 63)
  | .lshr => some fun x y => x >>> (y.toInt64 &&& 63)
  | .lushr => some fun x y => (x.toUInt64 >>> (y.toInt64.toUInt64 &&& Int64.toUInt64 63)).toInt64
  | _ => none
def mrest : Instr → List Value → Option (List Value)
  | .i2l, .int x :: st => some (.long x.toInt64 :: st)
  | .l2i, .long x :: st => some (.int x.toInt32 :: st)
  | .i2b, .int x :: st => some (.int x.toInt8.toInt32 :: st)
  | .dup, a :: st => if a.category = 1 then some (a :: a :: st) else none
  | .pop, a :: st => if a.category = 1 then some st else none
  | .dup_x1, a :: b :: st => if a.category = 1 then (if b.category = 1 then some (a :: b :: a :: st) else none) else none
  | .dup2, a :: b :: st => if a.category = 1 then (if b.category = 1 then some (a :: b :: a :: b :: st) else none) else none
  | _, _ => none
/-- the pure instructions: locals and stack -/
def mpure (cst : Nat → Option Value) (i : Instr) (ls : List (Option Value)) (st : List Value) : Option (List (Option Value) × List Value) :=
  match mconst cst i with
  | some v => some (ls, v :: st)
  | none => match mload i with
    | some (k, j) => (match mld ls j with
      | some v => if mkind v = k then some (ls, v :: st) else none
      | none => none)
    | none => match mstore i with
      | some (k, j) => (match st with
        | v :: st => if mkind v = k then (mstl ls j v).map (·, st) else none
        | [] => none)
      | none => match i with
        | .iinc j n => (match mld ls j with
          | some (.int x) => (mstl ls j (.int (x + Int32.ofInt n))).map (·, st)
          | _ => none)
        | _ => match mbin i with
          | some f => (match st with
            | .int y :: .int x :: st => (f x y).map fun z => (ls, .int z :: st)
            | _ => none)
          | none => match mbinl i with
            | some f => (match st with
              | .long y :: .long x :: st => some (ls, f x y :: st)
              | _ => none)
            | none => match mshl i with
              | some f => (match st with
                | .int y :: .long x :: st => some (ls, .long (f x y) :: st)
                | _ => none)
              | none => (mrest i st).map fun s => (ls, s)
