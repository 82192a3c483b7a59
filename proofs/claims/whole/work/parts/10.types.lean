/-! ===== THE MINI MACHINE: worlds as lists of cells, addresses by their places; an interpreter of the bytecode over them ===== -/
abbrev mCell : Type := (Nat × Nat × (Nat → Int32)) ⊕ ((Nat × (Nat → Int64)) ⊕ ((Nat × (Nat → Option Nat)) ⊕ (Nat × List Value)))
/-- an int array, a byte array, a long array, an array of states, an object -/
abbrev mI (n : Nat) (f : Nat → Int32) : mCell := .inl (0, n, f)
abbrev mB (n : Nat) (f : Nat → Int32) : mCell := .inl (1, n, f)
abbrev mJ (n : Nat) (f : Nat → Int64) : mCell := .inr (.inl (n, f))
abbrev mS (n : Nat) (f : Nat → Option Nat) : mCell := .inr (.inr (.inl (n, f)))
abbrev mO (c : Nat) (fs : List Value) : mCell := .inr (.inr (.inr (c, fs)))
/-- a world: its cells (an exception's cell is an object of class 12 or 13, of which no field is known) -/
abbrev mW : Type := List mCell
/-- what a run ends with: a value, or an exception's kind (0: NoSuchElementException, 1: IllegalArgumentException) -/
abbrev mR : Type := Option Value ⊕ Nat
/-- a method: name, code, locals, answer's type, own class, rank, handlers (from, to, handler, kind) -/
abbrev mM : Type := MethodName × ByteArray × Nat × Option FieldType × Nat × Nat × List (Nat × Nat × Nat × Nat)
abbrev mM.nm (M : mM) : MethodName := M.1
abbrev mM.cc (M : mM) : ByteArray := M.2.1
abbrev mM.nL (M : mM) : Nat := M.2.2.1
abbrev mM.ret (M : mM) : Option FieldType := M.2.2.2.1
abbrev mM.own (M : mM) : Nat := M.2.2.2.2.1
abbrev mM.rank (M : mM) : Nat := M.2.2.2.2.2.1
abbrev mM.hs (M : mM) : List (Nat × Nat × Nat × Nat) := M.2.2.2.2.2.2
