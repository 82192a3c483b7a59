/-! ===== bits of ints under bounds ===== -/
theorem I_nat {x : Int} (h0 : 0 ≤ x) (h : x < 2147483648) : (I x).toBitVec.toNat = x.toNat := by
  have e := I_toInt (z := x) ⟨by omega, h⟩
  have e2 : (I x).toBitVec.toInt = x := e
  rw [BitVec.toInt_eq_toNat_cond] at e2
  have := (I x).toBitVec.isLt
  split at e2 <;> omega
theorem toInt_nat {x : Int32} {n : Nat} (h : x.toBitVec.toNat = n) (hn : n < 2147483648) : x.toInt = n := by
  show x.toBitVec.toInt = n
  rw [BitVec.toInt_eq_toNat_cond]
  split <;> omega
theorem ian_nn {x y : Int} (hx : 0 ≤ x) (hx2 : x < 2147483648) (hy : 0 ≤ y) (hy2 : y < 2147483648) : ian x y = ((x.toNat &&& y.toNat : Nat) : Int) := by
  unfold ian
  refine toInt_nat ?_ ?_
  · rw [Int32.toBitVec_and, BitVec.toNat_and, I_nat hx hx2, I_nat hy hy2]
  · have : x.toNat &&& y.toNat ≤ x.toNat := Nat.and_le_left
    omega
theorem iro_nn {x y : Int} (hx : 0 ≤ x) (hx2 : x < 2147483648) (hy : 0 ≤ y) (hy2 : y < 2147483648) : iro x y = ((x.toNat ||| y.toNat : Nat) : Int) := by
  unfold iro
  refine toInt_nat ?_ ?_
  · rw [Int32.toBitVec_or, BitVec.toNat_or, I_nat hx hx2, I_nat hy hy2]
  · exact Nat.or_lt_two_pow (n := 31) (by omega) (by omega)
theorem ian15 {x : Int} (hx : 0 ≤ x) (hx2 : x < 2147483648) : ian x 15 = x % 16 := by
  rw [ian_nn hx hx2 (by decide) (by decide), show (15 : Int).toNat = 2 ^ 4 - 1 from rfl, Nat.and_two_pow_sub_one_eq_mod]
  omega
theorem ian1 {x : Int} (hx : 0 ≤ x) (hx2 : x < 2147483648) : ian x 1 = x % 2 := by
  rw [ian_nn hx hx2 (by decide) (by decide), show (1 : Int).toNat = 2 ^ 1 - 1 from rfl, Nat.and_two_pow_sub_one_eq_mod]
  omega
theorem isr_k {x : Int} {k : Nat} (hx : rg x) (hk : ((I k &&& 31).toBitVec.smod 32).toNat = k) : isr x k = x / 2 ^ k := by
  unfold isr
  show ((I x).toBitVec.sshiftRight' ((I k &&& 31).toBitVec.smod 32)).toInt = _
  rw [BitVec.toInt_sshiftRight', hk, show (I x).toBitVec.toInt = x from I_toInt hx, Int.shiftRight_eq_div_pow]
  rfl
/-- a cell of four -/
def nb (v s : Int) : Int := ian (isr v s) 15
theorem nb12 {v : Int} (h : 0 ≤ v ∧ v < 65536) : nb v 12 = v / 4096 % 16 := by
  unfold nb
  rw [show (12 : Int) = ((12 : Nat) : Int) from rfl, isr_k ⟨by omega, by omega⟩ (by decide), show (2 : Int) ^ 12 = 4096 from rfl]
  exact ian15 (by omega) (by omega)
theorem nb8 {v : Int} (h : 0 ≤ v ∧ v < 65536) : nb v 8 = v / 256 % 16 := by
  unfold nb
  rw [show (8 : Int) = ((8 : Nat) : Int) from rfl, isr_k ⟨by omega, by omega⟩ (by decide), show (2 : Int) ^ 8 = 256 from rfl]
  exact ian15 (by omega) (by omega)
theorem nb4 {v : Int} (h : 0 ≤ v ∧ v < 65536) : nb v 4 = v / 16 % 16 := by
  unfold nb
  rw [show (4 : Int) = ((4 : Nat) : Int) from rfl, isr_k ⟨by omega, by omega⟩ (by decide), show (2 : Int) ^ 4 = 16 from rfl]
  exact ian15 (by omega) (by omega)
theorem nb0 {v : Int} (h : 0 ≤ v ∧ v < 65536) : nb v 0 = v % 16 := by
  unfold nb
  rw [show (0 : Int) = ((0 : Nat) : Int) from rfl, isr_k ⟨by omega, by omega⟩ (by decide), show (2 : Int) ^ 0 = 1 from rfl, Int.ediv_one]
  exact ian15 (by omega) (by omega)
theorem nb_rg (v s : Int) : 0 ≤ nb v s ∧ nb v s < 16 := by
  unfold nb ian
  generalize I (isr v s) = y
  have e : (y &&& I 15).toBitVec.toNat < 16 := by
    rw [Int32.toBitVec_and, BitVec.toNat_and]
    have : y.toBitVec.toNat &&& (I 15).toBitVec.toNat ≤ (I 15).toBitVec.toNat := Nat.and_le_right
    rw [show (I 15).toBitVec.toNat = 15 from rfl] at this ⊢
    omega
  have e2 := toInt_nat (x := y &&& I 15) rfl (by omega)
  rw [e2]
  omega
theorem isl_n {n : Int} {k : Nat} (h0 : 0 ≤ n) (h : n < 16) (hk : k ≤ 12) (hs : ((I k &&& 31).toBitVec.smod 32).toNat = k) : isl n k = n * 2 ^ k := by
  unfold isl
  have e : (I n <<< (I k &&& 31)).toBitVec.toNat = n.toNat * 2 ^ k := by
    show ((I n).toBitVec <<< ((I k &&& 31).toBitVec.smod 32)).toNat = _
    rw [BitVec.shiftLeft_eq', BitVec.toNat_shiftLeft, hs, I_nat h0 (by omega), Nat.shiftLeft_eq]
    refine Nat.mod_eq_of_lt ?_
    have h1 : 2 ^ k ≤ 2 ^ 12 := Nat.pow_le_pow_right (by decide) hk
    have h2 : n.toNat * 2 ^ k ≤ 15 * 2 ^ 12 := Nat.mul_le_mul (by omega) h1
    omega
  have h1 : 2 ^ k ≤ 2 ^ 12 := Nat.pow_le_pow_right (by decide) hk
  have h2 : n.toNat * 2 ^ k ≤ 15 * 2 ^ 12 := Nat.mul_le_mul (by omega) h1
  rw [toInt_nat e (by omega)]
  rw [Int.natCast_mul, Int.toNat_of_nonneg h0]
  rfl
theorem ian_m {v : Int} {m : Int} {M : Nat} (h : 0 ≤ v ∧ v < 65536) (hm : (I m).toBitVec.toNat = M) : ian v m = ((v.toNat &&& M : Nat) : Int) := by
  unfold ian
  refine toInt_nat ?_ ?_
  · rw [Int32.toBitVec_and, BitVec.toNat_and, I_nat h.1 (by omega), hm]
  · have : v.toNat &&& M ≤ v.toNat := Nat.and_le_left
    omega
set_option maxRecDepth 10000 in
theorem msk12 : ∀ a : Fin 256, ∀ b : Fin 256, (256 * a.val + b.val) &&& 4294905855 = (256 * a.val + b.val) - (256 * a.val + b.val) / 4096 % 16 * 4096 := by decide +kernel
set_option maxRecDepth 10000 in
theorem msk8 : ∀ a : Fin 256, ∀ b : Fin 256, (256 * a.val + b.val) &&& 4294963455 = (256 * a.val + b.val) - (256 * a.val + b.val) / 256 % 16 * 256 := by decide +kernel
set_option maxRecDepth 10000 in
theorem msk4 : ∀ a : Fin 256, ∀ b : Fin 256, (256 * a.val + b.val) &&& 4294967055 = (256 * a.val + b.val) - (256 * a.val + b.val) / 16 % 16 * 16 := by decide +kernel
set_option maxRecDepth 10000 in
theorem msk0 : ∀ a : Fin 256, ∀ b : Fin 256, (256 * a.val + b.val) &&& 4294967280 = (256 * a.val + b.val) - (256 * a.val + b.val) % 16 := by decide +kernel
