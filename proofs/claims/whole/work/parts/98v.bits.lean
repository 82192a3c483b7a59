/-! ===== Long.bitCount; sets of small numbers ===== -/
def nvJ (x : Int64) : Nat := x.toBitVec.toNat
theorem nvJ_lt (x : Int64) : nvJ x < 18446744073709551616 := x.toBitVec.isLt
theorem nvJ_and (a b : Int64) : nvJ (a &&& b) = (nvJ a &&& nvJ b) := by
  unfold nvJ
  rw [Int64.toBitVec_and, BitVec.toNat_and]
theorem nvJ_or (a b : Int64) : nvJ (a ||| b) = (nvJ a ||| nvJ b) := by
  unfold nvJ
  rw [Int64.toBitVec_or, BitVec.toNat_or]
theorem nvJ_add {a b : Int64} (h : nvJ a + nvJ b < 18446744073709551616) : nvJ (a + b) = nvJ a + nvJ b := by
  unfold nvJ at *
  rw [Int64.toBitVec_add, BitVec.toNat_add]
  exact Nat.mod_eq_of_lt h
theorem nvJ_sub {a b : Int64} (h : nvJ b ≤ nvJ a) : nvJ (a - b) = nvJ a - nvJ b := by
  have h2 := nvJ_lt a
  unfold nvJ at *
  rw [Int64.toBitVec_sub, BitVec.toNat_sub]
  omega
theorem nvJ_su (x : Int64) {k : Nat} (hk : ((((I k).toInt64.toUInt64 &&& Int64.toUInt64 63).toBitVec % 64).toNat) = k) : nvJ (jsu x k) = nvJ x / 2 ^ k := by
  unfold nvJ jsu
  show (x.toBitVec >>> (((I k).toInt64.toUInt64 &&& Int64.toUInt64 63).toBitVec % 64)).toNat = _
  rw [BitVec.ushiftRight_eq', BitVec.toNat_ushiftRight, Nat.shiftRight_eq_div_pow]
  rw [show ((((I k).toInt64.toUInt64 &&& Int64.toUInt64 63).toBitVec % 64).toNat) = k from hk]
theorem ian_m7 (z : Int) : ian z 127 = z % 128 := by
  have hX := I_bv z
  have e : ian z 127 = (((I z).toBitVec.toNat % 128 : Nat) : Int) := by
    unfold ian
    refine toInt_nat ?_ (by omega)
    rw [Int32.toBitVec_and, BitVec.toNat_and, I_nat (x := 127) (by decide) (by decide), show (127 : Int).toNat = 2 ^ 7 - 1 from rfl, Nat.and_two_pow_sub_one_eq_mod]
  rw [e]
  omega
theorem j2i_mod (x : Int64) : j2i x % 128 = ((nvJ x % 128 : Nat) : Int) := by
  unfold j2i
  have e : x.toInt32.toInt = (x.toInt32.toBitVec).toInt := rfl
  have e2 : x.toInt32.toBitVec = x.toBitVec.signExtend 32 := rfl
  rw [Int64.toInt_toInt32, Int.bmod_def]
  have e3 : x.toInt = x.toBitVec.toInt := rfl
  rw [e3, BitVec.toInt_eq_toNat_cond]
  unfold nvJ
  have := x.toBitVec.isLt
  split <;> split <;> omega
section
variable {sc : Nat × (Nat → Int32)} {SH : List mCell} {S : mStore}
theorem bitCount_ok (x : Int64) : G sc MJ13_bitCount_95d88 0 [some (.long x), none] [] SH S (rI (popN 64 (nvJ x)) SH S) := by
  refine qJ13_bitCount_95d88_0 ?_
  obtain ⟨T1, T2, T3, h1, h2, h3, l1, l2, l3, hp⟩ := pop4 (nvJ x)
  have hx := nvJ_lt x
  have c85 : nvJ 6148914691236517205 = mskB 85 8 := by decide
  have c51 : nvJ 3689348814741910323 = mskB 51 8 := by decide
  have c15 : nvJ 1085102592571150095 = mskB 15 8 := by decide
  have k1 := fun y : Int64 => nvJ_su y (k := 1) (by decide)
  have k2 := fun y : Int64 => nvJ_su y (k := 2) (by decide)
  have k4 := fun y : Int64 => nvJ_su y (k := 4) (by decide)
  have k8 := fun y : Int64 => nvJ_su y (k := 8) (by decide)
  have k16 := fun y : Int64 => nvJ_su y (k := 16) (by decide)
  have k32 := fun y : Int64 => nvJ_su y (k := 32) (by decide)
  have a1 : nvJ (x - ((jsu x 1) &&& 6148914691236517205)) = mpB s1B 8 (nvJ x) := by
    have e : nvJ ((jsu x 1) &&& 6148914691236517205) = ((nvJ x / 2) &&& mskB 85 8) := by rw [nvJ_and, c85, show jsu x 1 = jsu x ((1 : Nat) : Int) from rfl, k1]
    rw [nvJ_sub, e, pop1 (n := 8) hx]
    rw [e]
    exact Nat.le_trans Nat.and_le_left (Nat.div_le_self _ _)
  generalize hi1 : x - ((jsu x 1) &&& 6148914691236517205) = i1 at *
  have b2 : mpB s2B 8 (nvJ x) < 256 ^ 8 := mpB_lt (fun b h => (byte1 b h).2.1) 8 _
  have a2 : nvJ ((i1 &&& 3689348814741910323) + ((jsu i1 2) &&& 3689348814741910323)) = mpB s2B 8 (nvJ x) := by
    have e1 : nvJ (i1 &&& 3689348814741910323) = (mpB s1B 8 (nvJ x) &&& mskB 51 8) := by rw [nvJ_and, c51, a1]
    have e2 : nvJ ((jsu i1 2) &&& 3689348814741910323) = ((mpB s1B 8 (nvJ x) / 4) &&& mskB 51 8) := by rw [nvJ_and, c51, show jsu i1 2 = jsu i1 ((2 : Nat) : Int) from rfl, k2, a1]
    have q := pop2 8 (nvJ x)
    rw [nvJ_add (by rw [e1, e2, q]; exact b2), e1, e2, q]
  generalize hi2 : (i1 &&& 3689348814741910323) + ((jsu i1 2) &&& 3689348814741910323) = i2 at *
  have hs2 : mpB s2B 8 (nvJ x) + mpB s2B 8 (nvJ x) / 16 < 18446744073709551616 := by
    have q : mpB s2B 8 (nvJ x) ≤ mpB (fun _ => 68) 8 (nvJ x) := (mpB_sub (f := fun _ => 68) (g := s2B) (fun b h => by have := byte1 b h; omega) 8 (nvJ x)).2
    have r : mpB (fun _ => 68) 8 (nvJ x) = 4919131752989213764 := by simp only [mpB]
    omega
  have a3 : nvJ ((i2 + (jsu i2 4)) &&& 1085102592571150095) = mpB s3B 8 (nvJ x) := by
    have e2 : nvJ (jsu i2 4) = mpB s2B 8 (nvJ x) / 16 := by rw [show jsu i2 4 = jsu i2 ((4 : Nat) : Int) from rfl, k4, a2]
    rw [nvJ_and, c15, nvJ_add (by rw [a2, e2]; exact hs2), a2, e2, pop3]
  generalize hi3 : (i2 + (jsu i2 4)) &&& 1085102592571150095 = i3 at *
  have a4 : nvJ (i3 + (jsu i3 8)) = T1 := by
    have e2 : nvJ (jsu i3 8) = mpB s3B 8 (nvJ x) / 256 := by rw [show jsu i3 8 = jsu i3 ((8 : Nat) : Int) from rfl, k8, a3]
    rw [nvJ_add (by rw [a3, e2, ← h1]; exact l1), a3, e2, ← h1]
  generalize hi4 : i3 + (jsu i3 8) = i4 at *
  have a5 : nvJ (i4 + (jsu i4 16)) = T2 := by
    have e2 : nvJ (jsu i4 16) = T1 / 65536 := by rw [show jsu i4 16 = jsu i4 ((16 : Nat) : Int) from rfl, k16, a4]
    rw [nvJ_add (by rw [a4, e2, ← h2]; exact l2), a4, e2, ← h2]
  generalize hi5 : i4 + (jsu i4 16) = i5 at *
  have a6 : nvJ (i5 + (jsu i5 32)) = T3 := by
    have e2 : nvJ (jsu i5 32) = T2 / 4294967296 := by rw [show jsu i5 32 = jsu i5 ((32 : Nat) : Int) from rfl, k32, a5]
    rw [nvJ_add (by rw [a5, e2, ← h3]; exact l3), a5, e2, ← h3]
  rw [ian_m7, j2i_mod, a6, hp]
end
