/-! ===== bits of any number; what is drawn ===== -/
theorem I_bv (z : Int) : (((I z).toBitVec.toNat : Nat) : Int) = z % 4294967296 := by
  have e : (I z).toBitVec = BitVec.ofInt 32 z := rfl
  rw [e, BitVec.toNat_ofInt]
  omega
theorem I_two (z : Int) : ((I z).toInt = z % 4294967296 ∧ z % 4294967296 < 2147483648) ∨ ((I z).toInt = z % 4294967296 - 4294967296 ∧ 2147483648 ≤ z % 4294967296) := by
  have e : (I z).toInt = (I z).toBitVec.toInt := rfl
  rw [e, BitVec.toInt_eq_toNat_cond]
  have := I_bv z
  split
  · exact .inl ⟨by omega, by omega⟩
  · exact .inr ⟨by omega, by omega⟩
theorem ian_m15 (z : Int) : ian z 32767 = z % 32768 := by
  have hX := I_bv z
  have e : ian z 32767 = (((I z).toBitVec.toNat % 32768 : Nat) : Int) := by
    unfold ian
    refine toInt_nat ?_ (by omega)
    rw [Int32.toBitVec_and, BitVec.toNat_and, I_nat (x := 32767) (by decide) (by decide), show (32767 : Int).toNat = 2 ^ 15 - 1 from rfl, Nat.and_two_pow_sub_one_eq_mod]
  rw [e]
  omega
theorem ian_m8 (z : Int) : ian z 255 = z % 256 := by
  have hX := I_bv z
  have e : ian z 255 = (((I z).toBitVec.toNat % 256 : Nat) : Int) := by
    unfold ian
    refine toInt_nat ?_ (by omega)
    rw [Int32.toBitVec_and, BitVec.toNat_and, I_nat (x := 255) (by decide) (by decide), show (255 : Int).toNat = 2 ^ 8 - 1 from rfl, Nat.and_two_pow_sub_one_eq_mod]
  rw [e]
  omega
theorem isr_any (s : Int) {k : Nat} (hk : ((I k &&& 31).toBitVec.smod 32).toNat = k) : isr s k = (I s).toInt / 2 ^ k := by
  have e : isr s k = isr (I s).toInt k := by unfold isr; rw [I_of]
  rw [e]
  have := I_two s
  exact isr_k ⟨by omega, by omega⟩ hk
theorem isu_16 (s : Int) : isu s 16 = (((I s).toBitVec.toNat / 65536 : Nat) : Int) := by
  unfold isu
  refine toInt_nat ?_ ?_
  · show ((I s).toBitVec >>> (((I 16).toUInt32 &&& Int32.toUInt32 31).toBitVec % 32)).toNat = _
    rw [BitVec.ushiftRight_eq', BitVec.toNat_ushiftRight, Nat.shiftRight_eq_div_pow]
    rfl
  · have := (I s).toBitVec.isLt
    omega
theorem drw_eq (s : Int) : ian (isu s 16) 32767 = ian (isr s 16) 32767 := by
  have h1 := I_bv s
  have h2 := I_two s
  have e : isr s 16 = (I s).toInt / 65536 := isr_any s (k := 16) (by decide)
  rw [ian_m15, ian_m15, isu_16, e]
  omega
theorem ib8_sby (x : Int) : ib8 x = sby (x % 256) := by
  unfold ib8 sby
  rw [Int8.toInt_toInt32, Int32.toInt_toInt8, Int.bmod_def]
  have := I_two x
  show (if (I x).toInt % 256 < 128 then (I x).toInt % 256 else (I x).toInt % 256 - 256) = _
  have e : (I x).toInt % 256 = x % 256 := by omega
  rw [e]
def sdA (s : Int) : Int := s * 1103515245 + 12345
def drA (s n : Int) : Int := ian (isr s 16) 32767 % n
theorem drA_rg (s : Int) {n : Int} (hn : 0 < n) : 0 ≤ drA s n ∧ drA s n < n := ⟨Int.emod_nonneg _ (by omega), Int.emod_lt_of_pos _ hn⟩
/-- what befalls ahead of a tick: whether something couldn't be written, the state, the seed -/
def fallA (P : aP) (B : aS) (s : Int) : Bool × aS × Int :=
  if drA (sdA s) 4 = 3 ∨ P 0 7 = 0 then (false, B, sdA s)
  else if drA (sdA s) 4 = 0 then (decide ((putA P B (drA (sdA (sdA s)) (P 0 7)) (pcell (cellsA B (drA (sdA (sdA s)) (P 0 7))) (drA (sdA (sdA (sdA s))) 4) (drA (sdA (sdA (sdA (sdA s)))) 4))).1 = -1), (putA P B (drA (sdA (sdA s)) (P 0 7)) (pcell (cellsA B (drA (sdA (sdA s)) (P 0 7))) (drA (sdA (sdA (sdA s))) 4) (drA (sdA (sdA (sdA (sdA s)))) 4))).2, sdA (sdA (sdA (sdA s))))
  else if drA (sdA s) 4 = 1 then (decide ((putA P B (drA (sdA (sdA s)) (P 0 7)) (cellsA B (drA (sdA (sdA (sdA s))) (P 0 7)))).1 = -1), (putA P B (drA (sdA (sdA s)) (P 0 7)) (cellsA B (drA (sdA (sdA (sdA s))) (P 0 7)))).2, sdA (sdA (sdA s)))
  else (false, (dropA B (drA (sdA (sdA s)) (P 0 7))).2, sdA (sdA s))
def yrA (P : aP) : Nat → Int → Int → aS → Int → Int × Int × aS
  | 0, l, f, B, _ => (l, f, B)
  | n + 1, l, f, B, s => yrA P n (l + (tickA P 1 (fallA P B s).2.1).1) (f + if (fallA P B s).1 = true then 1 else 0) (tickA P 1 (fallA P B s).2.1).2 (fallA P B s).2.2
def yrT (P : aP) (r : Int × Int × aS) (x : Int) : Int := if x = 1 then usedA P r.2.2 else if x = 0 then r.1 else r.2.1
def yearsF (W : aW) (s n x : Int) : aO := if ¬(0 ≤ x ∧ x ≤ 2) then .inr 0 else if ¬(0 ≤ n ∧ n ≤ 60) then .inr 1 else .inl (yrT W.1 (yrA W.1 n.toNat 0 0 W.2.1.1 s) x)
theorem wf_fall {P : aP} (hP : wfP P) {B : aS} (hB : wfA P B) (s : Int) : wfA P (fallA P B s).2.1 := by
  unfold fallA
  have hP7 := hP.2.2.2.2.2.1
  by_cases c : drA (sdA s) 4 = 3 ∨ P 0 7 = 0
  · rw [if_pos c]; exact hB
  rw [if_neg c]
  have h7 : 0 < P 0 7 := by omega
  have hp := drA_rg (sdA (sdA s)) h7
  by_cases c2 : drA (sdA s) 4 = 0
  · rw [if_pos c2]
    have h3 := drA_rg (sdA (sdA (sdA s))) (n := 4) (by decide)
    have h4 := drA_rg (sdA (sdA (sdA (sdA s)))) (n := 4) (by decide)
    exact wf_put hP hB hp (pcell_rg (cellsA_rg hB _) ⟨h4.1, by omega⟩ h3)
  rw [if_neg c2]
  by_cases c3 : drA (sdA s) 4 = 1
  · rw [if_pos c3]; exact wf_put hP hB hp (cellsA_rg hB _)
  · rw [if_neg c3]; exact wf_drop hP hB hp
section
variable {sc : Nat × (Nat → Int32)} {SH : List mCell} {F : Nat → Nat → Option Nat} {S S' : mStore} {e : Nat} {W : aW} {N : Int} {P : aP} {B : aS}
theorem draw_cl (h0 : sDraws SH) {n s : Int} (hn : 0 < n ∧ n < 2147483648) (hs : S 87 0 = s) : G sc MX2_drawOf 0 [some (.ref 87), some (.int (I n))] [] SH S (rI (drA (sdA s) n) SH (up S 87 0 (sdA s))) := by
  refine qX2_drawOf_0 h0 ?_
  have hv := ian_m15 (isr (sdA s) 16)
  rw [if_neg (by rw [I_le ⟨by omega, by omega⟩ ⟨by decide, by decide⟩]; omega), hs, up_eq, show s * 1103515245 + 12345 = sdA s from rfl, drw_eq, idv_nn (by omega) (by omega) hn.1 hn.2]
  refine ⟨by rw [ne_eq, I_eq ⟨by omega, by omega⟩ ⟨by decide, by decide⟩]; omega, ?_⟩
  unfold drA
  rw [Int.emod_def, Int.mul_comm n]
theorem draw_md (h0 : sMod SH) {n s : Int} (hn : 0 < n ∧ n < 2147483648) (hs : S 90 58 = s) : G sc MX11_draw 0 [some (.ref 90), some (.int (I n))] [] SH S (rI (drA (sdA s) n) SH (up S 90 58 (sdA s))) := by
  refine qX11_draw_0 h0 ?_
  have hv := ian_m15 (isr (sdA s) 16)
  rw [hs, up_eq, show s * 1103515245 + 12345 = sdA s from rfl, idv_nn (by omega) (by omega) hn.1 hn.2]
  refine ⟨by rw [ne_eq, I_eq ⟨by omega, by omega⟩ ⟨by decide, by decide⟩]; omega, ?_⟩
  unfold drA
  rw [Int.emod_def, Int.mul_comm n]
end
