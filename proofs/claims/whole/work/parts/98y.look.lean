/-! ===== look ===== -/
theorem ofI_toI (x : Int64) : Int64.ofInt x.toInt = x := Int64.ofInt_toInt x
theorem jsr_sh : ∀ k : Fin 64, (((I (k.val : Int)).toInt64 &&& 63).toBitVec.smod 64).toNat = k.val := by decide +kernel
theorem jsr_bit (x : Int64) {k : Nat} (hk : k < 64) : nvJ (jsr x k) % 2 = if (nvJ x).testBit k = true then 1 else 0 := by
  have hs := jsr_sh ⟨k, hk⟩
  have e : (nvJ (jsr x k)).testBit 0 = (nvJ x).testBit k := by
    unfold nvJ
    have e1 : (jsr x k).toBitVec = x.toBitVec.sshiftRight (((I (k : Int)).toInt64 &&& 63).toBitVec.smod 64).toNat := rfl
    rw [e1, show (((I (k : Int)).toInt64 &&& 63).toBitVec.smod 64).toNat = k from hs, BitVec.testBit_toNat, BitVec.testBit_toNat, BitVec.getLsbD_sshiftRight]
    simp [hk]
  rw [Nat.testBit_zero] at e
  have h2 : nvJ (jsr x k) % 2 < 2 := Nat.mod_lt _ (by decide)
  by_cases c : (nvJ x).testBit k = true
  · rw [if_pos c]
    rw [c] at e
    exact of_decide_eq_true e
  · rw [if_neg c]
    have : ¬(nvJ (jsr x k) % 2 = 1) := fun q => c (by rw [← e]; exact decide_eq_true q)
    omega
theorem jcm_0 (a b : Int64) : I (jcm a b) = I 0 ↔ a = b := by
  unfold jcm
  rw [I_of]
  unfold lg_cmp
  by_cases c : a > b
  · rw [if_pos c]
    exact ⟨fun q => absurd q (by decide), fun q => by rw [q] at c; exact absurd c (Int64.lt_irrefl)⟩
  · rw [if_neg c]
    by_cases d : a = b
    · rw [if_pos d]; exact ⟨fun _ => d, fun _ => rfl⟩
    · rw [if_neg d]; exact ⟨fun q => absurd q (by decide), fun q => absurd q d⟩
section
variable {sc : Nat × (Nat → Int32)} {SH : List mCell} {S : mStore}
theorem bit_eq (x : Int64) {k : Nat} (hk : k < 64) : (I (jcm ((jsr x k) &&& 1) 1) = I 0) ↔ (nvJ x).testBit k = true := by
  rw [jcm_0]
  have e1 : nvJ ((jsr x k) &&& 1) = nvJ (jsr x k) % 2 := by
    rw [nvJ_and, show nvJ 1 = 2 ^ 1 - 1 from rfl, Nat.and_two_pow_sub_one_eq_mod]
  rw [jsr_bit x hk] at e1
  constructor
  · intro q
    rw [q, show nvJ 1 = 1 from rfl] at e1
    by_cases c : (nvJ x).testBit k = true
    · exact c
    · rw [if_neg c] at e1; cases e1
  · intro c
    rw [if_pos c] at e1
    apply Int64.toBitVec_inj.mp
    apply BitVec.eq_of_toNat_eq
    exact e1
theorem ones_lp (x : Int64) : ∀ (n k : Nat) (m : Int), k + n = 49 → G sc MX11_ones 4 [some (.long x), none, some (.int (I m)), some (.int (I k))] [] SH S (rI (m + cnt (fun b => (nvJ x).testBit b.toNat) n k) SH S)
  | 0, k, m, hk => by
    refine qX11_ones_4 ?_
    rw [if_pos (by rw [I_lt ⟨by decide, by decide⟩ ⟨by omega, by omega⟩]; omega)]
    show rI (m + 0) SH S = rI m SH S
    rw [Int.add_zero]
  | n + 1, k, m, hk => by
    have e3 : ((k + 1 : Nat) : Int) = (k : Int) + 1 := by omega
    refine qX11_ones_4 ?_
    rw [if_neg (by rw [I_lt ⟨by decide, by decide⟩ ⟨by omega, by omega⟩]; omega)]
    have e : cnt (fun b => (nvJ x).testBit b.toNat) (n + 1) k = (if (nvJ x).testBit ((k : Int)).toNat = true then 1 else 0) + cnt (fun b => (nvJ x).testBit b.toNat) n ((k : Int) + 1) := rfl
    rw [e, Int.toNat_natCast]
    by_cases c : (nvJ x).testBit k = true
    · rw [if_pos ((bit_eq x (by omega)).mpr c), if_pos c]
      have q := ones_lp x n (k + 1) (m + 1) (by omega)
      rw [e3] at q
      rw [← Int.add_assoc]
      exact q
    · rw [if_neg (fun q => c ((bit_eq x (by omega)).mp q)), if_neg c]
      have q := ones_lp x n (k + 1) (m + 0) (by omega)
      rw [e3] at q
      rw [← Int.add_assoc]
      exact q
/-- a set of numbers below 49 -/
theorem ones_ok (x : Int64) (hx : ∀ k : Nat, 49 ≤ k → (nvJ x).testBit k = false) {u u' : Option Value} : G sc MX11_ones 0 [some (.long x), none, u, u'] [] SH S (rI (popN 64 (nvJ x)) SH S) := by
  refine qX11_ones_0 ?_
  have q := ones_lp (sc := sc) (SH := SH) (S := S) x 49 0 0 (by decide)
  have e := pop_cnt (nvJ x) 64 0
  rw [Nat.pow_zero, Nat.div_one, show (64 : Nat) = 49 + 15 from rfl, cnt_app, cnt_none (n := 15) (fun y a b => hx y.toNat (by omega)), Int.add_zero] at e
  rw [Int.zero_add, ← e] at q
  exact q
end
/-- the numbers of frames that are used behind a tick, by all guesses below one -/
def skJ (W : aW) (p c : Int) (t : Nat) : Nat → Int64
  | 0 => 0
  | v + 1 => if gsA W p c v = true then skJ W p c t v ||| jsl 1 (usedA W.1 (sqA W.1 (fitB W p c v) t)) else skJ W p c t v
theorem sk_hi {W : aW} (hP : wfP W.1) {p c : Int} {t : Nat} : ∀ (v : Nat) (k : Nat), 49 ≤ k → (nvJ (skJ W p c t v)).testBit k = false
  | 0, k, _ => by
    show (nvJ 0).testBit k = false
    rw [show nvJ 0 = 0 from rfl, Nat.zero_testBit]
  | v + 1, k, hk => by
    unfold skJ
    split
    · have ur := used_rg W.1 hP (sqA W.1 (fitB W p c v) t)
      rw [nvJ_or, Nat.testBit_or, sk_hi hP v k hk, jsl1' ⟨by omega, by omega⟩, Nat.testBit_two_pow, Bool.false_or]
      exact decide_eq_false (by omega)
    · exact sk_hi hP v k hk
def lkT (W : aW) (p c : Int) : Nat → Nat → Int → Int → Int × Int
  | 0, _, b, m => (b, m)
  | k + 1, t, b, m => if (popN 64 (nvJ (skJ W p c t 16)) : Int) ≤ m then lkT W p c k (t + 1) b m else lkT W p c k (t + 1) t (popN 64 (nvJ (skJ W p c t 16)))
def lookF (W : aW) (g p c x : Int) : aO := if plc W.1 g p = -1 then .inr 0 else if ¬(0 ≤ c ∧ c < 4) then .inr 0 else if ¬(x = 0 ∨ x = 1) then .inr 0 else .inl (if x = 0 then (lkT W (plc W.1 g p) c 20 1 (-1) 0).1 else (lkT W (plc W.1 g p) c 20 1 (-1) 0).2)
theorem popN_le : ∀ (n x : Nat), popN n x ≤ n
  | 0, _ => Nat.le_refl _
  | n + 1, x => by
    show x % 2 + popN n (x / 2) ≤ n + 1
    have := popN_le n (x / 2)
    omega
