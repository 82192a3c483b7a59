/-! ===== a cell of four is written ===== -/
theorem or_mid {s h n l : Nat} (hl : l < 2 ^ s) (hn : n < 16) : (2 ^ (s + 4) * h + l) ||| (2 ^ s * n) = 2 ^ (s + 4) * h + (2 ^ s * n + l) := by
  have e : 2 ^ (s + 4) = 2 ^ s * 16 := by rw [Nat.pow_add]
  have h1 : l < 2 ^ (s + 4) := by omega
  have h2 : 2 ^ s * n + l < 2 ^ (s + 4) := by
    have : 2 ^ s * n ≤ 2 ^ s * 15 := Nat.mul_le_mul_left _ (by omega)
    omega
  rw [Nat.two_pow_add_eq_or_of_lt h1, Nat.two_pow_add_eq_or_of_lt h2, Nat.two_pow_add_eq_or_of_lt hl, Nat.or_assoc, Nat.or_comm l]
theorem pc_go {v n : Int} (hv : 0 ≤ v ∧ v < 65536) (hn : 0 ≤ n ∧ n < 16) {s : Nat} (hs : s ≤ 12) (hk : ((I s &&& 31).toBitVec.smod 32).toNat = s) {m : Int} {M h l : Nat} (hm : ixr (isl 15 s) (-1) = m) (hM : (I m).toBitVec.toNat = M) (ha : v.toNat &&& M = 2 ^ (s + 4) * h + l) (hl : l < 2 ^ s) : iro (ian v (ixr (isl 15 s) (-1))) (isl n s) = ((2 ^ (s + 4) * h + (2 ^ s * n.toNat + l) : Nat) : Int) := by
  rw [hm, ian_m hv hM, isl_n hn.1 hn.2 hs hk]
  have hp : (2 : Nat) ^ s ≤ 2 ^ 12 := Nat.pow_le_pow_right (by decide) hs
  have hy : n * 2 ^ s = ((2 ^ s * n.toNat : Nat) : Int) := by
    rw [Int.natCast_mul, Int.toNat_of_nonneg hn.1, Int.mul_comm]
    rfl
  have hle : v.toNat &&& M ≤ v.toNat := Nat.and_le_left
  have hy2 : 2 ^ s * n.toNat ≤ 2 ^ 12 * 15 := Nat.mul_le_mul hp (by omega)
  rw [hy, iro_nn (by omega) (by omega) (by omega) (by omega), Int.toNat_natCast, Int.toNat_natCast, ha, or_mid hl (by omega)]
theorem pcell_v {v n : Int} (hv : 0 ≤ v ∧ v < 65536) (hn : 0 ≤ n ∧ n < 16) : pcell v 0 n = v - v / 4096 % 16 * 4096 + n * 4096 ∧ pcell v 1 n = v - v / 256 % 16 * 256 + n * 256 ∧ pcell v 2 n = v - v / 16 % 16 * 16 + n * 16 ∧ pcell v 3 n = v - v % 16 + n := by
  have hab : 256 * (v.toNat / 256) + v.toNat % 256 = v.toNat := Nat.div_add_mod ..
  have h1 : v.toNat / 256 < 256 := by omega
  have h2 : v.toNat % 256 < 256 := Nat.mod_lt _ (by decide)
  have m12 := msk12 ⟨_, h1⟩ ⟨_, h2⟩
  have m8 := msk8 ⟨_, h1⟩ ⟨_, h2⟩
  have m4 := msk4 ⟨_, h1⟩ ⟨_, h2⟩
  have m0 := msk0 ⟨_, h1⟩ ⟨_, h2⟩
  dsimp only at m12 m8 m4 m0
  rw [hab] at m12 m8 m4 m0
  unfold pcell
  refine ⟨?_, ?_, ?_, ?_⟩
  · rw [show (12 : Int) - 4 * 0 = ((12 : Nat) : Int) from rfl]
    rw [pc_go hv hn (s := 12) (h := 0) (l := v.toNat % 4096) (by decide) (by decide) (m := -61441) (M := 4294905855) (by decide) (by decide) (by rw [m12]; omega) (by omega)]
    omega
  · rw [show (12 : Int) - 4 * 1 = ((8 : Nat) : Int) from rfl]
    rw [pc_go hv hn (s := 8) (h := v.toNat / 4096) (l := v.toNat % 256) (by decide) (by decide) (m := -3841) (M := 4294963455) (by decide) (by decide) (by rw [m8]; omega) (by omega)]
    omega
  · rw [show (12 : Int) - 4 * 2 = ((4 : Nat) : Int) from rfl]
    rw [pc_go hv hn (s := 4) (h := v.toNat / 256) (l := v.toNat % 16) (by decide) (by decide) (m := -241) (M := 4294967055) (by decide) (by decide) (by rw [m4]; omega) (by omega)]
    omega
  · rw [show (12 : Int) - 4 * 3 = ((0 : Nat) : Int) from rfl]
    rw [pc_go hv hn (s := 0) (h := v.toNat / 16) (l := 0) (by decide) (by decide) (m := -16) (M := 4294967280) (by decide) (by decide) (by rw [m0]; omega) (by decide)]
    omega
theorem pcell_rg {v n c : Int} (hv : 0 ≤ v ∧ v < 65536) (hn : 0 ≤ n ∧ n < 16) (hc : 0 ≤ c ∧ c < 4) : 0 ≤ pcell v c n ∧ pcell v c n < 65536 := by
  obtain ⟨p0, p1, p2, p3⟩ := pcell_v hv hn
  have : c = 0 ∨ c = 1 ∨ c = 2 ∨ c = 3 := by omega
  rcases this with rfl | rfl | rfl | rfl
  · rw [p0]; omega
  · rw [p1]; omega
  · rw [p2]; omega
  · rw [p3]; omega
theorem nb_c {v c : Int} (hv : 0 ≤ v ∧ v < 65536) (hc : 0 ≤ c ∧ c < 4) : nb v (12 - 4 * c) = if c = 0 then v / 4096 % 16 else if c = 1 then v / 256 % 16 else if c = 2 then v / 16 % 16 else v % 16 := by
  have : c = 0 ∨ c = 1 ∨ c = 2 ∨ c = 3 := by omega
  rcases this with rfl | rfl | rfl | rfl
  · exact nb12 hv
  · exact nb8 hv
  · exact nb4 hv
  · exact nb0 hv
theorem nibs {A B C D x : Int} (hA : 0 ≤ A ∧ A < 16) (hB : 0 ≤ B ∧ B < 16) (hC : 0 ≤ C ∧ C < 16) (hD : 0 ≤ D ∧ D < 16) (hx : x = 4096 * A + 256 * B + 16 * C + D) : x / 4096 % 16 = A ∧ x / 256 % 16 = B ∧ x / 16 % 16 = C ∧ x % 16 = D := by
  have e1 : x / 4096 = A := by omega
  have e2 : x / 256 = 16 * A + B := by omega
  have e3 : x / 16 = 256 * A + 16 * B + C := by omega
  rw [e1, e2, e3]
  refine ⟨by omega, by omega, by omega, by omega⟩
theorem pcell_nb {v n c d : Int} (hv : 0 ≤ v ∧ v < 65536) (hn : 0 ≤ n ∧ n < 16) (hc : 0 ≤ c ∧ c < 4) (hd : 0 ≤ d ∧ d < 4) : nb (pcell v c n) (12 - 4 * d) = if d = c then n else nb v (12 - 4 * d) := by
  rw [nb_c (pcell_rg hv hn hc) hd, nb_c hv hd]
  obtain ⟨p0, p1, p2, p3⟩ := pcell_v hv hn
  have h1 : c = 0 ∨ c = 1 ∨ c = 2 ∨ c = 3 := by omega
  have h2 : d = 0 ∨ d = 1 ∨ d = 2 ∨ d = 3 := by omega
  have e : v = 4096 * (v / 4096 % 16) + 256 * (v / 256 % 16) + 16 * (v / 16 % 16) + v % 16 := by omega
  have b0 : 0 ≤ v / 4096 % 16 ∧ v / 4096 % 16 < 16 := by omega
  have b1 : 0 ≤ v / 256 % 16 ∧ v / 256 % 16 < 16 := by omega
  have b2 : 0 ≤ v / 16 % 16 ∧ v / 16 % 16 < 16 := by omega
  have b3 : 0 ≤ v % 16 ∧ v % 16 < 16 := by omega
  generalize v / 4096 % 16 = q0 at *
  generalize v / 256 % 16 = q1 at *
  generalize v / 16 % 16 = q2 at *
  generalize v % 16 = q3 at *
  clear hc hd
  rcases h1 with rfl | rfl | rfl | rfl
  · obtain ⟨n0, n1, n2, n3⟩ := nibs hn b1 b2 b3 (x := v - q0 * 4096 + n * 4096) (by omega)
    rw [p0, n0, n1, n2, n3]; rcases h2 with rfl | rfl | rfl | rfl <;> simp
  · obtain ⟨n0, n1, n2, n3⟩ := nibs b0 hn b2 b3 (x := v - q1 * 256 + n * 256) (by omega)
    rw [p1, n0, n1, n2, n3]; rcases h2 with rfl | rfl | rfl | rfl <;> simp
  · obtain ⟨n0, n1, n2, n3⟩ := nibs b0 b1 hn b3 (x := v - q2 * 16 + n * 16) (by omega)
    rw [p2, n0, n1, n2, n3]; rcases h2 with rfl | rfl | rfl | rfl <;> simp
  · obtain ⟨n0, n1, n2, n3⟩ := nibs b0 b1 b2 hn (x := v - q3 + n) (by omega)
    rw [p3, n0, n1, n2, n3]; rcases h2 with rfl | rfl | rfl | rfl <;> simp
/-- four cells tell a number -/
theorem nb_inj {v w : Int} (hv : 0 ≤ v ∧ v < 65536) (hw : 0 ≤ w ∧ w < 65536) (h : ∀ c, 0 ≤ c → c < 4 → nb v (12 - 4 * c) = nb w (12 - 4 * c)) : v = w := by
  have h0 := h 0 (by decide) (by decide)
  have h1 := h 1 (by decide) (by decide)
  have h2 := h 2 (by decide) (by decide)
  have h3 := h 3 (by decide) (by decide)
  rw [nb_c hv (by decide), nb_c hw (by decide)] at h0 h1 h2 h3
  simp at h0 h1 h2 h3
  omega
