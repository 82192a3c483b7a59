theorem pop_mp (x : Nat) : ∃ t0 t1 t2 t3 t4 t5 t6 t7 : Nat, (t0 ≤ 8 ∧ t1 ≤ 8 ∧ t2 ≤ 8 ∧ t3 ≤ 8 ∧ t4 ≤ 8 ∧ t5 ≤ 8 ∧ t6 ≤ 8 ∧ t7 ≤ 8) ∧ mpB s3B 8 x = t0 + 256 * (t1 + 256 * (t2 + 256 * (t3 + 256 * (t4 + 256 * (t5 + 256 * (t6 + 256 * t7)))))) ∧ popN 64 x = t0 + t1 + t2 + t3 + t4 + t5 + t6 + t7 := by
  have hb : ∀ y : Nat, s3B (y % 256) = popN 8 (y % 256) ∧ s3B (y % 256) ≤ 8 := fun y => by
    have q := byte1 (y % 256) (Nat.mod_lt _ (by decide))
    exact ⟨q.2.2.2.2.1, by unfold s3B; omega⟩
  have hp : ∀ n y, popN (8 + n) y = popN 8 (y % 256) + popN n (y / 256) := fun n y => popN_add 8 n y
  refine ⟨s3B (x % 256), s3B (x / 256 % 256), s3B (x / 256 / 256 % 256), s3B (x / 256 / 256 / 256 % 256), s3B (x / 256 / 256 / 256 / 256 % 256), s3B (x / 256 / 256 / 256 / 256 / 256 % 256), s3B (x / 256 / 256 / 256 / 256 / 256 / 256 % 256), s3B (x / 256 / 256 / 256 / 256 / 256 / 256 / 256 % 256), ⟨(hb _).2, (hb _).2, (hb _).2, (hb _).2, (hb _).2, (hb _).2, (hb _).2, (hb _).2⟩, by simp only [mpB, Nat.mul_zero, Nat.add_zero], ?_⟩
  have e : popN 64 x = popN 8 (x % 256) + (popN 8 (x / 256 % 256) + (popN 8 (x / 256 / 256 % 256) + (popN 8 (x / 256 / 256 / 256 % 256) + (popN 8 (x / 256 / 256 / 256 / 256 % 256) + (popN 8 (x / 256 / 256 / 256 / 256 / 256 % 256) + (popN 8 (x / 256 / 256 / 256 / 256 / 256 / 256 % 256) + (popN 8 (x / 256 / 256 / 256 / 256 / 256 / 256 / 256 % 256) + popN 0 (x / 256 / 256 / 256 / 256 / 256 / 256 / 256 / 256)))))))) := by
    rw [show 64 = 8 + (8 + (8 + (8 + (8 + (8 + (8 + (8 + 0))))))) from rfl, hp, hp, hp, hp, hp, hp, hp, hp]
  rw [e, (hb x).1, (hb (x / 256)).1, (hb (x / 256 / 256)).1, (hb (x / 256 / 256 / 256)).1, (hb (x / 256 / 256 / 256 / 256)).1, (hb (x / 256 / 256 / 256 / 256 / 256)).1, (hb (x / 256 / 256 / 256 / 256 / 256 / 256)).1, (hb (x / 256 / 256 / 256 / 256 / 256 / 256 / 256)).1]
  show _ + (_ + (_ + (_ + (_ + (_ + (_ + (_ + 0))))))) = _
  omega
theorem dv8 {a Z : Nat} (h : a < 256) : (a + 256 * Z) / 256 = Z := by omega
theorem dv16 {a b Z : Nat} (h : a < 256) (hb : b < 256) : (a + 256 * (b + 256 * Z)) / 65536 = Z := by omega
theorem dv32 {a b c d Z : Nat} (ha : a < 256) (hb : b < 256) (hc : c < 256) (hd : d < 256) : (a + 256 * (b + 256 * (c + 256 * (d + 256 * Z)))) / 4294967296 = Z := by
  have e : a + 256 * (b + 256 * (c + 256 * (d + 256 * Z))) = (a + 256 * b + 65536 * c + 16777216 * d) + 4294967296 * Z := by omega
  rw [e, Nat.add_mul_div_left _ _ (by decide), Nat.div_eq_of_lt (by omega), Nat.zero_add]
/-- the sums of the bytes -/
theorem pop4 (x : Nat) : ∃ T1 T2 T3 : Nat, T1 = mpB s3B 8 x + mpB s3B 8 x / 256 ∧ T2 = T1 + T1 / 65536 ∧ T3 = T2 + T2 / 4294967296 ∧ T1 < 18446744073709551616 ∧ T2 < 18446744073709551616 ∧ T3 < 18446744073709551616 ∧ T3 % 128 = popN 64 x := by
  obtain ⟨t0, t1, t2, t3, t4, t5, t6, t7, ⟨h0, h1, h2, h3, h4, h5, h6, h7⟩, hm, hp⟩ := pop_mp x
  rw [hm, hp]
  have e1 : t0 + 256 * (t1 + 256 * (t2 + 256 * (t3 + 256 * (t4 + 256 * (t5 + 256 * (t6 + 256 * t7)))))) + (t0 + 256 * (t1 + 256 * (t2 + 256 * (t3 + 256 * (t4 + 256 * (t5 + 256 * (t6 + 256 * t7))))))) / 256 = (t0 + t1) + 256 * ((t1 + t2) + 256 * ((t2 + t3) + 256 * ((t3 + t4) + 256 * ((t4 + t5) + 256 * ((t5 + t6) + 256 * ((t6 + t7) + 256 * t7)))))) := by
    rw [dv8 (by omega)]
    clear hm hp h0 h1 h2 h3 h4 h5 h6 h7
    omega
  have e2 : (t0 + t1) + 256 * ((t1 + t2) + 256 * ((t2 + t3) + 256 * ((t3 + t4) + 256 * ((t4 + t5) + 256 * ((t5 + t6) + 256 * ((t6 + t7) + 256 * t7)))))) + ((t0 + t1) + 256 * ((t1 + t2) + 256 * ((t2 + t3) + 256 * ((t3 + t4) + 256 * ((t4 + t5) + 256 * ((t5 + t6) + 256 * ((t6 + t7) + 256 * t7))))))) / 65536 = (t0 + t1 + t2 + t3) + 256 * ((t1 + t2 + t3 + t4) + 256 * ((t2 + t3 + t4 + t5) + 256 * ((t3 + t4 + t5 + t6) + 256 * ((t4 + t5 + t6 + t7) + 256 * ((t5 + t6 + t7) + 256 * ((t6 + t7) + 256 * t7)))))) := by
    rw [dv16 (by omega) (by omega)]
    clear hm hp h0 h1 h2 h3 h4 h5 h6 h7 e1
    omega
  have e3 : ((t0 + t1 + t2 + t3) + 256 * ((t1 + t2 + t3 + t4) + 256 * ((t2 + t3 + t4 + t5) + 256 * ((t3 + t4 + t5 + t6) + 256 * ((t4 + t5 + t6 + t7) + 256 * ((t5 + t6 + t7) + 256 * ((t6 + t7) + 256 * t7))))))) / 4294967296 = (t4 + t5 + t6 + t7) + 256 * ((t5 + t6 + t7) + 256 * ((t6 + t7) + 256 * t7)) := dv32 (by omega) (by omega) (by omega) (by omega)
  refine ⟨_, _, _, rfl, rfl, rfl, ?_, ?_, ?_, ?_⟩
  · rw [e1]; clear hm hp e1 e2 e3; omega
  · rw [e1, e2]; clear hm hp e1 e2 e3; omega
  · rw [e1, e2, e3]; clear hm hp e1 e2 e3; omega
  · rw [e1, e2, e3]
    clear hm hp e1 e2 e3
    generalize (t1 + t2 + t3 + t4) + 256 * ((t2 + t3 + t4 + t5) + 256 * ((t3 + t4 + t5 + t6) + 256 * ((t4 + t5 + t6 + t7) + 256 * ((t5 + t6 + t7) + 256 * ((t6 + t7) + 256 * t7))))) = K
    generalize (t5 + t6 + t7) + 256 * ((t6 + t7) + 256 * t7) = L
    omega
