/-! ===== operations under bounds ===== -/
theorem bm32 {z : Int} (h1 : -2147483648 ≤ z) (h2 : z < 2147483648) : z.bmod (2 ^ 32) = z := by
  rw [Int.bmod_def]
  rw [show (((2 ^ 32 : Nat)) : Int) = 4294967296 from rfl]
  omega
theorem idv_nn {x y : Int} (hx : 0 ≤ x) (hx2 : x < 2147483648) (hy : 0 < y) (hy2 : y < 2147483648) : idv x y = x / y := by
  unfold idv
  rw [Int32.toInt_div, I_toInt ⟨by omega, by omega⟩, I_toInt ⟨by omega, by omega⟩, Int.tdiv_eq_ediv_of_nonneg hx]
  have h1 : 0 ≤ x / y := Int.ediv_nonneg hx (by omega)
  have h2 : x / y ≤ x := Int.ediv_le_self y hx
  exact bm32 (by omega) (by omega)
theorem idv2 {x : Int} (hx : 0 ≤ x) (hx2 : x < 2147483648) : idv x 2 = x / 2 := idv_nn hx hx2 (by decide) (by decide)
