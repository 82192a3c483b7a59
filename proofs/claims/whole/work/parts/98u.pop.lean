/-! ===== how many bits are set ===== -/
def popN : Nat → Nat → Nat
  | 0, _ => 0
  | n + 1, x => x % 2 + popN n (x / 2)
theorem popN_add : ∀ (a b x : Nat), popN (a + b) x = popN a (x % 2 ^ a) + popN b (x / 2 ^ a)
  | 0, b, x => by simp [popN]
  | a + 1, b, x => by
    rw [Nat.add_right_comm]
    show x % 2 + popN (a + b) (x / 2) = x % 2 ^ (a + 1) % 2 + popN a (x % 2 ^ (a + 1) / 2) + popN b (x / 2 ^ (a + 1))
    rw [popN_add a b (x / 2), Nat.div_div_eq_div_mul, Nat.pow_succ, Nat.mul_comm (2 ^ a) 2, Nat.mod_mul_right_div_self, Nat.mod_mul_right_mod]
    omega
/-- each byte goes its way -/
def mpB (f : Nat → Nat) : Nat → Nat → Nat
  | 0, _ => 0
  | n + 1, x => f (x % 256) + 256 * mpB f n (x / 256)
def mskB (m : Nat) : Nat → Nat
  | 0 => 0
  | n + 1 => m + 256 * mskB m n
theorem land256 {a c m d : Nat} (hc : c < 256) (hd : d < 256) : (c + 256 * a) &&& (d + 256 * m) = (c &&& d) + 256 * (a &&& m) := by
  have h1 : ((c + 256 * a) &&& (d + 256 * m)) % 2 ^ 8 = (c &&& d) := by
    rw [Nat.and_mod_two_pow, show (c + 256 * a) % 2 ^ 8 = c by omega, show (d + 256 * m) % 2 ^ 8 = d by omega]
  have h2 : ((c + 256 * a) &&& (d + 256 * m)) / 2 ^ 8 = (a &&& m) := by
    rw [Nat.and_div_two_pow, show (c + 256 * a) / 2 ^ 8 = a by omega, show (d + 256 * m) / 2 ^ 8 = m by omega]
  omega
theorem mpB_id : ∀ (n x : Nat), x < 256 ^ n → mpB (fun b => b) n x = x
  | 0, x, h => by
    have : x < 1 := h
    show 0 = x
    omega
  | n + 1, x, h => by
    show x % 256 + 256 * mpB (fun b => b) n (x / 256) = x
    rw [mpB_id n (x / 256) (by rw [Nat.pow_succ] at h; exact Nat.div_lt_of_lt_mul (by rw [Nat.mul_comm]; exact h))]
    omega
theorem mpB_mod {f : Nat → Nat} (hf : ∀ b, b < 256 → f b < 256) (n x : Nat) : mpB f (n + 1) x % 256 = f (x % 256) := by
  show (f (x % 256) + 256 * mpB f n (x / 256)) % 256 = _
  have := hf (x % 256) (Nat.mod_lt _ (by decide))
  omega
theorem mpB_sub {f g : Nat → Nat} (h : ∀ b, b < 256 → g b ≤ f b) : ∀ (n x : Nat), mpB f n x - mpB g n x = mpB (fun b => f b - g b) n x ∧ mpB g n x ≤ mpB f n x
  | 0, _ => ⟨rfl, Nat.le_refl _⟩
  | n + 1, x => by
    have q := mpB_sub h n (x / 256)
    have := h (x % 256) (Nat.mod_lt _ (by decide))
    refine ⟨?_, ?_⟩
    · show f (x % 256) + 256 * mpB f n (x / 256) - (g (x % 256) + 256 * mpB g n (x / 256)) = f (x % 256) - g (x % 256) + 256 * mpB (fun b => f b - g b) n (x / 256)
      rw [← q.1]
      have := q.2
      omega
    · show g (x % 256) + 256 * mpB g n (x / 256) ≤ f (x % 256) + 256 * mpB f n (x / 256)
      have := q.2
      omega
theorem mpB_plus {f g : Nat → Nat} : ∀ (n x : Nat), mpB f n x + mpB g n x = mpB (fun b => f b + g b) n x
  | 0, _ => rfl
  | n + 1, x => by
    show f (x % 256) + 256 * mpB f n (x / 256) + (g (x % 256) + 256 * mpB g n (x / 256)) = f (x % 256) + g (x % 256) + 256 * mpB (fun b => f b + g b) n (x / 256)
    rw [← mpB_plus n (x / 256)]
    omega
theorem mpB_lt {f : Nat → Nat} (hf : ∀ b, b < 256 → f b < 256) : ∀ (n x : Nat), mpB f n x < 256 ^ n
  | 0, _ => by show 0 < 1; decide
  | n + 1, x => by
    show f (x % 256) + 256 * mpB f n (x / 256) < 256 ^ (n + 1)
    have := hf (x % 256) (Nat.mod_lt _ (by decide))
    have := mpB_lt hf n (x / 256)
    rw [Nat.pow_succ]
    omega
/-- bytes that are shifted by some bits and masked -/
theorem mpB_shift {f : Nat → Nat} {k j m : Nat} (hf : ∀ b, b < 256 → f b < 256) (hk : k * j = 256) (hj : 0 < k) (hm : m < 256) (hd : ∀ d, d < 256 → ∀ c, c < k → (d / k + j * c) &&& m = (d / k) &&& m) : ∀ (n x : Nat), (mpB f n x / k) &&& mskB m n = mpB (fun b => (f b / k) &&& m) n x
  | 0, _ => by show (0 / k) &&& 0 = 0; simp
  | n + 1, x => by
    have hb := hf (x % 256) (Nat.mod_lt _ (by decide))
    generalize hY : mpB f n (x / 256) = Y at *
    have ih := mpB_shift hf hk hj hm hd n (x / 256)
    rw [hY] at ih
    show ((f (x % 256) + 256 * mpB f n (x / 256)) / k) &&& (m + 256 * mskB m n) = ((f (x % 256) / k) &&& m) + 256 * mpB (fun b => (f b / k) &&& m) n (x / 256)
    rw [hY, ← ih]
    have e1 : (f (x % 256) + 256 * Y) / k = f (x % 256) / k + j * Y := by
      rw [← hk, Nat.mul_assoc, Nat.add_mul_div_left _ _ hj]
    have e2 : f (x % 256) / k + j * Y = (f (x % 256) / k + j * (Y % k)) + 256 * (Y / k) := by
      have := Nat.div_add_mod Y k
      have e3 : j * Y = j * (k * (Y / k)) + j * (Y % k) := by rw [← Nat.mul_add, this]
      have e4 : j * (k * (Y / k)) = 256 * (Y / k) := by rw [← Nat.mul_assoc, Nat.mul_comm j k, hk]
      omega
    have hc : Y % k < k := Nat.mod_lt _ hj
    have hlt : f (x % 256) / k + j * (Y % k) < 256 := by
      have h1 : f (x % 256) / k < j := Nat.div_lt_of_lt_mul (by rw [hk]; exact hb)
      have h2 : j * (Y % k) + j ≤ j * k := by
        have : j * (Y % k) + j = j * (Y % k + 1) := by rw [Nat.mul_succ]
        rw [this]
        exact Nat.mul_le_mul_left j hc
      rw [Nat.mul_comm j k, hk] at h2
      omega
    rw [e1, e2, land256 hlt hm, hd _ hb _ hc]
def s1B (b : Nat) : Nat := b - ((b / 2) &&& 85)
def s2B (b : Nat) : Nat := (s1B b &&& 51) + ((s1B b / 4) &&& 51)
def s3B (b : Nat) : Nat := s2B b % 16 + s2B b / 16
theorem byte1 : ∀ b, b < 256 → s1B b < 256 ∧ s2B b < 256 ∧ s2B b % 16 ≤ 4 ∧ s2B b / 16 ≤ 4 ∧ s3B b = popN 8 b ∧ ((b / 2) &&& 85) ≤ b := by decide +kernel
theorem d85 : ∀ d, d < 256 → ∀ c, c < 2 → (d / 2 + 128 * c) &&& 85 = (d / 2) &&& 85 := by decide +kernel
theorem d51 : ∀ d, d < 256 → ∀ c, c < 4 → (d / 4 + 64 * c) &&& 51 = (d / 4) &&& 51 := by decide +kernel
theorem d51' : ∀ d, d < 256 → ∀ c, c < 1 → (d / 1 + 256 * c) &&& 51 = (d / 1) &&& 51 := by decide +kernel
theorem l15 : ∀ d, d < 256 → d % 16 ≤ 4 → d / 16 ≤ 4 → ∀ c, c ≤ 4 → (d + d / 16 + 16 * c) &&& 15 = d % 16 + d / 16 := by decide +kernel
theorem pop1 {n x : Nat} (hx : x < 256 ^ n) : x - ((x / 2) &&& mskB 85 n) = mpB s1B n x := by
  have q := mpB_shift (f := fun b => b) (k := 2) (j := 128) (m := 85) (fun b h => h) (by decide) (by decide) (by decide) d85 n x
  rw [mpB_id n x hx] at q
  rw [q]
  have r := (mpB_sub (f := fun b => b) (g := fun b => (b / 2) &&& 85) (fun b h => (byte1 b h).2.2.2.2.2) n x).1
  rw [mpB_id n x hx] at r
  exact r
theorem pop2 (n x : Nat) : ((mpB s1B n x) &&& mskB 51 n) + ((mpB s1B n x / 4) &&& mskB 51 n) = mpB s2B n x := by
  have q := mpB_shift (f := s1B) (k := 4) (j := 64) (m := 51) (fun b h => (byte1 b h).1) (by decide) (by decide) (by decide) d51 n x
  have r := mpB_shift (f := s1B) (k := 1) (j := 256) (m := 51) (fun b h => (byte1 b h).1) (by decide) (by decide) (by decide) d51' n x
  rw [Nat.div_one] at r
  rw [q, r, mpB_plus]
  have e : (fun b => (s1B b / 1 &&& 51) + (s1B b / 4 &&& 51)) = s2B := by
    funext b
    rw [Nat.div_one]
    rfl
  rw [e]
theorem pop3 : ∀ (n x : Nat), ((mpB s2B n x + mpB s2B n x / 16) &&& mskB 15 n) = mpB s3B n x
  | 0, _ => by show (0 + 0 / 16) &&& 0 = 0; simp
  | n + 1, x => by
    have hb := byte1 (x % 256) (Nat.mod_lt _ (by decide))
    have ih := pop3 n (x / 256)
    have h16 : mpB s2B n (x / 256) % 16 ≤ 4 := by
      cases n with
      | zero => show 0 % 16 ≤ 4; decide
      | succ m =>
        have q := mpB_mod (f := s2B) (fun b h => (byte1 b h).2.1) m (x / 256)
        have r := byte1 (x / 256 % 256) (Nat.mod_lt _ (by decide))
        omega
    show (s2B (x % 256) + 256 * mpB s2B n (x / 256) + (s2B (x % 256) + 256 * mpB s2B n (x / 256)) / 16) &&& (15 + 256 * mskB 15 n) = s3B (x % 256) + 256 * mpB s3B n (x / 256)
    rw [← ih]
    generalize mpB s2B n (x / 256) = Y at *
    have e : s2B (x % 256) + 256 * Y + (s2B (x % 256) + 256 * Y) / 16 = (s2B (x % 256) + s2B (x % 256) / 16 + 16 * (Y % 16)) + 256 * (Y + Y / 16) := by omega
    rw [e, land256 (by omega) (by decide), l15 _ hb.2.1 hb.2.2.1 hb.2.2.2.1 _ h16]
    rfl
