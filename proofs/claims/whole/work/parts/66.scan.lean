/-! ===== the class's State: a scan, ticks ===== -/
def setupA (A : aS) (p : Int) : aS := ((A.sv 6 9 (p + 1)).sv 6 4 (A.v 6 4 + 1)).sv 6 11 (A.v 6 11 + 1)
def ageA (A : aS) (p what : Int) : Int := if what = 7 ∨ what = 9 then A.v 4 p + 1 else 0
def midA (A : aS) (p what : Int) : aS := if what = 3 then A.sv 2 p what else ((A.sv 2 p what).sv 4 p (ageA A p what)).sv 5 p (restA (ageA A p what))
def scanT (A : aS) (p what : Int) : Int × aS :=
  if what = 4 then (1, ((midA A p what).sv 6 7 (A.v 6 7 + 1)).sv 6 10 (A.v 6 10 + 1))
  else if what = 5 then (1, ((midA A p what).sv 6 5 (A.v 6 5 + 1)).sv 6 10 (A.v 6 10 + 1))
  else if what = 8 then (1, ((midA A p what).sv 6 6 (A.v 6 6 + 1)).sv 6 10 (A.v 6 10 + 1))
  else (0, midA A p what)
def scanP (P : aP) (A : aS) (p : Int) : Int × aS := scanT (befA P (setupA A p) p).2 p (befA P (setupA A p) p).1
def scanA (P : aP) (A : aS) : Int × aS :=
  if advF P A (A.v 6 9) ≠ -1 then scanP P A (advF P A (A.v 6 9))
  else if advF P A 0 = -1 then (0, A) else scanP P (endA P A) (advF P A 0)
def scanN (P : aP) : Nat → aS → Int × aS
  | 0, A => (0, A)
  | n + 1, A => ((scanA P A).1 + (scanN P n (scanA P A).2).1, (scanN P n (scanA P A).2).2)
def tockA (P : aP) (A : aS) : Int × aS := ((scanN P (A.v 6 0).toNat A).1, (scanN P (A.v 6 0).toNat A).2.sv 6 2 ((scanN P (A.v 6 0).toNat A).2.v 6 2 + 1))
def tickA (P : aP) : Nat → aS → Int × aS
  | 0, A => (0, A)
  | n + 1, A => ((tockA P A).1 + (tickA P n (tockA P A).2).1, (tickA P n (tockA P A).2).2)
theorem lookA_rg (P : aP) (A : aS) (p : Int) : 5 ≤ (lookA P A p).1 ∧ (lookA P A p).1 ≤ 9 := by
  unfold lookA
  split
  · dsimp only; omega
  · split
    · split
      · dsimp only; omega
      · split <;> (dsimp only; omega)
    · dsimp only; omega
theorem befA_rg (P : aP) (A : aS) (p : Int) : 1 ≤ (befA P A p).1 ∧ (befA P A p).1 ≤ 9 := by
  unfold befA
  split
  · dsimp only; omega
  · split
    · dsimp only; omega
    · split
      · dsimp only; omega
      · split
        · dsimp only; omega
        · have := lookA_rg P A p; omega
theorem scanT_rg (A : aS) (p w : Int) : 0 ≤ (scanT A p w).1 ∧ (scanT A p w).1 ≤ 1 := by
  unfold scanT
  split
  · dsimp only; omega
  · split
    · dsimp only; omega
    · split <;> (dsimp only; omega)
theorem scanA_rg (P : aP) (A : aS) : 0 ≤ (scanA P A).1 ∧ (scanA P A).1 ≤ 1 := by
  unfold scanA
  split
  · exact scanT_rg ..
  · split
    · dsimp only; omega
    · exact scanT_rg ..
theorem advF_rg {P : aP} {A : aS} {p : Int} (hP : wfP P) (h0 : 0 ≤ p) : advF P A p = -1 ∨ (p ≤ advF P A p ∧ advF P A p < P 0 7) := by
  unfold advF
  rcases fnd_rg (fun p => decide (A.v 1 p = 1)) (P 0 7 - p).toNat p with h | h
  · exact .inl h
  · right; omega
section
variable {P : aP} {A : aS}
theorem wf_end (hP : wfP P) (hA : wfA P A) : wfA P (endA P A) := by
  have hr := rateA_rg hP hA
  have h1 : wfA P (A.stw (fun _ => .leaf ())) := by
    obtain ⟨c1, c2, c3, c4, c5, c6, c7, c8, c9, c10, c11⟩ := hA
    exact ⟨c1, c2, c3, wfT_nil, c5, c6, c7, c8, c9, fun ρ p a b h => absurd h List.not_mem_nil, c11⟩
  have n : ∀ {B : aS} {i : Int}, i ≠ 9 → (i = 9 → ∀ ρ p, 0 ≤ ρ → ρ < 3 → p ∈ lb (B.tw ρ) → p < (0 : Int)) := fun h q => absurd q h
  refine wf_v6 (wf_v6 (wf_v6 (wf_v6 (wf_v6 h1 (fun _ => hr) (fun h => absurd h (by decide)) (fun h => absurd h (by decide))) (fun h => absurd h (by decide)) (fun h => absurd h (by decide)) (fun h => absurd h (by decide))) (fun h => absurd h (by decide)) (fun h => absurd h (by decide)) (fun h => absurd h (by decide))) (fun h => absurd h (by decide)) (fun _ => by omega) (fun _ ρ p a b h => absurd h List.not_mem_nil)) (fun h => absurd h (by decide)) (fun h => absurd h (by decide)) (fun h => absurd h (by decide))
theorem wf_setup (hP : wfP P) (hA : wfA P A) {p : Int} (hp : A.v 6 9 ≤ p ∧ p < P 0 7) : wfA P (setupA A p) := by
  have hP7 := hP.2.2.2.2.2.1
  have h9 := hA.2.2.2.2.2.2.2.2.2.2.2.2.2
  exact wf_v6 (wf_v6 (wf_v6 hA (fun h => absurd h (by decide)) (fun _ => by omega) (fun _ ρ q a b h => by have := (hA.2.2.2.2.2.2.2.2.2.1 ρ q a b h).2.2.1; omega)) (fun h => absurd h (by decide)) (fun h => absurd h (by decide)) (fun h => absurd h (by decide))) (fun h => absurd h (by decide)) (fun h => absurd h (by decide)) (fun h => absurd h (by decide))
theorem setup9 (A : aS) (p : Int) : (setupA A p).v 6 9 = p + 1 := by
  show up (up (up A.v 6 9 (p + 1)) 6 4 (A.v 6 4 + 1)) 6 11 (A.v 6 11 + 1) 6 9 = p + 1
  rw [up_at, if_neg (by decide), up_at, if_neg (by decide), up_at, if_pos rfl]
theorem cur_no (hA : wfA P A) {p : Int} (hp : A.v 6 9 ≤ p) : ∀ ρ, 0 ≤ ρ → ρ < 3 → p ∉ lb (A.tw ρ) := fun ρ a b h => by
  have := (hA.2.2.2.2.2.2.2.2.2.1 ρ p a b h).2.2.1; omega
theorem wf_mid (hA : wfA P A) {p w : Int} : wfA P (midA A p w) := by
  unfold midA
  split
  · exact wf_vj hA (by decide)
  · exact wf_vj (wf_vj (wf_vj hA (by decide)) (by decide)) (by decide)
theorem wf_scanT (hA : wfA P A) {p w : Int} : wfA P (scanT A p w).2 := by
  have n : ∀ {B : aS} {i y : Int}, wfA P B → i ≠ 0 → i ≠ 9 → wfA P (B.sv 6 i y) := fun h a b => wf_v6 h (fun q => absurd q a) (fun q => absurd q b) (fun q => absurd q b)
  unfold scanT
  split
  · exact n (n (wf_mid hA) (by decide) (by decide)) (by decide) (by decide)
  · split
    · exact n (n (wf_mid hA) (by decide) (by decide)) (by decide) (by decide)
    · split
      · exact n (n (wf_mid hA) (by decide) (by decide)) (by decide) (by decide)
      · exact wf_mid hA
theorem wf_scanP (hP : wfP P) (hA : wfA P A) {p : Int} (hp : A.v 6 9 ≤ p ∧ p < P 0 7) : wfA P (scanP P A p).2 := by
  have h9 := hA.2.2.2.2.2.2.2.2.2.2.2.2.2
  exact wf_scanT (wf_bef hP (wf_setup hP hA hp) ⟨by omega, hp.2⟩ (by rw [setup9]; omega) (cur_no hA hp.1))
theorem endA9 (P : aP) (A : aS) : (endA P A).v 6 9 = 0 := by
  show up (up (up (up (up A.v 6 0 (rateA P A)) 6 10 0) 6 11 0) 6 9 0) 6 1 (A.v 6 1 + 1) 6 9 = 0
  rw [up_at, if_neg (by decide), up_at, if_pos rfl]
theorem wf_scanA (hP : wfP P) (hA : wfA P A) : wfA P (scanA P A).2 := by
  have h9 := hA.2.2.2.2.2.2.2.2.2.2.2.2.2
  unfold scanA
  split
  · rename_i e
    rcases advF_rg (A := A) hP h9.1 with q | q
    · exact absurd q e
    · exact wf_scanP hP hA ⟨q.1, q.2⟩
  · split
    · exact hA
    · rename_i e
      rcases advF_rg (A := A) hP (Int.le_refl 0) with q | q
      · exact absurd q e
      · exact wf_scanP hP (wf_end hP hA) ⟨by rw [endA9]; exact q.1, q.2⟩
theorem wf_scanN (hP : wfP P) : ∀ (n : Nat) {A : aS}, wfA P A → wfA P (scanN P n A).2
  | 0, _, h => h
  | n + 1, _, h => wf_scanN hP n (wf_scanA hP h)
theorem wf_tock (hP : wfP P) (hA : wfA P A) : wfA P (tockA P A).2 := wf_v6 (wf_scanN hP _ hA) (fun h => absurd h (by decide)) (fun h => absurd h (by decide)) (fun h => absurd h (by decide))
theorem wf_tick (hP : wfP P) : ∀ (n : Nat) {A : aS}, wfA P A → wfA P (tickA P n A).2
  | 0, _, h => h
  | n + 1, _, h => wf_tick hP n (wf_tock hP h)
theorem scanN_rg (P : aP) : ∀ (n : Nat) (A : aS), 0 ≤ (scanN P n A).1 ∧ (scanN P n A).1 ≤ n
  | 0, _ => ⟨Int.le_refl _, Int.le_refl _⟩
  | n + 1, A => by
    have a := scanA_rg P A
    have b := scanN_rg P n (scanA P A).2
    unfold scanN
    dsimp only
    omega
theorem tickA_rg (P : aP) (hP : wfP P) : ∀ (n : Nat) (A : aS), wfA P A → 0 ≤ (tickA P n A).1 ∧ (tickA P n A).1 ≤ 16 * n
  | 0, _, _ => ⟨Int.le_refl _, Int.le_refl _⟩
  | n + 1, A, hA => by
    have h6 := hA.2.2.2.2.2.2.2.2.2.2.2.2.1
    have a := scanN_rg P (A.v 6 0).toNat A
    have b := tickA_rg P hP n (tockA P A).2 (wf_tock hP hA)
    unfold tickA
    show 0 ≤ (scanN P (A.v 6 0).toNat A).1 + _ ∧ (scanN P (A.v 6 0).toNat A).1 + _ ≤ _
    omega
end
