/-! ===== what was told becomes the machine of the reference ===== -/
theorem aS_ext {A B : aS} (h1 : A.1 = B.1) (h2 : A.2.1 = B.2.1) (h3 : A.2.2.1 = B.2.2.1) (h4 : A.2.2.2.1 = B.2.2.2.1) (h5 : A.2.2.2.2.1 = B.2.2.2.2.1) (h6 : A.2.2.2.2.2.1 = B.2.2.2.2.2.1) (h7 : A.2.2.2.2.2.2 = B.2.2.2.2.2.2) : A = B := Prod.ext h1 (Prod.ext h2 (Prod.ext h3 (Prod.ext h4 (Prod.ext h5 (Prod.ext h6 h7)))))
def flt (l : List Int) (p : Int) : List Int := l.filter (fun q => decide (q < p))
def bpA (A : aS) (m p : Int) : aS := (fun f => flt (A.L f) p, fun q => if q < p then A.w q else -1, fun _ => [], fun _ => -1, fun _ => .leaf (), fun _ => .leaf (), fun j i => if j = 0 then (if flt (A.L i) p = [] then 0 else A.v 0 i) else if j = 1 then (if i < p then A.v 1 i else 0) else vnew m j i)
theorem vnew6 (m i : Int) : vnew m 6 i = if i = 0 then m else 0 := by
  unfold vnew
  rw [if_neg (by decide)]
  by_cases c : i = 0
  · rw [if_pos ⟨rfl, c⟩, if_pos c]
  · rw [if_neg (fun q => c q.2), if_neg c]
theorem flt_no {l : List Int} {p : Int} (h : ∀ q, q ∈ l → ¬ q < p) : flt l p = [] := by
  unfold flt
  rw [List.filter_eq_nil_iff]
  intro q hq
  have := h q hq
  simp [this]
theorem flt_all {l : List Int} {p : Int} (h : ∀ q, q ∈ l → q < p) : flt l p = l := by
  unfold flt
  rw [List.filter_eq_self]
  intro q hq
  have := h q hq
  simp [this]
theorem flt_same {l : List Int} {p : Int} (h : p ∉ l) : flt l (p + 1) = flt l p := by
  unfold flt
  refine List.filter_congr (fun q hq => ?_)
  have : q ≠ p := fun e => h (by rw [← e]; exact hq)
  have e : (q < p + 1) ↔ (q < p) := by omega
  simp [e]
section
variable {D : aD} {μ m : Int}
theorem bp_0 (oD : okE D) (hg : gh μ D) : bpA D.2.2.2 m 0 = newA m := by
  have oA := oD.2.1
  have p7 := oD.1.2.2.2.2.2.1
  have ne : ∀ f, flt (D.2.2.2.L f) 0 = [] := fun f => flt_no (fun q hq => by have := (oA.1.2.1 f q).mp hq; omega)
  refine aS_ext (funext fun f => ne f) (funext fun q => ?_) rfl rfl rfl rfl (funext fun j => funext fun i => ?_)
  · show (if q < 0 then D.2.2.2.w q else -1) = -1
    by_cases c : q < 0
    · rw [if_pos c]
      exact Decidable.byContradiction (fun z => by have := oA.2.2.2.2.1 q z; omega)
    · rw [if_neg c]
  · show (if j = 0 then (if flt (D.2.2.2.L i) 0 = [] then 0 else D.2.2.2.v 0 i) else if j = 1 then (if i < 0 then D.2.2.2.v 1 i else 0) else vnew m j i) = vnew m j i
    by_cases c : j = 0
    · rw [if_pos c, if_pos (ne i), c]
      unfold vnew
      rw [if_neg (by decide), if_neg (fun q => absurd q.1 (by decide))]
    · rw [if_neg c]
      by_cases d : j = 1
      · rw [if_pos d, d]
        have e : vnew m 1 i = 0 := by unfold vnew; rw [if_neg (by decide), if_neg (fun q => absurd q.1 (by decide))]
        rw [e]
        by_cases z : i < 0
        · rw [if_pos z]; exact hg.2.2.2.2.2.2.1 i (by omega)
        · rw [if_neg z]
      · rw [if_neg d]
theorem bp_end (oD : okE D) (hg : gh μ D) : bpA D.2.2.2 m (D.1 0 7) = D.2.2.2.sv 6 0 m := by
  have oA := oD.2.1
  have p7 := oD.1.2.2.2.2.2.1
  have al' : ∀ f, flt (D.2.2.2.L f) (D.1 0 7) = D.2.2.2.L f := fun f => flt_all (fun q hq => by
    have h1 := (oA.1.2.1 f q).mp hq
    have h2 := oA.2.2.2.2.1 q (by omega)
    omega)
  refine aS_ext (funext fun f => al' f) (funext fun q => ?_) hg.1.symm hg.2.1.symm hg.2.2.1.symm hg.2.2.2.1.symm (funext fun j => funext fun i => ?_)
  · show (if q < D.1 0 7 then D.2.2.2.w q else -1) = D.2.2.2.w q
    by_cases c : q < D.1 0 7
    · rw [if_pos c]
    · rw [if_neg c]
      exact (Decidable.byContradiction (fun z => by have := oA.2.2.2.2.1 q z; omega) : D.2.2.2.w q = -1).symm
  · show (if j = 0 then (if flt (D.2.2.2.L i) (D.1 0 7) = [] then 0 else D.2.2.2.v 0 i) else if j = 1 then (if i < D.1 0 7 then D.2.2.2.v 1 i else 0) else vnew m j i) = up D.2.2.2.v 6 0 m j i
    by_cases c : j = 0
    · rw [if_pos c, al' i, c, up_ne (by decide)]
      by_cases z : D.2.2.2.L i = []
      · rw [if_pos z]; exact (hg.2.2.2.2.2.1 i z).symm
      · rw [if_neg z]
    · rw [if_neg c]
      by_cases d : j = 1
      · rw [if_pos d, d, up_ne (by decide)]
        by_cases z : i < D.1 0 7
        · rw [if_pos z]
        · rw [if_neg z]; exact (hg.2.2.2.2.2.2.1 i (by omega)).symm
      · rw [if_neg d]
        by_cases e : j = 6
        · rw [e, up_at, hg.2.2.2.2.1 6 (by decide), vnew6, vnew6]
          by_cases z : i = 0
          · rw [if_pos z, if_pos z]
          · rw [if_neg z, if_neg z, if_neg z]
        · rw [up_ne e, hg.2.2.2.2.1 j (by omega)]
          unfold vnew
          by_cases z : j = 3
          · rw [if_pos z, if_pos z]
          · rw [if_neg z, if_neg z, if_neg (fun q => e q.1), if_neg (fun q => e q.1)]
theorem bp_no (oD : okE D) {p : Int} (hp : 0 ≤ p ∧ p < D.1 0 7) (hw : D.2.2.2.w p = -1) : bpA D.2.2.2 m (p + 1) = (bpA D.2.2.2 m p).sv 1 p (D.2.2.2.v 1 p) := by
  have oA := oD.2.1
  have np : ∀ f, p ∉ D.2.2.2.L f := fun f q => by have := (oA.1.2.1 f p).mp q; omega
  refine aS_ext (funext fun f => flt_same (np f)) (funext fun q => ?_) rfl rfl rfl rfl (funext fun j => funext fun i => ?_)
  · show (if q < p + 1 then D.2.2.2.w q else -1) = (if q < p then D.2.2.2.w q else -1)
    by_cases c : q = p
    · rw [c, if_pos (by omega), if_neg (by omega), hw]
    · by_cases d : q < p
      · rw [if_pos d, if_pos (by omega)]
      · rw [if_neg d, if_neg (by omega)]
  · show (if j = 0 then (if flt (D.2.2.2.L i) (p + 1) = [] then 0 else D.2.2.2.v 0 i) else if j = 1 then (if i < p + 1 then D.2.2.2.v 1 i else 0) else vnew m j i) = up (bpA D.2.2.2 m p).v 1 p (D.2.2.2.v 1 p) j i
    by_cases c : j = 0
    · rw [if_pos c, c, up_ne (by decide), flt_same (np i)]
      rfl
    · rw [if_neg c]
      by_cases d : j = 1
      · rw [if_pos d, d, up_at]
        by_cases z : i = p
        · rw [if_pos z, if_pos (by omega), z]
        · rw [if_neg z]
          show _ = (if i < p then D.2.2.2.v 1 i else 0)
          by_cases y : i < p
          · rw [if_pos y, if_pos (by omega)]
          · rw [if_neg y, if_neg (by omega)]
      · rw [if_neg d, up_ne d]
        show _ = (if j = 0 then _ else if j = 1 then _ else vnew m j i)
        rw [if_neg c, if_neg d]
theorem bp_yes (oD : okE D) (hg : gh μ D) {p : Int} (hp : 0 ≤ p ∧ p < D.1 0 7) (hw : D.2.2.2.w p ≠ -1) : bpA D.2.2.2 m (p + 1) = (lieIn ((bpA D.2.2.2 m p).sv 1 p (D.2.2.2.v 1 p)) p (D.2.2.2.w p)).sv 0 (D.2.2.2.w p) (D.2.2.2.v 0 (D.2.2.2.w p)) ∧ (bpA D.2.2.2 m p).L (D.2.2.2.w p) = [] := by
  have oA := oD.2.1
  have p7 := oD.1.2.2.2.2.2.1
  have gn := gh_none oA p7.2 hg hw
  have hl := oA.2.2.2.2.2.2.1 (D.2.2.2.w p) (by rw [hg.2.1])
  have eL : D.2.2.2.L (D.2.2.2.w p) = [p] := by
    match hq : D.2.2.2.L (D.2.2.2.w p) with
    | [] => rw [hq] at gn; exact absurd gn.2.1 (by simp)
    | [x] => rw [hq] at gn; have := List.mem_singleton.mp gn.2.1; rw [this]
    | x :: y :: l => rw [hq] at hl; simp at hl
  have e0 : flt [p] p = [] := flt_no (fun q hq => by have := List.mem_singleton.mp hq; omega)
  have e1 : flt [p] (p + 1) = [p] := flt_all (fun q hq => by have := List.mem_singleton.mp hq; omega)
  have np : ∀ f, f ≠ D.2.2.2.w p → p ∉ D.2.2.2.L f := fun f hf q => by have := (oA.1.2.1 f p).mp q; omega
  have eE : (bpA D.2.2.2 m p).L (D.2.2.2.w p) = [] := by show flt (D.2.2.2.L (D.2.2.2.w p)) p = []; rw [eL]; exact e0
  refine ⟨aS_ext (funext fun f => ?_) (funext fun q => ?_) rfl rfl rfl rfl (funext fun j => funext fun i => ?_), eE⟩
  · show flt (D.2.2.2.L f) (p + 1) = (if f = D.2.2.2.w p then flt (D.2.2.2.L f) p ++ [p] else flt (D.2.2.2.L f) p)
    by_cases c : f = D.2.2.2.w p
    · rw [if_pos c, c, eL, e0, e1]; rfl
    · rw [if_neg c]; exact flt_same (np f c)
  · show (if q < p + 1 then D.2.2.2.w q else -1) = (if q = p then D.2.2.2.w p else (if q < p then D.2.2.2.w q else -1))
    by_cases c : q = p
    · rw [if_pos c, c, if_pos (by omega)]
    · rw [if_neg c]
      by_cases d : q < p
      · rw [if_pos d, if_pos (by omega)]
      · rw [if_neg d, if_neg (by omega)]
  · show (if j = 0 then (if flt (D.2.2.2.L i) (p + 1) = [] then 0 else D.2.2.2.v 0 i) else if j = 1 then (if i < p + 1 then D.2.2.2.v 1 i else 0) else vnew m j i) = up (up (bpA D.2.2.2 m p).v 1 p (D.2.2.2.v 1 p)) 0 (D.2.2.2.w p) (D.2.2.2.v 0 (D.2.2.2.w p)) j i
    by_cases c : j = 0
    · rw [if_pos c, c, up_at]
      by_cases z : i = D.2.2.2.w p
      · rw [if_pos z, z, eL, e1, if_neg (by simp)]
      · rw [if_neg z, up_ne (by decide), flt_same (np i z)]
        rfl
    · rw [if_neg c, up_ne c]
      by_cases d : j = 1
      · rw [if_pos d, d, up_at]
        by_cases z : i = p
        · rw [if_pos z, if_pos (by omega), z]
        · rw [if_neg z]
          show _ = (if i < p then D.2.2.2.v 1 i else 0)
          by_cases y : i < p
          · rw [if_pos y, if_pos (by omega)]
          · rw [if_neg y, if_neg (by omega)]
      · rw [if_neg d, up_ne d]
        show _ = (if j = 0 then _ else if j = 1 then _ else vnew m j i)
        rw [if_neg c, if_neg d]
end
