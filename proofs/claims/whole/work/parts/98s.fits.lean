/-! ===== what is noted; guess ===== -/
def sqA (P : aP) (B : aS) : Nat → aS
  | 0 => B
  | t + 1 => (tickA P 1 (sqA P B t)).2
theorem wf_sq {P : aP} (hP : wfP P) {B : aS} (hB : wfA P B) : ∀ t, wfA P (sqA P B t)
  | 0 => hB
  | t + 1 => wf_tick hP 1 (wf_sq hP hB t)
/-- whether all that is noted from one on comes so -/
def ntA (P : aP) (st : mStore) (B : aS) : Nat → Int → Bool
  | 0, _ => true
  | k + 1, i => if usedA P (sqA P B (st 0 i).toNat) = st 1 i then ntA P st B k (i + 1) else false
def ntW (W : aW) (B : aS) : Bool := ntA W.1 W.2.1.2.2.2 B W.2.1.2.2.1.toNat 0
def ltA (st : mStore) : Nat → Int → Int → Int
  | 0, _, m => m
  | k + 1, i, m => ltA st k (i + 1) (if st 0 i ≤ m then m else st 0 i)
theorem lt_rg {st : mStore} : ∀ (k : Nat) (i m : Int), (∀ j, i ≤ j → j < i + k → 0 ≤ st 0 j ∧ st 0 j ≤ 20) → (0 ≤ m ∧ m ≤ 20) → (0 ≤ ltA st k i m ∧ ltA st k i m ≤ 20) ∧ m ≤ ltA st k i m ∧ ∀ j, i ≤ j → j < i + k → st 0 j ≤ ltA st k i m
  | 0, i, m, _, hm => ⟨hm, Int.le_refl _, fun j a b => by omega⟩
  | k + 1, i, m, h, hm => by
    have h0 := h i (by omega) (by omega)
    unfold ltA
    have q := lt_rg k (i + 1) (if st 0 i ≤ m then m else st 0 i) (fun j a b => h j (by omega) (by omega)) (by split <;> omega)
    have q2 := q.2.1
    refine ⟨q.1, by split at q2 <;> omega, fun j a b => ?_⟩
    by_cases e : j = i
    · subst e
      split at q2 <;> omega
    · exact q.2.2 j (by omega) (by omega)
def fitA (W : aW) (p c v : Int) : Bool := if v = -1 then ntW W W.2.1.1 else if (putA W.1 W.2.1.1 p (pcell (cellsA W.2.1.1 p) c v)).1 = -1 then false else ntW W (putA W.1 W.2.1.1 p (pcell (cellsA W.2.1.1 p) c v)).2
def fitB (W : aW) (p c v : Int) : aS := if v = -1 then W.2.1.1 else (putA W.1 W.2.1.1 p (pcell (cellsA W.2.1.1 p) c v)).2
def gsA (W : aW) (p c : Int) (v : Int) : Bool := decide (v ≠ nb (cellsA W.2.1.1 p) (12 - 4 * c)) && fitA W p c v
def guessF (W : aW) (g p c x : Int) : aO := if plc W.1 g p = -1 then .inr 0 else if ¬(0 ≤ c ∧ c < 4) then .inr 0 else if ¬(0 ≤ x ∧ x ≤ 2) then .inr 0 else if x = 2 then .inl (if ntW W W.2.1.1 = true then 1 else 0) else .inl (if x = 0 then cnt (gsA W (plc W.1 g p) c) 16 0 else fnd (gsA W (plc W.1 g p) c) 16 0)
section
variable {sc : Nat × (Nat → Int32)} {SH : List mCell} {F : Nat → Nat → Option Nat} {e : Nat} {W : aW} {P : aP}
theorem last_lp (g0 : sGP SH) {S : mStore} {n : Int} {st : mStore} (hn : S 13 5 = n) (h8 : 0 ≤ n ∧ n ≤ 8) (ht : ∀ i, 0 ≤ i → i < n → S 14 i = st 0 i) (hr : ∀ i, 0 ≤ i → i < n → 0 ≤ st 0 i ∧ st 0 i ≤ 20) : ∀ (k : Nat) (i m : Int), i + k = n → 0 ≤ i → (0 ≤ m ∧ m ≤ 20) → G sc MX1_lastNoted 4 [some (.ref 13), some (.int (I m)), some (.int (I i))] [] SH S (rI (ltA st k i m) SH S)
  | 0, i, m, hk, h0, hm => by
    refine qX1_lastNoted_4 g0.2.2.2.1 ?_
    rw [hn, if_pos (by rw [I_le ⟨by omega, by omega⟩ ⟨by omega, by omega⟩]; omega)]
    rfl
  | k + 1, i, m, hk, h0, hm => by
    have hi := hr i h0 (by omega)
    refine qX1_lastNoted_4 g0.2.2.2.1 ?_
    rw [hn, if_neg (by rw [I_le ⟨by omega, by omega⟩ ⟨by omega, by omega⟩]; omega), ht i h0 (by omega)]
    refine ⟨⟨h0, by omega⟩, ?_⟩
    unfold ltA
    by_cases c : st 0 i ≤ m
    · rw [if_pos c, if_pos (by rw [I_le ⟨by omega, by omega⟩ ⟨by omega, by omega⟩]; exact c)]
      exact last_lp g0 hn h8 ht hr k (i + 1) m (by omega) (by omega) hm
    · rw [if_neg c, if_neg (by rw [I_le ⟨by omega, by omega⟩ ⟨by omega, by omega⟩]; exact c)]
      exact ⟨⟨h0, by omega⟩, last_lp g0 hn h8 ht hr k (i + 1) (st 0 i) (by omega) (by omega) hi⟩
/-- the series is told -/
theorem ser_lp (g0 : sGP SH) (hP : wfP P) {l1 l2 l3 far : Int} (hf : 0 ≤ far ∧ far ≤ 20) {B : aS} (hB : wfA P B) : ∀ (k : Nat) (t : Nat) {S : mStore}, (t : Int) + k = far + 1 → planR S 1 P → stateR S 65 (if t = 0 then B else sqA P B (t - 1)) → (∀ i : Nat, i < t → S 88 i = usedA P (sqA P B i)) → ∃ S', (∀ i : Nat, (i : Int) ≤ far → S' 88 i = usedA P (sqA P B i)) ∧ planR S' 1 P ∧ (∀ j, j < 65 ∨ (85 ≤ j ∧ j ≠ 88) → S' j = S j) ∧ ∀ r, G sc MX10_fits 89 [some (.ref 0), some (.int (I l1)), some (.int (I l2)), some (.int (I l3)), some (.int (I far)), some (.int (I (far + 1)))] [] SH S' r → G sc MX10_fits 38 [some (.ref 0), some (.int (I l1)), some (.int (I l2)), some (.int (I l3)), some (.int (I far)), some (.int (I t))] [] SH S r
  | 0, t, S, hk, hp, hr, hs => by
    have et : (t : Int) = far + 1 := by omega
    refine ⟨S, fun i hi => hs i (by omega), hp, fun _ _ => rfl, fun r g => qX10_fits_38 g0 ?_⟩
    rw [et, if_pos (by rw [I_lt ⟨by omega, by omega⟩ ⟨by omega, by omega⟩]; omega)]
    exact g
  | k + 1, t, S, hk, hp, hr, hs => by
    have g1 := g0.2.2.2.2.2.1
    by_cases c : t = 0
    · subst c
      rw [if_pos rfl] at hr
      have qu := used_ok (sc := sc) (u := none) (u' := none) g1 hp hP hr hB
      obtain ⟨S2, a2, p2, f2, go⟩ := ser_lp g0 hP (l1 := l1) (l2 := l2) (l3 := l3) hf hB k 1 (S := up S 88 0 (usedA P B)) (by omega) (planR_far hp (fun j _ _ => up_ne (by omega))) (by rw [if_neg (by decide)]; exact stateR_far hr (fun j _ _ => up_ne (by omega))) (fun i hi => by
        have : i = 0 := by omega
        subst this
        exact up_eq _ _ _ _)
      refine ⟨S2, a2, p2, fun j hj => by rw [f2 j hj, up_ne (by omega)], fun r g => qX10_fits_38 g0 ?_⟩
      rw [if_neg (by rw [I_lt ⟨by omega, by omega⟩ ⟨by omega, by omega⟩]; omega), if_neg (by rw [I_le ⟨by omega, by omega⟩ ⟨by omega, by omega⟩]; omega), if_pos (by rw [I_le ⟨by omega, by omega⟩ ⟨by omega, by omega⟩]; omega)]
      exact ⟨_, _, qu, ⟨by omega, by omega⟩, go r g⟩
    · rw [if_neg c] at hr
      have hw := wf_sq hP hB (t - 1)
      obtain ⟨S1, q1, r1, f1⟩ := tick_ok (sc := sc) (S := S) (a := 65) (u1 := none) (u2 := none) (u3 := none) (u4 := none) g1 (by decide) hp hP hr hw (n := 1) (by decide)
      have es : (tickA P 1 (sqA P B (t - 1))).2 = sqA P B t := by
        obtain ⟨t', rfl⟩ : ∃ t', t = t' + 1 := ⟨t - 1, by omega⟩
        rfl
      rw [es] at r1
      have p1 : planR S1 1 P := planR_far hp (fun j _ _ => f1 j (by omega))
      have qu := used_ok (sc := sc) (u := none) (u' := none) g1 p1 hP r1 (wf_sq hP hB t)
      obtain ⟨S2, a2, p2, f2, go⟩ := ser_lp g0 hP (l1 := l1) (l2 := l2) (l3 := l3) hf hB k (t + 1) (S := up S1 88 t (usedA P (sqA P B t))) (by omega) (planR_far p1 (fun j _ _ => up_ne (by omega))) (by rw [if_neg (by omega)]; exact stateR_far r1 (fun j _ _ => up_ne (by omega))) (fun i hi => by
        rw [up_at]
        by_cases d : (i : Int) = t
        · rw [if_pos d, show i = t by omega]
        · rw [if_neg d, f1 88 (by omega)]; exact hs i (by omega))
      refine ⟨S2, a2, p2, fun j hj => by rw [f2 j hj, up_ne (by omega), f1 j (by omega)], fun r g => qX10_fits_38 g0 ?_⟩
      rw [if_neg (by rw [I_lt ⟨by omega, by omega⟩ ⟨by omega, by omega⟩]; omega), if_neg (by rw [I_le ⟨by omega, by omega⟩ ⟨by omega, by omega⟩]; omega), if_neg (by rw [I_le ⟨by omega, by omega⟩ ⟨by omega, by omega⟩]; omega)]
      have et : ((t + 1 : Nat) : Int) = (t : Int) + 1 := by omega
      rw [et] at go
      exact ⟨_, _, q1, _, _, qu, ⟨by omega, by omega⟩, go r g⟩
theorem nt_lp (g0 : sGP SH) (hP : wfP P) {l1 l2 l3 far : Int} {B : aS} {S : mStore} {n : Int} {st : mStore} (hn : S 13 5 = n) (h8 : 0 ≤ n ∧ n ≤ 8) (ht : ∀ i, 0 ≤ i → i < n → S 14 i = st 0 i ∧ S 15 i = st 1 i) (hr : ∀ i, 0 ≤ i → i < n → (0 ≤ st 0 i ∧ st 0 i ≤ 20) ∧ (0 ≤ st 1 i ∧ st 1 i ≤ 48)) (hf : ∀ i, 0 ≤ i → i < n → st 0 i ≤ far) (hs : ∀ i : Nat, (i : Int) ≤ far → S 88 i = usedA P (sqA P B i)) : ∀ (k : Nat) (i : Int), i + k = n → 0 ≤ i → G sc MX10_fits 92 [some (.ref 0), some (.int (I l1)), some (.int (I l2)), some (.int (I l3)), some (.int (I far)), some (.int (I i))] [] SH S (rI (if ntA P st B k i = true then 1 else 0) SH S)
  | 0, i, hk, h0 => by
    refine qX10_fits_92 g0 ?_
    rw [hn, if_pos (by rw [I_le ⟨by omega, by omega⟩ ⟨by omega, by omega⟩]; omega)]
    exact ⟨.inr rfl, rfl⟩
  | k + 1, i, hk, h0 => by
    have hi := hr i h0 (by omega)
    have hfi := hf i h0 (by omega)
    have e88 : S 88 (st 0 i) = usedA P (sqA P B (st 0 i).toNat) := by
      have q := hs (st 0 i).toNat (by omega)
      rw [show (((st 0 i).toNat : Nat) : Int) = st 0 i by omega] at q
      exact q
    have ur := used_rg P hP (sqA P B (st 0 i).toNat)
    refine qX10_fits_92 g0 ?_
    rw [hn, if_neg (by rw [I_le ⟨by omega, by omega⟩ ⟨by omega, by omega⟩]; omega), (ht i h0 (by omega)).1, (ht i h0 (by omega)).2, e88]
    refine ⟨⟨h0, by omega⟩, ⟨hi.1.1, by omega⟩, ⟨h0, by omega⟩, ?_⟩
    unfold ntA
    by_cases c : usedA P (sqA P B (st 0 i).toNat) = st 1 i
    · rw [if_pos c, if_pos (by rw [c])]
      exact nt_lp g0 hP hn h8 ht hr hf hs k (i + 1) (by omega) (by omega)
    · rw [if_neg c, if_neg (by rw [I_eq ⟨by omega, by omega⟩ ⟨by omega, by omega⟩]; exact c)]
      exact ⟨.inl rfl, rfl⟩
theorem fits_ok {S : mStore} (h : clR SH F e S W) (hW : wfW W) {p c v far : Int} (hp : 0 ≤ p ∧ p < W.1 0 7) (hc : 0 ≤ c ∧ c < 4) (hv : -1 ≤ v ∧ v ≤ 15) (hf : 0 ≤ far ∧ far ≤ 20) (hfar : ∀ i, 0 ≤ i → i < W.2.1.2.2.1 → W.2.1.2.2.2 0 i ≤ far) {u : Option Value} : ∃ S', G sc MX10_fits 0 [some (.ref 0), some (.int (I p)), some (.int (I c)), some (.int (I v)), some (.int (I far)), u] [] SH S (rI (if fitA W p c v = true then 1 else 0) SH S') ∧ (∀ j, j < 65 ∨ (85 ≤ j ∧ j ≠ 88) → S' j = S j) ∧ (fitA W p c v = true → ∀ i : Nat, (i : Int) ≤ far → S' 88 i = usedA W.1 (sqA W.1 (fitB W p c v) i)) := by
  obtain ⟨g0, g1, g2, hpl, hst⟩ := clS h
  have hP := hW.1
  have hP7 := hP.2.2.2.2.2.1
  obtain ⟨S1, q1, r1, f1⟩ := try_cl (sc := sc) h hW
  have p1 : planR S1 1 W.1 := planR_far hpl (fun j _ _ => f1 j (by omega))
  have key : ∀ (B : aS) (S2 : mStore), wfA W.1 B → planR S2 1 W.1 → stateR S2 65 B → (∀ j, j < 65 ∨ 85 ≤ j → S2 j = S j) → ∃ S3, G sc MX10_fits 38 [some (.ref 0), some (.int (I p)), some (.int (I c)), some (.int (I v)), some (.int (I far)), some (.int (I 0))] [] SH S2 (rI (if ntW W B = true then 1 else 0) SH S3) ∧ (∀ j, j < 65 ∨ (85 ≤ j ∧ j ≠ 88) → S3 j = S j) ∧ ∀ i : Nat, (i : Int) ≤ far → S3 88 i = usedA W.1 (sqA W.1 B i) := by
    intro B S2 hB p2 r2 f2
    obtain ⟨S3, a3, p3, f3, go⟩ := ser_lp (sc := sc) g0 hP (l1 := p) (l2 := c) (l3 := v) hf hB (far + 1).toNat 0 (S := S2) (by omega) p2 (by rw [if_pos rfl]; exact r2) (fun i hi => by omega)
    have fr : ∀ j, j < 65 ∨ (85 ≤ j ∧ j ≠ 88) → S3 j = S j := fun j hj => by rw [f3 j hj, f2 j (by omega)]
    refine ⟨S3, go _ (qX10_fits_89 g0 ?_), fr, a3⟩
    have hn8 := hW.2.1.2.2.2.1
    have e5 : S3 13 5 = W.2.1.2.2.1 := by rw [fr 13 (by omega)]; exact h.2.2.1.2.2.2.2.1
    unfold ntW
    exact nt_lp g0 hP e5 hn8 (fun i a b => by rw [fr 14 (by omega), fr 15 (by omega)]; exact h.2.2.1.2.2.2.2.2.1 i a b) hW.2.1.2.2.2.2 hfar a3 W.2.1.2.2.1.toNat 0 (by omega) (by omega)
  unfold fitA fitB
  by_cases c1 : v = -1
  · rw [if_pos c1, if_pos c1]
    obtain ⟨S3, q3, f3, a3⟩ := key W.2.1.1 S1 hW.2.1.1 p1 r1 f1
    refine ⟨S3, qX10_fits_0 g0 ⟨_, q1, ?_⟩, f3, fun _ => a3⟩
    rw [if_pos (by rw [c1])]
    exact q3
  · rw [if_neg c1, if_neg c1]
    obtain ⟨S2, q2, r2, f2⟩ := putCell_ok (sc := sc) (S := S1) (a := 65) (u := none) g0.2.2.2.2.2.1 (by decide) p1 hP r1 hW.2.1.1 (p := p) (c := c) (x := v) ⟨by omega, by omega⟩
    have f2' : ∀ j, j < 65 ∨ 85 ≤ j → S2 j = S j := fun j hj => by rw [f2 j (by omega), f1 j hj]
    by_cases c2 : (putA W.1 W.2.1.1 p (pcell (cellsA W.2.1.1 p) c v)).1 = -1
    · rw [if_pos c2, if_neg (by decide)]
      refine ⟨S2, qX10_fits_0 g0 ⟨_, q1, ?_⟩, fun j hj => f2' j (by omega), fun q => by cases q⟩
      rw [if_neg (by rw [I_eq ⟨by omega, by omega⟩ ⟨by decide, by decide⟩]; exact c1)]
      refine ⟨_, _, q2, ?_⟩
      rw [if_pos (by rw [c2])]
      exact ⟨.inl rfl, rfl⟩
    · rw [if_neg c2]
      have w2 := wf_put hP hW.2.1.1 hp (pcell_rg (cellsA_rg hW.2.1.1 p) (n := v) ⟨by omega, by omega⟩ hc)
      obtain ⟨S3, q3, f3, a3⟩ := key _ S2 w2 (planR_far p1 (fun j _ _ => f2 j (by omega))) r2 f2'
      refine ⟨S3, qX10_fits_0 g0 ⟨_, q1, ?_⟩, f3, fun _ => a3⟩
      rw [if_neg (by rw [I_eq ⟨by omega, by omega⟩ ⟨by decide, by decide⟩]; exact c1)]
      refine ⟨_, _, q2, ?_⟩
      rw [if_neg (by rw [I_eq pl_rg2 ⟨by decide, by decide⟩]; exact c2)]
      exact q3
theorem guess_lp (g0 : sGP SH) (hW : wfW W) {a b c x p far : Int} (hp : 0 ≤ p ∧ p < W.1 0 7) (hc : 0 ≤ c ∧ c < 4) (hx : x = 0 ∨ x = 1) (hf : 0 ≤ far ∧ far ≤ 20) (hfar : ∀ i, 0 ≤ i → i < W.2.1.2.2.1 → W.2.1.2.2.2 0 i ≤ far) : ∀ (k : Nat) (v m : Int) {S : mStore}, v + k = 16 → 0 ≤ v → clR SH F e S W → ∃ S', G sc MX10_guess 89 [some (.ref 0), some (.int (I a)), some (.int (I b)), some (.int (I c)), some (.int (I x)), some (.int (I p)), some (.int (I far)), some (.int (I (nb (cellsA W.2.1.1 p) (12 - 4 * c)))), some (.int (I m)), some (.int (I v))] [] SH S (rI (if x = 0 then m + cnt (gsA W p c) k v else fnd (gsA W p c) k v) SH S') ∧ (∀ j, j < 65 ∨ (85 ≤ j ∧ j ≠ 88) → S' j = S j)
  | 0, v, m, S, hk, h0, h => by
    refine ⟨S, qX10_guess_89 g0 ?_, fun _ _ => rfl⟩
    rw [if_pos (by rw [I_lt ⟨by decide, by decide⟩ ⟨by omega, by omega⟩]; omega)]
    rcases hx with rfl | rfl
    · rw [if_pos rfl, if_pos rfl]
      show rI (m + 0) SH S = rI m SH S
      rw [Int.add_zero]
    · rw [if_neg (by decide), if_neg (by decide)]; rfl
  | k + 1, v, m, S, hk, h0, h => by
    have nr := nb_rg (cellsA W.2.1.1 p) (12 - 4 * c)
    have go1 : ∀ {S1 : mStore}, clR SH F e S1 W → gsA W p c v = false → ∃ S', G sc MX10_guess 89 [some (.ref 0), some (.int (I a)), some (.int (I b)), some (.int (I c)), some (.int (I x)), some (.int (I p)), some (.int (I far)), some (.int (I (nb (cellsA W.2.1.1 p) (12 - 4 * c)))), some (.int (I m)), some (.int (I (v + 1)))] [] SH S1 (rI (if x = 0 then m + cnt (gsA W p c) (k + 1) v else fnd (gsA W p c) (k + 1) v) SH S') ∧ (∀ j, j < 65 ∨ (85 ≤ j ∧ j ≠ 88) → S' j = S1 j) := by
      intro S1 h1 hg
      have q := guess_lp g0 hW (a := a) (b := b) hp hc hx hf hfar k (v + 1) m (by omega) (by omega) h1
      have e1 : cnt (gsA W p c) (k + 1) v = cnt (gsA W p c) k (v + 1) := by
        show (if gsA W p c v = true then 1 else 0) + cnt (gsA W p c) k (v + 1) = _
        rw [hg, if_neg (by decide), Int.zero_add]
      have e2 : fnd (gsA W p c) (k + 1) v = fnd (gsA W p c) k (v + 1) := by
        show (if gsA W p c v = true then v else fnd (gsA W p c) k (v + 1)) = _
        rw [hg, if_neg (by decide)]
      rw [e1, e2]
      exact q
    by_cases c1 : v = nb (cellsA W.2.1.1 p) (12 - 4 * c)
    · obtain ⟨S2, q2, f2⟩ := go1 h (by unfold gsA; rw [decide_eq_false (fun q => q c1)]; rfl)
      refine ⟨S2, qX10_guess_89 g0 ?_, f2⟩
      rw [if_neg (by rw [I_lt ⟨by decide, by decide⟩ ⟨by omega, by omega⟩]; omega), if_pos (by rw [← c1])]
      exact q2
    · obtain ⟨S1, q1, f1, _⟩ := fits_ok (sc := sc) (u := none) h hW hp hc (v := v) ⟨by omega, by omega⟩ hf hfar
      have h1 : clR SH F e S1 W := clR_tr h (fun j hj => f1 j (by omega))
      have eg : gsA W p c v = fitA W p c v := by unfold gsA; rw [decide_eq_true c1]; rfl
      by_cases c2 : fitA W p c v = true
      · rw [if_pos c2] at q1
        rcases hx with rfl | rfl
        · obtain ⟨S2, q2, f2⟩ := guess_lp g0 hW (a := a) (b := b) hp hc (.inl rfl) hf hfar k (v + 1) (m + 1) (by omega) (by omega) h1
          refine ⟨S2, qX10_guess_89 g0 ?_, fun j hj => by rw [f2 j hj, f1 j hj]⟩
          rw [if_neg (by rw [I_lt ⟨by decide, by decide⟩ ⟨by omega, by omega⟩]; omega), if_neg (by rw [I_eq ⟨by omega, by omega⟩ ⟨by omega, by omega⟩]; exact c1)]
          refine ⟨_, _, q1, ?_⟩
          rw [if_neg (by decide), if_neg (by decide)]
          rw [if_pos rfl] at q2 ⊢
          have e1 : m + cnt (gsA W p c) (k + 1) v = m + 1 + cnt (gsA W p c) k (v + 1) := by
            show m + ((if gsA W p c v = true then 1 else 0) + cnt (gsA W p c) k (v + 1)) = _
            rw [eg, c2, if_pos rfl]; omega
          rw [e1]
          exact q2
        · refine ⟨S1, qX10_guess_89 g0 ?_, f1⟩
          rw [if_neg (by rw [I_lt ⟨by decide, by decide⟩ ⟨by omega, by omega⟩]; omega), if_neg (by rw [I_eq ⟨by omega, by omega⟩ ⟨by omega, by omega⟩]; exact c1)]
          refine ⟨_, _, q1, ?_⟩
          rw [if_neg (by decide), if_pos rfl, if_neg (by decide)]
          have e2 : fnd (gsA W p c) (k + 1) v = v := by
            show (if gsA W p c v = true then v else fnd (gsA W p c) k (v + 1)) = _
            rw [eg, c2, if_pos rfl]
          rw [e2]
      · rw [if_neg c2] at q1
        obtain ⟨S2, q2, f2⟩ := go1 h1 (by rw [eg]; exact Bool.eq_false_iff.mpr c2)
        refine ⟨S2, qX10_guess_89 g0 ?_, fun j hj => by rw [f2 j hj, f1 j hj]⟩
        rw [if_neg (by rw [I_lt ⟨by decide, by decide⟩ ⟨by omega, by omega⟩]; omega), if_neg (by rw [I_eq ⟨by omega, by omega⟩ ⟨by omega, by omega⟩]; exact c1)]
        refine ⟨_, _, q1, ?_⟩
        rw [if_pos rfl]
        exact q2
end
