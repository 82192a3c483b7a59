/-! ===== dirt ===== -/
def nxA (B : aS) (p : Int) : Int := (nb (cellsA B p) 12 + 1) % 16
def ubA (P : aP) (p way : Int) : Nat → Int → aS → aS
  | 0, _, B => B
  | k + 1, t, B => ubA P p way k (t + 1) (tickA P 1 (if I (ian (isr way t) 1) = I 1 then (putA P B p (pcell (cellsA B p) 0 (nxA B p))).2 else B)).2
def wtA (th way : Int) : Nat → Int → Int → Int
  | 0, _, w => w
  | k + 1, t, w => wtA th way k (t + 1) (if I (ian (isr way t) 1) = I 1 then w * th else w * (10 - th))
def dtA (P : aP) (A : aS) (p th u : Int) (k : Nat) : Nat → Int → Int → Int
  | 0, _, l => l
  | n + 1, way, l => dtA P A p th u k n (way + 1) (if I u < I (usedA P (ubA P p way k 0 A)) then l else l + wtA th way k 0 1)
def dirtF (W : aW) (g p t th u : Int) : aO := if plc W.1 g p = -1 then .inr 0 else if ¬((1 ≤ t ∧ t ≤ 4) ∧ (0 ≤ th ∧ th ≤ 10)) then .inr 1 else .inl (dtA W.1 W.2.1.1 (plc W.1 g p) th u t.toNat (isl 1 t).toNat 0 0)
theorem isl1 {t : Int} (h : 1 ≤ t ∧ t ≤ 4) : 2 ≤ isl 1 t ∧ isl 1 t ≤ 16 := by
  rcases (by omega : t = 1 ∨ t = 2 ∨ t = 3 ∨ t = 4) with rfl | rfl | rfl | rfl <;> decide
theorem wt_rg {th way : Int} (h : 0 ≤ th ∧ th ≤ 10) : ∀ (k : Nat) (t w : Int), 0 ≤ w → 0 ≤ wtA th way k t w ∧ wtA th way k t w ≤ w * 10 ^ k
  | 0, t, w, hw => ⟨hw, by show w ≤ w * 1; omega⟩
  | k + 1, t, w, hw => by
    unfold wtA
    have key : ∀ x : Int, 0 ≤ x → x ≤ 10 → 0 ≤ wtA th way k (t + 1) (w * x) ∧ wtA th way k (t + 1) (w * x) ≤ w * 10 ^ (k + 1) := fun x h1 h2 => by
      have q := wt_rg (way := way) h k (t + 1) (w * x) (Int.mul_nonneg hw h1)
      refine ⟨q.1, Int.le_trans q.2 ?_⟩
      rw [Int.pow_succ, ← Int.mul_assoc, Int.mul_assoc w (10 ^ k) 10, Int.mul_comm (10 ^ k) 10, ← Int.mul_assoc]
      exact Int.mul_le_mul_of_nonneg_right (Int.mul_le_mul_of_nonneg_left h2 hw) (Int.pow_nonneg (by decide))
    split
    · exact key th h.1 h.2
    · exact key (10 - th) (by omega) (by omega)
theorem nx_rg (B : aS) (p : Int) : 0 ≤ nxA B p ∧ nxA B p < 16 := ⟨Int.emod_nonneg _ (by decide), Int.emod_lt_of_pos _ (by decide)⟩
section
variable {sc : Nat × (Nat → Int32)} {SH : List mCell} {F : Nat → Nat → Option Nat} {e : Nat} {W : aW} {P : aP}
theorem ub_lp (g0 : sGP SH) (hP : wfP P) {p way n : Int} (hpp : 0 ≤ p ∧ p < P 0 7) (hn : 0 ≤ n ∧ n ≤ 4) : ∀ (k : Nat) (t : Int) {S : mStore} {B : aS}, t + k = n → 0 ≤ t → planR S 1 P → stateR S 65 B → wfA P B → ∃ S', G sc MX10_usedBy 17 [some (.ref 0), some (.int (I p)), some (.int (I n)), some (.int (I way)), some (.int (I t))] [] SH S (rI (usedA P (ubA P p way k t B)) SH S') ∧ (∀ j, j < 65 ∨ 85 ≤ j → S' j = S j)
  | 0, t, S, B, ht, h0, hp, hr, hB => by
    refine ⟨S, qX10_usedBy_17 g0 ?_, fun _ _ => rfl⟩
    rw [if_pos (by rw [I_le ⟨by omega, by omega⟩ ⟨by omega, by omega⟩]; omega)]
    exact ⟨_, _, used_ok g0.2.2.2.2.2.1 hp hP hr hB, rfl⟩
  | k + 1, t, S, B, ht, h0, hp, hr, hB => by
    have hP7 := hP.2.2.2.2.2.1
    have g1 := g0.2.2.2.2.2.1
    by_cases c : I (ian (isr way t) 1) = I 1
    · have qc := cells_ok (sc := sc) (u := none) g1 hr hB (p := p) ⟨by omega, by omega⟩
      have e12 : ian (isr (cellsA B p) (12 - (4 * 0))) 15 = nb (cellsA B p) 12 := rfl
      have nr := nb_rg (cellsA B p) 12
      have e15 : ian (nb (cellsA B p) 12 + 1) 15 = nxA B p := ian15 (by omega) (by omega)
      obtain ⟨S1, q1, r1, f1⟩ := putCell_ok (sc := sc) (S := S) (a := 65) (u := none) g1 (by decide) hp hP hr hB (p := p) (c := 0) (x := nxA B p) ⟨by omega, by omega⟩
      have w1 : wfA P (putA P B p (pcell (cellsA B p) 0 (nxA B p))).2 := wf_put hP hB hpp (pcell_rg (cellsA_rg hB _) (nx_rg B p) ⟨by decide, by decide⟩)
      have p1 : planR S1 1 P := planR_far hp (fun j _ _ => f1 j (by omega))
      obtain ⟨S2, q2, r2, f2⟩ := tick_ok (sc := sc) (S := S1) (a := 65) (u1 := none) (u2 := none) (u3 := none) (u4 := none) g1 (by decide) p1 hP r1 w1 (n := 1) (by decide)
      obtain ⟨S3, q3, f3⟩ := ub_lp (S := S2) g0 hP hpp hn k (t + 1) (by omega) (by omega) (planR_far p1 (fun j _ _ => f2 j (by omega))) r2 (wf_tick hP 1 w1)
      refine ⟨S3, qX10_usedBy_17 g0 ?_, fun j hj => by rw [f3 j hj, f2 j (by omega), f1 j (by omega)]⟩
      rw [if_neg (by rw [I_le ⟨by omega, by omega⟩ ⟨by omega, by omega⟩]; omega), if_pos c]
      refine ⟨_, _, qc, _, _, cell_ok, ?_⟩
      rw [e12, e15]
      unfold ubA
      rw [if_pos c]
      exact ⟨_, _, q1, _, _, q2, q3⟩
    · obtain ⟨S2, q2, r2, f2⟩ := tick_ok (sc := sc) (S := S) (a := 65) (u1 := none) (u2 := none) (u3 := none) (u4 := none) g1 (by decide) hp hP hr hB (n := 1) (by decide)
      obtain ⟨S3, q3, f3⟩ := ub_lp (S := S2) g0 hP hpp hn k (t + 1) (by omega) (by omega) (planR_far hp (fun j _ _ => f2 j (by omega))) r2 (wf_tick hP 1 hB)
      refine ⟨S3, qX10_usedBy_17 g0 ?_, fun j hj => by rw [f3 j hj, f2 j (by omega)]⟩
      rw [if_neg (by rw [I_le ⟨by omega, by omega⟩ ⟨by omega, by omega⟩]; omega), if_neg c]
      unfold ubA
      rw [if_neg c]
      exact ⟨_, _, q2, q3⟩
theorem wt_lp (g0 : sGP SH) {l1 l2 n th u p l way : Int} (hn : 0 ≤ n ∧ n ≤ 4) {S : mStore} {r : mR × mW} : ∀ (k : Nat) (t w : Int), t + k = n → 0 ≤ t → G sc MX10_dirt 58 [some (.ref 0), some (.int (I l1)), some (.int (I l2)), some (.int (I n)), some (.int (I th)), some (.int (I u)), some (.int (I p)), some (.int (I l)), some (.int (I way)), some (.int (I (wtA th way k t w))), some (.int (I n))] [] SH S r → G sc MX10_dirt 58 [some (.ref 0), some (.int (I l1)), some (.int (I l2)), some (.int (I n)), some (.int (I th)), some (.int (I u)), some (.int (I p)), some (.int (I l)), some (.int (I way)), some (.int (I w)), some (.int (I t))] [] SH S r
  | 0, t, w, ht, h0, g => by
    have e : t = n := by omega
    subst e
    exact g
  | k + 1, t, w, ht, h0, g => by
    refine qX10_dirt_58 g0 ?_
    rw [if_neg (by rw [I_le ⟨by omega, by omega⟩ ⟨by omega, by omega⟩]; omega)]
    unfold wtA at g
    by_cases c : I (ian (isr way t) 1) = I 1
    · rw [if_pos c] at g ⊢; exact wt_lp g0 hn k (t + 1) (w * th) (by omega) (by omega) g
    · rw [if_neg c] at g ⊢; exact wt_lp g0 hn k (t + 1) (w * (10 - th)) (by omega) (by omega) g
theorem dirt_lp (g0 : sGP SH) (hW : wfW W) {l1 l2 n th u p : Int} (hpp : 0 ≤ p ∧ p < W.1 0 7) (hn : 1 ≤ n ∧ n ≤ 4) (hth : 0 ≤ th ∧ th ≤ 10) : ∀ (m : Nat) (way l : Int) {S : mStore} {u9 u10 : Option Value}, way + m = isl 1 n → 0 ≤ way → clR SH F e S W → ∃ S', G sc MX10_dirt 44 [some (.ref 0), some (.int (I l1)), some (.int (I l2)), some (.int (I n)), some (.int (I th)), some (.int (I u)), some (.int (I p)), some (.int (I l)), some (.int (I way)), u9, u10] [] SH S (rI (dtA W.1 W.2.1.1 p th u n.toNat m way l) SH S') ∧ (∀ j, j < 65 ∨ 85 ≤ j → S' j = S j)
  | 0, way, l, S, u9, u10, hw, h0, h => by
    have hi := isl1 hn
    refine ⟨S, qX10_dirt_44 g0 ?_, fun _ _ => rfl⟩
    rw [if_pos (by rw [I_le ⟨by omega, by omega⟩ ⟨by omega, by omega⟩]; omega)]
    rfl
  | m + 1, way, l, S, u9, u10, hw, h0, h => by
    have hi := isl1 hn
    have hP := hW.1
    have hwt := wt_rg (way := way) hth n.toNat 0 1 (by decide)
    have h10 : (10 : Int) ^ n.toNat ≤ 10000 := by
      rcases (by omega : n = 1 ∨ n = 2 ∨ n = 3 ∨ n = 4) with rfl | rfl | rfl | rfl <;> decide
    have st : ∀ r, (if I (wtA th way n.toNat 0 1) ≤ I 0 then G sc MX10_dirt 44 [some (.ref 0), some (.int (I l1)), some (.int (I l2)), some (.int (I n)), some (.int (I th)), some (.int (I u)), some (.int (I p)), some (.int (I l)), some (.int (I (way + 1))), some (.int (I (wtA th way n.toNat 0 1))), some (.int (I n))] [] SH S r else (∃ v101 S102, G sc MX10_usedBy 0 [some (.ref 0), some (.int (I p)), some (.int (I n)), some (.int (I way)), none] [] SH S (rI v101 SH S102) ∧ (if I u < I v101 then G sc MX10_dirt 44 [some (.ref 0), some (.int (I l1)), some (.int (I l2)), some (.int (I n)), some (.int (I th)), some (.int (I u)), some (.int (I p)), some (.int (I l)), some (.int (I (way + 1))), some (.int (I (wtA th way n.toNat 0 1))), some (.int (I n))] [] SH S102 r else G sc MX10_dirt 44 [some (.ref 0), some (.int (I l1)), some (.int (I l2)), some (.int (I n)), some (.int (I th)), some (.int (I u)), some (.int (I p)), some (.int (I (l + wtA th way n.toNat 0 1))), some (.int (I (way + 1))), some (.int (I (wtA th way n.toNat 0 1))), some (.int (I n))] [] SH S102 r))) → G sc MX10_dirt 44 [some (.ref 0), some (.int (I l1)), some (.int (I l2)), some (.int (I n)), some (.int (I th)), some (.int (I u)), some (.int (I p)), some (.int (I l)), some (.int (I way)), u9, u10] [] SH S r := by
      intro r q
      refine qX10_dirt_44 g0 ?_
      rw [if_neg (by rw [I_le ⟨by omega, by omega⟩ ⟨by omega, by omega⟩]; omega)]
      refine wt_lp g0 ⟨by omega, by omega⟩ n.toNat 0 1 (by omega) (by omega) (qX10_dirt_58 g0 ?_)
      rw [if_pos (by rw [I_le ⟨by omega, by omega⟩ ⟨by omega, by omega⟩]; omega)]
      exact q
    by_cases c : wtA th way n.toNat 0 1 = 0
    · obtain ⟨S2, q2, f2⟩ := dirt_lp g0 hW (l1 := l1) (l2 := l2) (u := u) hpp hn hth m (way + 1) l (u9 := some (.int (I (wtA th way n.toNat 0 1)))) (u10 := some (.int (I n))) (by omega) (by omega) h
      refine ⟨S2, st _ ?_, f2⟩
      rw [if_pos (by rw [I_le ⟨by omega, by omega⟩ ⟨by decide, by decide⟩]; omega)]
      have ed : dtA W.1 W.2.1.1 p th u n.toNat (m + 1) way l = dtA W.1 W.2.1.1 p th u n.toNat m (way + 1) l := by
        show dtA W.1 W.2.1.1 p th u n.toNat m (way + 1) (if I u < I (usedA W.1 (ubA W.1 p way n.toNat 0 W.2.1.1)) then l else l + wtA th way n.toNat 0 1) = _
        rw [c, Int.add_zero]
        split <;> rfl
      rw [ed]
      exact q2
    · obtain ⟨S1, q1, r1, f1⟩ := try_cl (sc := sc) h hW
      obtain ⟨S2, q2, f2⟩ := ub_lp (sc := sc) (S := S1) (way := way) g0 hP hpp (n := n) ⟨by omega, by omega⟩ n.toNat 0 (by omega) (by omega) (planR_far h.2.1 (fun j _ _ => f1 j (by omega))) r1 hW.2.1.1
      have fr : ∀ j, j < 65 ∨ 85 ≤ j → S2 j = S j := fun j hj => by rw [f2 j hj, f1 j hj]
      have h2 : clR SH F e S2 W := clR_tr h (fun j hj => fr j (by omega))
      have qu : G sc MX10_usedBy 0 [some (.ref 0), some (.int (I p)), some (.int (I n)), some (.int (I way)), none] [] SH S (rI (usedA W.1 (ubA W.1 p way n.toNat 0 W.2.1.1)) SH S2) := qX10_usedBy_0 g0 ⟨_, q1, q2⟩
      obtain ⟨S3, q3, f3⟩ := dirt_lp g0 hW (l1 := l1) (l2 := l2) (u := u) hpp hn hth m (way + 1) (if I u < I (usedA W.1 (ubA W.1 p way n.toNat 0 W.2.1.1)) then l else l + wtA th way n.toNat 0 1) (u9 := some (.int (I (wtA th way n.toNat 0 1)))) (u10 := some (.int (I n))) (by omega) (by omega) h2
      refine ⟨S3, st _ ?_, fun j hj => by rw [f3 j hj, fr j hj]⟩
      rw [if_neg (by rw [I_le ⟨by omega, by omega⟩ ⟨by decide, by decide⟩]; omega)]
      refine ⟨_, _, qu, ?_⟩
      unfold dtA
      by_cases d : I u < I (usedA W.1 (ubA W.1 p way n.toNat 0 W.2.1.1))
      · rw [if_pos d] at q3; rw [if_pos d, if_pos d]; exact q3
      · rw [if_neg d] at q3; rw [if_neg d, if_neg d]; exact q3
theorem dirt_cl {S : mStore} (h : clR SH F e S W) (hW : wfW W) {g p t th u : Int} (hg : rg g) (hq : rg p) (ht : rg t) (hth : rg th) (hu : rg u) {u6 u7 u8 u9 u10 : Option Value} : CL sc MX10_dirt [some (.ref 0), some (.int (I g)), some (.int (I p)), some (.int (I t)), some (.int (I th)), some (.int (I u)), u6, u7, u8, u9, u10] SH F e S (dirtF W g p t th u) W := by
  obtain ⟨g0, g1, g2, hp, hst⟩ := clS h
  have hP := hW.1
  have ht1 := ht.1
  have hth1 := hth.1
  unfold dirtF
  by_cases c1 : plc W.1 g p = -1
  · rw [if_pos c1]
    exact CL_exc h (qX10_dirt_0 g0 (.inr ⟨_, _, _, pl_no g0 hp hP hg hq c1, rfl⟩))
  rw [if_neg c1]
  have hr := plc_rg hP c1
  have hpl := pl_ok (sc := sc) (u := none) g0 hp hP hg hq c1
  by_cases c2 : (1 ≤ t ∧ t ≤ 4) ∧ (0 ≤ th ∧ th ≤ 10)
  · rw [if_neg (fun q => q c2)]
    have hi := isl1 c2.1
    obtain ⟨S2, q2, f2⟩ := dirt_lp (sc := sc) g0 hW (l1 := g) (l2 := p) (u := u) hr.2.2.2 c2.1 c2.2 (isl 1 t).toNat 0 0 (u9 := u9) (u10 := u10) (by omega) (by omega) h
    refine CL_tr h (qX10_dirt_0 g0 (.inl ⟨_, _, hpl, ?_⟩)) (fun j hj => f2 j (by omega))
    rw [if_neg (by rw [I_lt ht ⟨by decide, by decide⟩]; omega), if_neg (by rw [I_lt ⟨by decide, by decide⟩ ht]; omega), if_neg (by rw [I_lt hth ⟨by decide, by decide⟩]; omega), if_neg (by rw [I_lt ⟨by decide, by decide⟩ hth]; omega)]
    exact .inl ⟨_, mustFit_yes, q2⟩
  · rw [if_pos c2]
    refine CL_exc h (qX10_dirt_0 g0 (.inl ⟨_, _, hpl, ?_⟩))
    by_cases d1 : t < 1
    · rw [if_pos (by rw [I_lt ht ⟨by decide, by decide⟩]; omega)]; exact .inr ⟨_, _, _, mustFit_no, rfl⟩
    rw [if_neg (by rw [I_lt ht ⟨by decide, by decide⟩]; omega)]
    by_cases d2 : 4 < t
    · rw [if_pos (by rw [I_lt ⟨by decide, by decide⟩ ht]; omega)]; exact .inr ⟨_, _, _, mustFit_no, rfl⟩
    rw [if_neg (by rw [I_lt ⟨by decide, by decide⟩ ht]; omega)]
    by_cases d3 : th < 0
    · rw [if_pos (by rw [I_lt hth ⟨by decide, by decide⟩]; omega)]; exact .inr ⟨_, _, _, mustFit_no, rfl⟩
    rw [if_neg (by rw [I_lt hth ⟨by decide, by decide⟩]; omega), if_pos (by rw [I_lt ⟨by decide, by decide⟩ hth]; omega)]
    exact .inr ⟨_, _, _, mustFit_no, rfl⟩
theorem rub_lp (h0 : sMod SH) (hP : wfP P) {l1 l2 th u l p way n : Int} (hpp : 0 ≤ p ∧ p < P 0 7) (hn : 0 ≤ n ∧ n ≤ 4) : ∀ (k : Nat) (t w : Int) {S : mStore} {B : aS} {N : Int} {u11 : Option Value}, t + k = n → 0 ≤ t → N + 16 * k < 2147483648 → modP S P → refR S 1654 B N → wfA P B → ∃ S' u', modP S' P ∧ refR S' 1654 (ubA P p way k t B) (N + 16 * k) ∧ wfA P (ubA P p way k t B) ∧ trF S S' ∧ ∀ r, G sc MX11_dirt 83 [some (.ref 90), some (.int (I l1)), some (.int (I l2)), some (.int (I n)), some (.int (I th)), some (.int (I u)), some (.int (I p)), some (.int (I l)), some (.int (I way)), some (.int (I (wtA th way k t w))), some (.int (I n)), u'] [] SH S' r → G sc MX11_dirt 83 [some (.ref 90), some (.int (I l1)), some (.int (I l2)), some (.int (I n)), some (.int (I th)), some (.int (I u)), some (.int (I p)), some (.int (I l)), some (.int (I way)), some (.int (I w)), some (.int (I t)), u11] [] SH S r
  | 0, t, w, S, B, N, u11, ht, h0', hN, hm, hr, hB => by
    have e : t = n := by omega
    subst e
    exact ⟨S, u11, hm, refR_N hr (by omega), hB, trF.rf S, fun r g => g⟩
  | k + 1, t, w, S, B, N, u11, ht, h0', hN, hm, hr, hB => by
    have hP7 := hP.2.2.2.2.2.1
    by_cases c : I (ian (isr way t) 1) = I 1
    · have qc := rcell_ok (sc := sc) (u := none) h0 (b := 1654) ⟨by decide, by decide⟩ hr hB (p := p) (c := 0) ⟨by omega, by omega⟩ ⟨by decide, by decide⟩
      have nr := nb_rg (cellsA B p) 12
      have e16 : nb (cellsA B p) (12 - 4 * 0) + 1 - idv (nb (cellsA B p) (12 - 4 * 0) + 1) 16 * 16 = nxA B p := by
        show nb (cellsA B p) 12 + 1 - idv (nb (cellsA B p) 12 + 1) 16 * 16 = (nb (cellsA B p) 12 + 1) % 16
        rw [idv_nn (by omega) (by omega) (by decide) (by decide)]; omega
      obtain ⟨S1, q1, r1, f1⟩ := rwc_ok (sc := sc) (S := S) h0 (b := 1654) ⟨by decide, by decide⟩ hm hP hr hB (p := p) hpp (c := 0) ⟨by decide, by decide⟩ (n := nxA B p) (nx_rg B p)
      have w1 : wfA P (putA P B p (pcell (cellsA B p) 0 (nxA B p))).2 := wf_put hP hB hpp (pcell_rg (cellsA_rg hB _) (nx_rg B p) ⟨by decide, by decide⟩)
      have m1 := modP_F hm f1
      obtain ⟨S2, q2, r2, f2⟩ := rticks_ok (sc := sc) (S := S1) (u3 := none) (u4 := none) h0 (b := 1654) ⟨by decide, by decide⟩ hP m1 r1 w1 (n := 1) (by decide) (by omega)
      obtain ⟨S3, u', m3, r3, w3, f3, go⟩ := rub_lp (S := S2) (l1 := l1) (l2 := l2) (th := th) (u := u) (l := l) h0 hP hpp hn k (t + 1) (w * th) (u11 := some (.int (I 1))) (N := N + 16 * ((1 : Nat) : Int)) (by omega) (by omega) (by omega) (modP_F m1 f2) r2 (wf_tick hP 1 w1)
      unfold ubA wtA
      rw [if_pos c, if_pos c]
      refine ⟨S3, u', m3, refR_N r3 (by omega), w3, (modF.trF f1).tr ((modF.trF f2).tr f3), fun r g => qX11_dirt_83 h0 ?_⟩
      rw [if_neg (by rw [I_le ⟨by omega, by omega⟩ ⟨by omega, by omega⟩]; omega), if_pos c, if_neg (show ¬(I 1 = I 0) by decide), if_neg (show ¬(I 1 = I 0) by decide)]
      refine ⟨_, _, qc, ?_⟩
      rw [e16]
      exact ⟨_, _, q1, qX11_dirt_158 h0 ⟨_, _, q2, go r g⟩⟩
    · obtain ⟨S2, q2, r2, f2⟩ := rticks_ok (sc := sc) (S := S) (u3 := none) (u4 := none) h0 (b := 1654) ⟨by decide, by decide⟩ hP hm hr hB (n := 1) (by decide) (by omega)
      obtain ⟨S3, u', m3, r3, w3, f3, go⟩ := rub_lp (S := S2) (l1 := l1) (l2 := l2) (th := th) (u := u) (l := l) h0 hP hpp hn k (t + 1) (w * (10 - th)) (u11 := some (.int (I 0))) (N := N + 16 * ((1 : Nat) : Int)) (by omega) (by omega) (by omega) (modP_F hm f2) r2 (wf_tick hP 1 hB)
      unfold ubA wtA
      rw [if_neg c, if_neg c]
      refine ⟨S3, u', m3, refR_N r3 (by omega), w3, (modF.trF f2).tr f3, fun r g => qX11_dirt_83 h0 ?_⟩
      rw [if_neg (by rw [I_le ⟨by omega, by omega⟩ ⟨by omega, by omega⟩]; omega), if_neg c, if_pos rfl, if_pos rfl]
      exact qX11_dirt_158 h0 ⟨_, _, q2, go r g⟩
theorem rdirt_lp (h0 : sMod SH) (hW : wfW W) {N : Int} (hN : N < 2000000000) {l1 l2 n th u p : Int} (hpp : 0 ≤ p ∧ p < W.1 0 7) (hn : 1 ≤ n ∧ n ≤ 4) : ∀ (m : Nat) (way l : Int) {S : mStore} {u9 u10 u11 : Option Value}, way + m = isl 1 n → 0 ≤ way → mdR S N W → ∃ S', G sc MX11_dirt 65 [some (.ref 90), some (.int (I l1)), some (.int (I l2)), some (.int (I n)), some (.int (I th)), some (.int (I u)), some (.int (I p)), some (.int (I l)), some (.int (I way)), u9, u10, u11] [] SH S (rI (dtA W.1 W.2.1.1 p th u n.toNat m way l) SH S') ∧ trF S S'
  | 0, way, l, S, u9, u10, u11, hw, h0', h => by
    have hi := isl1 hn
    refine ⟨S, qX11_dirt_65 h0 ?_, trF.rf S⟩
    rw [if_pos (by rw [I_le ⟨by omega, by omega⟩ ⟨by omega, by omega⟩]; omega)]
    rfl
  | m + 1, way, l, S, u9, u10, u11, hw, h0', h => by
    have hi := isl1 hn
    have hP := hW.1
    obtain ⟨S1, q1, r1, m1, f1⟩ := tr_md (sc := sc) h0 hW h
    obtain ⟨S2, u', m2, r2, w2, f2, go⟩ := rub_lp (sc := sc) (S := S1) (l1 := l1) (l2 := l2) (th := th) (u := u) (l := l) (way := way) (N := N) h0 hP hpp (n := n) ⟨by omega, by omega⟩ n.toNat 0 1 (u11 := u11) (by omega) (by omega) (by omega) m1 r1 hW.2.1.1
    have qu := rused_ok (sc := sc) (u := none) (u' := none) h0 (b := 1654) ⟨by decide, by decide⟩ m2 hP r2
    have h2 : mdR S2 N W := (f1.tr f2).md hW h
    obtain ⟨S3, q3, f3⟩ := rdirt_lp h0 hW hN (l1 := l1) (l2 := l2) (th := th) (u := u) hpp hn m (way + 1) (if I u < I (usedA W.1 (ubA W.1 p way n.toNat 0 W.2.1.1)) then l else l + wtA th way n.toNat 0 1) (u9 := some (.int (I (wtA th way n.toNat 0 1)))) (u10 := some (.int (I n))) (u11 := u') (by omega) (by omega) h2
    refine ⟨S3, qX11_dirt_65 h0 ?_, (f1.tr f2).tr f3⟩
    rw [if_neg (by rw [I_le ⟨by omega, by omega⟩ ⟨by omega, by omega⟩]; omega)]
    refine ⟨_, q1, go _ (qX11_dirt_83 h0 ?_)⟩
    rw [if_pos (by rw [I_le ⟨by omega, by omega⟩ ⟨by omega, by omega⟩]; omega)]
    refine ⟨_, _, qu, ?_⟩
    unfold dtA
    by_cases d : I u < I (usedA W.1 (ubA W.1 p way n.toNat 0 W.2.1.1))
    · rw [if_pos d] at q3; rw [if_pos d, if_pos d]; exact q3
    · rw [if_neg d] at q3; rw [if_neg d, if_neg d]; exact q3
theorem dirt_md {S : mStore} {N : Int} (h0 : sMod SH) (hW : wfW W) (h : mdR S N W) (hN : N < 2000000000) {g p t th u : Int} (hg : rg g) (hp : rg p) (ht' : rg t) (hth : rg th) (hu : rg u) {u6 u7 u8 u9 u10 u11 : Option Value} : MD sc MX11_dirt [some (.ref 90), some (.int (I g)), some (.int (I p)), some (.int (I t)), some (.int (I th)), some (.int (I u)), u6, u7, u8, u9, u10, u11] SH S N 2 (dirtF W g p t th u) W := by
  have ht : up S 90 4 0 90 4 = 0 := up_eq _ _ _ _
  obtain ⟨hm, hr⟩ := mdS (x := 0) hW h
  have hP := hW.1
  have w1 := within_ok (sc := sc) (SH := SH) (S := up S 90 4 0) ht' (lo := 1) ⟨by decide, by decide⟩ (hi := 4) ⟨by decide, by decide⟩
  have w2 := within_ok (sc := sc) (SH := SH) (S := up S 90 4 0) hth (lo := 0) ⟨by decide, by decide⟩ (hi := 10) ⟨by decide, by decide⟩
  unfold dirtF
  by_cases c1 : plc W.1 g p = -1
  · rw [if_pos c1]
    refine MD_exc (v := 0) hW h (qX11_dirt_0 h0 ⟨_, _, isP_no h0 hm hP ht hg hp c1, ?_⟩)
    rw [if_pos rfl]
  rw [if_neg c1]
  have hpr := plc_rg hP c1
  have h97 := tr97 hP h c1 hm
  by_cases c2 : 1 ≤ t ∧ t ≤ 4
  · rw [if_pos c2] at w1
    by_cases c3 : 0 ≤ th ∧ th ≤ 10
    · rw [if_pos c3] at w2
      rw [if_neg (fun q => q ⟨c2, c3⟩)]
      have hi := isl1 c2
      obtain ⟨S2, q2, f2⟩ := rdirt_lp (sc := sc) h0 hW hN (l1 := g) (l2 := p) (th := th) (u := u) hpr.2.2.2 c2 (isl 1 t).toNat 0 0 (u9 := u9) (u10 := u10) (u11 := u11) (by omega) (by omega) (mdR_thr (x := 0) hW h)
      refine MD_tr hW h (qX11_dirt_0 h0 ⟨_, _, isP_yes h0 hm hP ht hg hp c1, ?_⟩) f2
      rw [if_neg (by decide)]
      refine ⟨_, _, w1, ?_⟩
      rw [if_neg (by decide)]
      refine ⟨_, _, w2, ?_⟩
      rw [if_neg (by decide)]
      refine ⟨_, _, right_yes h0 ht, ?_⟩
      rw [if_neg (by decide), h97.1]
      exact ⟨⟨h97.2.1, h97.2.2⟩, q2⟩
    · rw [if_neg c3] at w2
      rw [if_pos (fun q => c3 q.2)]
      refine MD_arg (v := 0) hW h (qX11_dirt_0 h0 ⟨_, _, isP_yes h0 hm hP ht hg hp c1, ?_⟩)
      rw [if_neg (by decide)]
      refine ⟨_, _, w1, ?_⟩
      rw [if_neg (by decide)]
      refine ⟨_, _, w2, ?_⟩
      rw [if_pos rfl]
      refine ⟨_, _, right_no h0 ht (.inr rfl), ?_⟩
      rw [if_pos rfl]
  · rw [if_neg c2] at w1
    rw [if_pos (fun q => c2 q.1)]
    refine MD_arg (v := 0) hW h (qX11_dirt_0 h0 ⟨_, _, isP_yes h0 hm hP ht hg hp c1, ?_⟩)
    rw [if_neg (by decide)]
    refine ⟨_, _, w1, ?_⟩
    rw [if_pos rfl]
    refine ⟨_, _, right_no h0 ht (.inr rfl), ?_⟩
    rw [if_pos rfl]
end
