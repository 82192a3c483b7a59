/-! ===== the class: write, copy, drop, advise, scan, ticks, rate, undo ===== -/
def writeF (W : aW) (g p c n : Int) : aO × aW := if plc W.1 g p = -1 then (.inr 0, W) else if ¬(0 ≤ c ∧ c < 4) then (.inr 0, W) else if ¬(0 ≤ n ∧ n ≤ 15) then (.inl (-1), refW W) else actF W (putA W.1 W.2.1.1 (plc W.1 g p) (pcell (cellsA W.2.1.1 (plc W.1 g p)) c n))
def copyF (W : aW) (g p o q : Int) : aO × aW := if plc W.1 g p = -1 then (.inr 0, W) else if plc W.1 o q = -1 then (.inr 0, W) else actF W (putA W.1 W.2.1.1 (plc W.1 g p) (cellsA W.2.1.1 (plc W.1 o q)))
def dropF (W : aW) (g p : Int) : aO × aW := if plc W.1 g p = -1 then (.inr 0, W) else actF W (dropA W.2.1.1 (plc W.1 g p))
def zno (x : Int × aS) : Int × aS := (if x.1 = 0 then -1 else x.1, x.2)
def advX (W : aW) (a b : Int) (as : Int) : Int × aS := if as = 0 then noMore W.1 (b - a + 1).toNat a W.2.1.1 else advAll (b - a + 1).toNat a W.2.1.1
def adviseF (W : aW) (g f t as : Int) : aO × aW := if plc W.1 g f = -1 then (.inr 0, W) else if plc W.1 g t = -1 then (.inr 0, W) else actF W (zno (advX W (plc W.1 g f) (plc W.1 g t) as))
def scanF (W : aW) (n : Int) : aO × aW := if ¬(1 ≤ n ∧ n ≤ 100) then (.inl (-1), refW W) else actF W (scanN W.1 n.toNat W.2.1.1)
def ticksF (W : aW) (n : Int) : aO × aW := if ¬(1 ≤ n ∧ n ≤ 20) then (.inl (-1), refW W) else if 9999 < W.2.1.1.v 6 2 + n then (.inl (-1), refW W) else actF W ((tickA W.1 n.toNat W.2.1.1).2.v 6 2, (tickA W.1 n.toNat W.2.1.1).2)
def rateF (W : aW) (r : Int) : aO × aW := if ¬(W.1 0 2 ≤ r ∧ r ≤ W.1 0 3) then (.inl (-1), refW W) else if r = W.2.1.1.v 6 0 then (.inl (-1), refW W) else actF W (W.2.1.1.v 6 0, W.2.1.1.sv 6 0 r)
def undoF (W : aW) : aO × aW := match W.2.1.2.1.getLast? with
  | none => (.inl (-1), W)
  | some A => (.inl (W.2.1.2.1.length - 1), (W.1, (A, W.2.1.2.1.dropLast, W.2.1.2.2), W.2.2))
theorem own_no {P : aP} {A : aS} {p : Int} (h : (ownA P A p).1 = -1) : (ownA P A p).2 = A := by
  unfold ownA at *
  by_cases c1 : A.w p ≠ -1 ∧ A.k (A.w p) = -1
  · rw [if_pos c1]
  rw [if_neg c1] at *
  by_cases c2 : A.w p ≠ -1 ∧ (A.L (A.w p)).length = 1
  · rw [if_pos c2] at h; cases h
  rw [if_neg c2] at *
  by_cases c3 : freeA P A = -1
  · rw [if_pos c3]
  rw [if_neg c3] at *
  by_cases c4 : A.w p = -1
  · rw [if_pos c4] at h; cases h
  · rw [if_neg c4] at h; cases h
theorem put_no {P : aP} {A : aS} {p x : Int} (h : (putA P A p x).1 = -1) : (putA P A p x).2 = A := by
  unfold putA at *
  by_cases c : (ownA P A p).1 = -1
  · rw [if_pos c]; exact own_no c
  · rw [if_neg c] at h; exact absurd h c
theorem put_rg (P : aP) (A : aS) (p x : Int) : rg (putA P A p x).1 := by
  have := own_rg (P := P) (A := A) (p := p)
  unfold putA
  by_cases c : (ownA P A p).1 = -1
  · rw [if_pos c]; exact ⟨by omega, by omega⟩
  · rw [if_neg c]; exact ⟨by dsimp only; omega, by dsimp only; omega⟩
theorem drop_no {A : aS} {p : Int} (h : (dropA A p).1 = -1) : (dropA A p).2 = A := by
  unfold dropA at *
  by_cases c : A.w p = -1
  · rw [if_pos c]
  · rw [if_neg c] at h
    by_cases d : (unlie A p).L (A.w p) = []
    · rw [if_pos d] at h; cases h
    · rw [if_neg d] at h; cases h
theorem drop_rg (A : aS) (p : Int) : rg (dropA A p).1 := by
  unfold dropA
  by_cases c : A.w p = -1
  · rw [if_pos c]; exact ⟨by dsimp only; decide, by dsimp only; decide⟩
  · rw [if_neg c]
    by_cases d : (unlie A p).L (A.w p) = []
    · rw [if_pos d]; exact ⟨by dsimp only; decide, by dsimp only; decide⟩
    · rw [if_neg d]; exact ⟨by dsimp only; decide, by dsimp only; decide⟩
theorem adv_no : ∀ {n : Nat} {p : Int} {A : aS}, (advAll n p A).1 = 0 → (advAll n p A).2 = A
  | 0, _, _, _ => rfl
  | n + 1, p, A, h => by
    unfold advAll at *
    by_cases c : A.v 1 p = 0
    · rw [if_pos c] at h
      have := (advAll_rg n (p + 1) (A.sv 1 p 1)).1
      dsimp only at h
      omega
    · rw [if_neg c] at *; exact adv_no h
theorem noMore_no {P : aP} : ∀ {n : Nat} {p : Int} {A : aS}, (noMore P n p A).1 = 0 → (noMore P n p A).2 = A
  | 0, _, _, _ => rfl
  | n + 1, p, A, h => by
    unfold noMore at *
    by_cases c : A.v 1 p = 0
    · rw [if_pos c] at *; exact noMore_no h
    · rw [if_neg c] at *
      by_cases d : mrg A p = true
      · rw [if_pos d] at *
        by_cases f : (ownA P A p).1 = -1
        · rw [if_pos f]; exact own_no f
        · rw [if_neg f] at h; have := (noMore_rg (P := P) n (p + 1) (offA (ownA P A p).2 p)).1; dsimp only at h; omega
      · rw [if_neg d] at h; have := (noMore_rg (P := P) n (p + 1) (offA A p)).1; dsimp only at h; omega
section
variable {sc : Nat × (Nat → Int32)} {SH : List mCell} {F : Nat → Nat → Option Nat} {S : mStore} {e : Nat} {W : aW}
theorem CL_ref {M : mM} {ls : List (Option Value)} (h : clR SH F e S W) (g : ∀ S', G sc MX10_refused 0 [some (.ref 0)] [] SH S (rI (-1) SH S') → G sc M 0 ls [] SH S (rI (-1) SH S')) : CL sc M ls SH F e S (.inl (-1)) (refW W) := by
  obtain ⟨g1, k⟩ := refused_cl (sc := sc) h
  exact ⟨SH, F, e, _, g _ g1, k, Nat.le_succ _, fun j hj _ => up_ne (by omega)⟩
/-- ahead, then an act on the state, then acted -/
theorem CL_act {M : mM} {ls : List (Option Value)} (h : clR SH F e S W) (hW : wfW W) {x : Int × aS} (hv : rg x.1) (hno : x.1 = -1 → x.2 = W.2.1.1)
    (hop : ∀ SH1 F1 S1, clR SH1 F1 e S1 W → (∀ j, j < 111 → S1 j = S j) → ∃ S2, stateR S2 17 x.2 ∧ (∀ j, j < 17 ∨ 37 ≤ j → S2 j = S1 j) ∧ (∀ v S3, sGP SH1 → G sc MX0_ahead 0 [some (.ref 37), some (.ref 17)] [] SH S (rV SH1 S1) → G sc MX10_acted 0 [some (.ref 0), some (.int (I x.1))] [] SH1 S2 (rI v SH1 S3) → G sc M 0 ls [] SH S (rI v SH1 S3))) : CL sc M ls SH F e S (actF W x).1 (actF W x).2 := by
  obtain ⟨SH1, F1, S1, g1, k1, sp, f1⟩ := ahead_cl (sc := sc) h hW
  obtain ⟨S2, r2, f2, go⟩ := hop SH1 F1 S1 k1 f1
  obtain ⟨v, S3, g3, ev, k3, f3⟩ := act_cl (sc := sc) hW k1 sp r2 f2 hv hno
  rw [ev]
  exact ⟨SH1, F1, e, S3, go v S3 k1.1.1.1 g1 g3, k3, Nat.le_succ _, fun j h1 h2 => by rw [f3 j h1 h2, f1 j (by omega)]⟩
theorem write_cl (h : clR SH F e S W) (hW : wfW W) {g p c n : Int} (hg : rg g) (hq : rg p) (hc : rg c) (hn : rg n) {u : Option Value} : CL sc MX10_write [some (.ref 0), some (.int (I g)), some (.int (I p)), some (.int (I c)), some (.int (I n)), u] SH F e S (writeF W g p c n).1 (writeF W g p c n).2 := by
  obtain ⟨g0, g1, g2, hp, hs⟩ := clS h
  have hP := hW.1
  have hP7 := hP.2.2.2.2.2.1
  have hn1 := hn.1
  have hn2 := hn.2
  unfold writeF
  by_cases c1 : plc W.1 g p = -1
  · rw [if_pos c1]
    exact CL_exc h (qX10_write_0 g0 (.inr ⟨_, _, _, pl_no g0 hp hP hg hq c1, rfl⟩))
  rw [if_neg c1]
  have hr := plc_rg hP c1
  have hpl := pl_ok (sc := sc) (u := none) g0 hp hP hg hq c1
  by_cases c2 : 0 ≤ c ∧ c < 4
  · rw [if_neg (fun q => q c2)]
    by_cases c3 : 0 ≤ n ∧ n ≤ 15
    · rw [if_neg (fun q => q c3)]
      refine CL_act h hW (put_rg _ _ _ _) put_no (fun SH1 F1 S1 k1 f1 => ?_)
      obtain ⟨_, m1, _, mp, ms⟩ := clS k1
      obtain ⟨S2, q2, r2, f2⟩ := putCell_ok (sc := sc) (u := none) m1 (by decide) mp hP ms hW.2.1.1 (p := plc W.1 g p) (c := c) (x := n) ⟨by omega, by omega⟩
      refine ⟨S2, r2, fun j hj => f2 j (by omega), fun v S3 sg ga gd => qX10_write_0 g0 (.inl ⟨_, _, hpl, .inl ⟨_, mbc_ok c2, ?_⟩⟩)⟩
      rw [if_neg (by rw [I_lt hn ⟨by decide, by decide⟩]; omega), if_pos (by rw [I_le hn ⟨by decide, by decide⟩]; omega)]
      exact ⟨_, _, sg, ga, _, _, q2, _, _, gd, rfl⟩
    · rw [if_pos c3]
      refine CL_ref h (fun S' g => qX10_write_0 g0 (.inl ⟨_, _, hpl, .inl ⟨_, mbc_ok c2, ?_⟩⟩))
      by_cases c4 : n < 0
      · rw [if_pos (by rw [I_lt hn ⟨by decide, by decide⟩]; omega)]; exact ⟨_, _, g, rfl⟩
      · rw [if_neg (by rw [I_lt hn ⟨by decide, by decide⟩]; omega), if_neg (by rw [I_le hn ⟨by decide, by decide⟩]; omega)]; exact ⟨_, _, g, rfl⟩
  · rw [if_pos c2]
    exact CL_exc h (qX10_write_0 g0 (.inl ⟨_, _, hpl, .inr ⟨_, _, _, mbc_no hc c2, rfl⟩⟩))
theorem copy_cl (h : clR SH F e S W) (hW : wfW W) {g p o q : Int} (hg : rg g) (hq : rg p) (ho : rg o) (hq' : rg q) {u u' : Option Value} : CL sc MX10_copy [some (.ref 0), some (.int (I g)), some (.int (I p)), some (.int (I o)), some (.int (I q)), u, u'] SH F e S (copyF W g p o q).1 (copyF W g p o q).2 := by
  obtain ⟨g0, g1, g2, hp, hs⟩ := clS h
  have hP := hW.1
  have hP7 := hP.2.2.2.2.2.1
  unfold copyF
  by_cases c1 : plc W.1 g p = -1
  · rw [if_pos c1]
    exact CL_exc h (qX10_copy_0 g0 (.inr ⟨_, _, _, pl_no g0 hp hP hg hq c1, rfl⟩))
  rw [if_neg c1]
  have hr := plc_rg hP c1
  have hpl := pl_ok (sc := sc) (u := none) g0 hp hP hg hq c1
  by_cases c2 : plc W.1 o q = -1
  · rw [if_pos c2]
    exact CL_exc h (qX10_copy_0 g0 (.inl ⟨_, _, hpl, .inr ⟨_, _, _, pl_no g0 hp hP ho hq' c2, rfl⟩⟩))
  rw [if_neg c2]
  have hr2 := plc_rg hP c2
  refine CL_act h hW (put_rg _ _ _ _) put_no (fun SH1 F1 S1 k1 f1 => ?_)
  obtain ⟨_, m1, _, mp, ms⟩ := clS k1
  obtain ⟨S2, q2, r2, f2⟩ := put_ok (sc := sc) (u := none) (u' := none) m1 (by decide) mp hP ms hW.2.1.1 (p := plc W.1 g p) (x := cellsA W.2.1.1 (plc W.1 o q)) ⟨by omega, by omega⟩
  exact ⟨S2, r2, fun j hj => f2 j (by omega), fun v S3 sg ga gd => qX10_copy_0 g0 (.inl ⟨_, _, hpl, .inl ⟨_, _, pl_ok g0 hp hP ho hq' c2, _, _, sg, ga, _, _, cells_ok m1 ms hW.2.1.1 ⟨by omega, by omega⟩, _, _, q2, _, _, gd, rfl⟩⟩)⟩
theorem drop_cl (h : clR SH F e S W) (hW : wfW W) {g p : Int} (hg : rg g) (hq : rg p) {u : Option Value} : CL sc MX10_drop [some (.ref 0), some (.int (I g)), some (.int (I p)), u] SH F e S (dropF W g p).1 (dropF W g p).2 := by
  obtain ⟨g0, g1, g2, hp, hs⟩ := clS h
  have hP := hW.1
  have hP7 := hP.2.2.2.2.2.1
  unfold dropF
  by_cases c1 : plc W.1 g p = -1
  · rw [if_pos c1]
    exact CL_exc h (qX10_drop_0 g0 (.inr ⟨_, _, _, pl_no g0 hp hP hg hq c1, rfl⟩))
  rw [if_neg c1]
  have hr := plc_rg hP c1
  refine CL_act h hW (drop_rg _ _) drop_no (fun SH1 F1 S1 k1 f1 => ?_)
  obtain ⟨_, m1, _, mp, ms⟩ := clS k1
  obtain ⟨S2, q2, r2, f2⟩ := drop_ok (sc := sc) (u := none) m1 ms hW.2.1.1 (p := plc W.1 g p) ⟨by omega, by omega⟩
  exact ⟨S2, r2, fun j hj => f2 j (by omega), fun v S3 sg ga gd => qX10_drop_0 g0 (.inl ⟨_, _, pl_ok g0 hp hP hg hq c1, _, _, sg, ga, _, _, q2, _, _, gd, rfl⟩)⟩
theorem adviseX_ok {A : aS} {P : aP} (h0 : sState SH 17) (hp : planR S 1 P) (hP : wfP P) (hs : stateR S 17 A) (hA : wfA P A) {a b : Int} (ha : 0 ≤ a ∧ a < P 0 7) (hb : 0 ≤ b ∧ b < P 0 7) : (∃ S', G sc MX7_adviseAll 0 [some (.ref 17), some (.int (I a)), some (.int (I b)), none, none] [] SH S (rI (advAll (b - a + 1).toNat a A).1 SH S') ∧ stateR S' 17 (advAll (b - a + 1).toNat a A).2 ∧ (∀ j, j < 17 ∨ 37 ≤ j → S' j = S j)) ∧ (∃ S', G sc MX7_adviseNoMore 0 [some (.ref 17), some (.int (I a)), some (.int (I b)), none, none] [] SH S (rI (noMore P (b - a + 1).toNat a A).1 SH S') ∧ stateR S' 17 (noMore P (b - a + 1).toNat a A).2 ∧ (∀ j, j < 17 ∨ 37 ≤ j → S' j = S j)) := by
  have hP7 := hP.2.2.2.2.2.1
  by_cases c : a ≤ b
  · have e : b = a + ((b - a + 1).toNat : Int) - 1 := by omega
    obtain ⟨S1, g1, r1, f1⟩ := adv_ok (sc := sc) (u := none) (u' := none) h0 hs hA (lo := a) (n := (b - a + 1).toNat) ha.1 (by omega)
    obtain ⟨S2, g2, r2, f2⟩ := noMore_ok (sc := sc) (u := none) (u' := none) h0 (by decide) hP hp hs hA (lo := a) (n := (b - a + 1).toNat) ha.1 (by omega)
    rw [← e] at g1 g2
    exact ⟨⟨S1, g1, r1, fun j hj => f1 j (by omega)⟩, ⟨S2, g2, r2, fun j hj => f2 j (by omega)⟩⟩
  · have e : (b - a + 1).toNat = 0 := by omega
    rw [e]
    refine ⟨⟨S, qX7_adviseAll_0 h0 (qX7_adviseAll_5 h0 ?_), hs, fun _ _ => rfl⟩, ⟨S, qX7_adviseNoMore_0 h0 (qX7_adviseNoMore_5 h0 ?_), hs, fun _ _ => rfl⟩⟩
    · rw [if_pos (by rw [I_lt ⟨by omega, by omega⟩ ⟨by omega, by omega⟩]; omega)]; rfl
    · rw [if_pos (by rw [I_lt ⟨by omega, by omega⟩ ⟨by omega, by omega⟩]; omega)]; rfl
theorem advX_rg {W : aW} (hP : wfP W.1) {a b as : Int} (ha : 0 ≤ a ∧ a < W.1 0 7) (hb : 0 ≤ b ∧ b < W.1 0 7) : (0 ≤ (advX W a b as).1 ∧ (advX W a b as).1 ≤ 48) ∧ ((advX W a b as).1 = 0 → (advX W a b as).2 = W.2.1.1) := by
  have hP7 := hP.2.2.2.2.2.1
  unfold advX
  by_cases c : as = 0
  · rw [if_pos c]
    have := noMore_rg (P := W.1) (b - a + 1).toNat a W.2.1.1
    exact ⟨by omega, noMore_no⟩
  · rw [if_neg c]
    have := advAll_rg (b - a + 1).toNat a W.2.1.1
    exact ⟨by omega, adv_no⟩
theorem advise_cl (h : clR SH F e S W) (hW : wfW W) {g f t as : Int} (hg : rg g) (hf : rg f) (ht : rg t) (has : as = 0 ∨ as = 1) {u u' u2 : Option Value} : CL sc MX10_advise [some (.ref 0), some (.int (I g)), some (.int (I f)), some (.int (I t)), some (.int (I as)), u, u', u2] SH F e S (adviseF W g f t as).1 (adviseF W g f t as).2 := by
  obtain ⟨g0, g1, g2, hp, hs⟩ := clS h
  have hP := hW.1
  have hP7 := hP.2.2.2.2.2.1
  unfold adviseF
  by_cases c1 : plc W.1 g f = -1
  · rw [if_pos c1]
    exact CL_exc h (qX10_advise_0 g0 (.inr ⟨_, _, _, pl_no g0 hp hP hg hf c1, rfl⟩))
  rw [if_neg c1]
  have hr := plc_rg hP c1
  have hpl := pl_ok (sc := sc) (u := none) g0 hp hP hg hf c1
  by_cases c2 : plc W.1 g t = -1
  · rw [if_pos c2]
    exact CL_exc h (qX10_advise_0 g0 (.inl ⟨_, _, hpl, .inr ⟨_, _, _, pl_no g0 hp hP hg ht c2, rfl⟩⟩))
  rw [if_neg c2]
  have hr2 := plc_rg hP c2
  have hx := advX_rg (as := as) hP hr.2.2.2 hr2.2.2.2
  have hzr : rg (zno (advX W (plc W.1 g f) (plc W.1 g t) as)).1 := by
    unfold zno
    by_cases z : (advX W (plc W.1 g f) (plc W.1 g t) as).1 = 0
    · rw [if_pos z]; exact ⟨by dsimp only; decide, by dsimp only; decide⟩
    · rw [if_neg z]; exact ⟨by omega, by omega⟩
  refine CL_act h hW hzr (fun q => ?_) (fun SH1 F1 S1 k1 f1 => ?_)
  · unfold zno at *
    by_cases z : (advX W (plc W.1 g f) (plc W.1 g t) as).1 = 0
    · exact hx.2 z
    · dsimp only at q; rw [if_neg z] at q; omega
  · obtain ⟨_, m1, _, mp, ms⟩ := clS k1
    obtain ⟨⟨S2, q2, r2, f2⟩, ⟨S3, q3, r3, f3⟩⟩ := adviseX_ok (sc := sc) m1 mp hP ms hW.2.1.1 hr.2.2.2 hr2.2.2.2
    unfold zno advX at *
    rcases has with rfl | rfl
    · rw [if_pos rfl] at *
      refine ⟨S3, r3, f3, fun v S4 sg ga gd => qX10_advise_0 g0 (.inl ⟨_, _, hpl, .inl ⟨_, _, pl_ok g0 hp hP hg ht c2, _, _, sg, ga, ?_⟩⟩)⟩
      rw [if_pos rfl]
      refine ⟨_, _, q3, ?_⟩
      by_cases z : (noMore W.1 (plc W.1 g t - plc W.1 g f + 1).toNat (plc W.1 g f) W.2.1.1).1 = 0
      · dsimp only at gd
        rw [if_pos z] at gd
        rw [if_pos (by rw [z])]; exact ⟨_, _, gd, rfl⟩
      · dsimp only at gd
        rw [if_neg z] at gd
        rw [if_neg (by rw [I_eq ⟨by omega, by omega⟩ ⟨by decide, by decide⟩]; exact z)]; exact ⟨_, _, gd, rfl⟩
    · rw [if_neg (show ¬((1 : Int) = 0) by decide)] at *
      refine ⟨S2, r2, f2, fun v S4 sg ga gd => qX10_advise_0 g0 (.inl ⟨_, _, hpl, .inl ⟨_, _, pl_ok g0 hp hP hg ht c2, _, _, sg, ga, ?_⟩⟩)⟩
      rw [if_neg (by decide)]
      refine ⟨_, _, q2, ?_⟩
      by_cases z : (advAll (plc W.1 g t - plc W.1 g f + 1).toNat (plc W.1 g f) W.2.1.1).1 = 0
      · dsimp only at gd
        rw [if_pos z] at gd
        rw [if_pos (by rw [z])]; exact ⟨_, _, gd, rfl⟩
      · dsimp only at gd
        rw [if_neg z] at gd
        rw [if_neg (by rw [I_eq ⟨by omega, by omega⟩ ⟨by decide, by decide⟩]; exact z)]; exact ⟨_, _, gd, rfl⟩
end
