/-! ===== guess (both) ===== -/
section
variable {sc : Nat × (Nat → Int32)} {SH : List mCell} {F : Nat → Nat → Option Nat} {e : Nat} {W : aW} {P : aP} {N : Int}
theorem guess_cl {S : mStore} (h : clR SH F e S W) (hW : wfW W) {g p c x : Int} (hg : rg g) (hq : rg p) (hc : rg c) (hx : rg x) {u5 u6 u7 u8 u9 : Option Value} : CL sc MX10_guess [some (.ref 0), some (.int (I g)), some (.int (I p)), some (.int (I c)), some (.int (I x)), u5, u6, u7, u8, u9] SH F e S (guessF W g p c x) W := by
  obtain ⟨g0, g1, g2, hp, hst⟩ := clS h
  have hP := hW.1
  have hP7 := hP.2.2.2.2.2.1
  have hx1 := hx.1
  unfold guessF
  by_cases c1 : plc W.1 g p = -1
  · rw [if_pos c1]
    exact CL_exc h (qX10_guess_0 g0 (.inr ⟨_, _, _, pl_no g0 hp hP hg hq c1, rfl⟩))
  rw [if_neg c1]
  have hr := plc_rg hP c1
  have hpl := pl_ok (sc := sc) (u := none) g0 hp hP hg hq c1
  by_cases c2 : 0 ≤ c ∧ c < 4
  · rw [if_neg (fun q => q c2)]
    by_cases c3 : 0 ≤ x ∧ x ≤ 2
    · rw [if_neg (fun q => q c3)]
      have hn8 := hW.2.1.2.2.2.1
      have hnt := hW.2.1.2.2.2.2
      have lr := lt_rg (st := W.2.1.2.2.2) W.2.1.2.2.1.toNat 0 0 (fun j a b => (hnt j a (by omega)).1) ⟨by decide, by decide⟩
      have ql : G sc MX1_lastNoted 0 [some (.ref 13), none, none] [] SH S (rI (ltA W.2.1.2.2.2 W.2.1.2.2.1.toNat 0 0) SH S) := qX1_lastNoted_0 g0.2.2.2.1 (last_lp g0 h.2.2.1.2.2.2.2.1 hn8 (fun i a b => (h.2.2.1.2.2.2.2.2.1 i a b).1) (fun i a b => (hnt i a b).1) W.2.1.2.2.1.toNat 0 0 (by omega) (by omega) ⟨by decide, by decide⟩)
      have hfar : ∀ i, 0 ≤ i → i < W.2.1.2.2.1 → W.2.1.2.2.2 0 i ≤ ltA W.2.1.2.2.2 W.2.1.2.2.1.toNat 0 0 := fun i a b => lr.2.2 i a (by omega)
      by_cases c4 : x = 2
      · rw [if_pos c4]
        obtain ⟨S1, q1, f1, _⟩ := fits_ok (sc := sc) (u := none) h hW hr.2.2.2 c2 (v := -1) ⟨by decide, by decide⟩ lr.1 hfar
        have ef : fitA W (plc W.1 g p) c (-1) = ntW W W.2.1.1 := by unfold fitA; rw [if_pos rfl]
        rw [ef] at q1
        refine CL_tr h (S' := S1) (qX10_guess_0 g0 (.inl ⟨_, _, hpl, .inl ⟨_, mbc_ok c2, ?_⟩⟩)) (fun j hj => f1 j (by omega))
        rw [if_neg (by rw [I_lt hx ⟨by decide, by decide⟩]; omega), if_neg (by rw [I_lt ⟨by decide, by decide⟩ hx]; omega)]
        refine .inl ⟨_, mustBe_yes, _, _, ql, ?_⟩
        rw [if_pos (by rw [c4])]
        refine ⟨_, _, q1, ?_⟩
        by_cases m : ntW W W.2.1.1 = true
        · rw [if_pos m, if_neg (by decide)]
        · rw [if_neg m, if_pos rfl]
      · rw [if_neg c4]
        obtain ⟨S1, q1, f1⟩ := guess_lp (sc := sc) g0 hW (a := g) (b := p) hr.2.2.2 c2 (x := x) (by omega) lr.1 hfar 16 0 0 (by decide) (by decide) h
        rw [Int.zero_add] at q1
        refine CL_tr h (S' := S1) (qX10_guess_0 g0 (.inl ⟨_, _, hpl, .inl ⟨_, mbc_ok c2, ?_⟩⟩)) (fun j hj => f1 j (by omega))
        rw [if_neg (by rw [I_lt hx ⟨by decide, by decide⟩]; omega), if_neg (by rw [I_lt ⟨by decide, by decide⟩ hx]; omega)]
        refine .inl ⟨_, mustBe_yes, _, _, ql, ?_⟩
        rw [if_neg (by rw [I_eq hx ⟨by decide, by decide⟩]; exact c4)]
        exact ⟨_, _, cells_ok g1 hst hW.2.1.1 ⟨by omega, by omega⟩, _, _, cell_ok, q1⟩
    · rw [if_pos c3]
      refine CL_exc h (qX10_guess_0 g0 (.inl ⟨_, _, hpl, .inl ⟨_, mbc_ok c2, ?_⟩⟩))
      by_cases d : x < 0
      · rw [if_pos (by rw [I_lt hx ⟨by decide, by decide⟩]; omega)]; exact .inr ⟨_, _, _, mustBe_no rfl, rfl⟩
      · rw [if_neg (by rw [I_lt hx ⟨by decide, by decide⟩]; omega), if_pos (by rw [I_lt ⟨by decide, by decide⟩ hx]; omega)]; exact .inr ⟨_, _, _, mustBe_no rfl, rfl⟩
  · rw [if_pos c2]
    exact CL_exc h (qX10_guess_0 g0 (.inl ⟨_, _, hpl, .inr ⟨_, _, _, mbc_no hc c2, rfl⟩⟩))
theorem rser_lp (h0 : sMod SH) (hP : wfP P) {B : aS} (hB : wfA P B) {u2 : Option Value} : ∀ (k : Nat) (t : Nat) {S : mStore} {N : Int}, t + k = 21 → N + 16 * k < 2147483648 → modP S P → refR S 1654 (sqA P B t) N → (∀ i : Nat, i < t → S 108 i = usedA P (sqA P B i)) → ∃ S', (∀ i : Nat, i < 21 → S' 108 i = usedA P (sqA P B i)) ∧ trF S S' ∧ ∀ r, G sc MX11_isNoted 40 [some (.ref 90), some (.int (I 1)), some (.int (I 0))] [] SH S' r → G sc MX11_isNoted 2 [some (.ref 90), some (.int (I t)), u2] [] SH S r
  | 0, t, S, N, hk, hN, hm, hr, hs => by
    refine ⟨S, fun i hi => hs i (by omega), trF.rf S, fun r g => qX11_isNoted_2 h0 ?_⟩
    rw [if_pos (by rw [I_lt ⟨by decide, by decide⟩ ⟨by omega, by omega⟩]; omega)]
    exact g
  | k + 1, t, S, N, hk, hN, hm, hr, hs => by
    have qu := rused_ok (sc := sc) (u := none) (u' := none) h0 (b := 1654) ⟨by decide, by decide⟩ hm hP hr
    have m1 : modP (up S 108 t (usedA P (sqA P B t))) P := ⟨by rw [up_ne (by decide)]; exact hm.1, by rw [up_ne (by decide)]; exact hm.2.1, by rw [up_ne (by decide)]; exact hm.2.2.1, by rw [up_ne (by decide)]; exact hm.2.2.2.1, by rw [up_ne (by decide)]; exact hm.2.2.2.2⟩
    have f1 : trF S (up S 108 t (usedA P (sqA P B t))) := ⟨fun i _ => by rw [up_ne (by decide)], fun i _ _ => by rw [up_ne (by decide)], fun j hj => up_ne (by omega)⟩
    obtain ⟨S2, q2, r2, f2⟩ := rticks_ok (sc := sc) (S := up S 108 t (usedA P (sqA P B t))) (u3 := none) (u4 := none) h0 (b := 1654) ⟨by decide, by decide⟩ hP m1 (refR_far hr (up_ne (by decide))) (wf_sq hP hB t) (n := 1) (by decide) (by omega)
    obtain ⟨S3, a3, f3, go⟩ := rser_lp h0 hP hB (u2 := u2) k (t + 1) (S := S2) (N := N + 16 * ((1 : Nat) : Int)) (by omega) (by omega) (modP_F m1 f2) r2 (fun i hi => by
      rw [f2.2.1 108 (by decide) (by decide) (by decide) (by decide), up_at]
      by_cases d : (i : Int) = t
      · rw [if_pos d, show i = t by omega]
      · rw [if_neg d]; exact hs i (by omega))
    refine ⟨S3, a3, f1.tr ((modF.trF f2).tr f3), fun r g => qX11_isNoted_2 h0 ?_⟩
    rw [if_neg (by rw [I_lt ⟨by decide, by decide⟩ ⟨by omega, by omega⟩]; omega)]
    have et : ((t + 1 : Nat) : Int) = (t : Int) + 1 := by omega
    rw [et] at go
    exact ⟨_, _, qu, ⟨by omega, by omega⟩, _, _, q2, go r g⟩
theorem rnt_lp0 (h0 : sMod SH) {S : mStore} {n : Int} (hn : S 90 7 = n) (h8 : 0 ≤ n ∧ n ≤ 8) : ∀ (k : Nat) (i : Int), i + k = n → 0 ≤ i → G sc MX11_isNoted 40 [some (.ref 90), some (.int (I 0)), some (.int (I i))] [] SH S (rI 0 SH S)
  | 0, i, hk, hi => by
    refine qX11_isNoted_40 h0 ?_
    rw [hn, if_pos (by rw [I_le ⟨by omega, by omega⟩ ⟨by omega, by omega⟩]; omega)]
    exact ⟨.inl rfl, rfl⟩
  | k + 1, i, hk, hi => by
    refine qX11_isNoted_40 h0 ?_
    rw [hn, if_neg (by rw [I_le ⟨by omega, by omega⟩ ⟨by omega, by omega⟩]; omega), if_pos rfl]
    exact rnt_lp0 h0 hn h8 k (i + 1) (by omega) (by omega)
theorem rnt_lp (h0 : sMod SH) (hP : wfP P) {B : aS} {S : mStore} {n : Int} {st : mStore} (hn : S 90 7 = n) (h8 : 0 ≤ n ∧ n ≤ 8) (ht : ∀ i, 0 ≤ i → i < n → S 92 i = st 0 i ∧ S 93 i = st 1 i) (hr : ∀ i, 0 ≤ i → i < n → (0 ≤ st 0 i ∧ st 0 i ≤ 20) ∧ (0 ≤ st 1 i ∧ st 1 i ≤ 48)) (hs : ∀ i : Nat, i < 21 → S 108 i = usedA P (sqA P B i)) : ∀ (k : Nat) (i : Int), i + k = n → 0 ≤ i → G sc MX11_isNoted 40 [some (.ref 90), some (.int (I 1)), some (.int (I i))] [] SH S (rI (if ntA P st B k i = true then 1 else 0) SH S)
  | 0, i, hk, hi => by
    refine qX11_isNoted_40 h0 ?_
    rw [hn, if_pos (by rw [I_le ⟨by omega, by omega⟩ ⟨by omega, by omega⟩]; omega)]
    exact ⟨.inr rfl, rfl⟩
  | k + 1, i, hk, hi => by
    have hi2 := hr i hi (by omega)
    have e88 : S 108 (st 0 i) = usedA P (sqA P B (st 0 i).toNat) := by
      have q := hs (st 0 i).toNat (by omega)
      rw [show (((st 0 i).toNat : Nat) : Int) = st 0 i by omega] at q
      exact q
    have ur := used_rg P hP (sqA P B (st 0 i).toNat)
    refine qX11_isNoted_40 h0 ?_
    rw [hn, if_neg (by rw [I_le ⟨by omega, by omega⟩ ⟨by omega, by omega⟩]; omega), if_neg (by decide), (ht i hi (by omega)).1, (ht i hi (by omega)).2, e88]
    refine ⟨⟨hi, by omega⟩, ⟨hi2.1.1, by omega⟩, ⟨hi, by omega⟩, ?_⟩
    unfold ntA
    by_cases c : usedA P (sqA P B (st 0 i).toNat) = st 1 i
    · rw [if_pos c, if_pos (by rw [c])]
      exact rnt_lp h0 hP hn h8 ht hr hs k (i + 1) (by omega) (by omega)
    · rw [if_neg c, if_neg (by rw [I_eq ⟨by omega, by omega⟩ ⟨by omega, by omega⟩]; exact c), if_neg (by decide)]
      exact rnt_lp0 h0 hn h8 k (i + 1) (by omega) (by omega)
/-- isNoted, on the second row -/
theorem noted_md {S S1 : mStore} (h0 : sMod SH) (hW : wfW W) (h : mdR S N W) (hN : N < 2000000000) (f1 : trF S S1) {B : aS} (hB : wfA W.1 B) (m1 : modP S1 W.1) (r1 : refR S1 1654 B N) {u u' : Option Value} : ∃ S2, G sc MX11_isNoted 0 [some (.ref 90), u, u'] [] SH S1 (rI (if ntW W B = true then 1 else 0) SH S2) ∧ trF S S2 ∧ (∀ i : Nat, i < 21 → S2 108 i = usedA W.1 (sqA W.1 B i)) := by
  obtain ⟨S2, a2, f2, go⟩ := rser_lp (sc := sc) h0 hW.1 hB (u2 := u') 21 0 (S := S1) (N := N) (by decide) (by omega) m1 r1 (fun i hi => by omega)
  have fr := f1.tr f2
  have hd := fr.md hW h
  refine ⟨S2, qX11_isNoted_0 h0 (go _ ?_), fr, a2⟩
  unfold ntW
  exact rnt_lp h0 hW.1 hd.2.1.2.2.2.2.1 hW.2.1.2.2.2.1 (fun i a b => by have q := hd.2.1.2.2.2.2.2.1 i a b; rw [Int.zero_add] at q; exact q) hW.2.1.2.2.2.2 a2 W.2.1.2.2.1.toNat 0 (by have := hW.2.1.2.2.2.1; omega) (by omega)
theorem isGuess_md {S : mStore} (h0 : sMod SH) (hW : wfW W) (h : mdR S N W) (hN : N < 2000000000) {p c v : Int} (hp : 0 ≤ p ∧ p < W.1 0 7) (hc : 0 ≤ c ∧ c < 4) (hv : 0 ≤ v ∧ v ≤ 15) : ∃ S', G sc MX11_isGuess 0 [some (.ref 90), some (.int (I p)), some (.int (I c)), some (.int (I v))] [] SH S (rI (if gsA W p c v = true then 1 else 0) SH S') ∧ trF S S' ∧ (gsA W p c v = true → ∀ i : Nat, i < 21 → S' 108 i = usedA W.1 (sqA W.1 (fitB W p c v) i)) := by
  have hP := hW.1
  have hP7 := hP.2.2.2.2.2.1
  have nr := nb_rg (cellsA W.2.1.1 p) (12 - 4 * c)
  have qc := rcell_ok (sc := sc) (u := none) h0 (b := 0) ⟨by decide, by decide⟩ h.2.1.1 hW.2.1.1 (p := p) (c := c) ⟨by omega, by omega⟩ hc
  by_cases c1 : v = nb (cellsA W.2.1.1 p) (12 - 4 * c)
  · have eg : gsA W p c v = false := by unfold gsA; rw [decide_eq_false (fun q => q c1)]; rfl
    rw [eg, if_neg (by decide)]
    refine ⟨S, qX11_isGuess_0 h0 ⟨_, _, qc, ?_⟩, trF.rf S, fun q => by cases q⟩
    rw [if_pos (by rw [← c1])]
    exact ⟨.inl rfl, rfl⟩
  · have c0 : ¬(v = -1) := by omega
    have eg : gsA W p c v = if (putA W.1 W.2.1.1 p (pcell (cellsA W.2.1.1 p) c v)).1 = -1 then false else ntW W (putA W.1 W.2.1.1 p (pcell (cellsA W.2.1.1 p) c v)).2 := by
      unfold gsA fitA; rw [decide_eq_true c1, if_neg c0]; rfl
    have eb : fitB W p c v = (putA W.1 W.2.1.1 p (pcell (cellsA W.2.1.1 p) c v)).2 := by unfold fitB; rw [if_neg c0]
    obtain ⟨S1, q1, r1, m1, f1⟩ := tr_md (sc := sc) h0 hW h
    obtain ⟨S2, q2, r2, f2⟩ := rwc_ok (sc := sc) (S := S1) h0 (b := 1654) ⟨by decide, by decide⟩ m1 hP r1 hW.2.1.1 (p := p) hp hc (n := v) ⟨hv.1, by omega⟩
    have w2 := wf_put hP hW.2.1.1 hp (pcell_rg (cellsA_rg hW.2.1.1 p) (n := v) ⟨by omega, by omega⟩ hc)
    have st : ∀ r, (if I (putA W.1 W.2.1.1 p (pcell (cellsA W.2.1.1 p) c v)).1 = I (-1) then ((I 0 = I 0 ∨ I 0 = I 1) ∧ r = rI 0 SH S2) else (∃ v106 S107, G sc MX11_isNoted 0 [some (.ref 90), none, none] [] SH S2 (rI v106 SH S107) ∧ (if I v106 = I 0 then ((I 0 = I 0 ∨ I 0 = I 1) ∧ r = rI 0 SH S107) else ((I 1 = I 0 ∨ I 1 = I 1) ∧ r = rI 1 SH S107)))) → G sc MX11_isGuess 0 [some (.ref 90), some (.int (I p)), some (.int (I c)), some (.int (I v))] [] SH S r := by
      intro r q
      refine qX11_isGuess_0 h0 ⟨_, _, qc, ?_⟩
      rw [if_neg (by rw [I_eq ⟨by omega, by omega⟩ ⟨by omega, by omega⟩]; exact c1)]
      exact ⟨_, q1, _, _, q2, q⟩
    by_cases c2 : (putA W.1 W.2.1.1 p (pcell (cellsA W.2.1.1 p) c v)).1 = -1
    · rw [eg, if_pos c2, if_neg (by decide)]
      refine ⟨S2, st _ ?_, f1.tr (modF.trF f2), fun q => by cases q⟩
      rw [if_pos (by rw [c2])]
      exact ⟨.inl rfl, rfl⟩
    · rw [eg, if_neg c2, eb]
      obtain ⟨S3, q3, f3, a3⟩ := noted_md (sc := sc) (u := none) (u' := none) h0 hW h hN (f1.tr (modF.trF f2)) w2 (modP_F m1 f2) r2
      refine ⟨S3, st _ ?_, f3, fun _ => a3⟩
      rw [if_neg (by rw [I_eq pl_rg2 ⟨by decide, by decide⟩]; exact c2)]
      refine ⟨_, _, q3, ?_⟩
      by_cases m : ntW W (putA W.1 W.2.1.1 p (pcell (cellsA W.2.1.1 p) c v)).2 = true
      · rw [if_pos m, if_neg (by decide)]; exact ⟨.inr rfl, rfl⟩
      · rw [if_neg m, if_pos rfl]; exact ⟨.inl rfl, rfl⟩
theorem rguess_lp (h0 : sMod SH) (hW : wfW W) (hN : N < 2000000000) {g p c x : Int} (hne : plc W.1 g p ≠ -1) (hc : 0 ≤ c ∧ c < 4) (hx : x = 0 ∨ x = 1) : ∀ (k : Nat) {S : mStore}, k ≤ 16 → mdR S N W → ∃ S', G sc MX11_guess 81 [some (.ref 90), some (.int (I g)), some (.int (I p)), some (.int (I c)), some (.int (I x)), some (.int (I (cnt (gsA W (plc W.1 g p) c) (16 - k) k))), some (.int (I (fnd (gsA W (plc W.1 g p) c) (16 - k) k))), some (.int (I ((k : Int) - 1)))] [] SH S (rI (if x = 0 then cnt (gsA W (plc W.1 g p) c) 16 0 else fnd (gsA W (plc W.1 g p) c) 16 0) SH S') ∧ trF S S'
  | 0, S, hk, h => by
    refine ⟨S, qX11_guess_81 h0 ?_, trF.rf S⟩
    rw [if_pos (by rw [I_lt ⟨by omega, by omega⟩ ⟨by decide, by decide⟩]; omega)]
    rcases hx with rfl | rfl
    · rw [if_pos rfl, if_pos rfl]; rfl
    · rw [if_neg (by decide), if_neg (by decide)]; rfl
  | k + 1, S, hk, h => by
    have hP := hW.1
    have hpr := plc_rg hP hne
    have h97 := tr97 hP h hne h.1
    obtain ⟨S1, q1, f1, _⟩ := isGuess_md (sc := sc) h0 hW h hN (p := plc W.1 g p) (c := c) (v := k) hpr.2.2.2 hc ⟨by omega, by omega⟩
    obtain ⟨S2, q2, f2⟩ := rguess_lp h0 hW hN hne hc hx k (by omega) (f1.md hW h)
    refine ⟨S2, qX11_guess_81 h0 ?_, f1.tr f2⟩
    have ek : ((k + 1 : Nat) : Int) - 1 = k := by omega
    have e16 : 16 - k = (16 - (k + 1)) + 1 := by omega
    rw [e16] at q2
    rw [ek, if_neg (by rw [I_lt ⟨by omega, by omega⟩ ⟨by decide, by decide⟩]; omega), h97.1]
    refine ⟨⟨h97.2.1, h97.2.2⟩, _, _, q1, ?_⟩
    have e1 : cnt (gsA W (plc W.1 g p) c) (16 - (k + 1) + 1) k = (if gsA W (plc W.1 g p) c k = true then 1 else 0) + cnt (gsA W (plc W.1 g p) c) (16 - (k + 1)) (k + 1) := rfl
    have e2 : fnd (gsA W (plc W.1 g p) c) (16 - (k + 1) + 1) k = if gsA W (plc W.1 g p) c k = true then (k : Int) else fnd (gsA W (plc W.1 g p) c) (16 - (k + 1)) (k + 1) := rfl
    have e3 : ((k + 1 : Nat) : Int) = (k : Int) + 1 := by omega
    rw [e1, e2] at q2
    rw [e3]
    by_cases c1 : gsA W (plc W.1 g p) c k = true
    · rw [if_pos c1, if_pos c1] at q2
      rw [if_pos c1, if_neg (by decide), Int.add_comm, show ((k : Int) + -1) = (k : Int) - 1 by omega]
      exact q2
    · rw [if_neg c1, if_neg c1, Int.zero_add] at q2
      rw [if_neg c1, if_pos rfl, show ((k : Int) + -1) = (k : Int) - 1 by omega]
      exact q2
theorem guess_md {S : mStore} (h0 : sMod SH) (hW : wfW W) (h : mdR S N W) (hN : N < 2000000000) {g p c x y : Int} (hg : rg g) (hp : rg p) (hc : rg c) (hx : rg x) {u5 u6 u7 : Option Value} : MD sc MX11_guess [some (.ref 90), some (.int (I g)), some (.int (I p)), some (.int (I c)), some (.int (I x)), u5, u6, u7] SH S N y (guessF W g p c x) W := by
  have ht : up S 90 4 0 90 4 = 0 := up_eq _ _ _ _
  obtain ⟨hm, hr⟩ := mdS (x := 0) hW h
  have hd := mdR_thr (x := 0) hW h
  have hP := hW.1
  have w1 := within_ok (sc := sc) (SH := SH) (S := up S 90 4 0) hc (lo := 0) ⟨by decide, by decide⟩ (hi := 3) ⟨by decide, by decide⟩
  have w2 := within_ok (sc := sc) (SH := SH) (S := up S 90 4 0) hx (lo := 0) ⟨by decide, by decide⟩ (hi := 2) ⟨by decide, by decide⟩
  unfold guessF
  by_cases c1 : plc W.1 g p = -1
  · rw [if_pos c1]
    refine MD_exc (v := 0) hW h (qX11_guess_0 h0 ⟨_, _, isP_no h0 hm hP ht hg hp c1, ?_⟩)
    rw [if_pos rfl]
  rw [if_neg c1]
  have hpr := plc_rg hP c1
  by_cases c2 : 0 ≤ c ∧ c < 4
  · rw [if_neg (fun q => q c2)]
    rw [if_pos (by omega)] at w1
    by_cases c3 : 0 ≤ x ∧ x ≤ 2
    · rw [if_neg (fun q => q c3)]
      rw [if_pos c3] at w2
      have st : ∀ r, (if I x = I 2 then (∃ S119, G sc MX11_tries 0 [some (.ref 90)] [] SH (up S 90 4 0) (rV SH S119) ∧ (∃ v120 S121, G sc MX11_isNoted 0 [some (.ref 90), none, none] [] SH S119 (rI v120 SH S121) ∧ (if I v120 = I 0 then r = rI 0 SH S121 else r = rI 1 SH S121))) else G sc MX11_guess 81 [some (.ref 90), some (.int (I g)), some (.int (I p)), some (.int (I c)), some (.int (I x)), some (.int (I 0)), some (.int (I (-1))), some (.int (I 15))] [] SH (up S 90 4 0) r) → G sc MX11_guess 0 [some (.ref 90), some (.int (I g)), some (.int (I p)), some (.int (I c)), some (.int (I x)), u5, u6, u7] [] SH S r := by
        intro r q
        refine qX11_guess_0 h0 ⟨_, _, isP_yes h0 hm hP ht hg hp c1, ?_⟩
        rw [if_neg (by decide)]
        refine ⟨_, _, w1, ?_⟩
        rw [if_neg (by decide)]
        refine ⟨_, _, w2, ?_⟩
        rw [if_neg (by decide)]
        refine ⟨_, _, right_yes h0 ht, ?_⟩
        rw [if_neg (by decide)]
        exact q
      by_cases c4 : x = 2
      · rw [if_pos c4]
        obtain ⟨S1, q1, r1, m1, f1⟩ := tr_md (sc := sc) h0 hW hd
        obtain ⟨S2, q2, f2, _⟩ := noted_md (sc := sc) (u := none) (u' := none) h0 hW hd hN f1 hW.2.1.1 m1 r1
        refine MD_tr (S' := S2) hW h (st _ ?_) f2
        rw [if_pos (by rw [c4])]
        refine ⟨_, q1, _, _, q2, ?_⟩
        by_cases m : ntW W W.2.1.1 = true
        · rw [if_pos m, if_neg (by decide)]
        · rw [if_neg m, if_pos rfl]
      · rw [if_neg c4]
        obtain ⟨S1, q1, f1⟩ := rguess_lp (sc := sc) h0 hW hN c1 c2 (x := x) (by omega) 16 (Nat.le_refl _) hd
        refine MD_tr hW h (st _ ?_) f1
        rw [if_neg (by rw [I_eq hx ⟨by decide, by decide⟩]; exact c4)]
        exact q1
    · rw [if_pos c3]
      rw [if_neg c3] at w2
      refine MD_exc (v := 0) hW h (qX11_guess_0 h0 ⟨_, _, isP_yes h0 hm hP ht hg hp c1, ?_⟩)
      rw [if_neg (by decide)]
      refine ⟨_, _, w1, ?_⟩
      rw [if_neg (by decide)]
      refine ⟨_, _, w2, ?_⟩
      rw [if_pos rfl]
      refine ⟨_, _, right_no h0 ht (.inl rfl), ?_⟩
      rw [if_pos rfl]
  · rw [if_pos c2]
    rw [if_neg (by omega)] at w1
    refine MD_exc (v := 0) hW h (qX11_guess_0 h0 ⟨_, _, isP_yes h0 hm hP ht hg hp c1, ?_⟩)
    rw [if_neg (by decide)]
    refine ⟨_, _, w1, ?_⟩
    rw [if_pos rfl]
    refine ⟨_, _, right_no h0 ht (.inl rfl), ?_⟩
    rw [if_pos rfl]
end
