/-! ===== look: both ===== -/
section
variable {sc : Nat × (Nat → Int32)} {SH : List mCell} {F : Nat → Nat → Option Nat} {e : Nat} {W : aW} {N : Int}
theorem lk_in (g0 : sGP SH) {l1 l2 l3 l4 l5 l6 l7 : Int} {z : Nat → Int64} {y : Nat → Int} {u9 u10 : Option Value} : ∀ (n t : Nat) {S : mStore}, t + n = 21 → 1 ≤ t → (∀ i : Nat, 1 ≤ i → i ≤ 20 → S 89 i = (if i < t then z i ||| jsl 1 (y i) else z i).toInt) → (∀ i : Nat, 1 ≤ i → i ≤ 20 → S 88 i = y i) → ∃ S' u8, (∀ i : Nat, 1 ≤ i → i ≤ 20 → S' 89 i = (z i ||| jsl 1 (y i)).toInt) ∧ (∀ j, j ≠ 89 → S' j = S j) ∧ ∀ r, G sc MX10_look 123 [some (.ref 0), some (.int (I l1)), some (.int (I l2)), some (.int (I l3)), some (.int (I l4)), some (.int (I l5)), some (.int (I l6)), some (.int (I l7)), u8, u9, u10] [] SH S' r → G sc MX10_look 91 [some (.ref 0), some (.int (I l1)), some (.int (I l2)), some (.int (I l3)), some (.int (I l4)), some (.int (I l5)), some (.int (I l6)), some (.int (I l7)), some (.int (I t)), u9, u10] [] SH S r
  | 0, t, S, ht, h1, hz, hy => by
    refine ⟨S, some (.int (I t)), fun i a b => by rw [hz i a b, if_pos (by omega)], fun _ _ => rfl, fun r g => qX10_look_91 g0 ?_⟩
    rw [if_pos (by rw [I_lt ⟨by decide, by decide⟩ ⟨by omega, by omega⟩]; omega)]
    exact g
  | n + 1, t, S, ht, h1, hz, hy => by
    have e3 : ((t + 1 : Nat) : Int) = (t : Int) + 1 := by omega
    have ez : S 89 t = (z t).toInt := by rw [hz t h1 (by omega), if_neg (by omega)]
    obtain ⟨S', u8, a1, a2, go⟩ := lk_in g0 (l1 := l1) (l2 := l2) (l3 := l3) (l4 := l4) (l5 := l5) (l6 := l6) (l7 := l7) (z := z) (y := y) (u9 := u9) (u10 := u10) n (t + 1) (S := up S 89 t ((Int64.ofInt (S 89 t) ||| jsl 1 (S 88 t) : Int64)).toInt) (by omega) (by omega) (fun i a b => by
      rw [up_at]
      by_cases d : (i : Int) = t
      · have di : i = t := by omega
        subst di
        rw [if_pos rfl, if_pos (by omega), ez, hy i a b, ofI_toI]
      · rw [if_neg d, hz i a b]
        by_cases q : i < t
        · rw [if_pos q, if_pos (by omega)]
        · rw [if_neg q, if_neg (by omega)]) (fun i a b => by rw [up_ne (by decide)]; exact hy i a b)
    rw [e3] at go
    refine ⟨S', u8, a1, fun j hj => by rw [a2 j hj, up_ne hj], fun r g => qX10_look_91 g0 ?_⟩
    rw [if_neg (by rw [I_lt ⟨by decide, by decide⟩ ⟨by omega, by omega⟩]; omega)]
    exact ⟨⟨by omega, by omega⟩, ⟨by omega, by omega⟩, ⟨by omega, by omega⟩, go r g⟩
theorem lk_out (g0 : sGP SH) (hW : wfW W) {a b c x p : Int} (hp : 0 ≤ p ∧ p < W.1 0 7) (hc : 0 ≤ c ∧ c < 4) {u9 u10 : Option Value} : ∀ (n v : Nat) {S : mStore} {u8 : Option Value}, v + n = 16 → clR SH F e S W → (∀ i : Nat, 1 ≤ i → i ≤ 20 → S 89 i = (skJ W p c i v).toInt) → ∃ S', (∀ i : Nat, 1 ≤ i → i ≤ 20 → S' 89 i = (skJ W p c i 16).toInt) ∧ (∀ j, j < 65 ∨ 90 ≤ j → S' j = S j) ∧ ∀ r, G sc MX10_look 138 [some (.ref 0), some (.int (I a)), some (.int (I b)), some (.int (I c)), some (.int (I x)), some (.int (I p)), some (.int (I (nb (cellsA W.2.1.1 p) (12 - 4 * c)))), some (.int (I (-1))), some (.int (I 0)), some (.int (I 1)), u10] [] SH S' r → G sc MX10_look 60 [some (.ref 0), some (.int (I a)), some (.int (I b)), some (.int (I c)), some (.int (I x)), some (.int (I p)), some (.int (I (nb (cellsA W.2.1.1 p) (12 - 4 * c)))), some (.int (I v)), u8, u9, u10] [] SH S r
  | 0, v, S, u8, hv, h, hz => by
    have ev : v = 16 := by omega
    subst ev
    refine ⟨S, hz, fun _ _ => rfl, fun r g => qX10_look_60 g0 ?_⟩
    rw [if_pos (by rw [I_lt ⟨by decide, by decide⟩ ⟨by decide, by decide⟩]; omega)]
    exact g
  | n + 1, v, S, u8, hv, h, hz => by
    have nr := nb_rg (cellsA W.2.1.1 p) (12 - 4 * c)
    have e3 : ((v + 1 : Nat) : Int) = (v : Int) + 1 := by omega
    by_cases c1 : (v : Int) = nb (cellsA W.2.1.1 p) (12 - 4 * c)
    · have eg : gsA W p c v = false := by unfold gsA; rw [decide_eq_false (fun q => q c1)]; rfl
      obtain ⟨S', a1, a2, go⟩ := lk_out g0 hW (a := a) (b := b) (x := x) hp hc (u9 := u9) (u10 := u10) n (v + 1) (u8 := u8) (by omega) h (fun i p' q => by
        unfold skJ
        rw [eg, if_neg (by decide)]
        exact hz i p' q)
      rw [e3] at go
      refine ⟨S', a1, a2, fun r g => qX10_look_60 g0 ?_⟩
      rw [if_neg (by rw [I_lt ⟨by decide, by decide⟩ ⟨by omega, by omega⟩]; omega), if_pos (by rw [← c1])]
      exact qX10_look_123 g0 (go r g)
    · have eg : gsA W p c v = fitA W p c v := by unfold gsA; rw [decide_eq_true c1]; rfl
      obtain ⟨S1, q1, f1, a1⟩ := fits_ok (sc := sc) (u := none) h hW hp hc (v := v) ⟨by omega, by omega⟩ (far := 20) ⟨by decide, by decide⟩ (fun i a b => (hW.2.1.2.2.2.2 i a b).1.2)
      have h1 : clR SH F e S1 W := clR_tr h (fun j hj => f1 j (by omega))
      have hz1 : ∀ i : Nat, 1 ≤ i → i ≤ 20 → S1 89 i = (skJ W p c i v).toInt := fun i p' q => by rw [f1 89 (by omega)]; exact hz i p' q
      by_cases c2 : fitA W p c v = true
      · rw [if_pos c2] at q1
        have c2' := c2
        rw [← eg] at c2'
        obtain ⟨S2, u8', b1, b2, go2⟩ := lk_in (sc := sc) g0 (l1 := a) (l2 := b) (l3 := c) (l4 := x) (l5 := p) (l6 := nb (cellsA W.2.1.1 p) (12 - 4 * c)) (l7 := v) (z := fun i => skJ W p c i v) (y := fun i => usedA W.1 (sqA W.1 (fitB W p c v) i)) (u9 := u9) (u10 := u10) 20 1 (S := S1) (by decide) (by decide) (fun i p' q => by rw [if_neg (by omega)]; exact hz1 i p' q) (fun i p' q => a1 c2 i (by omega))
        have h2 : clR SH F e S2 W := clR_tr h1 (fun j hj => b2 j (by omega))
        obtain ⟨S', d1, d2, go⟩ := lk_out g0 hW (a := a) (b := b) (x := x) hp hc (u9 := u9) (u10 := u10) n (v + 1) (u8 := u8') (by omega) h2 (fun i p' q => by
          unfold skJ
          rw [c2', if_pos rfl]
          exact b1 i p' q)
        rw [e3] at go
        refine ⟨S', d1, fun j hj => by rw [d2 j hj, b2 j (by omega), f1 j (by omega)], fun r g => qX10_look_60 g0 ?_⟩
        rw [if_neg (by rw [I_lt ⟨by decide, by decide⟩ ⟨by omega, by omega⟩]; omega), if_neg (by rw [I_eq ⟨by omega, by omega⟩ ⟨by omega, by omega⟩]; exact c1)]
        refine ⟨_, _, q1, ?_⟩
        rw [if_neg (by decide)]
        exact go2 r (qX10_look_123 g0 (go r g))
      · rw [if_neg c2] at q1
        have eg2 : gsA W p c v = false := by rw [eg]; exact Bool.eq_false_iff.mpr c2
        obtain ⟨S', d1, d2, go⟩ := lk_out g0 hW (a := a) (b := b) (x := x) hp hc (u9 := u9) (u10 := u10) n (v + 1) (u8 := u8) (by omega) h1 (fun i p' q => by
          unfold skJ
          rw [eg2, if_neg (by decide)]
          exact hz1 i p' q)
        rw [e3] at go
        refine ⟨S', d1, fun j hj => by rw [d2 j hj, f1 j (by omega)], fun r g => qX10_look_60 g0 ?_⟩
        rw [if_neg (by rw [I_lt ⟨by decide, by decide⟩ ⟨by omega, by omega⟩]; omega), if_neg (by rw [I_eq ⟨by omega, by omega⟩ ⟨by omega, by omega⟩]; exact c1)]
        refine ⟨_, _, q1, ?_⟩
        rw [if_pos rfl]
        exact qX10_look_123 g0 (go r g)
theorem lk_end (g0 : sGP SH) {a b c x p l6 : Int} (hx : x = 0 ∨ x = 1) {S : mStore} (hz : ∀ i : Nat, 1 ≤ i → i ≤ 20 → S 89 i = (skJ W p c i 16).toInt) : ∀ (n t : Nat) (bb m : Int) {u10 : Option Value}, t + n = 21 → 1 ≤ t → (0 ≤ m ∧ m ≤ 64) → G sc MX10_look 138 [some (.ref 0), some (.int (I a)), some (.int (I b)), some (.int (I c)), some (.int (I x)), some (.int (I p)), some (.int (I l6)), some (.int (I bb)), some (.int (I m)), some (.int (I t)), u10] [] SH S (rI (if x = 0 then (lkT W p c n t bb m).1 else (lkT W p c n t bb m).2) SH S)
  | 0, t, bb, m, u10, ht, h1, hm => by
    refine qX10_look_138 g0 ?_
    rw [if_pos (by rw [I_lt ⟨by decide, by decide⟩ ⟨by omega, by omega⟩]; omega)]
    rcases hx with rfl | rfl
    · rw [if_pos rfl, if_pos rfl]; rfl
    · rw [if_neg (by decide), if_neg (by decide)]; rfl
  | n + 1, t, bb, m, u10, ht, h1, hm => by
    have e3 : ((t + 1 : Nat) : Int) = (t : Int) + 1 := by omega
    have hp64 := popN_le 64 (nvJ (skJ W p c t 16))
    refine qX10_look_138 g0 ?_
    rw [if_neg (by rw [I_lt ⟨by decide, by decide⟩ ⟨by omega, by omega⟩]; omega), hz t h1 (by omega), ofI_toI]
    refine ⟨⟨by omega, by omega⟩, _, _, bitCount_ok _, ?_⟩
    unfold lkT
    by_cases d : (popN 64 (nvJ (skJ W p c t 16)) : Int) ≤ m
    · rw [if_pos d, if_pos (by rw [I_le ⟨by omega, by omega⟩ ⟨by omega, by omega⟩]; exact d)]
      have q := lk_end g0 (a := a) (b := b) (l6 := l6) hx hz n (t + 1) bb m (u10 := some (.int (I (popN 64 (nvJ (skJ W p c t 16)))))) (by omega) (by omega) hm
      rw [e3] at q
      exact q
    · rw [if_neg d, if_neg (by rw [I_le ⟨by omega, by omega⟩ ⟨by omega, by omega⟩]; exact d)]
      have q := lk_end g0 (a := a) (b := b) (l6 := l6) hx hz n (t + 1) t (popN 64 (nvJ (skJ W p c t 16))) (u10 := some (.int (I (popN 64 (nvJ (skJ W p c t 16)))))) (by omega) (by omega) ⟨by omega, by omega⟩
      rw [e3] at q
      exact q
theorem look_cl {S : mStore} (h : clR SH F e S W) (hW : wfW W) {g p c x : Int} (hg : rg g) (hq : rg p) (hc : rg c) (hx : rg x) {u5 u6 u7 u8 u9 u10 : Option Value} : CL sc MX10_look [some (.ref 0), some (.int (I g)), some (.int (I p)), some (.int (I c)), some (.int (I x)), u5, u6, u7, u8, u9, u10] SH F e S (lookF W g p c x) W := by
  obtain ⟨g0, g1, g2, hp, hst⟩ := clS h
  have hP := hW.1
  have hP7 := hP.2.2.2.2.2.1
  unfold lookF
  by_cases c1 : plc W.1 g p = -1
  · rw [if_pos c1]
    exact CL_exc h (qX10_look_0 g0 (.inr ⟨_, _, _, pl_no g0 hp hP hg hq c1, rfl⟩))
  rw [if_neg c1]
  have hr := plc_rg hP c1
  have hpl := pl_ok (sc := sc) (u := none) g0 hp hP hg hq c1
  by_cases c2 : 0 ≤ c ∧ c < 4
  · rw [if_neg (fun q => q c2)]
    by_cases c3 : x = 0 ∨ x = 1
    · rw [if_neg (fun q => q c3)]
      have f0 := fillJ_ok (sc := sc) (S := S) (u := none) (u' := none) g0.2.2.2.2.2.2.2.2.2.2 (v := 0)
      have h1 : clR SH F e (fil S 89 21 (0 : Int64).toInt) W := clR_tr h (fun j hj => fil_ne (by omega))
      obtain ⟨S2, z2, f2, go⟩ := lk_out (sc := sc) g0 hW (a := g) (b := p) (x := x) hr.2.2.2 c2 (u9 := u9) (u10 := u10) 16 0 (S := fil S 89 21 (0 : Int64).toInt) (u8 := u8) (by decide) h1 (fun i a b => by
        rw [fil_at, if_pos ⟨by omega, by omega⟩]
        rfl)
      have qe := lk_end (sc := sc) g0 (a := g) (b := p) (l6 := nb (cellsA W.2.1.1 (plc W.1 g p)) (12 - 4 * c)) c3 z2 20 1 (-1) 0 (u10 := u10) (by decide) (by decide) ⟨by decide, by decide⟩
      refine CL_tr h (S' := S2) (qX10_look_0 g0 (.inl ⟨_, _, hpl, .inl ⟨_, mbc_ok c2, ?_⟩⟩)) (fun j hj => by rw [f2 j hj, fil_ne (by omega)])
      rcases c3 with rfl | rfl
      · rw [if_pos rfl]
        exact .inl ⟨_, mustBe_yes, _, _, cells_ok g1 hst hW.2.1.1 ⟨by omega, by omega⟩, _, _, cell_ok, _, f0, go _ qe⟩
      · rw [if_neg (by decide), if_pos rfl]
        exact .inl ⟨_, mustBe_yes, _, _, cells_ok g1 hst hW.2.1.1 ⟨by omega, by omega⟩, _, _, cell_ok, _, f0, go _ qe⟩
    · rw [if_pos c3]
      refine CL_exc h (qX10_look_0 g0 (.inl ⟨_, _, hpl, .inl ⟨_, mbc_ok c2, ?_⟩⟩))
      rw [if_neg (by rw [I_eq hx ⟨by decide, by decide⟩]; omega), if_neg (by rw [I_eq hx ⟨by decide, by decide⟩]; omega)]
      exact .inr ⟨_, _, _, mustBe_no rfl, rfl⟩
  · rw [if_pos c2]
    exact CL_exc h (qX10_look_0 g0 (.inl ⟨_, _, hpl, .inr ⟨_, _, _, mbc_no hc c2, rfl⟩⟩))
theorem rlk_in (h0 : sMod SH) {l1 l2 l3 l4 l5 : Int} {z : Nat → Int64} {y : Nat → Int} {u7 : Option Value} : ∀ (n t : Nat) {S : mStore}, t + n = 21 → 1 ≤ t → (∀ i : Nat, 1 ≤ i → i ≤ 20 → S 109 i = (if i < t then z i ||| jsl 1 (y i) else z i).toInt) → (∀ i : Nat, 1 ≤ i → i ≤ 20 → S 108 i = y i) → ∃ S' u6, (∀ i : Nat, 1 ≤ i → i ≤ 20 → S' 109 i = (z i ||| jsl 1 (y i)).toInt) ∧ (∀ j, j ≠ 109 → S' j = S j) ∧ ∀ r, G sc MX11_look 138 [some (.ref 90), some (.int (I l1)), some (.int (I l2)), some (.int (I l3)), some (.int (I l4)), some (.int (I l5)), u6, u7] [] SH S' r → G sc MX11_look 106 [some (.ref 90), some (.int (I l1)), some (.int (I l2)), some (.int (I l3)), some (.int (I l4)), some (.int (I l5)), some (.int (I t)), u7] [] SH S r
  | 0, t, S, ht, h1, hz, hy => by
    refine ⟨S, some (.int (I t)), fun i a b => by rw [hz i a b, if_pos (by omega)], fun _ _ => rfl, fun r g => qX11_look_106 h0 ?_⟩
    rw [if_pos (by rw [I_lt ⟨by decide, by decide⟩ ⟨by omega, by omega⟩]; omega)]
    exact g
  | n + 1, t, S, ht, h1, hz, hy => by
    have e3 : ((t + 1 : Nat) : Int) = (t : Int) + 1 := by omega
    have ez : S 109 t = (z t).toInt := by rw [hz t h1 (by omega), if_neg (by omega)]
    obtain ⟨S', u6, a1, a2, go⟩ := rlk_in h0 (l1 := l1) (l2 := l2) (l3 := l3) (l4 := l4) (l5 := l5) (z := z) (y := y) (u7 := u7) n (t + 1) (S := up S 109 t ((Int64.ofInt (S 109 t) ||| jsl 1 (S 108 t) : Int64)).toInt) (by omega) (by omega) (fun i a b => by
      rw [up_at]
      by_cases d : (i : Int) = t
      · have di : i = t := by omega
        subst di
        rw [if_pos rfl, if_pos (by omega), ez, hy i a b, ofI_toI]
      · rw [if_neg d, hz i a b]
        by_cases q : i < t
        · rw [if_pos q, if_pos (by omega)]
        · rw [if_neg q, if_neg (by omega)]) (fun i a b => by rw [up_ne (by decide)]; exact hy i a b)
    rw [e3] at go
    refine ⟨S', u6, a1, fun j hj => by rw [a2 j hj, up_ne hj], fun r g => qX11_look_106 h0 ?_⟩
    rw [if_neg (by rw [I_lt ⟨by decide, by decide⟩ ⟨by omega, by omega⟩]; omega)]
    exact ⟨⟨by omega, by omega⟩, ⟨by omega, by omega⟩, ⟨by omega, by omega⟩, go r g⟩
theorem rlk_z (h0 : sMod SH) {l1 l2 l3 l4 : Int} {u6 u7 : Option Value} : ∀ (n t : Nat) {S : mStore}, t + n = 21 → (∀ i : Nat, i < t → S 109 i = 0) → ∃ S', (∀ i : Nat, i < 21 → S' 109 i = 0) ∧ (∀ j, j ≠ 109 → S' j = S j) ∧ ∀ r, G sc MX11_look 75 [some (.ref 90), some (.int (I l1)), some (.int (I l2)), some (.int (I l3)), some (.int (I l4)), some (.int (I 0)), u6, u7] [] SH S' r → G sc MX11_look 51 [some (.ref 90), some (.int (I l1)), some (.int (I l2)), some (.int (I l3)), some (.int (I l4)), some (.int (I t)), u6, u7] [] SH S r
  | 0, t, S, ht, hz => by
    refine ⟨S, fun i hi => hz i (by omega), fun _ _ => rfl, fun r g => qX11_look_51 h0 ?_⟩
    rw [if_pos (by rw [I_lt ⟨by decide, by decide⟩ ⟨by omega, by omega⟩]; omega)]
    exact g
  | n + 1, t, S, ht, hz => by
    have e3 : ((t + 1 : Nat) : Int) = (t : Int) + 1 := by omega
    obtain ⟨S', a1, a2, go⟩ := rlk_z h0 (l1 := l1) (l2 := l2) (l3 := l3) (l4 := l4) (u6 := u6) (u7 := u7) n (t + 1) (S := up S 109 t (0 : Int64).toInt) (by omega) (fun i hi => by
      rw [up_at]
      by_cases d : (i : Int) = t
      · rw [if_pos d]; rfl
      · rw [if_neg d]; exact hz i (by omega))
    rw [e3] at go
    refine ⟨S', a1, fun j hj => by rw [a2 j hj, up_ne hj], fun r g => qX11_look_51 h0 ?_⟩
    rw [if_neg (by rw [I_lt ⟨by decide, by decide⟩ ⟨by omega, by omega⟩]; omega)]
    exact ⟨⟨by omega, by omega⟩, go r g⟩
/-- also what is seen may have changed -/
def trG (S S' : mStore) : Prop := (∀ i, (0 ≤ i ∧ i < 1654) ∨ 3308 ≤ i → S' 91 i = S 91 i) ∧ (∀ i, 4 ≤ i → i ≤ 26 → S' 90 i = S 90 i) ∧ (∀ j, j < 90 ∨ (92 ≤ j ∧ j ≤ 99) ∨ 110 ≤ j → S' j = S j)
theorem trG.rf (S : mStore) : trG S S := ⟨fun _ _ => rfl, fun _ _ _ => rfl, fun _ _ => rfl⟩
theorem trG.tr {S S' S2 : mStore} (h : trG S S') (g : trG S' S2) : trG S S2 := ⟨fun i hi => by rw [g.1 i hi, h.1 i hi], fun i h1 h2 => by rw [g.2.1 i h1 h2, h.2.1 i h1 h2], fun j hj => by rw [g.2.2 j hj, h.2.2 j hj]⟩
theorem trG.md {S S' : mStore} (hW : wfW W) (h : mdR S N W) (g : trG S S') : mdR S' N W := mdR_F hW h g.1 (fun i h1 h2 => g.2.1 i (by omega) h2) (fun j h1 h2 => g.2.2 j (by omega))
theorem trF.trG {S S' : mStore} (h : trF S S') : trG S S' := ⟨h.1, h.2.1, fun j hj => h.2.2 j (by omega)⟩
theorem MD_trG {M : mM} {ls : List (Option Value)} {v y : Int} {S S' : mStore} (hW : wfW W) (h : mdR S N W) (g : G sc M 0 ls [] SH S (rI v SH S')) (hF : trG (up S 90 4 0) S') : MD sc M ls SH S N y (.inl v) W :=
  ⟨v, S', g, hF.md hW (mdR_thr hW h), fun y e => by cases e; exact ⟨rfl, by rw [hF.2.1 4 (by decide) (by decide), up_eq]⟩, fun k e => (by cases e), fun j hj => by rw [hF.2.2 j (by omega), up_ne (by omega)]⟩
theorem trF_109 {S S' : mStore} (h : ∀ j, j ≠ 109 → S' j = S j) : trG S S' := ⟨fun i _ => by rw [h 91 (by decide)], fun i _ _ => by rw [h 90 (by decide)], fun j hj => h j (by omega)⟩
theorem rlk_out (h0 : sMod SH) (hW : wfW W) (hN : N < 2000000000) {g p c x : Int} (hne : plc W.1 g p ≠ -1) (hc : 0 ≤ c ∧ c < 4) : ∀ (n v : Nat) {S : mStore} {u6 u7 : Option Value}, v + n = 16 → mdR S N W → (∀ i : Nat, 1 ≤ i → i ≤ 20 → S 109 i = (skJ W (plc W.1 g p) c i v).toInt) → ∃ S', (∀ i : Nat, 1 ≤ i → i ≤ 20 → S' 109 i = (skJ W (plc W.1 g p) c i 16).toInt) ∧ trG S S' ∧ ∀ r, G sc MX11_look 153 [some (.ref 90), some (.int (I g)), some (.int (I p)), some (.int (I c)), some (.int (I x)), some (.int (I (-1))), some (.int (I 0)), some (.int (I 1))] [] SH S' r → G sc MX11_look 75 [some (.ref 90), some (.int (I g)), some (.int (I p)), some (.int (I c)), some (.int (I x)), some (.int (I v)), u6, u7] [] SH S r
  | 0, v, S, u6, u7, hv, h, hz => by
    have ev : v = 16 := by omega
    subst ev
    refine ⟨S, hz, trG.rf S, fun r g => qX11_look_75 h0 ?_⟩
    rw [if_pos (by rw [I_le ⟨by decide, by decide⟩ ⟨by decide, by decide⟩]; omega)]
    exact g
  | n + 1, v, S, u6, u7, hv, h, hz => by
    have hP := hW.1
    have hpr := plc_rg hP hne
    have h97 := tr97 hP h hne h.1
    have e3 : ((v + 1 : Nat) : Int) = (v : Int) + 1 := by omega
    obtain ⟨S1, q1, f1, a1⟩ := isGuess_md (sc := sc) h0 hW h hN (p := plc W.1 g p) (c := c) (v := v) hpr.2.2.2 hc ⟨by omega, by omega⟩
    have k1 : S1 109 = S 109 := f1.2.2 109 (by omega)
    have h1 := f1.md hW h
    have hz1 : ∀ i : Nat, 1 ≤ i → i ≤ 20 → S1 109 i = (skJ W (plc W.1 g p) c i v).toInt := fun i p' q => by rw [k1]; exact hz i p' q
    by_cases c1 : gsA W (plc W.1 g p) c v = true
    · rw [if_pos c1] at q1
      obtain ⟨S2, u6', b1, b2, go2⟩ := rlk_in (sc := sc) h0 (l1 := g) (l2 := p) (l3 := c) (l4 := x) (l5 := v) (z := fun i => skJ W (plc W.1 g p) c i v) (y := fun i => usedA W.1 (sqA W.1 (fitB W (plc W.1 g p) c v) i)) (u7 := u7) 20 1 (S := S1) (by decide) (by decide) (fun i p' q => by rw [if_neg (by omega)]; exact hz1 i p' q) (fun i p' q => a1 c1 i (by omega))
      have f2 := trF_109 b2
      obtain ⟨S', d1, d2, go⟩ := rlk_out h0 hW hN (x := x) hne hc n (v + 1) (u6 := u6') (u7 := u7) (by omega) (f2.md hW h1) (fun i p' q => by
        unfold skJ
        rw [c1, if_pos rfl]
        exact b1 i p' q)
      rw [e3] at go
      refine ⟨S', d1, f1.trG.tr (f2.tr d2), fun r g => qX11_look_75 h0 ?_⟩
      rw [if_neg (by rw [I_le ⟨by decide, by decide⟩ ⟨by omega, by omega⟩]; omega), h97.1]
      refine ⟨⟨h97.2.1, h97.2.2⟩, _, _, q1, ?_⟩
      rw [if_neg (by decide)]
      exact go2 r (qX11_look_138 h0 (go r g))
    · rw [if_neg c1] at q1
      have eg2 : gsA W (plc W.1 g p) c v = false := Bool.eq_false_iff.mpr c1
      obtain ⟨S', d1, d2, go⟩ := rlk_out h0 hW hN (x := x) hne hc n (v + 1) (u6 := u6) (u7 := u7) (by omega) h1 (fun i p' q => by
        unfold skJ
        rw [eg2, if_neg (by decide)]
        exact hz1 i p' q)
      rw [e3] at go
      refine ⟨S', d1, f1.trG.tr d2, fun r g => qX11_look_75 h0 ?_⟩
      rw [if_neg (by rw [I_le ⟨by decide, by decide⟩ ⟨by omega, by omega⟩]; omega), h97.1]
      refine ⟨⟨h97.2.1, h97.2.2⟩, _, _, q1, ?_⟩
      rw [if_pos rfl]
      exact qX11_look_138 h0 (go r g)
theorem rlk_step (h0 : sMod SH) {a b c x bb m : Int} {t : Nat} {X : Int64} {S : mStore} {r : mR × mW} (ht : 1 ≤ t ∧ t ≤ 20) (hm : 0 ≤ m ∧ m ≤ 64) (ezt : S 109 t = X.toInt) (hsk : ∀ k : Nat, 49 ≤ k → (nvJ X).testBit k = false) (yes : ((popN 64 (nvJ X) : Nat) : Int) ≤ m → G sc MX11_look 153 [some (.ref 90), some (.int (I a)), some (.int (I b)), some (.int (I c)), some (.int (I x)), some (.int (I bb)), some (.int (I m)), some (.int (I ((t : Int) + 1)))] [] SH S r) (no : ¬(((popN 64 (nvJ X) : Nat) : Int) ≤ m) → G sc MX11_look 153 [some (.ref 90), some (.int (I a)), some (.int (I b)), some (.int (I c)), some (.int (I x)), some (.int (I t)), some (.int (I ((popN 64 (nvJ X) : Nat) : Int))), some (.int (I ((t : Int) + 1)))] [] SH S r) : G sc MX11_look 153 [some (.ref 90), some (.int (I a)), some (.int (I b)), some (.int (I c)), some (.int (I x)), some (.int (I bb)), some (.int (I m)), some (.int (I t))] [] SH S r := by
  have hp64 := popN_le 64 (nvJ X)
  have qo := ones_ok (sc := sc) (SH := SH) (S := S) (u := none) (u' := none) X hsk
  generalize popN 64 (nvJ X) = y at *
  refine qX11_look_153 h0 ?_
  rw [if_neg (by rw [I_lt ⟨by decide, by decide⟩ ⟨by omega, by omega⟩]; omega), ezt, ofI_toI]
  refine ⟨⟨by omega, by omega⟩, _, _, qo, ?_⟩
  by_cases d : (y : Int) ≤ m
  · rw [if_neg (by rw [I_lt ⟨by omega, by omega⟩ ⟨by omega, by omega⟩]; omega)]
    exact yes d
  · rw [if_pos (by rw [I_lt ⟨by omega, by omega⟩ ⟨by omega, by omega⟩]; omega), ezt, ofI_toI]
    exact ⟨⟨by omega, by omega⟩, _, _, qo, no d⟩
theorem rlk_end (h0 : sMod SH) (hP : wfP W.1) {a b c x p : Int} (hx : x = 0 ∨ x = 1) {S : mStore} (hz : ∀ i : Nat, 1 ≤ i → i ≤ 20 → S 109 i = (skJ W p c i 16).toInt) : ∀ (n t : Nat) (bb m : Int), t + n = 21 → 1 ≤ t → (0 ≤ m ∧ m ≤ 64) → G sc MX11_look 153 [some (.ref 90), some (.int (I a)), some (.int (I b)), some (.int (I c)), some (.int (I x)), some (.int (I bb)), some (.int (I m)), some (.int (I t))] [] SH S (rI (if x = 0 then (lkT W p c n t bb m).1 else (lkT W p c n t bb m).2) SH S)
  | 0, t, bb, m, ht, h1, hm => by
    refine qX11_look_153 h0 ?_
    rw [if_pos (by rw [I_lt ⟨by decide, by decide⟩ ⟨by omega, by omega⟩]; omega)]
    rcases hx with rfl | rfl
    · rw [if_pos rfl, if_pos rfl]; rfl
    · rw [if_neg (by decide), if_neg (by decide)]; rfl
  | n + 1, t, bb, m, ht, h1, hm => by
    have e3 : ((t + 1 : Nat) : Int) = (t : Int) + 1 := by omega
    have hp64 := popN_le 64 (nvJ (skJ W p c t 16))
    refine rlk_step h0 ⟨h1, by omega⟩ hm (hz t h1 (by omega)) (sk_hi (W := W) (p := p) (c := c) (t := t) hP 16) (fun d => ?_) (fun d => ?_)
    · have el : lkT W p c (n + 1) t bb m = lkT W p c n (t + 1) bb m := by
        show (if (popN 64 (nvJ (skJ W p c t 16)) : Int) ≤ m then lkT W p c n (t + 1) bb m else lkT W p c n (t + 1) t (popN 64 (nvJ (skJ W p c t 16)))) = _
        rw [if_pos d]
      have q := rlk_end h0 hP (a := a) (b := b) hx hz n (t + 1) bb m (by omega) (by omega) hm
      rw [e3] at q
      rw [el]
      exact q
    · have el : lkT W p c (n + 1) t bb m = lkT W p c n (t + 1) t (popN 64 (nvJ (skJ W p c t 16))) := by
        show (if (popN 64 (nvJ (skJ W p c t 16)) : Int) ≤ m then lkT W p c n (t + 1) bb m else lkT W p c n (t + 1) t (popN 64 (nvJ (skJ W p c t 16)))) = _
        rw [if_neg d]
      have q := rlk_end h0 hP (a := a) (b := b) hx hz n (t + 1) t (popN 64 (nvJ (skJ W p c t 16))) (by omega) (by omega) ⟨by omega, by omega⟩
      rw [e3] at q
      rw [el]
      exact q
theorem look_md {S : mStore} (h0 : sMod SH) (hW : wfW W) (h : mdR S N W) (hN : N < 2000000000) {g p c x y : Int} (hg : rg g) (hp : rg p) (hc : rg c) (hx : rg x) {u5 u6 u7 : Option Value} : MD sc MX11_look [some (.ref 90), some (.int (I g)), some (.int (I p)), some (.int (I c)), some (.int (I x)), u5, u6, u7] SH S N y (lookF W g p c x) W := by
  have ht : up S 90 4 0 90 4 = 0 := up_eq _ _ _ _
  obtain ⟨hm, hr⟩ := mdS (x := 0) hW h
  have hd := mdR_thr (x := 0) hW h
  have hP := hW.1
  have w1 := within_ok (sc := sc) (SH := SH) (S := up S 90 4 0) hc (lo := 0) ⟨by decide, by decide⟩ (hi := 3) ⟨by decide, by decide⟩
  have w2 := within_ok (sc := sc) (SH := SH) (S := up S 90 4 0) hx (lo := 0) ⟨by decide, by decide⟩ (hi := 1) ⟨by decide, by decide⟩
  unfold lookF
  by_cases c1 : plc W.1 g p = -1
  · rw [if_pos c1]
    refine MD_exc (v := 0) hW h (qX11_look_0 h0 ⟨_, _, isP_no h0 hm hP ht hg hp c1, ?_⟩)
    rw [if_pos rfl]
  rw [if_neg c1]
  have hpr := plc_rg hP c1
  by_cases c2 : 0 ≤ c ∧ c < 4
  · rw [if_neg (fun q => q c2)]
    rw [if_pos (by omega)] at w1
    by_cases c3 : x = 0 ∨ x = 1
    · rw [if_neg (fun q => q c3)]
      rw [if_pos (by omega)] at w2
      obtain ⟨S1, z1, f1, go1⟩ := rlk_z (sc := sc) h0 (l1 := g) (l2 := p) (l3 := c) (l4 := x) (u6 := u6) (u7 := u7) 21 0 (S := up S 90 4 0) (by decide) (fun i hi => by omega)
      have t1 := trF_109 f1
      obtain ⟨S2, z2, t2, go2⟩ := rlk_out (sc := sc) h0 hW hN (x := x) c1 c2 16 0 (S := S1) (u6 := u6) (u7 := u7) (by decide) (t1.md hW hd) (fun i a b => by rw [z1 i (by omega)]; rfl)
      have qe := rlk_end (sc := sc) h0 hP (a := g) (b := p) c3 z2 20 1 (-1) 0 (by decide) (by decide) ⟨by decide, by decide⟩
      refine MD_trG hW h (qX11_look_0 h0 ⟨_, _, isP_yes h0 hm hP ht hg hp c1, ?_⟩) (t1.tr t2)
      rw [if_neg (by decide)]
      refine ⟨_, _, w1, ?_⟩
      rw [if_neg (by decide)]
      refine ⟨_, _, w2, ?_⟩
      rw [if_neg (by decide)]
      refine ⟨_, _, right_yes h0 ht, ?_⟩
      rw [if_neg (by decide)]
      exact go1 _ (go2 _ qe)
    · rw [if_pos c3]
      rw [if_neg (by omega)] at w2
      refine MD_exc (v := 0) hW h (qX11_look_0 h0 ⟨_, _, isP_yes h0 hm hP ht hg hp c1, ?_⟩)
      rw [if_neg (by decide)]
      refine ⟨_, _, w1, ?_⟩
      rw [if_neg (by decide)]
      refine ⟨_, _, w2, ?_⟩
      rw [if_pos rfl]
      refine ⟨_, _, right_no h0 ht (.inl rfl), ?_⟩
      rw [if_pos rfl]
  · rw [if_pos c2]
    rw [if_neg (by omega)] at w1
    refine MD_exc (v := 0) hW h (qX11_look_0 h0 ⟨_, _, isP_yes h0 hm hP ht hg hp c1, ?_⟩)
    rw [if_neg (by decide)]
    refine ⟨_, _, w1, ?_⟩
    rw [if_pos rfl]
    refine ⟨_, _, right_no h0 ht (.inl rfl), ?_⟩
    rw [if_pos rfl]
end
