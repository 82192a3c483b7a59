/-! ===== the reference: writing as putA ===== -/
section
variable {sc : Nat × (Nat → Int32)} {SH : List mCell} {b N : Int} {P : aP}
theorem rw166 {S : mStore} {B : aS} (h0 : sMod SH) (hb : 0 ≤ b ∧ b ≤ 135000) (hr : refR S b B N) (hC : wfR B.C B.k) {p x f s how : Int} (hp : 0 ≤ p ∧ p < 48) (hx : saidR S x) (hw : 0 ≤ B.w p ∧ B.w p < 48) {u : Option Value} : ∃ S', G sc MX11_writes 166 [some (.ref 90), some (.int (I b)), some (.int (I p)), some (.int (I f)), some (.int (I s)), some (.int (I how)), u] [] SH S (rI how SH S') ∧ refR S' b (B.sv 0 (B.w p) x) N ∧ modG S S' b := by
  obtain ⟨S1, g1, r1, m1⟩ := rlay_ok (sc := sc) h0 hb hr hC hx hw (u := none)
  refine ⟨S1, qX11_writes_166 h0 ?_, r1, m1⟩
  rw [hr.2.1 p hp.1 hp.2]
  exact ⟨⟨by omega, by omega⟩, S1, g1, rfl⟩
theorem rput_ok {S : mStore} {A : aS} (h0 : sMod SH) (hb : 0 ≤ b ∧ b ≤ 135000) (hm : modP S P) (hP : wfP P) (hr : refR S b A N) (hA : wfA P A) {p x : Int} (hp : 0 ≤ p ∧ p < P 0 7) (hx : saidR S x) {u3 u4 u5 u6 : Option Value} : ∃ S', G sc MX11_writes 0 [some (.ref 90), some (.int (I b)), some (.int (I p)), u3, u4, u5, u6] [] SH S (rI (putA P A p x).1 SH S') ∧ refR S' b (putA P A p x).2 N ∧ modG S S' b := by
  have hP7 := hP.2.2.2.2.2.1
  have hP0 := hP.1
  have hP1 := hP.2.1
  have bw := hA.1.2.2 p
  have hC := hA.2.1
  have hp48 : 0 ≤ p ∧ p < 48 := ⟨hp.1, by omega⟩
  have e1 := hr.2.1 p hp.1 (by omega)
  have hfr := freeA_rg (A := A) hP
  have h8 := hr.2.2.2.2.2.2.2.2.2.2.2.2.2.2.2.1
  by_cases c1 : A.w p = -1
  · have n1 : ¬ (A.w p ≠ -1 ∧ A.k (A.w p) = -1) := fun q => q.1 c1
    have n2 : ¬ (A.w p ≠ -1 ∧ (A.L (A.w p)).length = 1) := fun q => q.1 c1
    have h95 : ∀ r, G sc MX11_writes 107 [some (.ref 90), some (.int (I b)), some (.int (I p)), some (.int (I (-1))), some (.int (I 0)), some (.int (I 1)), u6] [] SH S r → G sc MX11_writes 0 [some (.ref 90), some (.int (I b)), some (.int (I p)), u3, u4, u5, u6] [] SH S r := fun r h => by
      refine qX11_writes_0 h0 ?_
      rw [e1, c1]
      simp (disch := omega) only [iL, iE, iQ, ipos, ineg, an, if_true, if_false]
      refine qX11_writes_95 h0 ?_
      simp (disch := omega) only [iL, iE, iQ, ipos, ineg, an, if_true, if_false]
      exact h
    by_cases c2 : freeA P A = -1
    · have ho : ownA P A p = (-1, A) := by unfold ownA; rw [if_neg n1, if_neg n2, if_pos c2]
      have hpu : putA P A p x = (-1, A) := by unfold putA; rw [ho]; exact if_pos rfl
      rw [hpu]
      refine ⟨S, h95 _ (qX11_writes_107 h0 ⟨_, _, rfree_ok h0 hb hm hP hr, ?_⟩), hr, modG_rf _ _⟩
      rw [c2]
      simp (disch := omega) only [iL, iE, iQ, ipos, ineg, an, if_true, if_false]
    · have ho : ownA P A p = (1, lieIn (A.sv 0 (freeA P A) (cellsA A p)) p (freeA P A)) := by unfold ownA; rw [if_neg n1, if_neg n2, if_neg c2, if_pos c1]
      have hpu : putA P A p x = (1, (lieIn (A.sv 0 (freeA P A) (cellsA A p)) p (freeA P A)).sv 0 ((lieIn (A.sv 0 (freeA P A) (cellsA A p)) p (freeA P A)).w p) x) := by unfold putA; rw [ho]; exact if_neg (show ¬ ((1 : Int) = -1) by decide)
      rw [hpu]
      have hf : 0 ≤ freeA P A ∧ freeA P A < P 0 0 ∧ A.L (freeA P A) = [] := by
        rcases hfr with h | h
        · exact absurd h c2
        · exact h
      obtain ⟨S1, g1, r1, m1⟩ := rli_ok (sc := sc) h0 hb hr hC (p := p) (f := freeA P A) hp48 ⟨hf.1, by omega⟩ (by rw [hf.2.2]; decide)
      have ew : (lieIn A p (freeA P A)).w p = freeA P A := setW_eq ..
      obtain ⟨S2, g2, r2, m2⟩ := rw166 (sc := sc) h0 hb r1 hC (p := p) (x := x) (f := -1) (s := 0) (how := 1) hp48 (saidR_F hx (m1.2 101 (by decide))) ⟨by rw [ew]; omega, by rw [ew]; omega⟩ (u := some (.int (I (freeA P A))))
      rw [ew] at r2
      have eA : ((lieIn (A.sv 0 (freeA P A) (cellsA A p)) p (freeA P A)).sv 0 ((lieIn (A.sv 0 (freeA P A) (cellsA A p)) p (freeA P A)).w p) x) = (lieIn A p (freeA P A)).sv 0 (freeA P A) x := by
        have e2 : (lieIn (A.sv 0 (freeA P A) (cellsA A p)) p (freeA P A)).w p = freeA P A := setW_eq ..
        rw [e2]
        show (_, _, _, _, _, _, up (up A.v 0 (freeA P A) (cellsA A p)) 0 (freeA P A) x) = _
        rw [up_up]
        rfl
      refine ⟨S2, h95 _ (qX11_writes_107 h0 ⟨_, _, rfree_ok h0 hb hm hP hr, ?_⟩), by dsimp only; rw [eA]; exact r2, modG_tr m1 m2⟩
      simp (disch := omega) only [iL, iE, iQ, ipos, ineg, an, if_true, if_false]
      refine qX11_writes_146 h0 ⟨S1, g1, qX11_writes_154 h0 ?_⟩
      simp (disch := omega) only [iL, iE, iQ, ipos, ineg, an, if_true, if_false]
      exact g2
  · have b2 := hC.2.2 (A.w p)
    have ek := hr.2.2.2.2.2.2.2.2.2.2.2.1 (A.w p) (by omega) bw.2
    have en := hr.2.2.2.2.2.2.2.2.2.1 (A.w p) (by omega) bw.2
    have h8w := h8 (A.w p)
    by_cases c2 : A.k (A.w p) = -1
    · have ho : ownA P A p = (0, A) := by unfold ownA; exact if_pos ⟨c1, c2⟩
      have hpu : putA P A p x = (0, A.sv 0 (A.w p) x) := by unfold putA; rw [ho]; exact if_neg (show ¬ ((0 : Int) = -1) by decide)
      rw [hpu]
      obtain ⟨S2, g2, r2, m2⟩ := rw166 (sc := sc) h0 hb hr hC (p := p) (x := x) (f := A.w p) (s := 0) (how := 0) hp48 hx ⟨by omega, bw.2⟩ (u := u6)
      refine ⟨S2, qX11_writes_0 h0 ?_, r2, m2⟩
      rw [e1, ek, c2]
      simp (disch := omega) only [iL, iE, iQ, ipos, ineg, an, if_true, if_false]
      refine qX11_writes_95 h0 ?_
      simp (disch := omega) only [iL, iE, iQ, ipos, ineg, an, if_true, if_false]
      refine qX11_writes_154 h0 ?_
      simp (disch := omega) only [iL, iE, iQ, ipos, ineg, an, if_true, if_false]
      exact g2
    · have n1 : ¬ (A.w p ≠ -1 ∧ A.k (A.w p) = -1) := fun q => c2 q.2
      have hne := (hA.2.2.2.2.2.1 _ c2).2.2
      have hpos : 0 < (A.L (A.w p)).length := List.length_pos_iff.mpr hne
      by_cases c3 : (A.L (A.w p)).length = 1
      · have ho : ownA P A p = (3, leaveK A (A.w p)) := by unfold ownA; rw [if_neg n1]; exact if_pos ⟨c1, c3⟩
        have hpu : putA P A p x = (3, (leaveK A (A.w p)).sv 0 ((leaveK A (A.w p)).w p) x) := by unfold putA; rw [ho]; exact if_neg (show ¬ ((3 : Int) = -1) by decide)
        rw [hpu]
        obtain ⟨S1, g1, r1, m1⟩ := rlk_ok (sc := sc) h0 hb hr hC hA.2.2.1 (f := A.w p) ⟨by omega, bw.2⟩ (u := none) (u' := none) (u2 := none) (u3 := none)
        have ew : (leaveK A (A.w p)).w p = A.w p := by rw [(leaveK_w A _).1]
        have hA3 := wf_own hP hA hp
        rw [ho] at hA3
        obtain ⟨S2, g2, r2, m2⟩ := rw166 (sc := sc) h0 hb r1 hA3.2.1 (p := p) (x := x) (f := A.w p) (s := 0) (how := 3) hp48 (saidR_F hx (m1.2 101 (by decide))) ⟨by rw [ew]; omega, by rw [ew]; omega⟩ (u := u6)
        refine ⟨S2, qX11_writes_0 h0 ?_, r2, modG_tr m1 m2⟩
        rw [e1, ek, en, c3]
        simp (disch := omega) only [iL, iE, iQ, ipos, ineg, an, if_true, if_false, Int.natCast_one]
        refine qX11_writes_95 h0 ?_
        simp (disch := omega) only [iL, iE, iQ, ipos, ineg, an, if_true, if_false]
        refine qX11_writes_154 h0 ?_
        simp (disch := omega) only [iL, iE, iQ, ipos, ineg, an, if_true, if_false]
        exact ⟨S1, g1, g2⟩
      · have n2 : ¬ (A.w p ≠ -1 ∧ (A.L (A.w p)).length = 1) := fun q => c3 q.2
        have h95 : ∀ r, G sc MX11_writes 107 [some (.ref 90), some (.int (I b)), some (.int (I p)), some (.int (I (A.w p))), some (.int (I 1)), some (.int (I 2)), u6] [] SH S r → G sc MX11_writes 0 [some (.ref 90), some (.int (I b)), some (.int (I p)), u3, u4, u5, u6] [] SH S r := fun r h => by
          refine qX11_writes_0 h0 ?_
          rw [e1, ek, en]
          simp (disch := omega) only [iL, iE, iQ, ipos, ineg, an, if_true, if_false]
          refine qX11_writes_95 h0 ?_
          simp (disch := omega) only [iL, iE, iQ, ipos, ineg, an, if_true, if_false]
          exact h
        by_cases c4 : freeA P A = -1
        · have ho : ownA P A p = (-1, A) := by unfold ownA; rw [if_neg n1, if_neg n2, if_pos c4]
          have hpu : putA P A p x = (-1, A) := by unfold putA; rw [ho]; exact if_pos rfl
          rw [hpu]
          refine ⟨S, h95 _ (qX11_writes_107 h0 ⟨_, _, rfree_ok h0 hb hm hP hr, ?_⟩), hr, modG_rf _ _⟩
          rw [c4]
          simp (disch := omega) only [iL, iE, iQ, ipos, ineg, an, if_true, if_false]
        · have ho : ownA P A p = (2, (lieIn (unlie (A.sv 0 (freeA P A) (cellsA A p)) p) p (freeA P A)).sv 6 8 (A.v 6 8 + 1)) := by unfold ownA; rw [if_neg n1, if_neg n2, if_neg c4, if_neg c1]
          have hpu : putA P A p x = (2, ((lieIn (unlie (A.sv 0 (freeA P A) (cellsA A p)) p) p (freeA P A)).sv 6 8 (A.v 6 8 + 1)).sv 0 (((lieIn (unlie (A.sv 0 (freeA P A) (cellsA A p)) p) p (freeA P A)).sv 6 8 (A.v 6 8 + 1)).w p) x) := by unfold putA; rw [ho]; exact if_neg (show ¬ ((2 : Int) = -1) by decide)
          rw [hpu]
          have hf : 0 ≤ freeA P A ∧ freeA P A < P 0 0 ∧ A.L (freeA P A) = [] := by
            rcases hfr with h | h
            · exact absurd h c4
            · exact h
          have e8 : S 91 (b + 8) = A.v 6 8 := hr.1 8 (by decide) (by decide)
          have r0 := refR_v6 hr hC (i := 8) (x := A.v 6 8 + 1) (by decide)
          obtain ⟨S1, g1, r1, m1⟩ := rlf_ok (sc := sc) h0 hb r0 hA.1 hC hA.2.2.1 hp48 c1 (u3 := none) (u4 := none) (u5 := none) (u6 := none)
          have hln := remL_len hA.1 hp48 c1
          have eF : leaveF (A.sv 6 8 (A.v 6 8 + 1)) p = unlie (A.sv 6 8 (A.v 6 8 + 1)) p := by
            unfold leaveF
            exact if_neg (fun q => by
              have q : remL A.L (A.w p) p (A.w p) = [] := q
              rw [q] at hln
              simp only [List.length_nil] at hln
              omega)
          rw [eF] at r1
          have hfw : freeA P A ≠ A.w p := fun q => hne (by rw [← q]; exact hf.2.2)
          have hl0 : ((unlie (A.sv 6 8 (A.v 6 8 + 1)) p).L (freeA P A)).length < 8 := by
            show (remL A.L (A.w p) p (freeA P A)).length < 8
            rw [remL_ne hfw, hf.2.2]; decide
          obtain ⟨S2, g2, r2, m2⟩ := rli_ok (sc := sc) h0 hb r1 hC (p := p) (f := freeA P A) hp48 ⟨hf.1, by omega⟩ hl0
          have ew : (lieIn (unlie (A.sv 6 8 (A.v 6 8 + 1)) p) p (freeA P A)).w p = freeA P A := setW_eq ..
          obtain ⟨S3, g3, r3, m3⟩ := rw166 (sc := sc) h0 hb r2 hC (p := p) (x := x) (f := A.w p) (s := 1) (how := 2) hp48 (saidR_F hx (by rw [m2.2 101 (by decide), m1.2 101 (by decide), up_ne (by decide)])) ⟨by rw [ew]; omega, by rw [ew]; omega⟩ (u := some (.int (I (freeA P A))))
          rw [ew] at r3
          have eA : (((lieIn (unlie (A.sv 0 (freeA P A) (cellsA A p)) p) p (freeA P A)).sv 6 8 (A.v 6 8 + 1)).sv 0 (((lieIn (unlie (A.sv 0 (freeA P A) (cellsA A p)) p) p (freeA P A)).sv 6 8 (A.v 6 8 + 1)).w p) x) = (lieIn (unlie (A.sv 6 8 (A.v 6 8 + 1)) p) p (freeA P A)).sv 0 (freeA P A) x := by
            have e2 : ((lieIn (unlie (A.sv 0 (freeA P A) (cellsA A p)) p) p (freeA P A)).sv 6 8 (A.v 6 8 + 1)).w p = freeA P A := setW_eq ..
            rw [e2]
            show (_, _, _, _, _, _, up (up (up A.v 0 (freeA P A) (cellsA A p)) 6 8 (A.v 6 8 + 1)) 0 (freeA P A) x) = _
            rw [up_comm (by decide), up_up, up_comm (by decide)]
            rfl
          refine ⟨S3, h95 _ (qX11_writes_107 h0 ⟨_, _, rfree_ok h0 hb hm hP hr, ?_⟩), by dsimp only; rw [eA]; exact r3, modG_tr (modG_tr (modG_tr (modG_up (by omega)) m1) m2) m3⟩
          rw [e8]
          simp (disch := omega) only [iL, iE, iQ, ipos, ineg, an, if_true, if_false]
          refine ⟨S1, g1, qX11_writes_146 h0 ⟨S2, g2, qX11_writes_154 h0 ?_⟩⟩
          simp (disch := omega) only [iL, iE, iQ, ipos, ineg, an, if_true, if_false]
          exact g3
theorem rwc_ok {S : mStore} {A : aS} (h0 : sMod SH) (hb : 0 ≤ b ∧ b ≤ 135000) (hm : modP S P) (hP : wfP P) (hr : refR S b A N) (hA : wfA P A) {p c n : Int} (hp : 0 ≤ p ∧ p < P 0 7) (hc : 0 ≤ c ∧ c < 4) (hn : 0 ≤ n ∧ n < 16) : ∃ S', G sc MX11_writesCell 0 [some (.ref 90), some (.int (I b)), some (.int (I p)), some (.int (I c)), some (.int (I n))] [] SH S (rI (putA P A p (pcell (cellsA A p) c n)).1 SH S') ∧ refR S' b (putA P A p (pcell (cellsA A p) c n)).2 N ∧ modF S S' b := by
  have hP7 := hP.2.2.2.2.2.1
  obtain ⟨S1, g1, s1, f1⟩ := rsay_ok (sc := sc) h0 hb hr hA (p := p) ⟨hp.1, by omega⟩ (u := none)
  have r1 : refR (up S1 101 c n) b A N := refR_far hr (by rw [up_ne (by decide), f1 91 (by decide)])
  have mF : modF S (up S1 101 c n) b := ⟨fun i _ => by rw [up_ne (by decide), f1 91 (by decide)], fun j _ _ _ hj => by rw [up_ne hj, f1 j hj], fun i _ => by rw [up_ne (by decide), f1 90 (by decide)]⟩
  have hcl := cellsA_rg hA p
  obtain ⟨S2, g2, r2, m2⟩ := rput_ok (sc := sc) h0 hb (modP_F hm mF) hP r1 hA hp (x := pcell (cellsA A p) c n) (fun d a e => by
    rw [pcell_nb hcl hn hc ⟨a, e⟩, up_at]
    by_cases q : d = c
    · rw [if_pos q, if_pos q]
    · rw [if_neg q, if_neg q]; exact s1 d a e) (u3 := none) (u4 := none) (u5 := none) (u6 := none)
  exact ⟨S2, qX11_writesCell_0 h0 ⟨S1, g1, ⟨hc.1, hc.2⟩, _, _, g2, rfl⟩, r2, modF_tr mF (modG_F m2)⟩
end
