/-! ===== the reference: pages wait no more, pages are advised ===== -/
theorem lb_del_le (k : Int) : ∀ (T : Tr), (lb (del k T)).length ≤ (lb T).length
  | .leaf _ => Nat.le_refl _
  | .branch j l r => by
    have h1 := lb_del_le k l
    have h2 := lb_del_le k r
    rw [del]
    split
    · rw [lb_jn, lb]; simp only [List.length_append, List.length_cons]; omega
    · rw [lb, lb]; simp only [List.length_append, List.length_cons]; omega
section
variable {sc : Nat × (Nat → Int32)} {SH : List mCell} {b N : Int} {P : aP}
theorem al_in_iff {T : Int → Tr} (hw : wfT T) {p q : Int} : (q ∈ al (delT p T)) ↔ (q ∈ al T ∧ q ≠ p) := by
  rw [al_del hw, List.mem_filter]
  simp
theorem refR_off {S : mStore} {A : aS} (hr : refR S b A N) (hA : wfA P A) {p : Int} (hno : p ∉ al A.tw) : refR S b (A.stw (delT p A.tw)) N := by
  refine refR_tw hr hA.2.1 (fun q a c => ?_) (fun ρ a c => ?_) (fun ρ => ?_) (fun _ _ _ _ => rfl)
  · rw [hr.2.2.2.2.2.2.2.1 q a c]
    by_cases e : q ∈ al A.tw
    · rw [if_pos e, if_pos ((al_in_iff (p := p) hA.2.2.2.1).mpr ⟨e, fun q' => hno (by rw [← q']; exact e)⟩)]
    · rw [if_neg e, if_neg (fun h => e ((al_in_iff hA.2.2.2.1).mp h).1)]
  · show rowl _ _ (fd (del p (A.tw ρ)) 0)
    rw [del_no (fun q => hno (al_in a c q))]
    exact hr.2.2.2.2.2.2.2.2.2.2.2.2.2.2.1 ρ a c
  · exact Nat.le_trans (lb_del_le p (A.tw ρ)) (hr.2.2.2.2.2.2.2.2.2.2.2.2.2.2.2.2 ρ).2
theorem rwn_ok {S : mStore} {A : aS} (h0 : sMod SH) (hb : 0 ≤ b ∧ b ≤ 135000) (hm : modP S P) (hP : wfP P) (hr : refR S b A N) (hA : wfA P A) {p : Int} (hp : 0 ≤ p ∧ p < P 0 7) {u u' : Option Value} : ∃ S', G sc MX11_waitsNoMore 0 [some (.ref 90), some (.int (I b)), some (.int (I p)), u, u'] [] SH S (rV SH S') ∧ refR S' b (A.stw (delT p A.tw)) N ∧ modG S S' b := by
  have hP7 := hP.2.2.2.2.2.1
  have hρ := rlm_rg hP hp
  have hT := hA.2.2.2.1
  have hrow := hr.2.2.2.2.2.2.2.2.2.2.2.2.2.2.1
  have hflag := hr.2.2.2.2.2.2.2.1
  have hlen := hr.2.2.2.2.2.2.2.2.2.2.2.2.2.2.2.2
  have hoth : ∀ ρ, 0 ≤ ρ → ρ < 3 → ρ ≠ rlm P p → p ∉ lb (A.tw ρ) := fun ρ a c e h => e (hA.2.2.2.2.2.2.2.2.2.1 ρ p a c h).2.1.symm
  rcases mdel_ok (sc := sc) h0 (t := b + 1363 + 97 * rlm P p) ⟨by omega, by omega⟩ (lb_nd hT hρ.1 hρ.2) (fun x hx => hT.2 x (al_in hρ.1 hρ.2 hx)) (hrow _ hρ.1 hρ.2) (k := p) ⟨hp.1, by omega⟩ with ⟨hno, gp⟩ | ⟨c, S1, c1, c2, gp, gt, r1, f1⟩
  · have hnal : p ∉ al A.tw := fun h => by
      obtain ⟨ρ, a1, a2, a3⟩ := al_of h
      by_cases e : ρ = rlm P p
      · rw [e] at a3; exact hno a3
      · exact hoth ρ a1 a2 e a3
    have es : up S 91 (b + 304 + p) 0 = S := up_self (by rw [hflag p hp.1 (by omega), if_neg hnal])
    refine ⟨S, qX11_waitsNoMore_0 h0 ⟨_, _, rrealm_ok h0 hm hP hp, _, _, gp, ?_⟩, refR_off hr hA hnal, modG_rf _ _⟩
    rw [es]
    simp (disch := omega) only [iL, iE, iQ, ipos, ineg, an, if_true, if_false]
  · refine ⟨up S1 91 (b + 304 + p) 0, qX11_waitsNoMore_0 h0 ⟨_, _, rrealm_ok h0 hm hP hp, _, _, gp, ?_⟩, ?_, modG_tr (modG_row f1 (by omega)) (modG_up (by omega))⟩
    · simp (disch := omega) only [iL, iE, iQ, ipos, ineg, an, if_true, if_false]
      exact ⟨_, gt, rfl⟩
    · refine refR_tw hr hA.2.1 (fun q a d => ?_) (fun ρ a d => ?_) (fun ρ => Nat.le_trans (lb_del_le p (A.tw ρ)) (hlen ρ).2) (fun i i1 i2 i3 => by rw [up_at, if_neg (by omega)]; exact f1.1 i (by omega))
      · rw [up_at]
        by_cases e : q = p
        · rw [if_pos (by omega), if_neg (fun h => ((al_in_iff hT).mp h).2 e)]
        · rw [if_neg (by omega), f1.1 _ (by omega), hflag q a d]
          by_cases e2 : q ∈ al A.tw
          · rw [if_pos e2, if_pos ((al_in_iff hT).mpr ⟨e2, e⟩)]
          · rw [if_neg e2, if_neg (fun h => e2 ((al_in_iff hT).mp h).1)]
      · show rowl _ _ (fd (del p (A.tw ρ)) 0)
        by_cases e : ρ = rlm P p
        · subst e
          refine rowl_cong r1 ?_ (fun i i1 i2 => by rw [up_at, if_neg (by omega)])
          rw [fd_len]
          exact Nat.le_trans (lb_del_le p (A.tw _)) (hlen _).2
        · rw [del_no (hoth ρ a d e)]
          refine rowl_cong (hrow ρ a d) (by rw [fd_len]; exact (hlen ρ).2) (fun i i1 i2 => by rw [up_at, if_neg (by omega)]; exact f1.1 i (by omega))
/-- writing what is there is what splits off -/
theorem put_own (hP : wfP P) {A : aS} (hA : wfA P A) {p : Int} (hp : 0 ≤ p ∧ p < P 0 7) (hmg : mrg A p = true) : putA P A p (cellsA A p) = ownA P A p := by
  have hmg : A.w p ≠ -1 ∧ A.k (A.w p) ≠ -1 := by unfold mrg at hmg; simpa using hmg
  have hce : cellsA A p = A.v 0 (A.w p) := if_neg hmg.1
  unfold putA
  split
  · rfl
  · rename_i hne
    have n1 : ¬ (A.w p ≠ -1 ∧ A.k (A.w p) = -1) := fun q => hmg.2 q.2
    by_cases c3 : (A.L (A.w p)).length = 1
    · have ho : ownA P A p = (3, leaveK A (A.w p)) := by unfold ownA; rw [if_neg n1]; exact if_pos ⟨hmg.1, c3⟩
      rw [ho]
      have e1 : (leaveK A (A.w p)).w p = A.w p := by rw [(leaveK_w A _).1]
      have e2 : up (leaveK A (A.w p)).v 0 (A.w p) (cellsA A p) = (leaveK A (A.w p)).v := up_self (by rw [(leaveK_w A _).2.2.1, hce])
      show ((3 : Int), ((leaveK A (A.w p)).L, (leaveK A (A.w p)).w, (leaveK A (A.w p)).C, (leaveK A (A.w p)).k, (leaveK A (A.w p)).ts, (leaveK A (A.w p)).tw, up (leaveK A (A.w p)).v 0 ((leaveK A (A.w p)).w p) (cellsA A p))) = _
      rw [e1, e2]
    · have n2 : ¬ (A.w p ≠ -1 ∧ (A.L (A.w p)).length = 1) := fun q => c3 q.2
      by_cases c4 : freeA P A = -1
      · have ho : ownA P A p = (-1, A) := by unfold ownA; rw [if_neg n1, if_neg n2, if_pos c4]
        rw [ho] at hne
        exact absurd rfl hne
      · have ho : ownA P A p = (2, (lieIn (unlie (A.sv 0 (freeA P A) (cellsA A p)) p) p (freeA P A)).sv 6 8 (A.v 6 8 + 1)) := by unfold ownA; rw [if_neg n1, if_neg n2, if_neg c4, if_neg hmg.1]
        rw [ho]
        have e1 : ((lieIn (unlie (A.sv 0 (freeA P A) (cellsA A p)) p) p (freeA P A)).sv 6 8 (A.v 6 8 + 1)).w p = freeA P A := setW_eq ..
        have e2 : up (up (up A.v 0 (freeA P A) (cellsA A p)) 6 8 (A.v 6 8 + 1)) 0 (freeA P A) (cellsA A p) = up (up A.v 0 (freeA P A) (cellsA A p)) 6 8 (A.v 6 8 + 1) := up_self (by rw [up_ne (by decide), up_eq])
        dsimp only
        rw [e1]
        show ((2 : Int), (_, _, _, _, _, _, up (up (up A.v 0 (freeA P A) (cellsA A p)) 6 8 (A.v 6 8 + 1)) 0 (freeA P A) (cellsA A p))) = _
        rw [e2]
        rfl
theorem radv1_lp (h0 : sMod SH) (hb : 0 ≤ b ∧ b ≤ 135000) {lo hi : Int} (hhi : -1 ≤ hi ∧ hi < 48) : ∀ (n : Nat) (m p : Int) {S : mStore} {A : aS}, refR S b A N → wfA P A → 0 ≤ p → p + n = hi + 1 → 0 ≤ m → m ≤ 48 - n → ∃ S', G sc MX11_advises 6 [some (.ref 90), some (.int (I b)), some (.int (I lo)), some (.int (I hi)), some (.int (I 1)), some (.int (I m)), some (.int (I p))] [] SH S (rI (m + (advAll n p A).1) SH S') ∧ refR S' b (advAll n p A).2 N ∧ modG S S' b
  | 0, m, p, S, A, hr, hA, h1, hn, hm, hm2 => by
    refine ⟨S, qX11_advises_6 h0 ?_, hr, modG_rf _ _⟩
    simp only [advAll, Int.add_zero]
    simp (disch := omega) only [iL, iE, iQ, ipos, ineg, an, if_true, if_false]
  | n + 1, m, p, S, A, hr, hA, h1, hn, hm, hm2 => by
    have e1 := hr.2.2.1 p h1 (by omega)
    have b1 := hA.2.2.2.2.2.2.2.2.2.2.2.1 p
    by_cases e : A.v 1 p = 0
    · obtain ⟨S', g', r', f'⟩ := radv1_lp h0 hb (lo := lo) hhi n (m + 1) (p + 1) (refR_v1 hr hA.2.1 (i := p) (x := 1) ⟨h1, by omega⟩) (wf_v1 hA (.inr rfl)) (by omega) (by omega) (by omega) (by omega)
      unfold advAll
      rw [if_pos e]
      refine ⟨S', qX11_advises_6 h0 ?_, r', modG_tr (modG_up (by omega)) f'⟩
      rw [e1, e]
      simp (disch := omega) only [iL, iE, iQ, ipos, ineg, an, if_true, if_false]
      refine qX11_advises_97 h0 ⟨⟨by omega, by omega⟩, qX11_advises_114 h0 ?_⟩
      rw [show m + ((advAll n (p + 1) (A.sv 1 p 1)).1 + 1) = m + 1 + (advAll n (p + 1) (A.sv 1 p 1)).1 by omega]
      exact g'
    · obtain ⟨S', g', r', f'⟩ := radv1_lp h0 hb (lo := lo) hhi n m (p + 1) hr hA (by omega) (by omega) (by omega) (by omega)
      unfold advAll
      rw [if_neg e]
      refine ⟨S', qX11_advises_6 h0 ?_, r', f'⟩
      rw [e1]
      simp (disch := omega) only [iL, iE, iQ, ipos, ineg, an, if_true, if_false]
      exact qX11_advises_114 h0 g'
theorem radv0_lp (h0 : sMod SH) (hb : 0 ≤ b ∧ b ≤ 135000) (hP : wfP P) {lo hi : Int} (hhi : -1 ≤ hi ∧ hi < P 0 7) : ∀ (n : Nat) (m p : Int) {S : mStore} {A : aS}, modP S P → refR S b A N → wfA P A → 0 ≤ p → p + n = hi + 1 → 0 ≤ m → m ≤ 48 - n → ∃ S', G sc MX11_advises 6 [some (.ref 90), some (.int (I b)), some (.int (I lo)), some (.int (I hi)), some (.int (I 0)), some (.int (I m)), some (.int (I p))] [] SH S (rI (m + (noMore P n p A).1) SH S') ∧ refR S' b (noMore P n p A).2 N ∧ modF S S' b
  | 0, m, p, S, A, hmp, hr, hA, h1, hn, hm, hm2 => by
    have hP7 := hP.2.2.2.2.2.1
    refine ⟨S, qX11_advises_6 h0 ?_, hr, modF_rf _ _⟩
    simp only [noMore, Int.add_zero]
    simp (disch := omega) only [iL, iE, iQ, ipos, ineg, an, if_true, if_false]
  | n + 1, m, p, S, A, hmp, hr, hA, h1, hn, hm, hm2 => by
    have hP7 := hP.2.2.2.2.2.1
    have hpp : 0 ≤ p ∧ p < P 0 7 := ⟨h1, by omega⟩
    have e1 := hr.2.2.1 p h1 (by omega)
    have b1 := hA.2.2.2.2.2.2.2.2.2.2.2.1 p
    -- behind the writing: waits no more, advised no more, and on
    have hoff : ∀ {S1 : mStore} {B : aS}, modP S1 P → refR S1 b B N → wfA P B → ∃ S', (∀ r, r = rI (m + ((noMore P n (p + 1) (offA B p)).1 + 1)) SH S' → (if I (S1 91 (b + 304 + p)) = I 1 then (∃ S104, G sc MX11_waitsNoMore 0 [some (.ref 90), some (.int (I b)), some (.int (I p)), none, none] [] SH S1 (rV SH S104) ∧ G sc MX11_advises 97 [some (.ref 90), some (.int (I b)), some (.int (I lo)), some (.int (I hi)), some (.int (I 0)), some (.int (I m)), some (.int (I p))] [] SH S104 r) else G sc MX11_advises 97 [some (.ref 90), some (.int (I b)), some (.int (I lo)), some (.int (I hi)), some (.int (I 0)), some (.int (I m)), some (.int (I p))] [] SH S1 r)) ∧ refR S' b (noMore P n (p + 1) (offA B p)).2 N ∧ modF S1 S' b := by
      intro S1 B hm1 hr1 hB
      have hfl := hr1.2.2.2.2.2.2.2.1 p h1 (by omega)
      by_cases hin : p ∈ al B.tw
      · rw [if_pos hin] at hfl
        obtain ⟨S2, g2, r2, m2⟩ := rwn_ok (sc := sc) h0 hb hm1 hP hr1 hB hpp (u := none) (u' := none)
        have r3 : refR (up S2 91 (b + 64 + p) 0) b (offA B p) N := refR_v1 r2 hB.2.1 (i := p) (x := 0) ⟨h1, by omega⟩
        have m3 : modF S1 (up S2 91 (b + 64 + p) 0) b := modG_F (modG_tr m2 (modG_up (by omega)))
        obtain ⟨S', g', r', f'⟩ := radv0_lp h0 hb hP (lo := lo) hhi n (m + 1) (p + 1) (modP_F hm1 m3) r3 (wf_off hB) (by omega) (by omega) (by omega) (by omega)
        refine ⟨S', fun r hrr => ?_, r', modF_tr m3 f'⟩
        rw [hfl, if_pos rfl]
        refine ⟨S2, g2, qX11_advises_97 h0 ⟨⟨by omega, by omega⟩, qX11_advises_114 h0 ?_⟩⟩
        rw [hrr, show m + ((noMore P n (p + 1) (offA B p)).1 + 1) = m + 1 + (noMore P n (p + 1) (offA B p)).1 by omega]
        exact g'
      · rw [if_neg hin] at hfl
        have r3 : refR (up S1 91 (b + 64 + p) 0) b (offA B p) N := refR_v1 (refR_off hr1 hB hin) hB.2.1 (i := p) (x := 0) ⟨h1, by omega⟩
        have m3 : modF S1 (up S1 91 (b + 64 + p) 0) b := modF_up (by omega)
        obtain ⟨S', g', r', f'⟩ := radv0_lp h0 hb hP (lo := lo) hhi n (m + 1) (p + 1) (modP_F hm1 m3) r3 (wf_off hB) (by omega) (by omega) (by omega) (by omega)
        refine ⟨S', fun r hrr => ?_, r', modF_tr m3 f'⟩
        rw [hfl, if_neg (by decide)]
        refine qX11_advises_97 h0 ⟨⟨by omega, by omega⟩, qX11_advises_114 h0 ?_⟩
        rw [hrr, show m + ((noMore P n (p + 1) (offA B p)).1 + 1) = m + 1 + (noMore P n (p + 1) (offA B p)).1 by omega]
        exact g'
    by_cases e : A.v 1 p = 0
    · obtain ⟨S', g', r', f'⟩ := radv0_lp h0 hb hP (lo := lo) hhi n m (p + 1) hmp hr hA (by omega) (by omega) (by omega) (by omega)
      unfold noMore
      rw [if_pos e]
      refine ⟨S', qX11_advises_6 h0 ?_, r', f'⟩
      rw [e1, e]
      simp (disch := omega) only [iL, iE, iQ, ipos, ineg, an, if_true, if_false]
      exact qX11_advises_114 h0 g'
    · have gm := risM_ok (sc := sc) h0 hb hr hA (p := p) ⟨h1, by omega⟩
      by_cases em : mrg A p = true
      · rw [if_pos em] at gm
        obtain ⟨S1, g1, s1, f1⟩ := rsay_ok (sc := sc) h0 hb hr hA (p := p) ⟨h1, by omega⟩ (u := none)
        have r1 : refR S1 b A N := refR_far hr (f1 91 (by decide))
        have m1 : modF S S1 b := ⟨fun i _ => by rw [f1 91 (by decide)], fun j _ _ _ hj => f1 j hj, fun i _ => by rw [f1 90 (by decide)]⟩
        obtain ⟨S2, g2, r2, m2⟩ := rput_ok (sc := sc) h0 hb (modP_F hmp m1) hP r1 hA hpp s1 (u3 := none) (u4 := none) (u5 := none) (u6 := none)
        rw [put_own hP hA hpp em] at g2 r2
        have hro := own_rg (P := P) (A := A) (p := p)
        by_cases eo : (ownA P A p).1 = -1
        · unfold noMore
          rw [if_neg e, if_pos em, if_pos eo]
          refine ⟨S2, qX11_advises_6 h0 ?_, r2, modF_tr m1 (modG_F m2)⟩
          rw [e1]
          simp (disch := omega) only [iL, iE, iQ, ipos, ineg, an, if_true, if_false]
          refine ⟨_, _, gm, ?_⟩
          simp (disch := omega) only [iL, iE, iQ, ipos, ineg, an, if_true, if_false]
          refine ⟨_, g1, _, _, g2, ?_⟩
          simp (disch := omega) only [iL, iE, iQ, ipos, ineg, an, if_true, if_false, Int.add_zero]
        · obtain ⟨S3, g3, r3, m3⟩ := hoff (modP_F hmp (modF_tr m1 (modG_F m2))) r2 (wf_own hP hA hpp)
          unfold noMore
          rw [if_neg e, if_pos em, if_neg eo]
          refine ⟨S3, qX11_advises_6 h0 ?_, r3, modF_tr (modF_tr m1 (modG_F m2)) m3⟩
          rw [e1]
          simp (disch := omega) only [iL, iE, iQ, ipos, ineg, an, if_true, if_false]
          refine ⟨_, _, gm, ?_⟩
          simp (disch := omega) only [iL, iE, iQ, ipos, ineg, an, if_true, if_false]
          refine ⟨_, g1, _, _, g2, ?_⟩
          rw [if_neg (by rw [I_eq ⟨by omega, by omega⟩ ⟨by omega, by omega⟩]; exact eo)]
          exact g3 _ rfl
      · rw [if_neg em] at gm
        obtain ⟨S3, g3, r3, m3⟩ := hoff hmp hr hA
        unfold noMore
        rw [if_neg e, if_neg em]
        refine ⟨S3, qX11_advises_6 h0 ?_, r3, m3⟩
        rw [e1]
        simp (disch := omega) only [iL, iE, ipos, ineg, an, if_true, if_false]
        rw [if_neg (by rw [I_eq ⟨by omega, by omega⟩ ⟨by omega, by omega⟩]; exact e)]
        refine ⟨_, _, gm, ?_⟩
        rw [if_pos rfl]
        exact g3 _ rfl
end
