/-! ===== the reference: the two searches for a page ===== -/
theorem refR_N {S : mStore} {b N N' : Int} {A : aS} (h : refR S b A N) (hN : N ≤ N') : refR S b A N' := by
  obtain ⟨q0, q1, q2, q3, q4, q5, q6, q7, q8, q9, q10, q11, q12, q13, q14, q15⟩ := h
  exact ⟨q0, q1, q2, q3, q4, q5, q6, q7, q8, q9, q10, q11, ⟨⟨q12.1.1, Int.le_trans q12.1.2 hN⟩, q12.2⟩, q13, q14, q15⟩
theorem modF_found {S S' : mStore} {b : Int} {key : Int → Int} {e : mCx} {w : Int} (h : sfound S S' b key e w) : modF S S' b := ⟨fun i hi => h.1 i (by omega), fun j a c _ _ => h.2.2.1 j a c, h.2.2.2.1⟩
theorem refR_found {S S' : mStore} {b N : Int} {A : aS} {key : Int → Int} {e : mCx} {w : Int} (hr : refR S b A N) (hC : wfR A.C A.k) (h : sfound S S' b key e w) : refR S' b (A.sv 6 3 (A.v 6 3 + w)) N := by
  have q := refR_v6 hr hC (i := 3) (x := A.v 6 3 + w) (by decide)
  refine refR_F q hC (fun i _ _ _ => ?_)
  rw [up_at]
  by_cases e : i = b + 3
  · rw [if_pos e, e, h.2.1, hr.1 3 (by decide) (by decide)]
  · rw [if_neg e]; exact h.1 i e
theorem found_at {R : Int → Int} {t : Int} {T : Tr} {key v : Int → Int} {x s : Int} (hrow : rowl R t (fd T 0)) (hl : (lb T).length ≤ 48) (hn : rt (skc key v x T s 0 [] []).2.1 ≠ -1) : 0 ≤ foundA (skc key v x T s 0 [] []) ∧ foundA (skc key v x T s 0 [] []) < 48 ∧ R (t + 1 + foundA (skc key v x T s 0 [] [])) = rt (skc key v x T s 0 [] []).2.1 := by
  have q := skc_fd (key := key) (v := v) (x := x) T s 0 [] []
  generalize skc key v x T s 0 [] [] = e at *
  obtain ⟨s', u, d, A', B'⟩ := e
  cases u with
  | leaf => exact absurd rfl hn
  | branch k l r =>
    have q2 : fd T 0 = (A' ++ fd l (d + 1)) ++ ((k : Int), d) :: (fd r (d + 1) ++ B') := by
      have q3 : A' ++ fd (.branch k l r) d ++ B' = fd T 0 := by simpa using q
      rw [← q3]
      show A' ++ (fd l (d + 1) ++ ((k : Int), d) :: fd r (d + 1)) ++ B' = _
      simp
    have hf : foundA (s', Lean.RArray.branch k l r, d, A', B') = ((A' ++ fd l (d + 1)).length : Int) := by
      show (A'.length : Int) + (lb l).length = _
      rw [List.length_append, fd_len]
      omega
    have hlen : (fd T 0).length = (A' ++ fd l (d + 1)).length + 1 + (fd r (d + 1) ++ B').length := by rw [q2, List.length_append, List.length_cons]; omega
    have hl2 := fd_len T 0
    refine ⟨by omega, by omega, ?_⟩
    rw [(hrow.2 _ (by omega) (by omega)).1]
    show (gl (fd T 0) _).1 = (k : Int)
    rw [q2, gl_ge (by omega), gl_0 _ _ (by omega)]
section
variable {sc : Nat × (Nat → Int32)} {SH : List mCell} {b N : Int} {P : aP}
theorem rput_t {S : mStore} (h0 : sMod SH) {t : Int} (ht : 0 ≤ t ∧ t < 137300) {key v : Int → Int} {x s : Int} {T : Tr} {p : Nat} (hrow : rowl (S 91) t (fd T 0)) (hu : rt (skc key v x T s 0 [] []).2.1 = -1) (hl : (lb T).length ≤ 47) {u : Option Value} : ∃ S', G sc MX11_putsIn 0 [some (.ref 90), some (.int (I t)), some (.int (I (skc key v x T s 0 [] []).2.2.2.1.length)), some (.int (I p)), some (.int (I (skc key v x T s 0 [] []).2.2.1)), u] [] SH S (rV SH S') ∧ rowl (S' 91) t (fd (ins key v x p T) 0) ∧ rowF S S' t := by
  have q1 := ins_fd (key := key) (v := v) (x := x) (p := p) T s 0 [] [] hu
  have q2 := skc_fd (key := key) (v := v) (x := x) T s 0 [] []
  generalize skc key v x T s 0 [] [] = e at *
  obtain ⟨s', w, d, A', B'⟩ := e
  have hw : fd w d = [] := by
    cases w with
    | leaf => rfl
    | branch k l r => exact absurd hu (by show ((k : Nat) : Int) ≠ -1; omega)
  dsimp only at q1 q2 ⊢
  rw [hw] at q2
  simp only [List.nil_append, List.append_nil] at q1 q2
  rw [q1]
  rw [← q2] at hrow
  have hlen : (A' ++ B').length ≤ 47 := by rw [q2, fd_len]; exact hl
  obtain ⟨S', g, r, f⟩ := mput_ok (sc := sc) (S := S) h0 ht (n := ((A' ++ B').length : Int)) ⟨by omega, by omega⟩ hrow (c := A'.length) ⟨by omega, by rw [List.length_append]; omega⟩ (x := p) (y := d) (u := u)
  exact ⟨S', g, row_put rfl r, f⟩
theorem rmove_ok {S : mStore} {B : aS} (h0 : sMod SH) (hb : 0 ≤ b ∧ b ≤ 135000) (hr : refR S b B N) (hL : wfR B.L B.w) (hC : wfR B.C B.k) (hT : wfT B.ts) {p f : Int} (hp : 0 ≤ p ∧ p < 48) (hw : B.w p ≠ -1) (hk : B.k (B.w p) = -1) (hf : 0 ≤ f ∧ f < 48) (hlen : (B.L f).length < 8) : ∃ S', G sc MX11_movesTo 0 [some (.ref 90), some (.int (I b)), some (.int (I p)), some (.int (I f))] [] SH S (rV SH S') ∧ refR S' b (lieIn (unlie B p) p f) N ∧ modG S S' b := by
  obtain ⟨S1, g1, r1, m1⟩ := rlf_ok (sc := sc) h0 hb hr hL hC hT hp hw (u3 := none) (u4 := none) (u5 := none) (u6 := none)
  have e : leaveF B p = unlie B p := by
    unfold leaveF
    split
    · unfold leaveK
      exact if_pos hk
    · rfl
  rw [e] at r1
  have hl2 : ((unlie B p).L f).length < 8 := by
    show (remL B.L (B.w p) p f).length < 8
    unfold remL
    split
    · exact Nat.lt_of_le_of_lt (List.length_filter_le ..) hlen
    · exact hlen
  obtain ⟨S2, g2, r2, m2⟩ := rli_ok (sc := sc) h0 hb r1 hC hp hf hl2
  exact ⟨S2, qX11_movesTo_0 h0 ⟨_, g1, _, g2, rfl⟩, r2, modG_tr m1 m2⟩
theorem lb_47 {T : Int → Tr} (hw : wfT T) {ρ p : Int} (hρ : 0 ≤ ρ ∧ ρ < 3) (hp : 0 ≤ p ∧ p < 48) (hn : p ∉ al T) : (lb (T ρ)).length ≤ 47 := by
  have h1 : (p :: lb (T ρ)).length ≤ 48 := nodup_len (n := 48) (List.nodup_cons.mpr ⟨fun h => hn (al_in hρ.1 hρ.2 h), lb_nd hw hρ.1 hρ.2⟩) (fun x hx => by
    rcases List.mem_cons.mp hx with e | e
    · rw [e]; exact hp
    · exact ⟨lb_nn e, hw.2 x (al_in hρ.1 hρ.2 e)⟩)
  rw [List.length_cons] at h1
  omega
theorem rl292 {S : mStore} {B : aS} (h0 : sMod SH) (hb : 0 ≤ b ∧ b ≤ 135000) (hP : wfP P) (hr : refR S b B N) (hL : wfR B.L B.w) (hC : wfR B.C B.k) (hT : wfT B.ts) {p o k : Int} (hp : 0 ≤ p ∧ p < 48) (ho : 0 ≤ o ∧ o < 48) (hk : 0 ≤ k ∧ k < 48) (hwp : B.w p ≠ -1) (hkp : B.k (B.w p) = -1) (hwo : B.w o ≠ -1) (hko : B.k (B.w o) = -1) (hne : B.w p ≠ B.w o) (hl : (B.L (B.w o)).length < 8) {l3 l4 l6 l7 l8 l9 : Int} : ∃ S', G sc MX11_looksFor 292 [some (.ref 90), some (.int (I b)), some (.int (I p)), some (.int (I l3)), some (.int (I l4)), some (.int (I k)), some (.int (I l6)), some (.int (I l7)), some (.int (I l8)), some (.int (I l9)), some (.int (I o))] [] SH S (rI 8 SH S') ∧ refR S' b (lieIn (unlie (B.sC (addL B.C k (B.w o)) (setW B.k (B.w o) k)) p) p (B.w o)) (N + 1) ∧ modG S S' b := by
  have bo := hL.2.2 o
  have eo : S 91 (b + 16 + o) = B.w o := hr.2.1 o ho.1 ho.2
  obtain ⟨S1, g1, r1, m1⟩ := rct_ok (sc := sc) h0 hb hr hC (f := B.w o) (k := k) ⟨by omega, by omega⟩ hk hko
  have eo1 : S1 91 (b + 16 + o) = B.w o := r1.2.1 o ho.1 ho.2
  obtain ⟨S2, g2, r2, m2⟩ := rmove_ok (sc := sc) h0 hb r1 hL (wf_add hC ⟨by omega, by omega⟩ hk hko) hT hp hwp (by
    show setW B.k (B.w o) k (B.w p) = -1
    rw [setW_ne hne]; exact hkp) (f := B.w o) ⟨by omega, by omega⟩ hl
  refine ⟨S2, qX11_looksFor_292 h0 ?_, r2, modG_tr m1 m2⟩
  rw [eo]
  refine ⟨⟨by omega, by omega⟩, _, g1, ⟨by omega, by omega⟩, _, ?_, rfl⟩
  rw [eo1]
  exact g2
theorem rpair_ok {S : mStore} {B : aS} (h0 : sMod SH) (hb : 0 ≤ b ∧ b ≤ 135000) (hm : modP S P) (hP : wfP P) (hr : refR S b B N) (hA : wfA P B) {ρ x p o : Int} (hρ : 0 ≤ ρ ∧ ρ < 3) (hp : 0 ≤ p ∧ p < P 0 7) (ho : 0 ≤ o ∧ o < P 0 7) (hwp : B.w p ≠ -1) (hkp : B.k (B.w p) = -1) (hwo : B.w o ≠ -1) (hko : B.k (B.w o) = -1) (hpo : p ≠ o) {l4 l6 l7 s0 v101 : Int} (hl : rt (skc (keyA B 1) (B.v 0) x (B.ts ρ) (96 + ρ) 0 [] []).2.1 = -1 → l6 = (skc (keyA B 1) (B.v 0) x (B.ts ρ) (96 + ρ) 0 [] []).2.2.2.1.length ∧ l7 = (skc (keyA B 1) (B.v 0) x (B.ts ρ) (96 + ρ) 0 [] []).2.2.1) : ∃ S', (∃ S104, G sc MX11_waitsNoMore 0 [some (.ref 90), some (.int (I b)), some (.int (I o)), none, none] [] SH S (rV SH S104) ∧ (((0 : Int) ≤ (b + 208) + o ∧ (b + 208) + o < 137400) ∧ (((0 : Int) ≤ (b + 256) + o ∧ (b + 256) + o < 137400) ∧ (if I (rt (skc (keyA B 1) (B.v 0) x (B.ts ρ) (96 + ρ) 0 [] []).2.1) = I (-1) then (∃ v105 S106, G sc MX11_newKnot 0 [some (.ref 90), some (.int (I b)), none] [] SH (up (up S104 91 ((b + 208) + o) 0) 91 ((b + 256) + o) 0) (rI v105 SH S106) ∧ (∃ S107, G sc MX11_putsIn 0 [some (.ref 90), some (.int (I (b + 1072 + 97 * ρ))), some (.int (I l6)), some (.int (I v105)), some (.int (I l7)), none] [] SH S106 (rV SH S107) ∧ G sc MX11_looksFor 292 [some (.ref 90), some (.int (I b)), some (.int (I p)), some (.int (I (b + 1072 + 97 * ρ))), some (.int (I l4)), some (.int (I v105)), some (.int (I l6)), some (.int (I l7)), some (.int (I s0)), some (.int (I v101)), some (.int (I o))] [] SH S107 (rI 8 SH S'))) else G sc MX11_looksFor 292 [some (.ref 90), some (.int (I b)), some (.int (I p)), some (.int (I (b + 1072 + 97 * ρ))), some (.int (I l4)), some (.int (I (rt (skc (keyA B 1) (B.v 0) x (B.ts ρ) (96 + ρ) 0 [] []).2.1))), some (.int (I l6)), some (.int (I l7)), some (.int (I s0)), some (.int (I v101)), some (.int (I o))] [] SH (up (up S104 91 ((b + 208) + o) 0) 91 ((b + 256) + o) 0) (rI 8 SH S'))))) ∧ refR S' b (pairA B ρ x p o) (N + 1) ∧ modG S S' b := by
  have hP7 := hP.2.2.2.2.2.1
  have hP1 := hP.2.1
  have hne : B.w p ≠ B.w o := fun e => hpo (alone hP hA hwo hko e)
  have hlen := len1 hP hA hwo hko
  have bo := hA.1.2.2 o
  obtain ⟨S1, g1, r1, m1⟩ := rwn_ok (sc := sc) h0 hb hm hP hr hA ho (u := none) (u' := none)
  have r2 : refR (up (up S1 91 (b + 208 + o) 0) 91 (b + 256 + o) 0) b (wnk B o) N := refR_v5 (refR_v4 r1 hA.2.1 (i := o) (x := 0) ⟨ho.1, by omega⟩) hA.2.1 (i := o) (x := 0) ⟨ho.1, by omega⟩
  have m2 : modG S (up (up S1 91 (b + 208 + o) 0) 91 (b + 256 + o) 0) b := modG_tr m1 (modG_tr (modG_up ⟨by omega, by omega⟩) (modG_up ⟨by omega, by omega⟩))
  have hW : wfA P (wnk B o) := wf_wnk hA
  unfold pairA
  by_cases e : rt (skc (keyA B 1) (B.v 0) x (B.ts ρ) (96 + ρ) 0 [] []).2.1 = -1
  · obtain ⟨hl6, hl7⟩ := hl e
    obtain ⟨k1, k2, k3⟩ := freeKn_free hA (f := B.w o) ⟨by omega, by omega⟩ hko
    have hnat : ((freeKn B).toNat : Int) = freeKn B := Int.toNat_of_nonneg k2
    have hno : freeKn B ∉ al B.ts := by rw [hA.2.2.2.2.2.2.2.2.1]; exact fun q => q k1
    have g3 := rnk_ok (sc := sc) h0 hb r2 hW (f := B.w o) ⟨by omega, by omega⟩ hko (u := none)
    have e3 : freeKn (wnk B o) = freeKn B := rfl
    rw [e3] at g3
    obtain ⟨S4, g4, row4, f4⟩ := rput_t (sc := sc) (T := B.ts ρ) h0 (t := b + 1072 + 97 * ρ) ⟨by omega, by omega⟩ (p := (freeKn B).toNat) (r2.2.2.2.2.2.2.2.2.2.2.2.2.2.1 ρ hρ.1 hρ.2) e (lb_47 hA.2.2.1 hρ ⟨k2, k3⟩ hno) (u := none)
    rw [hnat, ← hl6, ← hl7] at g4
    have hwi := wf_ins (p := (freeKn B).toNat) hA.2.2.1 hρ e (by omega) (by rw [hnat]; exact hno)
    have r4 : refR S4 b ((wnk B o).sts (insT (keyA B 1) (B.v 0) x (freeKn B).toNat B.ts ρ)) N := by
      refine refR_ts r2 hA.2.1 (fun ρ' a c => ?_) (fun ρ' => ?_) (fun i h1 h2 h3 => f4.1 i (by omega))
      · by_cases eρ : ρ' = ρ
        · rw [eρ]
          show rowl (S4 91) _ (fd (if ρ = ρ then _ else _) 0)
          rw [if_pos rfl]
          exact row4
        · show rowl (S4 91) _ (fd (if ρ' = ρ then _ else B.ts ρ') 0)
          rw [if_neg eρ]
          exact rowl_F (r2.2.2.2.2.2.2.2.2.2.2.2.2.2.1 ρ' a c) (by rw [fd_len]; exact lb_len hA.2.2.1 a c) f4 (by omega)
      · show (lb (if ρ' = ρ then _ else B.ts ρ')).length ≤ 48
        by_cases eρ : ρ' = ρ
        · have q := lb_len hwi hρ.1 hρ.2
          have q : (lb (if ρ = ρ then ins (keyA B 1) (B.v 0) x (freeKn B).toNat (B.ts ρ) else B.ts ρ)).length ≤ 48 := q
          rw [if_pos rfl] at q
          rw [if_pos eρ]
          exact q
        · rw [if_neg eρ]
          exact (hr.2.2.2.2.2.2.2.2.2.2.2.2.2.2.2.2 ρ').1
    obtain ⟨S5, g5, r5, m5⟩ := rl292 (sc := sc) h0 hb hP r4 hA.1 hA.2.1 hwi (p := p) (o := o) (k := freeKn B) ⟨hp.1, by omega⟩ ⟨ho.1, by omega⟩ ⟨k2, k3⟩ hwp hkp hwo hko hne (by show (B.L (B.w o)).length < 8; omega) (l3 := b + 1072 + 97 * ρ) (l4 := l4) (l6 := l6) (l7 := l7) (l8 := s0) (l9 := v101)
    refine ⟨S5, ⟨S1, g1, ⟨by omega, by omega⟩, ⟨by omega, by omega⟩, ?_⟩, ?_, modG_tr (modG_tr m2 (modG_row f4 ⟨by omega, by omega⟩)) m5⟩
    · rw [if_pos (by rw [e])]
      exact ⟨_, _, g3, _, g4, g5⟩
    · rw [if_pos e]
      exact r5
  · have hrr := rt_rg2 (key := keyA B 1) (v := B.v 0) (x := x) hA.2.2.1 hρ
    obtain ⟨S5, g5, r5, m5⟩ := rl292 (sc := sc) h0 hb hP r2 hA.1 hA.2.1 hA.2.2.1 (p := p) (o := o) (k := rt (skc (keyA B 1) (B.v 0) x (B.ts ρ) (96 + ρ) 0 [] []).2.1) ⟨hp.1, by omega⟩ ⟨ho.1, by omega⟩ ⟨by omega, by omega⟩ hwp hkp hwo hko hne (by show (B.L (B.w o)).length < 8; omega) (l3 := b + 1072 + 97 * ρ) (l4 := l4) (l6 := l6) (l7 := l7) (l8 := s0) (l9 := v101)
    refine ⟨S5, ⟨S1, g1, ⟨by omega, by omega⟩, ⟨by omega, by omega⟩, ?_⟩, ?_, modG_tr m2 m5⟩
    · rw [if_neg (by rw [I_eq ⟨by omega, by omega⟩ ⟨by omega, by omega⟩]; exact e)]
      exact g5
    · rw [if_neg e]
      exact r5
end
