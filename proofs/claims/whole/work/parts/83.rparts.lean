/-! ===== the reference: parts of a scan ===== -/
section
variable {sc : Nat × (Nat → Int32)} {SH : List mCell} {b N : Int} {P : aP}
theorem rsum_ok {S : mStore} {A : aS} (h0 : sMod SH) (hb : 0 ≤ b ∧ b ≤ 135000) (hr : refR S b A N) (hA : wfA P A) {p : Int} (hp : 0 ≤ p ∧ p < 48) : G sc MX11_sumOf 0 [some (.ref 90), some (.int (I b)), some (.int (I p))] [] SH S (rI (sumA (cellsA A p)) SH S) :=
  qX11_sumOf_0 h0 ⟨_, _, rcell_ok h0 hb hr hA hp (c := 0) (by decide), _, _, rcell_ok h0 hb hr hA hp (c := 1) (by decide), _, _, rcell_ok h0 hb hr hA hp (c := 2) (by decide), _, _, rcell_ok h0 hb hr hA hp (c := 3) (by decide), rfl⟩
theorem risz_ok {S : mStore} {A : aS} (h0 : sMod SH) (hb : 0 ≤ b ∧ b ≤ 135000) (hr : refR S b A N) (hA : wfA P A) {p : Int} (hp : 0 ≤ p ∧ p < 48) : G sc MX11_isZero 0 [some (.ref 90), some (.int (I b)), some (.int (I p))] [] SH S (rI (if cellsA A p = 0 then 1 else 0) SH S) := by
  refine qX11_isZero_0 h0 ⟨_, _, rcell_ok h0 hb hr hA hp (c := 0) (by decide), _, _, rcell_ok h0 hb hr hA hp (c := 1) (by decide), _, _, rcell_ok h0 hb hr hA hp (c := 2) (by decide), _, _, rcell_ok h0 hb hr hA hp (c := 3) (by decide), ?_⟩
  have hc := cellsA_rg hA p
  have e0 : nb (cellsA A p) (12 - 4 * 0) = cellsA A p / 4096 % 16 := nb12 hc
  have e1 : nb (cellsA A p) (12 - 4 * 1) = cellsA A p / 256 % 16 := nb8 hc
  have e2 : nb (cellsA A p) (12 - 4 * 2) = cellsA A p / 16 % 16 := nb4 hc
  have e3 : nb (cellsA A p) (12 - 4 * 3) = cellsA A p % 16 := nb0 hc
  rw [e0, e1, e2, e3]
  have ex : cellsA A p = 4096 * (cellsA A p / 4096 % 16) + 256 * (cellsA A p / 256 % 16) + 16 * (cellsA A p / 16 % 16) + cellsA A p % 16 := by omega
  simp (disch := omega) only [iL, iE, iQ]
  have y0 : 0 ≤ cellsA A p / 4096 % 16 ∧ cellsA A p / 4096 % 16 < 16 := by omega
  have y1 : 0 ≤ cellsA A p / 256 % 16 ∧ cellsA A p / 256 % 16 < 16 := by omega
  have y2 : 0 ≤ cellsA A p / 16 % 16 ∧ cellsA A p / 16 % 16 < 16 := by omega
  have y3 : 0 ≤ cellsA A p % 16 ∧ cellsA A p % 16 < 16 := by omega
  generalize cellsA A p / 4096 % 16 = z0 at *
  generalize cellsA A p / 256 % 16 = z1 at *
  generalize cellsA A p / 16 % 16 = z2 at *
  generalize cellsA A p % 16 = z3 at *
  by_cases e : cellsA A p = 0
  · rw [if_pos (by omega), if_pos e]; exact ⟨.inr trivial, rfl⟩
  · rw [if_neg (by omega), if_neg e]; exact ⟨.inl trivial, rfl⟩
theorem rroom_lp {S : mStore} {A : aS} (h0 : sMod SH) (hb : 0 ≤ b ∧ b ≤ 135000) (hN : N < 2147483648) (hm : modP S P) (hP : wfP P) (hr : refR S b A N) (hA : wfA P A) {k : Int} (hk : 0 ≤ k ∧ k < 48) : ∀ (rest done : List Int) (best most : Int) {u : Option Value}, A.C k = done ++ rest → (best = -1 ∧ most = 0 ∨ (0 ≤ best ∧ best < 48) ∧ most = (A.L best).length) → G sc MX11_roomIn 13 [some (.ref 90), some (.int (I b)), some (.int (I k)), some (.int (I best)), some (.int (I (A.C k).length)), some (.int (I done.length)), u] [] SH S (rI (roomL (P 0 1) (fun f => ((A.L f).length : Int)) rest best most) SH S)
  | [], done, best, most, u, he, hbm => by
    refine qX11_roomIn_13 h0 ?_
    have hl := wf_len hA.2.1 k
    rw [List.append_nil] at he
    rw [he] at hl ⊢
    unfold roomL
    simp (disch := omega) only [iL, iE, iQ, ipos, ineg, an, if_true, if_false]
  | f :: rest, done, best, most, u, he, hbm => by
    refine qX11_roomIn_13 h0 ?_
    have hl := wf_len hA.2.1 k
    have hlen : (A.C k).length = done.length + 1 + rest.length := by rw [he]; simp only [List.length_append, List.length_cons]; omega
    have hP1 := hP.2.1
    have e13 : S 90 13 = P 0 1 := hm.1 1 (by decide) (by decide)
    have hfm : f ∈ A.C k := by rw [he]; exact List.mem_append_right _ (List.mem_cons_self ..)
    have hfq := (hA.2.1.2.1 k f).mp hfm
    have hne := (hA.2.2.2.2.2.1 f (by omega)).2.2
    have hpos : 0 < (A.L f).length := List.length_pos_iff.mpr hne
    have h8 := hr.2.2.2.2.2.2.2.2.2.2.2.2.2.2.2.1
    have h8f := h8 f
    have enf := hr.2.2.2.2.2.2.2.2.2.1 f hfq.1.1 hfq.1.2
    have gf := rfat_ok (sc := sc) h0 hb hN hr hA.2.1 (x := k) (i := done.length) hk ⟨by omega, by omega⟩ (u := none) (u' := none) (u'' := none)
    have ef : nthL (A.C k) ((done.length : Int)).toNat = f := by rw [he]; exact nthL_e _ _ _ (by omega)
    rw [ef] at gf
    have hnext : ∀ best most : Int, (best = -1 ∧ most = 0 ∨ (0 ≤ best ∧ best < 48) ∧ most = (A.L best).length) → G sc MX11_roomIn 13 [some (.ref 90), some (.int (I b)), some (.int (I k)), some (.int (I best)), some (.int (I (A.C k).length)), some (.int (I (done.length + 1))), some (.int (I f))] [] SH S (rI (roomL (P 0 1) (fun f => ((A.L f).length : Int)) rest best most) SH S) := fun best most hq => by
      have q := rroom_lp h0 hb hN hm hP hr hA hk rest (done ++ [f]) best most (u := some (.int (I f))) (by rw [he]; simp) hq
      rw [show (((done ++ [f]).length : Nat) : Int) = done.length + 1 by simp] at q
      exact q
    simp (disch := omega) only [iL, iE, iQ, ipos, ineg, an, if_true, if_false]
    refine ⟨_, _, gf, ⟨by omega, by omega⟩, ?_⟩
    rw [e13, enf]
    simp (disch := omega) only [iL, iE, iQ, ipos, ineg, an, if_true, if_false]
    unfold roomL
    by_cases c1 : P 0 1 ≤ ((A.L f).length : Int)
    · rw [if_pos c1, if_neg (by omega)]
      exact hnext best most hbm
    · rw [if_neg c1]
      rcases hbm with ⟨q1, q2⟩ | ⟨q1, q2⟩
      · rw [if_pos (by rw [q1]), if_pos (by omega)]
        exact hnext f _ (.inr ⟨hfq.1, rfl⟩)
      · have h8b := h8 best
        rw [if_neg (by omega)]
        rw [hr.2.2.2.2.2.2.2.2.2.1 best q1.1 q1.2]
        simp (disch := omega) only [iL, iE, iQ, ipos, ineg, an, if_true, if_false]
        by_cases c2 : ((A.L f).length : Int) ≤ (A.L best).length
        · rw [if_pos c2]
          exact hnext best most (.inr ⟨q1, q2⟩)
        · rw [if_neg c2]
          exact hnext f _ (.inr ⟨hfq.1, rfl⟩)
theorem rroom_ok {S : mStore} {A : aS} (h0 : sMod SH) (hb : 0 ≤ b ∧ b ≤ 135000) (hN : N < 2147483648) (hm : modP S P) (hP : wfP P) (hr : refR S b A N) (hA : wfA P A) {k : Int} (hk : 0 ≤ k ∧ k < 48) {u u' u2 u3 : Option Value} : G sc MX11_roomIn 0 [some (.ref 90), some (.int (I b)), some (.int (I k)), u, u', u2, u3] [] SH S (rI (roomA P A k) SH S) := by
  refine qX11_roomIn_0 h0 ⟨_, _, rframes_cnt h0 hb ⟨by omega, by omega⟩ (rk_rg hr hA.2.1), ?_⟩
  rw [cnt_C hA.2.1 hk]
  have e : roomA P A k = roomL (P 0 1) (fun f => ((A.L f).length : Int)) (A.C k) (-1) 0 := if_neg (by omega)
  rw [e]
  exact rroom_lp h0 hb hN hm hP hr hA hk (A.C k) [] (-1) 0 rfl (.inl ⟨rfl, rfl⟩)
theorem radvF_ok {S : mStore} {A : aS} (h0 : sMod SH) (hb : 0 ≤ b ∧ b ≤ 135000) (hm : modP S P) (hP : wfP P) (hr : refR S b A N) (hA : wfA P A) {p : Int} (hpp : 0 ≤ p ∧ p ≤ 48) {u : Option Value} : G sc MX11_nextAdvised 0 [some (.ref 90), some (.int (I b)), some (.int (I p)), u] [] SH S (rI (advF P A p) SH S) := by
  refine qX11_nextAdvised_0 h0 ?_
  have hP7 := hP.2.2.2.2.2.1
  have e7 : S 90 19 = P 0 7 := hm.1 7 (by decide) (by decide)
  unfold advF
  by_cases hlt : p < P 0 7
  · exact fnd_go (q := fun p => decide (A.v 1 p = 1)) (F := fun res i => G sc MX11_nextAdvised 2 [some (.ref 90), some (.int (I b)), some (.int (I p)), some (.int (I i))] [] SH S (rI res SH S)) (lo := p) (hi := P 0 7)
      (fun i h1 h2 hq => by
        refine qX11_nextAdvised_2 h0 ?_
        have hq : A.v 1 i = 1 := by simpa using hq
        rw [e7, hr.2.2.1 i (by omega) (by omega), hq]
        have g : G sc MX11_nextAdvised 30 [some (.ref 90), some (.int (I b)), some (.int (I p)), some (.int (I i))] [] SH S (rI i SH S) := by
          refine qX11_nextAdvised_30 h0 ?_
          rw [e7]
          simp (disch := omega) only [iL, iE, iQ, ipos, ineg, an, if_true, if_false]
        simp (disch := omega) only [iL, iE, iQ, ipos, ineg, an, if_true, if_false]
        exact g)
      (fun res i h1 h2 hq hn => by
        refine qX11_nextAdvised_2 h0 ?_
        have b1 := hA.2.2.2.2.2.2.2.2.2.2.2.1 i
        have hq : A.v 1 i ≠ 1 := by simpa using hq
        have hq0 : A.v 1 i = 0 := b1.resolve_right hq
        rw [e7, hr.2.2.1 i (by omega) (by omega), hq0]
        simp (disch := omega) only [iL, iE, iQ, ipos, ineg, an, if_true, if_false]
        exact hn)
      (by
        refine qX11_nextAdvised_2 h0 ?_
        rw [e7]
        simp (disch := omega) only [iL, iE, iQ, ipos, ineg, an, if_true, if_false]
        refine qX11_nextAdvised_30 h0 ?_
        rw [e7]
        simp (disch := omega) only [iL, iE, iQ, ipos, ineg, an, if_true, if_false])
      (P 0 7 - p).toNat p (by omega) (by omega)
  · have e : (P 0 7 - p).toNat = 0 := by omega
    rw [e]
    refine qX11_nextAdvised_2 h0 ?_
    rw [e7]
    simp (disch := omega) only [iL, iE, iQ, ipos, ineg, an, if_true, if_false]
    refine qX11_nextAdvised_30 h0 ?_
    rw [e7]
    simp (disch := omega) only [iL, iE, iQ, ipos, ineg, an, if_true, if_false]
    rfl
theorem rrest_ok {S : mStore} {x : Int} : G sc MX11_restOf 0 [some (.int (I x))] [] SH S (rI (restA x) SH S) := by
  refine qX11_restOf_0 ?_
  unfold restA
  by_cases c5 : I 5 ≤ I x
  · have c3 : I 3 ≤ I x := Int32.le_trans (by decide) c5
    rw [if_pos c3, if_pos c5, if_pos c5]
    split <;> rfl
  · rw [if_neg c5, if_neg c5]
    split <;> rfl
theorem rsea_ok {S : mStore} {A : aS} (h0 : sMod SH) (hb : 0 ≤ b ∧ b ≤ 135000) (hN : N < 2147483648) (hr : refR S b A N) (hA : wfA P A) {st x ρ : Int} (hst : st = 0 ∨ st = 1) (hρ : 0 ≤ ρ ∧ ρ < 3) (hx : soughtR S x) {t : Int} (ht : t = if st = 0 then b + 1363 + 97 * ρ else b + 1072 + 97 * ρ) {u4 u5 u6 u7 u8 : Option Value} : ∃ S', G sc MX11_searches 0 [some (.ref 90), some (.int (I b)), some (.int (I t)), some (.int (I st)), u4, u5, u6, u7, u8] [] SH S (rV SH S') ∧ sfound S S' b (keyA A st) (skc (keyA A st) (A.v 0) x ((if st = 0 then A.tw else A.ts) ρ) (96 + ρ) 0 [] []) (skw (keyA A st) (A.v 0) x ((if st = 0 then A.tw else A.ts) ρ)) := by
  have hw : wfT (if st = 0 then A.tw else A.ts) := by
    split
    · exact hA.2.2.2.1
    · exact hA.2.2.1
  generalize hT : (if st = 0 then A.tw else A.ts) = T at *
  have hrow : rowl (S 91) t (fd (T ρ) 0) := by
    rw [ht, ← hT]
    split
    · exact hr.2.2.2.2.2.2.2.2.2.2.2.2.2.2.1 ρ hρ.1 hρ.2
    · exact hr.2.2.2.2.2.2.2.2.2.2.2.2.2.1 ρ hρ.1 hρ.2
  have htb : b + 1072 ≤ t ∧ t + 97 ≤ b + 1654 := by rw [ht]; split <;> omega
  have hl : (fd (T ρ) 0).length ≤ 48 := by rw [fd_len]; exact lb_len hw hρ.1 hρ.2
  have hlp : ∀ y ∈ fd (T ρ) 0, (0 ≤ y.1 ∧ y.1 < 48) ∧ 0 ≤ y.2 ∧ y.2 < 48 := fun y hy => by
    have hm : y.1 ∈ lb (T ρ) := by rw [← fd_lb (T ρ) 0]; exact List.mem_map.mpr ⟨y, hy, rfl⟩
    have h1 := fd_ge hy
    have h2 := fd_lt hy
    rw [fd_len] at hl
    exact ⟨⟨lb_nn hm, hw.2 _ (al_in hρ.1 hρ.2 hm)⟩, h1, by omega⟩
  have hS3 : ∀ j, j ≠ 90 → up (up (up S 90 30 (-1)) 90 31 0) 90 29 0 j = S j := fun j hj => by rw [up_ne hj, up_ne hj, up_ne hj]
  obtain ⟨S', g', f1, f2, f3, f4, f5, f6, f7⟩ := rsea_lp (sc := sc) (S := up (up (up S 90 30 (-1)) 90 31 0) 90 29 0) h0 hb hN (x := x) hst htb hl hlp (T ρ) (96 + ρ) 0 [] [] (u6 := u6) (u7 := u7) (u8 := u8) (refR_far hr (hS3 91 (by decide))) hA (fun c a e => by rw [hS3 100 (by decide)]; exact hx c a e) (by rw [hS3 91 (by decide)]; exact hrow) (by simp) (by rw [up_at, if_pos rfl]) (by rw [up_at, if_neg (by decide), up_at, if_neg (by decide), up_at, if_pos rfl]) (by rw [up_at, if_neg (by decide), up_at, if_pos rfl])
  refine ⟨S', qX11_searches_0 h0 ⟨⟨by omega, by omega⟩, .inl rfl, ?_⟩, ⟨fun i hi => by rw [f1 i hi, hS3 91 (by decide)], by rw [f2, hS3 91 (by decide)], fun j hj hj2 => by rw [f3 j hj hj2, hS3 j hj], fun i hi => by rw [f4 i hi, up_at, if_neg (by omega), up_at, if_neg (by omega), up_at, if_neg (by omega)], f5, f6, f7⟩⟩
  rw [hrow.1]
  have e : (([] : List (Int × Int)).length : Int) + (fd (T ρ) 0).length = (fd (T ρ) 0).length := by simp
  rw [e] at g'
  exact g'
end
