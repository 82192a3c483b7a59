/-! ===== the reference: what its rows tell ===== -/
theorem cnt_mem {n : Nat} : ∀ {i : Int} {L : List Int} {q : Int → Bool}, L.Nodup → (∀ x ∈ L, i ≤ x ∧ x < i + n) → (∀ x, i ≤ x → x < i + n → (q x = true ↔ x ∈ L)) → cnt q n i = L.length := by
  induction n with
  | zero =>
    intro i L q hn hL hq
    cases L with
    | nil => rfl
    | cons x t => have := hL x (List.mem_cons_self ..); omega
  | succ n ih =>
    intro i L q hn hL hq
    unfold cnt
    have hi := hq i (by omega) (by omega)
    by_cases h : i ∈ L
    · rw [if_pos (hi.mpr h)]
      obtain ⟨A, B, rfl⟩ := List.append_of_mem h
      have hn1 := List.nodup_append.mp hn
      have hn2 := List.nodup_cons.mp hn1.2.1
      have hAB : (A ++ B).Nodup := List.nodup_append.mpr ⟨hn1.1, hn2.2, fun a ha b hb => hn1.2.2 a ha b (List.mem_cons_of_mem _ hb)⟩
      have hne : ∀ x ∈ A ++ B, x ≠ i := fun x hx e => by
        rcases List.mem_append.mp hx with hx | hx
        · exact hn1.2.2 x hx i (List.mem_cons_self ..) e
        · exact hn2.1 (e ▸ hx)
      have hsub : ∀ x, x ∈ A ++ B → x ∈ A ++ i :: B := fun x hx => by
        rcases List.mem_append.mp hx with hx | hx
        · exact List.mem_append_left _ hx
        · exact List.mem_append_right _ (List.mem_cons_of_mem _ hx)
      rw [ih (L := A ++ B) hAB (fun x hx => by have := hL x (hsub x hx); have := hne x hx; omega) (fun x h1 h2 => by
        rw [hq x (by omega) (by omega)]
        constructor
        · intro hx
          rcases List.mem_append.mp hx with hx | hx
          · exact List.mem_append_left _ hx
          · rcases List.mem_cons.mp hx with hx | hx
            · omega
            · exact List.mem_append_right _ hx
        · exact hsub x)]
      simp only [List.length_append, List.length_cons]
      omega
    · rw [if_neg (fun e => h (hi.mp e)), Int.zero_add]
      exact ih hn (fun x hx => by have := hL x hx; have : x ≠ i := fun e => h (e ▸ hx); omega) (fun x h1 h2 => hq x (by omega) (by omega))
theorem fnd_uniq {q : Int → Bool} {n : Nat} {y : Int} (hy : 0 ≤ y ∧ y < n) (hq : q y = true) (hu : ∀ z : Int, 0 ≤ z → z < n → q z = true → z = y) : fnd q n 0 = y := by
  rcases fnd_rg q n 0 with h | h
  · have := fnd_no h (by decide) y hy.1 (by omega)
    rw [hq] at this; cases this
  · exact hu _ h.1 (by omega) h.2.2
theorem fnd_nil {q : Int → Bool} {n : Nat} (hu : ∀ z : Int, 0 ≤ z → z < n → q z = false) : fnd q n 0 = -1 := by
  rcases fnd_rg q n 0 with h | h
  · exact h
  · have := hu _ h.1 (by omega)
    rw [h.2.2] at this; cases this
theorem nb_z {s : Int} (h : s = 12 ∨ s = 8 ∨ s = 4 ∨ s = 0) : nb 0 s = 0 := by
  rcases h with rfl | rfl | rfl | rfl <;> decide
section
variable {sc : Nat × (Nat → Int32)} {SH : List mCell} {S : mStore} {b N : Int} {P : aP} {A : aS}
theorem rcell_ok (h0 : sMod SH) (hb : 0 ≤ b ∧ b ≤ 135000) (hr : refR S b A N) (hA : wfA P A) {p c : Int} (hp : 0 ≤ p ∧ p < 48) (hc : 0 ≤ c ∧ c < 4) {u : Option Value} : G sc MX11_cellOf 0 [some (.ref 90), some (.int (I b)), some (.int (I p)), some (.int (I c)), u] [] SH S (rI (nb (cellsA A p) (12 - 4 * c)) SH S) := by
  refine qX11_cellOf_0 h0 ?_
  have bw := hA.1.2.2 p
  rw [hr.2.1 p hp.1 hp.2]
  unfold cellsA
  simp (disch := omega) only [iL, iE, iQ, ipos, ineg, an, if_true, if_false]
  by_cases e : A.w p = -1
  · rw [if_pos e, nb_z (by omega)]
  · rw [if_neg e, hr.2.2.2.2.2.2.2.2.1 (A.w p) c (by omega) (by omega) hc.1 hc.2]
theorem rfree_ok (h0 : sMod SH) (hb : 0 ≤ b ∧ b ≤ 135000) (hm : modP S P) (hP : wfP P) (hr : refR S b A N) {u : Option Value} : G sc MX11_free 0 [some (.ref 90), some (.int (I b)), u] [] SH S (rI (freeA P A) SH S) := by
  refine qX11_free_0 h0 ?_
  have hf := hP.1
  have e0 : S 90 12 = P 0 0 := hm.1 0 (by omega) (by omega)
  exact fnd_go (q := fun f => decide (A.L f = [])) (F := fun res i => G sc MX11_free 2 [some (.ref 90), some (.int (I b)), some (.int (I i))] [] SH S (rI res SH S)) (lo := 0) (hi := P 0 0)
    (fun i h1 h2 hq => by
      refine qX11_free_2 h0 ?_
      have hq : A.L i = [] := by simpa using hq
      rw [e0, hr.2.2.2.2.2.2.2.2.2.1 i (by omega) (by omega), hq]
      have g : G sc MX11_free 31 [some (.ref 90), some (.int (I b)), some (.int (I i))] [] SH S (rI i SH S) := by
        refine qX11_free_31 h0 ?_
        rw [e0]
        simp (disch := omega) only [iL, iE, iQ, ipos, ineg, an, if_true, if_false]
      simp only [List.length_nil, Int.natCast_zero]
      simp (disch := omega) only [iL, iE, iQ, ipos, ineg, an, if_true, if_false]
      exact g)
    (fun res i h1 h2 hq hn => by
      refine qX11_free_2 h0 ?_
      have hq : A.L i ≠ [] := by simpa using hq
      have h8 := hr.2.2.2.2.2.2.2.2.2.2.2.2.2.2.2.1 i
      have hl : 0 < (A.L i).length := List.length_pos_iff.mpr hq
      rw [e0, hr.2.2.2.2.2.2.2.2.2.1 i (by omega) (by omega)]
      simp (disch := omega) only [iL, iE, iQ, ipos, ineg, an, if_true, if_false]
      exact hn)
    (by
      refine qX11_free_2 h0 ?_
      rw [e0]
      have g : G sc MX11_free 31 [some (.ref 90), some (.int (I b)), some (.int (I (P 0 0)))] [] SH S (rI (-1) SH S) := by
        refine qX11_free_31 h0 ?_
        rw [e0]
        simp (disch := omega) only [iL, iE, iQ, ipos, ineg, an, if_true, if_false]
      simp (disch := omega) only [iL, iE, iQ, ipos, ineg, an, if_true, if_false]
      exact g)
    (P 0 0).toNat 0 (by omega) (by omega)
theorem rused_ok (h0 : sMod SH) (hb : 0 ≤ b ∧ b ≤ 135000) (hm : modP S P) (hP : wfP P) (hr : refR S b A N) {u u' : Option Value} : G sc MX11_usedOf 0 [some (.ref 90), some (.int (I b)), u, u'] [] SH S (rI (usedA P A) SH S) := by
  refine qX11_usedOf_0 h0 ?_
  have hf := hP.1
  have e0 : S 90 12 = P 0 0 := hm.1 0 (by omega) (by omega)
  have q := cnt_go (q := fun f => decide (A.L f ≠ [])) (F := fun res m i => G sc MX11_usedOf 4 [some (.ref 90), some (.int (I b)), some (.int (I m)), some (.int (I i))] [] SH S (rI res SH S)) (lo := 0) (hi := P 0 0)
    (fun res m i h1 h2 h3 h4 hn => by
      refine qX11_usedOf_4 h0 ?_
      have h8 := hr.2.2.2.2.2.2.2.2.2.2.2.2.2.2.2.1 i
      rw [e0, hr.2.2.2.2.2.2.2.2.2.1 i (by omega) (by omega)]
      by_cases e : A.L i = []
      · rw [e]
        simp only [List.length_nil, Int.natCast_zero]
        simp (disch := omega) only [iL, iE, iQ, ipos, ineg, an, if_true, if_false]
        simpa [e] using hn
      · have hl : 0 < (A.L i).length := List.length_pos_iff.mpr e
        simp (disch := omega) only [iL, iE, iQ, ipos, ineg, an, if_true, if_false]
        simpa [e] using hn)
    (fun m h1 h2 => by
      refine qX11_usedOf_4 h0 ?_
      rw [e0]
      simp (disch := omega) only [iL, iE, iQ, ipos, ineg, an, if_true, if_false])
    (P 0 0).toNat 0 0 (by omega) (by omega) (by omega) (by omega)
  rw [Int.zero_add] at q
  exact q
theorem risM_ok (h0 : sMod SH) (hb : 0 ≤ b ∧ b ≤ 135000) (hr : refR S b A N) (hA : wfA P A) {p : Int} (hp : 0 ≤ p ∧ p < 48) : G sc MX11_isMerged 0 [some (.ref 90), some (.int (I b)), some (.int (I p))] [] SH S (rI (if mrg A p = true then 1 else 0) SH S) := by
  refine qX11_isMerged_0 h0 ?_
  have bw := hA.1.2.2 p
  rw [hr.2.1 p hp.1 hp.2]
  unfold mrg
  simp (disch := omega) only [iL, iE, iQ, ipos, ineg, an, if_true, if_false]
  by_cases e : A.w p = -1
  · rw [if_pos e]
    simp [e]
  · have b2 := hA.2.1.2.2 (A.w p)
    rw [if_neg e, hr.2.2.2.2.2.2.2.2.2.2.2.1 (A.w p) (by omega) (by omega)]
    simp (disch := omega) only [iL, iE, iQ, ipos, ineg, an, if_true, if_false]
    by_cases e2 : A.k (A.w p) = -1
    · simp [e2]
    · simp [e, e2]
theorem rrealm_ok (h0 : sMod SH) (hm : modP S P) (hP : wfP P) {p : Int} (hpp : 0 ≤ p ∧ p < P 0 7) : G sc MX11_realm 0 [some (.ref 90), some (.int (I p))] [] SH S (rI (rlm P p) SH S) := by
  refine qX11_realm_0 h0 ?_
  have hP7 := hP.2.2.2.2.2.1
  have hP6 := hP.2.2.2.2.1
  have hg := hP.2.2.2.2.2.2.2 p hpp.1 hpp.2
  rw [hm.2.2.2.2 p (by omega) (by omega), hm.2.2.1 _ (by omega) (by omega)]
  exact ⟨⟨by omega, by omega⟩, ⟨by omega, by omega⟩, rfl⟩
/-- the frames of a knot -/
theorem rframes_cnt (h0 : sMod SH) (hb : 0 ≤ b ∧ b ≤ 135000) {x : Int} (hx : rg x) {k : Int → Int} (hk : ∀ f, 0 ≤ f → f < 48 → S 91 (b + 976 + f) = k f ∧ -1 ≤ k f ∧ k f < 48) {u u' : Option Value} : G sc MX11_framesOf 0 [some (.ref 90), some (.int (I b)), some (.int (I x)), u, u'] [] SH S (rI (cnt (fun f => decide (k f = x)) 48 0) SH S) := by
  refine qX11_framesOf_0 h0 ?_
  obtain ⟨x1, x2⟩ := hx
  have q := cnt_go (q := fun f => decide (k f = x)) (F := fun res m i => G sc MX11_framesOf 5 [some (.ref 90), some (.int (I b)), some (.int (I x)), some (.int (I m)), some (.int (I i))] [] SH S (rI res SH S)) (lo := 0) (hi := 48)
    (fun res m i h1 h2 h3 h4 hn => by
      refine qX11_framesOf_5 h0 ?_
      obtain ⟨e1, e2, e3⟩ := hk i h1 h2
      rw [e1]
      simp (disch := omega) only [iL, iE, iQ, ipos, ineg, an, if_true, if_false]
      by_cases e : k i = x
      · rw [if_pos e]; simpa [e] using hn
      · rw [if_neg e]; simpa [e] using hn)
    (fun m h1 h2 => by
      refine qX11_framesOf_5 h0 ?_
      simp (disch := omega) only [iL, iE, iQ, ipos, ineg, an, if_true, if_false])
    48 0 0 (by omega) (by omega) (by omega) (by omega)
  rw [Int.zero_add] at q
  exact q
theorem cnt_C {C : Int → List Int} {k : Int → Int} (hC : wfR C k) {x : Int} (hx : 0 ≤ x ∧ x < 48) : cnt (fun f => decide (k f = x)) 48 0 = (C x).length := cnt_mem (hC.1 x) (fun f hf => by have := wf_bd hC hf; omega) (fun f h1 h2 => by
  rw [hC.2.1]
  constructor
  · intro h; exact ⟨⟨h1, by omega⟩, hx, by simpa using h⟩
  · intro h; simpa using h.2.2)
theorem rk_rg (hr : refR S b A N) (hC : wfR A.C A.k) : ∀ f, 0 ≤ f → f < 48 → S 91 (b + 976 + f) = A.k f ∧ -1 ≤ A.k f ∧ A.k f < 48 := fun f a c => ⟨hr.2.2.2.2.2.2.2.2.2.2.2.1 f a c, hC.2.2 f⟩
/-- the place of a frame in its chain -/
theorem pos_cnt (hr : refR S b A N) (hC : wfR A.C A.k) {x f : Int} {U V : List Int} (hx : A.C x = U ++ f :: V) : cnt (fun o => decide (A.k o = x ∧ S 91 (b + 1024 + o) < S 91 (b + 1024 + f))) 48 0 = U.length := by
  have hn := hC.1 x
  have hp := hr.2.2.2.2.2.2.2.2.2.2.2.2.1.2.2 x
  rw [hx] at hn hp
  have hp1 := List.pairwise_append.mp hp
  have hp2 := List.pairwise_cons.mp hp1.2.1
  have hxr : ∀ o, o ∈ U ++ f :: V → (0 ≤ o ∧ o < 48) ∧ (0 ≤ x ∧ x < 48) ∧ A.k o = x := fun o ho => (hC.2.1 x o).mp (by rw [hx]; exact ho)
  refine cnt_mem (List.nodup_append.mp hn).1 (fun o ho => by have := (hxr o (List.mem_append_left _ ho)).1; omega) (fun o h1 h2 => ?_)
  constructor
  · intro h
    have h : A.k o = x ∧ S 91 (b + 1024 + o) < S 91 (b + 1024 + f) := by simpa using h
    have hxx := (hxr f (List.mem_append_right _ (List.mem_cons_self ..))).2.1
    have ho : o ∈ U ++ f :: V := by rw [← hx]; exact (hC.2.1 x o).mpr ⟨⟨h1, by omega⟩, hxx, h.1⟩
    rcases List.mem_append.mp ho with ho | ho
    · exact ho
    · rcases List.mem_cons.mp ho with ho | ho
      · rw [ho] at h; omega
      · have := hp2.1 o ho; omega
  · intro ho
    have h1 := hp1.2.2 o ho f (List.mem_cons_self ..)
    have h2 := (hxr o (List.mem_append_left _ ho)).2.2
    simpa using ⟨h2, h1⟩
theorem nthL_app : ∀ (U : List Int) (f : Int) (V : List Int), nthL (U ++ f :: V) U.length = f
  | [], _, _ => rfl
  | _ :: U, f, V => nthL_app U f V
theorem nthL_split : ∀ {l : List Int} {i : Nat}, i < l.length → ∃ U V, l = U ++ nthL l i :: V ∧ U.length = i
  | [], _, h => absurd h (Nat.not_lt_zero _)
  | x :: l, 0, _ => ⟨[], l, rfl, rfl⟩
  | x :: l, i + 1, h => by
    obtain ⟨U, V, e, hl⟩ := nthL_split (l := l) (i := i) (by simpa using h)
    exact ⟨x :: U, V, by rw [List.cons_append]; congr 1, by simp [hl]⟩
theorem nthL_out : ∀ {l : List Int} {i : Nat}, l.length ≤ i → nthL l i = -1
  | [], _, _ => rfl
  | x :: l, 0, h => by simp at h
  | x :: l, i + 1, h => nthL_out (l := l) (by simpa using h)
theorem rfat_in (h0 : sMod SH) (hb : 0 ≤ b ∧ b ≤ 135000) (hN : N < 2147483648) (hr : refR S b A N) (hC : wfR A.C A.k) {x i f : Int} (hx : rg x) (hx1 : x ≠ -1) (hf : 0 ≤ f ∧ f < 48) (hkf : A.k f = x) (hi : rg i) {r : mR × mW} (hr1 : cnt (fun o => decide (A.k o = x ∧ S 91 (b + 1024 + o) < S 91 (b + 1024 + f))) 48 0 = i → r = rI f SH S) (hr2 : cnt (fun o => decide (A.k o = x ∧ S 91 (b + 1024 + o) < S 91 (b + 1024 + f))) 48 0 ≠ i → ∀ u u', G sc MX11_frameAt 3 [some (.ref 90), some (.int (I b)), some (.int (I x)), some (.int (I i)), some (.int (I (f + 1))), u, u'] [] SH S r) : G sc MX11_frameAt 36 [some (.ref 90), some (.int (I b)), some (.int (I x)), some (.int (I i)), some (.int (I f)), some (.int (I 0)), some (.int (I 0))] [] SH S r := by
  obtain ⟨x1, x2⟩ := hx
  obtain ⟨i1, i2⟩ := hi
  have hcam := hr.2.2.2.2.2.2.2.2.2.2.2.2.1
  have hcf := hcam.2.1 f hf.1 hf.2 (by rw [hkf]; exact hx1)
  have hcl := hcam.1
  have q := cnt_go (q := fun o => decide (A.k o = x ∧ S 91 (b + 1024 + o) < S 91 (b + 1024 + f))) (F := fun res m o => cnt (fun o => decide (A.k o = x ∧ S 91 (b + 1024 + o) < S 91 (b + 1024 + f))) 48 0 = res → G sc MX11_frameAt 36 [some (.ref 90), some (.int (I b)), some (.int (I x)), some (.int (I i)), some (.int (I f)), some (.int (I m)), some (.int (I o))] [] SH S r) (lo := 0) (hi := 48)
    (fun res m o h1 h2 h3 h4 hn hres => by
      refine qX11_frameAt_36 h0 ?_
      have hn := hn hres
      obtain ⟨e1, e2, e3⟩ := rk_rg hr hC o h1 h2
      rw [e1]
      simp (disch := omega) only [iL, iE, iQ, ipos, ineg, an, if_true, if_false]
      by_cases c1 : A.k o = x
      · rw [if_pos c1]
        have hco := hcam.2.1 o h1 h2 (by rw [c1]; exact hx1)
        simp (disch := omega) only [iL, iE, iQ]
        by_cases c2 : S 91 (b + 1024 + f) ≤ S 91 (b + 1024 + o)
        · rw [if_pos c2]
          have : ¬ S 91 (b + 1024 + o) < S 91 (b + 1024 + f) := by omega
          simpa [this] using hn
        · rw [if_neg c2]
          have : S 91 (b + 1024 + o) < S 91 (b + 1024 + f) := by omega
          simpa [c1, this] using hn
      · rw [if_neg c1]
        simpa [c1] using hn)
    (fun m h1 h2 hres => by
      refine qX11_frameAt_36 h0 ?_
      simp (disch := omega) only [iL, iE, iQ, ipos, ineg, an, if_true, if_false]
      by_cases c : m = i
      · rw [if_pos c]; exact hr1 (hres.trans c)
      · rw [if_neg c]; exact hr2 (by rw [hres]; exact c) _ _)
    48 0 0 (by omega) (by omega) (by omega) (by omega)
  rw [Int.zero_add] at q
  exact q rfl
theorem rfat_ok (h0 : sMod SH) (hb : 0 ≤ b ∧ b ≤ 135000) (hN : N < 2147483648) (hr : refR S b A N) (hC : wfR A.C A.k) {x i : Int} (hx : 0 ≤ x ∧ x < 48) (hi : 0 ≤ i ∧ i < 1000) {u u' u'' : Option Value} : G sc MX11_frameAt 0 [some (.ref 90), some (.int (I b)), some (.int (I x)), some (.int (I i)), u, u', u''] [] SH S (rI (nthL (A.C x) i.toNat) SH S) := by
  refine qX11_frameAt_0 h0 ?_
  have key : ∀ f, 0 ≤ f → f < 48 → A.k f = x → (cnt (fun o => decide (A.k o = x ∧ S 91 (b + 1024 + o) < S 91 (b + 1024 + f))) 48 0 = i ↔ f = nthL (A.C x) i.toNat) := fun f a c hk => by
    have hm : f ∈ A.C x := (hC.2.1 x f).mpr ⟨⟨a, c⟩, hx, hk⟩
    obtain ⟨U, V, e⟩ := List.append_of_mem hm
    rw [pos_cnt hr hC e]
    constructor
    · intro h
      have : i.toNat = U.length := by omega
      rw [this, e, nthL_app]
    · intro h
      by_cases hl : i.toNat < (A.C x).length
      · obtain ⟨U', V', e', hl'⟩ := nthL_split hl
        rw [← h] at e'
        have hn := hC.1 x
        rw [e] at hn
        have := (split_uniq hn (e.symm.trans e')).1
        rw [this]; omega
      · rw [nthL_out (by omega)] at h; omega
  have hfn : fnd (fun f => decide (A.k f = x ∧ cnt (fun o => decide (A.k o = x ∧ S 91 (b + 1024 + o) < S 91 (b + 1024 + f))) 48 0 = i)) 48 0 = nthL (A.C x) i.toNat := by
    by_cases hl : i.toNat < (A.C x).length
    · obtain ⟨U', V', e', hl'⟩ := nthL_split hl
      have hm : nthL (A.C x) i.toNat ∈ A.C x := by rw [e']; exact List.mem_append_right _ (by rw [← e']; exact List.mem_cons_self ..)
      have hq := (hC.2.1 x _).mp hm
      refine fnd_uniq ⟨hq.1.1, by omega⟩ ?_ (fun z z1 z2 hz => ?_)
      · have := (key _ hq.1.1 hq.1.2 hq.2.2).mpr rfl
        exact decide_eq_true ⟨hq.2.2, this⟩
      · have hz : A.k z = x ∧ cnt (fun o => decide (A.k o = x ∧ S 91 (b + 1024 + o) < S 91 (b + 1024 + z))) 48 0 = i := of_decide_eq_true hz
        exact (key z z1 (by omega) hz.1).mp hz.2
    · rw [nthL_out (by omega)]
      refine fnd_nil (fun z z1 z2 => ?_)
      apply Bool.eq_false_iff.mpr
      intro hz
      have hz : A.k z = x ∧ cnt (fun o => decide (A.k o = x ∧ S 91 (b + 1024 + o) < S 91 (b + 1024 + z))) 48 0 = i := of_decide_eq_true hz
      have h2 := (key z z1 (by omega) hz.1).mp hz.2
      rw [nthL_out (by omega)] at h2
      omega
  rw [← hfn]
  have q := fnd_go (q := fun f => decide (A.k f = x ∧ cnt (fun o => decide (A.k o = x ∧ S 91 (b + 1024 + o) < S 91 (b + 1024 + f))) 48 0 = i)) (F := fun res f => ∀ u u', G sc MX11_frameAt 3 [some (.ref 90), some (.int (I b)), some (.int (I x)), some (.int (I i)), some (.int (I f)), u, u'] [] SH S (rI res SH S)) (lo := 0) (hi := 48)
    (fun f h1 h2 hq u u' => by
      have hq : A.k f = x ∧ cnt (fun o => decide (A.k o = x ∧ S 91 (b + 1024 + o) < S 91 (b + 1024 + f))) 48 0 = i := of_decide_eq_true hq
      refine qX11_frameAt_3 h0 ?_
      obtain ⟨e1, e2, e3⟩ := rk_rg hr hC f h1 h2
      rw [e1]
      simp (disch := omega) only [iL, iE, iQ, ipos, ineg, an, if_true, if_false]
      exact rfat_in h0 hb hN hr hC ⟨by omega, by omega⟩ (by omega) ⟨h1, h2⟩ hq.1 ⟨by omega, by omega⟩ (fun _ => rfl) (fun h => absurd hq.2 h))
    (fun res f h1 h2 hq hn u u' => by
      have hq : ¬ (A.k f = x ∧ cnt (fun o => decide (A.k o = x ∧ S 91 (b + 1024 + o) < S 91 (b + 1024 + f))) 48 0 = i) := of_decide_eq_false hq
      refine qX11_frameAt_3 h0 ?_
      obtain ⟨e1, e2, e3⟩ := rk_rg hr hC f h1 h2
      rw [e1]
      simp (disch := omega) only [iL, iE, iQ, ipos, ineg, an, if_true, if_false]
      by_cases c1 : A.k f = x
      · rw [if_pos c1]
        exact rfat_in h0 hb hN hr hC ⟨by omega, by omega⟩ (by omega) ⟨h1, h2⟩ c1 ⟨by omega, by omega⟩ (fun h => absurd ⟨c1, h⟩ hq) (fun _ => hn)
      · rw [if_neg c1]; exact hn _ _)
    (fun u u' => by
      refine qX11_frameAt_3 h0 ?_
      simp (disch := omega) only [iL, iE, iQ, ipos, ineg, an, if_true, if_false])
    48 0 (by omega) (by omega)
  exact q _ _
end
