/-! ===== the orders of a text, as the reference reads them ===== -/
/-- the reference's k-th order is that one -/
def ordA (S : mStore) (k : Int) (o : aR) : Prop := S 107 (4 * k) = o.1 ∧ S 107 (4 * k + 1) = o.2.1 ∧ (o.1 = 8 ∨ o.1 = 9 → S 107 (4 * k + 2) = o.2.2.1) ∧ (o.1 = 8 → S 107 (4 * k + 3) = o.2.2.2)
abbrev oxF (S S' : mStore) (k : Int) : Prop := (∀ j, j ≠ 90 → j ≠ 107 → S' j = S j) ∧ (∀ f, f ≠ 26 → f ≠ 33 → f ≠ 34 → f ≠ 36 → f ≠ 37 → f ≠ 38 → f ≠ 39 → f ≠ 55 → S' 90 f = S 90 f) ∧ (∀ i, i < 4 * k → S' 107 i = S 107 i)
theorem oxF_rf (S : mStore) (k : Int) : oxF S S k := ⟨fun _ _ _ => rfl, fun _ _ _ _ _ _ _ _ _ => rfl, fun _ _ => rfl⟩
theorem oxF_mx {S S1 S2 : mStore} {k : Int} (h : oxF S S1 k) (h2 : mxF S1 S2) : oxF S S2 k := ⟨fun j h1 h3 => (h2.1 j h1).trans (h.1 j h1 h3), fun f a1 a2 a3 a4 a5 a6 a7 a8 => (h2.2 f a1 a2 a3 a4 a5 a6 a7).trans (h.2.1 f a1 a2 a3 a4 a5 a6 a7 a8), fun i hi => by rw [h2.1 107 (by decide)]; exact h.2.2 i hi⟩
theorem oxF_up {S S1 : mStore} {k i x : Int} (h : oxF S S1 k) (hi : 4 * k ≤ i) : oxF S (up S1 107 i x) k := ⟨fun j h1 h3 => (up_ne h3).trans (h.1 j h1 h3), fun f a1 a2 a3 a4 a5 a6 a7 a8 => by rw [up_ne (by decide)]; exact h.2.1 f a1 a2 a3 a4 a5 a6 a7 a8, fun y hy => by rw [up_at, if_neg (by omega)]; exact h.2.2 y hy⟩
theorem oxF_55 {S S1 : mStore} {k x : Int} (h : oxF S S1 k) : oxF S (up S1 90 55 x) k := ⟨fun j h1 h3 => (up_ne h1).trans (h.1 j h1 h3), fun f a1 a2 a3 a4 a5 a6 a7 a8 => by rw [up_at, if_neg a8]; exact h.2.1 f a1 a2 a3 a4 a5 a6 a7 a8, fun y hy => by rw [up_ne (by decide)]; exact h.2.2 y hy⟩
theorem oxF_P {S S' : mStore} {k : Int} {P : aP} (h : oxF S S' k) (hp : modP S P) : modP S' P := by
  unfold modP at *
  rw [h.1 95 (by decide) (by decide), h.1 96 (by decide) (by decide), h.1 97 (by decide) (by decide), h.1 98 (by decide) (by decide)]
  exact ⟨fun i h1 h2 => by rw [h.2.1 (12 + i) (by omega) (by omega) (by omega) (by omega) (by omega) (by omega) (by omega) (by omega)]; exact hp.1 i h1 h2, hp.2⟩
section
variable {sc : Nat × (Nat → Int32)} {SH : List mCell} {S : mStore} {b : Int → Int} {n : Int} {T : aT} {P : aP}
theorem mdT_107 (h : mdT S b n T) (i x : Int) : mdT (up S 107 i x) b n T := mdT_far h (fun f _ => by rw [up_ne (by decide)]) (up_ne (by decide))
theorem mdT_55 (h : mdT S b n T) (x : Int) : mdT (up S 90 55 x) b n T := mdT_far h (fun f hf => by rw [up_at, if_neg (by omega)]) (up_ne (by decide))
theorem ord215 (h0 : sMod SH) (h : mdT S b n T) {k : Int} (h5 : S 90 55 = k) {l : Int} : G sc MX11_order 215 [some (.ref 90), some (.int (I l))] [] SH S (rV SH (up S 90 55 (k + 1))) := by
  refine qX11_order_215 h0 ?_
  rw [h5]
theorem orderM (h0 : sMod SH) (hn : 0 ≤ n ∧ n ≤ 700) (hb : ∀ i, 0 ≤ b i ∧ b i < 256) (h : mdT S b n T) (hp : modP S P) (hP : wfP P) (hf : T.2.1 = 0) {k : Int} (h5 : S 90 55 = k) (hk : 0 ≤ k ∧ k < 149) {u : Option Value} : ∃ S', G sc MX11_order 0 [some (.ref 90), u] [] SH S (rV SH S') ∧ mdT S' b n (ordB b n P T).2 ∧ oxF S S' k ∧ ((ordB b n P T).2.2.1 = 0 → S' 90 55 = k + 1 ∧ ordA S' k (ordB b n P T).1) := by
  have ht := h.2.2.2.2.2 hf
  have hT := h.2.2.2.2.1
  have hr := tk_rg b (n := n) hT.1.2
  have hwr := tkW_rg b n T.1
  have st : ∀ r, G sc MX11_order 30 [some (.ref 90), some (.int (I (4 * k)))] [.int (I (if tkW b n T.1 < 8 then 0 else 1)), .ref 90] SH S r → G sc MX11_order 0 [some (.ref 90), u] [] SH S r := fun r q => by
    refine qX11_order_0 h0 ?_
    rw [ht.2.2.1, ht.2.2.2.2, h5]
    by_cases c : tkK b n T.1 = 1
    · rw [if_pos (by rw [c])]
      by_cases d : tkW b n T.1 < 8
      · rw [if_pos d] at q
        rw [if_pos (by rw [I_lt ⟨by omega, by omega⟩ ⟨by decide, by decide⟩]; exact d)]
        exact q
      · rw [if_neg d] at q
        rw [if_neg (by rw [I_lt ⟨by omega, by omega⟩ ⟨by decide, by decide⟩]; exact d)]
        exact q
    · rw [if_neg (by rw [I_eq ⟨by omega, by omega⟩ ⟨by decide, by decide⟩]; exact c)]
      have e : tkW b n T.1 = -1 := by unfold tkW; rw [if_neg c]
      rw [if_pos (by omega)] at q
      exact q
  by_cases c : tkW b n T.1 < 8
  · rw [if_pos c] at st
    have e : ordB b n P T = ((0, 0, 0, 0), failA 1 (tkS b n T.1) T) := by unfold ordB; rw [if_neg (by omega), if_neg (by omega), if_neg (by omega), if_neg (by omega), if_neg (by omega)]
    rw [e]
    obtain ⟨S', g, hc, fr⟩ := wants_no (sc := sc) h0 hn.2 h hf (k := 1) (by decide)
    refine ⟨S', st _ (qX11_order_30 h0 ⟨_, _, g, ?_⟩), hc, oxF_mx (oxF_rf S k) fr, fun q => ?_⟩
    · rw [if_pos rfl]
    · rw [failA_z hf] at q
      exact absurd q (by dsimp only; decide)
  rw [if_neg c] at st
  obtain ⟨S1, g1, c1, f1⟩ := goM (sc := sc) (S := up S 107 (4 * k) (tkW b n T.1)) h0 hn hb (mdT_107 h _ _) hf (u := none)
  have x1 : oxF S S1 k := oxF_mx (oxF_up (oxF_rf S k) (by omega)) f1
  have a1 : S1 107 (4 * k) = tkW b n T.1 := by rw [f1.1 107 (by decide), up_eq]
  have p1 := oxF_P x1 hp
  have s1 : S1 90 55 = k := by rw [f1.2 55 (by decide) (by decide) (by decide) (by decide) (by decide) (by decide) (by decide), up_ne (by decide)]; exact h5
  have st1 : ∀ r, (if I (S1 107 (4 * k)) = I 11 then G sc MX11_order 74 [some (.ref 90), some (.int (I (4 * k)))] [] SH S1 r else (((0 : Int) ≤ 4 * k ∧ 4 * k < 600) ∧ (if I (S1 107 (4 * k)) = I 12 then G sc MX11_order 74 [some (.ref 90), some (.int (I (4 * k)))] [] SH S1 r else (∃ v104 S105, G sc MX11_pageThere 0 [some (.ref 90), none, none] [] SH S1 (rI v104 SH S105) ∧ (((0 : Int) ≤ 4 * k + 1 ∧ 4 * k + 1 < 600) ∧ (if I ((up S105 107 (4 * k + 1) v104) 90 39) = I 0 then (((0 : Int) ≤ 4 * k ∧ 4 * k < 600) ∧ (if I ((up S105 107 (4 * k + 1) v104) 107 (4 * k)) = I 9 then (∃ v106 S107, G sc MX11_pageThere 0 [some (.ref 90), none, none] [] SH (up S105 107 (4 * k + 1) v104) (rI v106 SH S107) ∧ (((0 : Int) ≤ 4 * k + 2 ∧ 4 * k + 2 < 600) ∧ G sc MX11_order 150 [some (.ref 90), some (.int (I (4 * k)))] [] SH (up S107 107 (4 * k + 2) v106) r)) else G sc MX11_order 150 [some (.ref 90), some (.int (I (4 * k)))] [] SH (up S105 107 (4 * k + 1) v104) r)) else G sc MX11_order 150 [some (.ref 90), some (.int (I (4 * k)))] [] SH (up S105 107 (4 * k + 1) v104) r)))))) → G sc MX11_order 0 [some (.ref 90), u] [] SH S r := fun r q => by
    refine st _ (qX11_order_30 h0 ⟨_, _, wants_yes h0 h hf, ?_⟩)
    rw [if_neg (by decide), ht.2.2.2.2]
    exact ⟨⟨by omega, by omega⟩, _, g1, ⟨by omega, by omega⟩, q⟩
  unfold ordB
  -- scan and tick
  have two : ∀ hi, 0 ≤ hi ∧ hi ≤ 9998 → (∀ r, G sc MX11_order 101 [some (.ref 90), some (.int (I (4 * k)))] [.int (I hi), .int (I 1), .ref 90, .int (I (4 * k + 1)), .ref 107] SH S1 r → G sc MX11_order 0 [some (.ref 90), u] [] SH S r) → ∃ S', G sc MX11_order 0 [some (.ref 90), u] [] SH S (rV SH S') ∧ mdT S' b n (numT b n 1 hi (goT b n T)).2 ∧ oxF S S' k ∧ S' 90 55 = k + 1 ∧ S' 107 (4 * k) = tkW b n T.1 ∧ S' 107 (4 * k + 1) = (numT b n 1 hi (goT b n T)).1 := fun hi hh go => by
    obtain ⟨S2, g2, c2, f2⟩ := numM (sc := sc) h0 hn hb c1 (lo := 1) (hi := hi) (by decide) hh (u := none)
    have s2 : up S2 107 (4 * k + 1) (numT b n 1 hi (goT b n T)).1 90 55 = k := by rw [up_ne (by decide), f2.2 55 (by decide) (by decide) (by decide) (by decide) (by decide) (by decide) (by decide)]; exact s1
    refine ⟨up (up S2 107 (4 * k + 1) (numT b n 1 hi (goT b n T)).1) 90 55 (k + 1), go _ (qX11_order_101 h0 ⟨_, _, g2, ⟨by omega, by omega⟩, ord215 h0 (mdT_107 c2 _ _) s2⟩), mdT_55 (mdT_107 c2 _ _) _, oxF_55 (oxF_up (oxF_mx x1 f2) (by omega)), by rw [up_eq], ?_, ?_⟩
    · rw [up_ne (by decide), up_at, if_neg (by omega), f2.1 107 (by decide)]; exact a1
    · rw [up_ne (by decide), up_eq]
  by_cases d11 : tkW b n T.1 = 11
  · rw [if_neg (by omega), if_neg (by omega), if_neg (by omega), if_pos d11]
    obtain ⟨S', g, m, x, e1, e2, e3⟩ := two 100 (by decide) (fun r q => by
      refine st1 r ?_
      rw [a1, if_pos (by rw [d11])]
      refine qX11_order_74 h0 ⟨⟨by omega, by omega⟩, ?_⟩
      rw [a1, if_pos (by rw [d11])]
      exact q)
    exact ⟨S', g, m, x, fun _ => ⟨e1, by rw [e2]; exact d11, e3, fun q => absurd q (by dsimp only; decide), fun q => absurd q (by dsimp only; decide)⟩⟩
  by_cases d12 : tkW b n T.1 = 12
  · rw [if_neg (by omega), if_neg (by omega), if_neg (by omega), if_neg (by omega), if_pos d12]
    obtain ⟨S', g, m, x, e1, e2, e3⟩ := two 20 (by decide) (fun r q => by
      refine st1 r ?_
      rw [a1, if_neg (by rw [d12]; decide)]
      refine ⟨⟨by omega, by omega⟩, ?_⟩
      rw [if_pos (by rw [d12])]
      refine qX11_order_74 h0 ⟨⟨by omega, by omega⟩, ?_⟩
      rw [a1, if_neg (by rw [d12]; decide)]
      exact q)
    exact ⟨S', g, m, x, fun _ => ⟨e1, by rw [e2]; exact d12, e3, fun q => absurd q (by dsimp only; decide), fun q => absurd q (by dsimp only; decide)⟩⟩
  clear two
  obtain ⟨S2, g2, f2, c2⟩ := pgThereM (sc := sc) h0 hn hb c1 p1 hP (u1 := none) (u2 := none)
  generalize hS3 : up S2 107 (4 * k + 1) (pgV P (pgT b n P (goT b n T))) = S3 at *
  have x3 : oxF S S3 k := by rw [← hS3]; exact oxF_up (oxF_mx x1 f2) (by omega)
  have p3 := oxF_P x3 hp
  have c3 : mdT S3 b n (pgT b n P (goT b n T)).2 := by rw [← hS3]; exact mdT_107 c2 _ _
  have a3 : S3 107 (4 * k) = tkW b n T.1 := by rw [← hS3, up_at, if_neg (by omega), f2.1 107 (by decide)]; exact a1
  have b3 : S3 107 (4 * k + 1) = pgV P (pgT b n P (goT b n T)) := by rw [← hS3, up_eq]
  have s3 : S3 90 55 = k := by rw [← hS3, up_ne (by decide), f2.2 55 (by decide) (by decide) (by decide) (by decide) (by decide) (by decide) (by decide)]; exact s1
  have z3 := c3.2.2.2.2.1.2.1
  have st2 : ∀ r, (if I (S3 90 39) = I 0 then (((0 : Int) ≤ 4 * k ∧ 4 * k < 600) ∧ (if I (S3 107 (4 * k)) = I 9 then (∃ v106 S107, G sc MX11_pageThere 0 [some (.ref 90), none, none] [] SH S3 (rI v106 SH S107) ∧ (((0 : Int) ≤ 4 * k + 2 ∧ 4 * k + 2 < 600) ∧ G sc MX11_order 150 [some (.ref 90), some (.int (I (4 * k)))] [] SH (up S107 107 (4 * k + 2) v106) r)) else G sc MX11_order 150 [some (.ref 90), some (.int (I (4 * k)))] [] SH S3 r)) else G sc MX11_order 150 [some (.ref 90), some (.int (I (4 * k)))] [] SH S3 r) → G sc MX11_order 0 [some (.ref 90), u] [] SH S r := fun r q => by
    refine st1 r ?_
    rw [a1, if_neg (by rw [I_eq ⟨by omega, by omega⟩ ⟨by decide, by decide⟩]; exact d11)]
    refine ⟨⟨by omega, by omega⟩, ?_⟩
    rw [if_neg (by rw [I_eq ⟨by omega, by omega⟩ ⟨by decide, by decide⟩]; exact d12)]
    refine ⟨_, _, g2, ⟨by omega, by omega⟩, ?_⟩
    rw [show up S2 107 (4 * k + 1) (if (pgT b n P (goT b n T)).2.2.1 = 0 then plc P (pgT b n P (goT b n T)).1.1 (pgT b n P (goT b n T)).1.2.1 else -1) = S3 from hS3]
    exact q
  -- what follows where the order is no write
  have noW : ∀ (S4 : mStore) (U : aT), mdT S4 b n U → (U.2.1 = 0 → S4 107 (4 * k) ≠ 8 ∧ -2 ≤ S4 107 (4 * k) ∧ S4 107 (4 * k) < 100) → S4 90 55 = k → G sc MX11_order 150 [some (.ref 90), some (.int (I (4 * k)))] [] SH S4 (rV SH (up S4 90 55 (k + 1))) := fun S4 U m q s4 => by
    have zz := m.2.2.2.2.1.2.1
    have r182 : G sc MX11_order 182 [some (.ref 90), some (.int (I (4 * k)))] [] SH S4 (rV SH (up S4 90 55 (k + 1))) := by
      refine qX11_order_182 h0 ?_
      rw [m.2.2.1]
      by_cases z : U.2.1 = 0
      · have := q z
        rw [z, if_pos rfl, if_neg (by rw [I_eq ⟨by omega, by omega⟩ ⟨by decide, by decide⟩]; exact this.1)]
        exact ⟨⟨by omega, by omega⟩, ord215 h0 m s4⟩
      · rw [if_neg (by rw [I_eq ⟨by omega, by omega⟩ ⟨by decide, by decide⟩]; exact z)]
        exact ord215 h0 m s4
    refine qX11_order_150 h0 ?_
    rw [m.2.2.1]
    by_cases z : U.2.1 = 0
    · have := q z
      rw [z, if_pos rfl, if_neg (by rw [I_eq ⟨by omega, by omega⟩ ⟨by decide, by decide⟩]; exact this.1)]
      exact ⟨⟨by omega, by omega⟩, r182⟩
    · rw [if_neg (by rw [I_eq ⟨by omega, by omega⟩ ⟨by decide, by decide⟩]; exact z)]
      exact r182
  by_cases zz : (pgT b n P (goT b n T)).2.2.1 = 0
  case neg =>
    have fin := noW S3 _ c3 (fun q => absurd q zz) s3
    have e2 : (pgT b n P (pgT b n P (goT b n T)).2).2 = (pgT b n P (goT b n T)).2 := by rw [pgT_bad zz]
    have e3 : (numT b n 0 3 (pgT b n P (goT b n T)).2).2 = (pgT b n P (goT b n T)).2 := by rw [numT_bad zz]
    have e4 : (numT b n 0 15 (pgT b n P (goT b n T)).2).2 = (pgT b n P (goT b n T)).2 := by rw [numT_bad zz]
    have key : G sc MX11_order 0 [some (.ref 90), u] [] SH S (rV SH (up S3 90 55 (k + 1))) := by
      refine st2 _ ?_
      rw [c3.2.2.1, if_neg (by rw [I_eq ⟨by omega, by omega⟩ ⟨by decide, by decide⟩]; exact zz)]
      exact fin
    refine ⟨_, key, ?_, oxF_55 x3, fun q => ?_⟩
    · split
      · dsimp only; rw [e3, e4]; exact mdT_55 c3 _
      · split
        · dsimp only; rw [e2]; exact mdT_55 c3 _
        · split
          · exact mdT_55 c3 _
          · omega
    · exfalso
      revert q
      split
      · dsimp only; rw [e3, e4]; exact zz
      · split
        · dsimp only; rw [e2]; exact zz
        · split
          · exact zz
          · omega
  by_cases d8 : tkW b n T.1 = 8
  · rw [if_pos d8]
    obtain ⟨S4, g4, c4, f4⟩ := numM (sc := sc) h0 hn hb c3 (lo := 0) (hi := 3) (by decide) (by decide) (u := none)
    generalize hS5 : up S4 107 (4 * k + 2) (numT b n 0 3 (pgT b n P (goT b n T)).2).1 = S5 at *
    have x5 : oxF S S5 k := by rw [← hS5]; exact oxF_up (oxF_mx x3 f4) (by omega)
    have c5 : mdT S5 b n (numT b n 0 3 (pgT b n P (goT b n T)).2).2 := by rw [← hS5]; exact mdT_107 c4 _ _
    have a5 : S5 107 (4 * k) = tkW b n T.1 := by rw [← hS5, up_at, if_neg (by omega), f4.1 107 (by decide)]; exact a3
    have b5 : S5 107 (4 * k + 1) = pgV P (pgT b n P (goT b n T)) := by rw [← hS5, up_at, if_neg (by omega), f4.1 107 (by decide)]; exact b3
    have d5 : S5 107 (4 * k + 2) = (numT b n 0 3 (pgT b n P (goT b n T)).2).1 := by rw [← hS5, up_eq]
    have s5 : S5 90 55 = k := by rw [← hS5, up_ne (by decide), f4.2 55 (by decide) (by decide) (by decide) (by decide) (by decide) (by decide) (by decide)]; exact s3
    have z5 := c5.2.2.2.2.1.2.1
    have st3 : ∀ r, G sc MX11_order 182 [some (.ref 90), some (.int (I (4 * k)))] [] SH S5 r → G sc MX11_order 0 [some (.ref 90), u] [] SH S r := fun r q => by
      refine st2 r ?_
      rw [c3.2.2.1, zz, if_pos rfl, a3, d8, if_neg (by decide)]
      refine ⟨⟨by omega, by omega⟩, qX11_order_150 h0 ?_⟩
      rw [c3.2.2.1, zz, if_pos rfl, a3, d8, if_pos rfl]
      refine ⟨⟨by omega, by omega⟩, _, _, g4, ⟨by omega, by omega⟩, ?_⟩
      rw [hS5]
      exact q
    by_cases z6 : (numT b n 0 3 (pgT b n P (goT b n T)).2).2.2.1 = 0
    · obtain ⟨S6, g6, c6, f6⟩ := numM (sc := sc) h0 hn hb c5 (lo := 0) (hi := 15) (by decide) (by decide) (u := none)
      have s6 : up S6 107 (4 * k + 3) (numT b n 0 15 (numT b n 0 3 (pgT b n P (goT b n T)).2).2).1 90 55 = k := by rw [up_ne (by decide), f6.2 55 (by decide) (by decide) (by decide) (by decide) (by decide) (by decide) (by decide)]; exact s5
      refine ⟨up (up S6 107 (4 * k + 3) (numT b n 0 15 (numT b n 0 3 (pgT b n P (goT b n T)).2).2).1) 90 55 (k + 1), st3 _ (qX11_order_182 h0 ?_), mdT_55 (mdT_107 c6 _ _) _, oxF_55 (oxF_up (oxF_mx x5 f6) (by omega)), fun _ => ⟨by rw [up_eq], ?_, ?_, fun _ => ?_, fun _ => ?_⟩⟩
      · rw [c5.2.2.1, z6, if_pos rfl, a5, d8, if_pos rfl]
        exact ⟨⟨by omega, by omega⟩, _, _, g6, ⟨by omega, by omega⟩, ord215 h0 (mdT_107 c6 _ _) s6⟩
      · rw [up_ne (by decide), up_at, if_neg (by omega), f6.1 107 (by decide), a5]; exact d8
      · rw [up_ne (by decide), up_at, if_neg (by omega), f6.1 107 (by decide)]; exact b5
      · rw [up_ne (by decide), up_at, if_neg (by omega), f6.1 107 (by decide)]; exact d5
      · rw [up_ne (by decide), up_eq]
    · have e4 : (numT b n 0 15 (numT b n 0 3 (pgT b n P (goT b n T)).2).2).2 = (numT b n 0 3 (pgT b n P (goT b n T)).2).2 := by rw [numT_bad z6]
      dsimp only
      rw [e4]
      refine ⟨up S5 90 55 (k + 1), st3 _ (qX11_order_182 h0 ?_), mdT_55 c5 _, oxF_55 x5, fun q => absurd q z6⟩
      rw [c5.2.2.1, if_neg (by rw [I_eq ⟨by omega, by omega⟩ ⟨by decide, by decide⟩]; exact z6)]
      exact ord215 h0 c5 s5
  rw [if_neg d8]
  by_cases d9 : tkW b n T.1 = 9
  · rw [if_pos d9]
    obtain ⟨S4, g4, f4, c4⟩ := pgThereM (sc := sc) h0 hn hb c3 p3 hP (u1 := none) (u2 := none)
    generalize hS5 : up S4 107 (4 * k + 2) (pgV P (pgT b n P (pgT b n P (goT b n T)).2)) = S5 at *
    have x5 : oxF S S5 k := by rw [← hS5]; exact oxF_up (oxF_mx x3 f4) (by omega)
    have c5 : mdT S5 b n (pgT b n P (pgT b n P (goT b n T)).2).2 := by rw [← hS5]; exact mdT_107 c4 _ _
    have a5 : S5 107 (4 * k) = tkW b n T.1 := by rw [← hS5, up_at, if_neg (by omega), f4.1 107 (by decide)]; exact a3
    have b5 : S5 107 (4 * k + 1) = pgV P (pgT b n P (goT b n T)) := by rw [← hS5, up_at, if_neg (by omega), f4.1 107 (by decide)]; exact b3
    have d5 : S5 107 (4 * k + 2) = pgV P (pgT b n P (pgT b n P (goT b n T)).2) := by rw [← hS5, up_eq]
    have s5 : S5 90 55 = k := by rw [← hS5, up_ne (by decide), f4.2 55 (by decide) (by decide) (by decide) (by decide) (by decide) (by decide) (by decide)]; exact s3
    refine ⟨up S5 90 55 (k + 1), st2 _ ?_, mdT_55 c5 _, oxF_55 x5, fun _ => ⟨by rw [up_eq], by rw [up_ne (by decide), a5]; exact d9, by rw [up_ne (by decide)]; exact b5, fun _ => by rw [up_ne (by decide)]; exact d5, fun q => absurd q (by dsimp only; decide)⟩⟩
    rw [c3.2.2.1, zz, if_pos rfl, a3, d9, if_pos rfl]
    refine ⟨⟨by omega, by omega⟩, _, _, g4, ⟨by omega, by omega⟩, ?_⟩
    rw [show up S4 107 (4 * k + 2) (if (pgT b n P (pgT b n P (goT b n T)).2).2.2.1 = 0 then plc P (pgT b n P (pgT b n P (goT b n T)).2).1.1 (pgT b n P (pgT b n P (goT b n T)).2).1.2.1 else -1) = S5 from hS5]
    exact noW S5 _ c5 (fun _ => by rw [a5]; omega) s5
  rw [if_neg d9, if_pos (show tkW b n T.1 = 10 by omega)]
  refine ⟨up S3 90 55 (k + 1), st2 _ ?_, mdT_55 c3 _, oxF_55 x3, fun _ => ⟨by rw [up_eq], by rw [up_ne (by decide), a3]; show tkW b n T.1 = 10; omega, by rw [up_ne (by decide)]; exact b3, fun q => absurd q (by dsimp only; decide), fun q => absurd q (by dsimp only; decide)⟩⟩
  rw [c3.2.2.1, zz, if_pos rfl, a3, if_neg (by rw [I_eq ⟨by omega, by omega⟩ ⟨by decide, by decide⟩]; exact d9)]
  exact ⟨⟨by omega, by omega⟩, noW S3 _ c3 (fun _ => by rw [a3]; omega) s3⟩
end
