/-! ===== the reference reads a clause, and all of them ===== -/
section
variable {sc : Nat × (Nat → Int32)} {SH : List mCell} {S : mStore} {b : Int → Int} {n : Int} {T U V : aT} {D : aD} {μ : Int}
theorem clauseM (h0 : sMod SH) (hn : 0 ≤ n ∧ n ≤ 700) (hb : ∀ i, 0 ≤ b i ∧ b i < 256) (c : mdT S b n T) (hf : T.2.1 = 0) (hD : drR S D) (oD : okE D) (hg : gh μ D) : ∃ S', G sc MX11_clause1 0 [some (.ref 90)] [] SH S (rV SH S') ∧ mdT S' b n (clB b n D T).2 ∧ drF S S' ∧ ((clB b n D T).2.2.1 = 0 → drR S' (clB b n D T).1) := by
  have ht := c.2.2.2.2.2 hf
  have hr := tk_rg b (n := n) c.2.2.2.2.1.1.2
  have hwr := tkW_rg b n T.1
  have wr : rg (tkW b n T.1) := ⟨by omega, by omega⟩
  have r0 : rg (0 : Int) := ⟨by decide, by decide⟩
  have oT := oD.2.2.1
  have oL := oD.2.2.2.1
  have p0 := oD.1.1
  have e47 : S 90 47 = D.2.1 := hD.2.1
  have e48 : S 90 48 = D.2.2.1 := hD.2.2.1
  have f5 : (failA 5 (tkS b n T.1) T).2.1 ≠ 0 := by rw [failA_z hf]; show (5 : Int) ≠ 0; decide
  have f4 : (failA 4 (tkS b n T.1) T).2.1 ≠ 0 := by rw [failA_z hf]; show (4 : Int) ≠ 0; decide
  have st : ∀ r, G sc MX11_clause1 16 [some (.ref 90)] [.int (I (tkW b n T.1))] SH S r → G sc MX11_clause1 0 [some (.ref 90)] [] SH S r := fun r q => by
    refine qX11_clause1_0 h0 ?_
    rw [ht.2.2.1, ht.2.2.2.2]
    by_cases d : tkK b n T.1 = 1
    · rw [if_pos (by rw [d])]; exact q
    · rw [if_neg (by rw [I_eq ⟨by omega, by omega⟩ ⟨by decide, by decide⟩]; exact d)]
      have e : tkW b n T.1 = -1 := by unfold tkW; rw [if_neg d]
      rw [e] at q
      exact q
  have fin : ∀ (S1 : mStore), G sc MX11_clause1 234 [some (.ref 90)] [] SH S1 (rV SH S1) := fun S1 => qX11_clause1_234 h0 rfl
  have et : 0 ≤ S 90 47 ∧ S 90 47 < 32 := by rw [e47]; exact oT
  unfold clB
  by_cases d : tkW b n T.1 = 0
  · rw [if_pos d]
    have st1 : ∀ r, (if I (S 90 48) = I 0 then G sc MX11_clause1 77 [some (.ref 90)] [.int (I 1), .ref 90] SH S r else G sc MX11_clause1 77 [some (.ref 90)] [.int (I 0), .ref 90] SH S r) → G sc MX11_clause1 0 [some (.ref 90)] [] SH S r := fun r q => st r (qX11_clause1_16 h0 (swp_at 0 wr r0 (by omega) rfl q))
    by_cases k : 0 < D.2.2.1
    · rw [if_pos k]
      obtain ⟨S1, g1, t1, x1⟩ := wants_no (sc := sc) h0 hn.2 c hf (k := 4) (by decide)
      refine ⟨S1, st1 _ ?_, t1, drF_mx x1, fun q => absurd q f4⟩
      rw [e48, if_neg (by rw [I_eq ⟨by omega, by omega⟩ ⟨by decide, by decide⟩]; omega)]
      refine qX11_clause1_77 h0 ⟨_, _, g1, ?_⟩
      rw [if_pos rfl]
      exact fin S1
    · rw [if_neg k]
      have st2 : ∀ r, (∃ v103 S104, G sc MX11_once 0 [some (.ref 90), some (.int (I 0))] [] SH S (rI v103 SH S104) ∧ (if I v103 = I 0 then G sc MX11_clause1 234 [some (.ref 90)] [] SH S104 r else (∃ v105 S106, G sc MX11_number 0 [some (.ref 90), some (.int (I 1)), some (.int (I 48)), none] [] SH S104 (rI v105 SH S106) ∧ G sc MX11_clause1 234 [some (.ref 90)] [] SH (up S106 90 40 v105) r))) → G sc MX11_clause1 0 [some (.ref 90)] [] SH S r := fun r q => st1 r (by
        rw [e48, if_pos (by rw [show D.2.2.1 = 0 by omega])]
        refine qX11_clause1_77 h0 ⟨_, _, wants_yes h0 c hf, ?_⟩
        rw [if_neg (by decide)]
        exact q)
      by_cases m : ian D.2.1 1 ≠ 0
      · rw [if_pos m]
        obtain ⟨S1, g1, t1, x1⟩ := once_no (sc := sc) h0 hn.2 c hf bits_ok.1 et (by rw [e47]; exact m)
        refine ⟨S1, st2 _ ⟨_, _, g1, ?_⟩, t1, drF_mx x1, fun q => absurd q f5⟩
        rw [if_pos rfl]; exact fin S1
      · rw [if_neg m]
        obtain ⟨S1, g1, t1, x1⟩ := once_yes (sc := sc) h0 hn hb c hf bits_ok.1 et (by rw [e47]; exact Decidable.not_not.mp m)
        rw [e47] at x1
        obtain ⟨S2, g2, t2, x2⟩ := numM (sc := sc) h0 hn hb t1 (lo := 1) (hi := 48) (by decide) (by decide) (u := none)
        refine ⟨up S2 90 40 (numT b n 1 48 (goT b n T)).1, st2 _ ⟨_, _, g1, ?_⟩, mdT_90 t2 (by decide), drF_tr (drF_90 (by decide)) (drF_tr (drF_mx x1) (drF_tr (drF_mx x2) (drF_90 (by decide)))), fun _ => drR_4x (i := 0) (drR_mx (drR_mx (drR_47 hD _) x1) x2) (by decide) _⟩
        rw [if_neg (by decide)]
        exact ⟨_, _, g2, fin _⟩
  rw [if_neg d]
  by_cases d : tkW b n T.1 = 1
  · rw [if_pos d]
    have st1 := fun r q => st r (qX11_clause1_16 h0 (swp_at 1 wr r0 (by omega) rfl q))
    by_cases m : ian D.2.1 2 ≠ 0
    · rw [if_pos m]
      obtain ⟨S1, g1, t1, x1⟩ := once_no (sc := sc) h0 hn.2 c hf bits_ok.2.1 et (by rw [e47]; exact m)
      refine ⟨S1, st1 _ ⟨_, _, g1, ?_⟩, t1, drF_mx x1, fun q => absurd q f5⟩
      rw [if_pos rfl]; exact fin S1
    · rw [if_neg m]
      obtain ⟨S1, g1, t1, x1⟩ := once_yes (sc := sc) h0 hn hb c hf bits_ok.2.1 et (by rw [e47]; exact Decidable.not_not.mp m)
      rw [e47] at x1
      obtain ⟨S2, g2, t2, x2⟩ := numM (sc := sc) h0 hn hb t1 (lo := 2) (hi := 8) (by decide) (by decide) (u := none)
      refine ⟨up S2 90 41 (numT b n 2 8 (goT b n T)).1, st1 _ ⟨_, _, g1, ?_⟩, mdT_90 t2 (by decide), drF_tr (drF_90 (by decide)) (drF_tr (drF_mx x1) (drF_tr (drF_mx x2) (drF_90 (by decide)))), fun _ => drR_4x (i := 1) (drR_mx (drR_mx (drR_47 hD _) x1) x2) (by decide) _⟩
      rw [if_neg (by decide)]
      exact ⟨_, _, g2, fin _⟩
  rw [if_neg d]
  by_cases d : tkW b n T.1 = 2
  · rw [if_pos d]
    have st1 := fun r q => st r (qX11_clause1_16 h0 (swp_at 2 wr r0 (by omega) rfl q))
    by_cases m : ian D.2.1 4 ≠ 0
    · rw [if_pos m]
      obtain ⟨S1, g1, t1, x1⟩ := once_no (sc := sc) h0 hn.2 c hf bits_ok.2.2.1 et (by rw [e47]; exact m)
      refine ⟨S1, st1 _ ⟨_, _, g1, ?_⟩, t1, drF_mx x1, fun q => absurd q f5⟩
      rw [if_pos rfl]; exact fin S1
    · rw [if_neg m]
      obtain ⟨S1, g1, t1, x1⟩ := once_yes (sc := sc) h0 hn hb c hf bits_ok.2.2.1 et (by rw [e47]; exact Decidable.not_not.mp m)
      rw [e47] at x1
      obtain ⟨S2, g2, t2, x2⟩ := numM (sc := sc) h0 hn hb t1 (lo := 1) (hi := 16) (by decide) (by decide) (u := none)
      have t2' : mdT (up S2 90 42 (numT b n 1 16 (goT b n T)).1) b n (numT b n 1 16 (goT b n T)).2 := mdT_90 t2 (by decide)
      have tz := t2.2.2.2.2.1.2.1
      have e39 : up S2 90 42 (numT b n 1 16 (goT b n T)).1 90 39 = (numT b n 1 16 (goT b n T)).2.2.1 := t2'.2.2.1
      by_cases z : (numT b n 1 16 (goT b n T)).2.2.1 = 0
      · have lr := num_rg z
        obtain ⟨S3, g3, t3, x3⟩ := numM (sc := sc) h0 hn hb t2' (lo := (numT b n 1 16 (goT b n T)).1) (hi := 16) (by omega) (by decide) (u := none)
        refine ⟨up S3 90 43 (numT b n (numT b n 1 16 (goT b n T)).1 16 (numT b n 1 16 (goT b n T)).2).1, st1 _ ⟨_, _, g1, ?_⟩, mdT_90 t3 (by decide), drF_tr (drF_90 (by decide)) (drF_tr (drF_mx x1) (drF_tr (drF_mx x2) (drF_tr (drF_90 (by decide)) (drF_tr (drF_mx x3) (drF_90 (by decide)))))), fun _ => drR_4x (i := 3) (drR_mx (drR_4x (i := 2) (drR_mx (drR_mx (drR_47 hD _) x1) x2) (by decide) _) x3) (by decide) _⟩
        rw [if_neg (by decide)]
        refine ⟨_, _, g2, ?_⟩
        rw [e39, z, if_pos rfl, up_eq]
        exact ⟨_, _, g3, fin _⟩
      · have e : (numT b n (numT b n 1 16 (goT b n T)).1 16 (numT b n 1 16 (goT b n T)).2).2 = (numT b n 1 16 (goT b n T)).2 := by rw [numT_bad z]
        rw [e]
        refine ⟨up S2 90 42 (numT b n 1 16 (goT b n T)).1, st1 _ ⟨_, _, g1, ?_⟩, t2', drF_tr (drF_90 (by decide)) (drF_tr (drF_mx x1) (drF_tr (drF_mx x2) (drF_90 (by decide)))), fun q => absurd q z⟩
        rw [if_neg (by decide)]
        refine ⟨_, _, g2, ?_⟩
        rw [e39, if_neg (by rw [I_eq ⟨by omega, by omega⟩ ⟨by decide, by decide⟩]; exact z)]
        exact fin _
  rw [if_neg d]
  have tell0 : ∀ (k m i : Int), bitm k m → (i = 4 ∨ i = 5) → (∀ r, (∃ v113 S114, G sc MX11_once 0 [some (.ref 90), some (.int (I k))] [] SH S (rI v113 SH S114) ∧ (if I v113 = I 0 then G sc MX11_clause1 234 [some (.ref 90)] [] SH S114 r else G sc MX11_clause1 234 [some (.ref 90)] [] SH (up S114 90 (40 + i) 1) r)) → G sc MX11_clause1 0 [some (.ref 90)] [] SH S r) → ∃ S', G sc MX11_clause1 0 [some (.ref 90)] [] SH S (rV SH S') ∧ mdT S' b n (if ian D.2.1 m ≠ 0 then (D, failA 5 (tkS b n T.1) T) else ((up D.1 0 i 1, iro D.2.1 m, D.2.2), goT b n T)).2 ∧ drF S S' ∧ ((if ian D.2.1 m ≠ 0 then (D, failA 5 (tkS b n T.1) T) else ((up D.1 0 i 1, iro D.2.1 m, D.2.2), goT b n T)).2.2.1 = 0 → drR S' (if ian D.2.1 m ≠ 0 then (D, failA 5 (tkS b n T.1) T) else ((up D.1 0 i 1, iro D.2.1 m, D.2.2), goT b n T)).1) := fun k m i hk hi st1 => by
    by_cases z : ian D.2.1 m ≠ 0
    · rw [if_pos z]
      obtain ⟨S1, g1, t1, x1⟩ := once_no (sc := sc) h0 hn.2 c hf hk et (by rw [e47]; exact z)
      refine ⟨S1, st1 _ ⟨_, _, g1, ?_⟩, t1, drF_mx x1, fun q => absurd q f5⟩
      rw [if_pos rfl]; exact fin S1
    · rw [if_neg z]
      obtain ⟨S1, g1, t1, x1⟩ := once_yes (sc := sc) h0 hn hb c hf hk et (by rw [e47]; exact Decidable.not_not.mp z)
      rw [e47] at x1
      refine ⟨up S1 90 (40 + i) 1, st1 _ ⟨_, _, g1, ?_⟩, mdT_90 t1 (by omega), drF_tr (drF_90 (by decide)) (drF_tr (drF_mx x1) (drF_90 (by omega))), fun _ => drR_4x (i := i) (drR_mx (drR_47 hD _) x1) (by omega) _⟩
      rw [if_neg (by decide)]
      exact fin _
  by_cases d : tkW b n T.1 = 3
  · rw [if_pos d]
    exact tell0 3 8 4 bits_ok.2.2.2.1 (.inl rfl) (fun r q => st r (qX11_clause1_16 h0 (swp_at 3 wr r0 (by omega) rfl q)))
  rw [if_neg d]
  by_cases d : tkW b n T.1 = 4
  · rw [if_pos d]
    exact tell0 4 16 5 bits_ok.2.2.2.2 (.inr rfl) (fun r q => st r (qX11_clause1_16 h0 (swp_at 4 wr r0 (by omega) rfl q)))
  rw [if_neg d]
  by_cases d : tkW b n T.1 = 5
  · rw [if_pos d]
    obtain ⟨S1, g1, t1, x1, q1⟩ := guestM (sc := sc) h0 hn hb c hf hD oD hg rfl
    exact ⟨S1, st _ (qX11_clause1_16 h0 (swp_at 5 wr r0 (by omega) rfl ⟨_, g1, fin _⟩)), t1, x1, q1⟩
  rw [if_neg d]
  by_cases d : tkW b n T.1 = 6
  · rw [if_pos d]
    obtain ⟨S1, g1, t1, x1, q1⟩ := pageM (sc := sc) (u1 := none) (u2 := none) h0 hn hb c hf hD oD rfl
    exact ⟨S1, st _ (qX11_clause1_16 h0 (swp_at 6 wr r0 (by omega) rfl ⟨_, g1, fin _⟩)), t1, x1, q1⟩
  rw [if_neg d]
  by_cases d : tkW b n T.1 = 7
  · rw [if_pos d]
    obtain ⟨S1, g1, t1, x1, q1⟩ := adviseM (sc := sc) (u1 := none) (u2 := none) (u3 := none) h0 hn hb c hf hD oD
    exact ⟨S1, st _ (qX11_clause1_16 h0 (swp_at 7 wr r0 (by omega) rfl ⟨_, g1, fin _⟩)), t1, x1, q1⟩
  rw [if_neg d]
  obtain ⟨S1, g1, t1, x1⟩ := wants_no (sc := sc) h0 hn.2 c hf (k := 1) (by decide)
  refine ⟨S1, st _ (qX11_clause1_16 h0 (swp_no 8 rfl wr (by decide) (by decide) (by omega) ⟨_, _, g1, fin _⟩)), t1, drF_mx x1, fun q => ?_⟩
  rw [failA_z hf] at q
  exact absurd q (by dsimp only; decide)
theorem mksM (h0 : sMod SH) (hn : 0 ≤ n ∧ n ≤ 700) (hb : ∀ i, 0 ≤ b i ∧ b i < 256) (hμ : 1 ≤ μ ∧ μ ≤ 16) {l : Int} : ∀ (k : Nat) (D : aD) (T : aT) (S : mStore), mdT S b n T → (T.2.1 = 0 → (drR S D ∧ okE D ∧ gh μ D) ∧ n < T.1 + k) → ∃ S', mdT S' b n (mksT b n k D T).2 ∧ drF S S' ∧ ((mksT b n k D T).2.2.1 = 0 → drR S' (mksT b n k D T).1) ∧ ∀ r, G sc MX11_machine 39 [some (.ref 90), some (.int (I l))] [] SH S' r → G sc MX11_machine 14 [some (.ref 90), some (.int (I l))] [] SH S r := by
  have stop : ∀ (D : aD) (T : aT) (S : mStore), mdT S b n T → (T.2.1 = 0 → drR S D) → (T.2.1 ≠ 0 ∨ tkK b n T.1 = 0) → ∃ S', mdT S' b n T ∧ drF S S' ∧ (T.2.1 = 0 → drR S' D) ∧ ∀ r, G sc MX11_machine 39 [some (.ref 90), some (.int (I l))] [] SH S' r → G sc MX11_machine 14 [some (.ref 90), some (.int (I l))] [] SH S r := fun D T S h hD c => by
    have tz := h.2.2.2.2.1.2.1
    refine ⟨S, h, drF_rf S, hD, fun r q => qX11_machine_14 h0 ?_⟩
    rw [h.2.2.1]
    by_cases z : T.2.1 = 0
    · have c2 : tkK b n T.1 = 0 := c.elim (fun q => absurd z q) id
      rw [if_pos (by rw [z]), (h.2.2.2.2.2 z).2.2.1, if_pos (by rw [c2])]
      exact q
    · rw [if_neg (by rw [I_eq ⟨by omega, by omega⟩ ⟨by decide, by decide⟩]; exact z)]
      exact q
  intro k
  induction k with
  | zero =>
    intro D T S h hT
    have hx := h.2.2.2.2.1.1
    exact stop D T S h (fun q => (hT q).1.1) (.inl (fun q => by have := (hT q).2; omega))
  | succ k ih =>
    intro D T S h hT
    have hx := h.2.2.2.2.1
    by_cases c : T.2.1 ≠ 0 ∨ tkK b n T.1 = 0
    · rw [mksT_no c]
      exact stop D T S h (fun q => (hT q).1.1) c
    · have hf : T.2.1 = 0 := Decidable.not_not.mp (fun q => c (.inl q))
      have hk : tkK b n T.1 ≠ 0 := fun q => c (.inr q)
      have hr := tk_rg b (n := n) hx.1.2
      obtain ⟨⟨dr, oD, hg⟩, fu⟩ := hT hf
      rw [mksT_yes c]
      obtain ⟨S1, g1, t1, f1, d1⟩ := clauseM (sc := sc) h0 hn hb h hf dr oD hg
      obtain ⟨S2, g2, t2, f2⟩ := endM (sc := sc) h0 hn hb t1
      obtain ⟨S3, t3, f3, d3, st3⟩ := ih (clD b n D T).1 (clD b n D T).2 S2 t2 (fun q => by
        have mv := clD_mv hn.2 hx hf q
        have z := (endT_ok q).1
        exact ⟨⟨drR_mx (d1 z) f2, ok_clB hμ hf oD hg z⟩, by omega⟩)
      refine ⟨S3, t3, drF_tr f1 (drF_tr (drF_mx f2) f3), d3, fun r q => qX11_machine_14 h0 ?_⟩
      rw [h.2.2.1, if_pos (by rw [hf]), (h.2.2.2.2.2 hf).2.2.1, if_neg (by rw [I_eq ⟨by omega, by omega⟩ ⟨by decide, by decide⟩]; exact hk)]
      exact ⟨_, g1, _, g2, st3 r q⟩
end
