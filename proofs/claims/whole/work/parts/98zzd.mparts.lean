/-! ===== the reference reads guests, pages, what is advised ===== -/
section
variable {sc : Nat × (Nat → Int32)} {SH : List mCell} {S : mStore} {b : Int → Int} {n : Int} {T U : aT} {D : aD} {μ : Int}
theorem guestM (h0 : sMod SH) (hn : 0 ≤ n ∧ n ≤ 700) (hb : ∀ i, 0 ≤ b i ∧ b i < 256) (c : mdT S b n T) (hf : T.2.1 = 0) (hD : drR S D) (oD : okE D) (hg : gh μ D) {X : aD × aT} (hX : X = if 4 ≤ D.1 0 6 then (D, failA 2 (tkS b n T.1) T) else ((addG D.1 (gsT b n (goT b n T)).1.1 (gsT b n (goT b n T)).1.2, D.2), (gsT b n (goT b n T)).2)) : ∃ S', G sc MX11_guest1 0 [some (.ref 90)] [] SH S (rV SH S') ∧ mdT S' b n X.2 ∧ drF S S' ∧ (X.2.2.1 = 0 → drR S' X.1) := by
  have p6 := oD.1.2.2.2.2.1
  have e6 : S 90 46 = D.1 0 6 := hD.1 6 (by decide) (by decide)
  by_cases c4 : 4 ≤ D.1 0 6
  · rw [if_pos c4] at hX
    subst hX
    obtain ⟨S1, g1, t1, f1⟩ := wants_no (sc := sc) h0 hn.2 c hf (k := 2) (by decide)
    refine ⟨S1, qX11_guest1_0 h0 ?_, t1, drF_mx f1, fun q => absurd q (by rw [failA_z hf]; show ¬((2 : Int) = 0); decide)⟩
    rw [e6, if_pos (by rw [I_le ⟨by decide, by decide⟩ ⟨by omega, by omega⟩]; exact c4)]
    refine ⟨_, _, g1, ?_⟩
    rw [if_pos rfl]
  · rw [if_neg c4] at hX
    obtain ⟨S1, g1, t1, f1⟩ := goM (sc := sc) h0 hn hb c hf (u := none)
    obtain ⟨S2, g2, t2, f2⟩ := numM (sc := sc) h0 hn hb t1 (lo := 1) (hi := 12) (by decide) (by decide) (u := none)
    have k46 : ∀ {Y Z : mStore}, mxF Y Z → Z 90 46 = Y 90 46 := fun q => q.2 46 (by decide) (by decide) (by decide) (by decide) (by decide) (by decide) (by decide)
    have e1 : S1 90 46 = D.1 0 6 := (k46 f1).trans e6
    have e2 : S2 90 46 = D.1 0 6 := (k46 f2).trans e1
    generalize hS3 : up (up S2 102 (D.1 0 6) (numT b n 1 12 (goT b n T)).1) 103 (D.1 0 6) 0 = S3
    have t3 : mdT S3 b n (numT b n 1 12 (goT b n T)).2 := by rw [← hS3]; exact mdT_up (mdT_up t2 (by decide)) (by decide)
    have e3 : S3 90 46 = D.1 0 6 := by rw [← hS3, up_ne (by decide), up_ne (by decide)]; exact e2
    have tz3 := t3.2.2.2.2.1.2.1
    have tk3 := tk_rg b (n := n) t3.2.2.2.2.1.1.2
    have st : ∀ r, (if I (S3 90 39) = I 0 then (if I (S3 90 36) = I 2 then (∃ v113 S114, G sc MX11_number 0 [some (.ref 90), some (.int (I 0)), some (.int (I 2)), none] [] SH S3 (rI v113 SH S114) ∧ (((0 : Int) ≤ D.1 0 6 ∧ D.1 0 6 < 4) ∧ r = rV SH (up (up S114 103 (D.1 0 6) v113) 90 46 (((up S114 103 (D.1 0 6) v113) 90 46) + 1)))) else r = rV SH (up S3 90 46 (D.1 0 6 + 1))) else r = rV SH (up S3 90 46 (D.1 0 6 + 1))) → G sc MX11_guest1 0 [some (.ref 90)] [] SH S r := fun r q => by
      refine qX11_guest1_0 h0 ?_
      rw [e6, if_neg (by rw [I_le ⟨by decide, by decide⟩ ⟨by omega, by omega⟩]; exact c4)]
      refine ⟨_, _, wants_yes h0 c hf, ?_⟩
      rw [if_neg (by decide)]
      refine ⟨_, g1, _, _, g2, ?_⟩
      rw [e1, show up S2 102 (D.1 0 6) (numT b n 1 12 (goT b n T)).1 90 46 = D.1 0 6 by rw [up_ne (by decide)]; exact e2, hS3, e3]
      exact ⟨⟨by omega, by omega⟩, ⟨by omega, by omega⟩, q⟩
    have fin : ∀ (S5 : mStore) (k ρ : Int), 1 ≤ k → (∀ j, j ≠ 90 → j ≠ 103 → S5 j = S3 j) → (∀ i, i ≠ 46 → 40 ≤ i → S5 90 i = S3 90 i) → S5 90 46 = D.1 0 6 + 1 → k = (numT b n 1 12 (goT b n T)).1 → (∀ i, S5 103 i = if i = D.1 0 6 then ρ else S2 103 i) → drR S5 (addG D.1 k ρ, D.2) := fun S5 k ρ hk fj fi f46 ek f103 => by
      have D2 := drR_mx (drR_mx hD f1) f2
      obtain ⟨a1, a2, a3, a4, a5, a6⟩ := D2
      have ej : ∀ j, j ≠ 90 → j ≠ 102 → j ≠ 103 → S5 j = S2 j := fun j j1 j2 j3 => by rw [fj j j1 j3, ← hS3, up_ne j3, up_ne j2]
      have ei : ∀ i, i ≠ 46 → 40 ≤ i → S5 90 i = S2 90 i := fun i i1 i2 => by rw [fi i i1 i2, ← hS3, up_ne (by decide), up_ne (by decide)]
      refine ⟨fun i i0 i7 => ?_, by rw [ei 47 (by decide) (by decide)]; exact a2, by rw [ei 48 (by decide) (by decide)]; exact a3, fun g h1 h2 => ?_, fun g i h1 h2 h3 h4 => ?_, by rw [ej 105 (by decide) (by decide) (by decide)]; exact a6⟩
      · show S5 90 (40 + i) = addG D.1 k ρ 0 i
        by_cases z : i = 6
        · rw [z, addG_06]; exact f46
        · rw [addG_0 _ _ _ z (by omega), ei _ (by omega) (by omega)]; exact a1 i i0 i7
      · have h2' : g < addG D.1 k ρ 0 6 := h2
        rw [addG_06] at h2'
        show S5 102 g = addG D.1 k ρ 1 g ∧ S5 103 g = addG D.1 k ρ 2 g
        rw [addG_1, addG_2, f103 g, fj 102 (by decide) (by decide), ← hS3, up_ne (by decide), up_at]
        by_cases z : g = D.1 0 6
        · rw [if_pos z, if_pos z, if_pos z, if_pos z, ek]; exact ⟨rfl, rfl⟩
        · rw [if_neg z, if_neg z, if_neg z, if_neg z]; exact a4 g h1 (by omega)
      · have q := plc_addG (ρ := ρ) oD hg hk (g := g) (i := i) ⟨h1, h2⟩ ⟨h3, h4⟩
        show S5 104 (12 * g + i) = drW (addG D.1 k ρ) D.2.2.2 g i ∧ S5 106 (12 * g + i) = drV (addG D.1 k ρ) D.2.2.2 g i
        rw [q.1, q.2, ej 104 (by decide) (by decide) (by decide), ej 106 (by decide) (by decide) (by decide)]
        exact a5 g i h1 h2 h3 h4
    have fr3 : drF S S3 := by rw [← hS3]; exact drF_tr (drF_mx f1) (drF_tr (drF_mx f2) (drF_tr (drF_up (by decide)) (drF_up (by decide))))
    have s103 : ∀ i, S3 103 i = if i = D.1 0 6 then 0 else S2 103 i := fun i => by rw [← hS3, up_at, up_ne (by decide)]
    by_cases k : (numT b n 1 12 (goT b n T)).2.2.1 = 0 ∧ tkK b n (numT b n 1 12 (goT b n T)).2.1 = 2
    · have eX : X = ((addG D.1 (numT b n 1 12 (goT b n T)).1 (numT b n 0 2 (numT b n 1 12 (goT b n T)).2).1, D.2), (numT b n 0 2 (numT b n 1 12 (goT b n T)).2).2) := by rw [hX]; unfold gsT; rw [if_pos k]
      subst eX
      obtain ⟨S4, g4, t4, f4⟩ := numM (sc := sc) h0 hn hb t3 (lo := 0) (hi := 2) (by decide) (by decide) (u := none)
      have e4 : up S4 103 (D.1 0 6) (numT b n 0 2 (numT b n 1 12 (goT b n T)).2).1 90 46 = D.1 0 6 := by rw [up_ne (by decide)]; exact (k46 f4).trans e3
      refine ⟨up (up S4 103 (D.1 0 6) (numT b n 0 2 (numT b n 1 12 (goT b n T)).2).1) 90 46 (D.1 0 6 + 1), st _ ?_, mdT_90 (mdT_up t4 (by decide)) (by decide), drF_tr fr3 (drF_tr (drF_mx f4) (drF_tr (drF_up (by decide)) (drF_90 (by decide)))), fun _ => fin _ _ _ (num_rg k.1).1 (fun j j1 j2 => by rw [up_ne j1, up_ne j2, f4.1 j j1]) (fun i i1 i2 => by rw [up_at, if_neg i1, up_ne (by decide), f4.2 i (by omega) (by omega) (by omega) (by omega) (by omega) (by omega) (by omega)]) (up_eq _ _ _ _) rfl (fun i => ?_)⟩
      · rw [t3.2.2.1, k.1, if_pos rfl, (t3.2.2.2.2.2 k.1).2.2.1, k.2, if_pos rfl]
        exact ⟨_, _, g4, ⟨by omega, by omega⟩, by rw [e4]⟩
      · rw [up_ne (by decide), up_at, f4.1 103 (by decide), s103]
        by_cases z : i = D.1 0 6
        · rw [if_pos z, if_pos z]
        · rw [if_neg z, if_neg z, if_neg z]
    · have eX : X = ((addG D.1 (numT b n 1 12 (goT b n T)).1 0, D.2), (numT b n 1 12 (goT b n T)).2) := by rw [hX]; unfold gsT; rw [if_neg k]
      subst eX
      refine ⟨up S3 90 46 (D.1 0 6 + 1), st _ ?_, mdT_90 t3 (by decide), drF_tr fr3 (drF_90 (by decide)), fun z => fin _ _ _ (num_rg z).1 (fun j j1 j2 => up_ne j1) (fun i i1 i2 => by rw [up_at, if_neg i1]) (up_eq _ _ _ _) rfl (fun i => by rw [up_ne (by decide)]; exact s103 i)⟩
      rw [t3.2.2.1]
      by_cases z : (numT b n 1 12 (goT b n T)).2.2.1 = 0
      · rw [z, if_pos rfl, (t3.2.2.2.2.2 z).2.2.1, if_neg (by rw [I_eq ⟨by omega, by omega⟩ ⟨by decide, by decide⟩]; exact fun q => k ⟨z, q⟩)]
      · rw [if_neg (by rw [I_eq ⟨by omega, by omega⟩ ⟨by decide, by decide⟩]; exact z)]
end
