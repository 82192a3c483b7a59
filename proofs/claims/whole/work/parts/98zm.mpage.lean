/-! ===== the reference's text: pages ===== -/
section
variable {sc : Nat × (Nat → Int32)} {SH : List mCell} {S : mStore} {b : Int → Int} {n : Int} {T : aT} {P : aP}
theorem pgT_po {b : Int → Int} {n : Int} {P : aP} {T : aT} (h : (numT b n 0 3 T).2.2.1 = 0) (h2 : (numT b n 0 3 T).1 < P 0 6) : (pgT b n P T).2 = poT b n (P 1 (numT b n 0 3 T).1) (numT b n 0 3 T).2 ∧ ((pgT b n P T).2.2.1 = 0 → (pgT b n P T).1 = ((numT b n 0 3 T).1, (numT b n 0 11 (numT b n 0 3 T).2).1, (numT b n 0 3 T).2.1)) := by
  constructor
  · unfold pgT poT
    rw [if_neg (fun q => q h), if_neg (by omega)]
    split
    · rfl
    · split <;> rfl
  · intro q
    rw [(pgT_ok q).2.2.2.2]
theorem pgHereM (h0 : sMod SH) (hn : 0 ≤ n ∧ n ≤ 700) (hb : ∀ i, 0 ≤ b i ∧ b i < 256) (h : mdT S b n T) (hf : T.2.1 = 0) {m : Int} (hm : m = P 0 6) (hm2 : 0 ≤ m ∧ m ≤ 4) (hx : ∀ g, 0 ≤ g → g < P 0 6 → S 102 g = P 1 g ∧ 0 ≤ P 1 g ∧ P 1 g ≤ 12) {u : Option Value} : ∃ v S', G sc MX11_pageHere 0 [some (.ref 90), some (.int (I m)), u] [] SH S (rI v SH S') ∧ mxF S S' ∧ ((pgT b n P T).2.2.1 ≠ 0 → v = -1 ∧ mdT S' b n (pgT b n P T).2) ∧ ((pgT b n P T).2.2.1 = 0 → v = 12 * (pgT b n P T).1.1 + (pgT b n P T).1.2.1 ∧ mdT S' b n (numT b n 0 3 T).2 ∧ (numT b n 0 3 T).2.2.1 = 0 ∧ goT b n (numT b n 0 3 T).2 = (pgT b n P T).2) := by
  have ht := h.2.2.2.2.2 hf
  have hT := h.2.2.2.2.1
  have hT1 := hT.1
  have hr := tk_rg b (n := n) hT.1.2
  have hv := tkV_rg (b := b) (n := n) hT.1.2
  by_cases c1 : tkK b n T.1 = 2
  case neg =>
    have en : numT b n 0 3 T = (0, failA 1 (tkS b n T.1) T) := by unfold numT; rw [if_neg (fun q => q hf), if_pos c1]
    have ez : (failA 1 (tkS b n T.1) T).2.1 ≠ 0 := by rw [failA_z hf]; dsimp only; decide
    have ep : pgT b n P T = ((0, 0, 0), failA 1 (tkS b n T.1) T) := by unfold pgT; rw [en, if_pos (by exact ez)]
    rw [ep]
    obtain ⟨S', g1, hc, fr⟩ := wants_no (sc := sc) h0 hn.2 h hf (k := 1) (by decide)
    refine ⟨-1, S', qX11_pageHere_0 h0 ?_, fr, fun _ => ⟨rfl, hc⟩, fun q => absurd q ez⟩
    rw [ht.2.2.1, if_neg (by rw [I_eq ⟨by omega, by omega⟩ ⟨by decide, by decide⟩]; exact c1)]
    refine ⟨_, _, g1, ?_⟩
    rw [if_pos rfl]
    exact qX11_pageHere_63 h0 rfl
  by_cases c2 : tkV b n T.1 ≤ 3
  case neg =>
    have en : numT b n 0 3 T = (0, failA 2 (tkS b n T.1) T) := by unfold numT; rw [if_neg (fun q => q hf), if_neg (fun q => q c1), if_neg (by omega)]
    have ez : (failA 2 (tkS b n T.1) T).2.1 ≠ 0 := by rw [failA_z hf]; dsimp only; decide
    have ep : pgT b n P T = ((0, 0, 0), failA 2 (tkS b n T.1) T) := by unfold pgT; rw [en, if_pos (by exact ez)]
    rw [ep]
    obtain ⟨S', g1, hc, fr⟩ := wants_no (sc := sc) h0 hn.2 h hf (k := 2) (by decide)
    refine ⟨-1, S', qX11_pageHere_0 h0 ?_, fr, fun _ => ⟨rfl, hc⟩, fun q => absurd q ez⟩
    rw [ht.2.2.1, c1, if_pos rfl]
    refine ⟨_, _, wants_yes h0 h hf, ?_⟩
    rw [if_neg (by decide), ht.2.2.2.1, if_pos (by rw [I_le ⟨by decide, by decide⟩ ⟨by omega, by omega⟩]; omega)]
    refine ⟨_, _, g1, ?_⟩
    rw [if_pos rfl]
    exact qX11_pageHere_63 h0 rfl
  have en : numT b n 0 3 T = (tkV b n T.1, goT b n T) := by unfold numT; rw [if_neg (fun q => q hf), if_neg (fun q => q c1), if_pos ⟨hv.1, c2⟩]
  have ezz : (goT b n T).2.1 = 0 := hf
  have st : ∀ r, G sc MX11_pageHere 56 [some (.ref 90), some (.int (I m)), u] [.int (I (if m ≤ tkV b n T.1 then 0 else 1)), .ref 90] SH S r → G sc MX11_pageHere 0 [some (.ref 90), some (.int (I m)), u] [] SH S r := fun r q => by
    refine qX11_pageHere_0 h0 ?_
    rw [ht.2.2.1, c1, if_pos rfl]
    refine ⟨_, _, wants_yes h0 h hf, ?_⟩
    rw [if_neg (by decide), ht.2.2.2.1, if_neg (by rw [I_le ⟨by decide, by decide⟩ ⟨by omega, by omega⟩]; omega)]
    refine ⟨_, _, wants_yes h0 h hf, ?_⟩
    rw [if_neg (by decide), ht.2.2.2.1]
    by_cases d : m ≤ tkV b n T.1
    · rw [if_pos d] at q
      rw [if_pos (by rw [I_le ⟨by omega, by omega⟩ ⟨by omega, by omega⟩]; exact d)]
      exact q
    · rw [if_neg d] at q
      rw [if_neg (by rw [I_le ⟨by omega, by omega⟩ ⟨by omega, by omega⟩]; exact d)]
      exact q
  by_cases d : m ≤ tkV b n T.1
  · rw [if_pos d] at st
    have ep : pgT b n P T = ((0, 0, 0), failA 3 (tkS b n T.1) (goT b n T)) := by unfold pgT; rw [en, if_neg (by exact fun q => q ezz), if_pos (by show P 0 6 ≤ tkV b n T.1; omega)]
    rw [ep, failA_z ezz]
    obtain ⟨S', g1, hc, fr⟩ := wants_no (sc := sc) h0 hn.2 h hf (k := 3) (by decide)
    rw [failA_z hf] at hc
    refine ⟨-1, S', st _ (qX11_pageHere_56 h0 ?_), fr, fun _ => ⟨rfl, mdT_pos hc (by dsimp only; decide) rfl ⟨by show 0 ≤ tkE b n T.1; omega, by show tkE b n T.1 ≤ n; omega⟩⟩, fun q => absurd q (by dsimp only; decide)⟩
    refine ⟨_, _, g1, ?_⟩
    rw [if_pos rfl]
    exact qX11_pageHere_63 h0 rfl
  rw [if_neg d] at st
  obtain ⟨S1, g1, c3, f1⟩ := goM (sc := sc) h0 hn hb h hf (u := none)
  have hxx := hx (tkV b n T.1) hv.1 (by omega)
  obtain ⟨v, S2, g2, f2, k1, k2⟩ := pageOfM (sc := sc) h0 hn c3 ezz (g := tkV b n T.1) (x := P 1 (tkV b n T.1)) ⟨by omega, by omega⟩ (by rw [f1.1 102 (by decide)]; exact hxx.1) hxx.2
  have hpo := pgT_po (b := b) (n := n) (P := P) (T := T) (by rw [en]; exact ezz) (by rw [en]; show tkV b n T.1 < P 0 6; omega)
  rw [en] at hpo
  refine ⟨v, S2, st _ (qX11_pageHere_56 h0 ?_), mxF_tr f1 f2, fun q => ?_, fun q => ?_⟩
  · refine ⟨_, _, wants_yes h0 h hf, ?_⟩
    rw [if_neg (by decide), ht.2.2.2.1]
    exact ⟨_, g1, _, _, g2, rfl⟩
  · rw [hpo.1] at q
    rw [hpo.1]
    exact k1 q
  · rw [hpo.2 q]
    have q2 := q
    rw [hpo.1] at q2
    obtain ⟨e1, e2, e3, e4, e5⟩ := k2 q2
    rw [en]
    refine ⟨e1, e2, ezz, ?_⟩
    rw [hpo.1]
    dsimp only
    rw [e5, (numT_ok e3).2.2.2]
theorem pgThere2 (h0 : sMod SH) (hn : 0 ≤ n ∧ n ≤ 700) (hb : ∀ i, 0 ≤ b i ∧ b i < 256) (h : mdT S b n T) (hf : T.2.1 = 0) {g x y : Int} (hg : 0 ≤ g ∧ g < 4) (hx : S 95 g = x) (hxr : 0 ≤ x ∧ x ≤ 12) (hy : S 97 g = y) {u : Option Value} {Q : (mR × mW) → Prop} (hQ : ∀ v S', mxF S S' → mdT S' b n (poT b n x T) → ((poT b n x T).2.1 ≠ 0 → v = -1) → ((poT b n x T).2.1 = 0 → v = y + (numT b n 0 11 T).1) → Q (rI v SH S')) : ∃ r, Q r ∧ (if I (S 90 36) = I 2 then G sc MX11_pageThere 91 [some (.ref 90), some (.int (I g)), u] [.int (I 1), .ref 90] SH S r else G sc MX11_pageThere 91 [some (.ref 90), some (.int (I g)), u] [.int (I 0), .ref 90] SH S r) := by
  have ht := h.2.2.2.2.2 hf
  have hT := h.2.2.2.2.1
  have hT1 := hT.1
  have hr := tk_rg b (n := n) hT.1.2
  have hv := tkV_rg (b := b) (n := n) hT.1.2
  rw [ht.2.2.1]
  by_cases c1 : tkK b n T.1 = 2
  case neg =>
    have en : numT b n 0 11 T = (0, failA 1 (tkS b n T.1) T) := by unfold numT; rw [if_neg (fun q => q hf), if_pos c1]
    have ez : (failA 1 (tkS b n T.1) T).2.1 ≠ 0 := by rw [failA_z hf]; dsimp only; decide
    have ep : poT b n x T = failA 1 (tkS b n T.1) T := by unfold poT; rw [en, if_pos (by exact ez)]
    rw [ep] at hQ
    obtain ⟨S', g1, hc, fr⟩ := wants_no (sc := sc) h0 hn.2 h hf (k := 1) (by decide)
    refine ⟨_, hQ (-1) S' fr hc (fun _ => rfl) (fun q => absurd q ez), ?_⟩
    rw [if_neg (by rw [I_eq ⟨by omega, by omega⟩ ⟨by decide, by decide⟩]; exact c1)]
    refine qX11_pageThere_91 h0 ⟨_, _, g1, ?_⟩
    rw [if_pos rfl]
    exact qX11_pageThere_146 h0 rfl
  suffices w : ∃ r, Q r ∧ G sc MX11_pageThere 91 [some (.ref 90), some (.int (I g)), u] [.int (I 1), .ref 90] SH S r by
    obtain ⟨r, w1, w2⟩ := w
    exact ⟨r, w1, by rw [if_pos (by rw [c1])]; exact w2⟩
  by_cases c2 : tkV b n T.1 ≤ 11
  case neg =>
    have en : numT b n 0 11 T = (0, failA 2 (tkS b n T.1) T) := by unfold numT; rw [if_neg (fun q => q hf), if_neg (fun q => q c1), if_neg (by omega)]
    have ez : (failA 2 (tkS b n T.1) T).2.1 ≠ 0 := by rw [failA_z hf]; dsimp only; decide
    have ep : poT b n x T = failA 2 (tkS b n T.1) T := by unfold poT; rw [en, if_pos (by exact ez)]
    rw [ep] at hQ
    obtain ⟨S', g1, hc, fr⟩ := wants_no (sc := sc) h0 hn.2 h hf (k := 2) (by decide)
    refine ⟨_, hQ (-1) S' fr hc (fun _ => rfl) (fun q => absurd q ez), ?_⟩
    refine qX11_pageThere_91 h0 ⟨_, _, wants_yes h0 h hf, ?_⟩
    rw [if_neg (by decide), ht.2.2.2.1, if_pos (by rw [I_le ⟨by decide, by decide⟩ ⟨by omega, by omega⟩]; omega)]
    refine qX11_pageThere_113 h0 ⟨_, _, g1, ?_⟩
    rw [if_pos rfl]
    exact qX11_pageThere_146 h0 rfl
  have en : numT b n 0 11 T = (tkV b n T.1, goT b n T) := by unfold numT; rw [if_neg (fun q => q hf), if_neg (fun q => q c1), if_pos ⟨hv.1, c2⟩]
  have ezz : (goT b n T).2.1 = 0 := hf
  have st : ∀ r, G sc MX11_pageThere 139 [some (.ref 90), some (.int (I g)), u] [.int (I (if x ≤ tkV b n T.1 then 0 else 1)), .ref 90] SH S r → G sc MX11_pageThere 91 [some (.ref 90), some (.int (I g)), u] [.int (I 1), .ref 90] SH S r := fun r q => by
    refine qX11_pageThere_91 h0 ⟨_, _, wants_yes h0 h hf, ?_⟩
    rw [if_neg (by decide), ht.2.2.2.1, if_neg (by rw [I_le ⟨by decide, by decide⟩ ⟨by omega, by omega⟩]; omega)]
    refine qX11_pageThere_113 h0 ⟨_, _, wants_yes h0 h hf, ?_⟩
    rw [if_neg (by decide), hx, ht.2.2.2.1]
    refine ⟨hg, ?_⟩
    by_cases d : x ≤ tkV b n T.1
    · rw [if_pos d] at q
      rw [if_pos (by rw [I_le ⟨by omega, by omega⟩ ⟨by omega, by omega⟩]; exact d)]
      exact q
    · rw [if_neg d] at q
      rw [if_neg (by rw [I_le ⟨by omega, by omega⟩ ⟨by omega, by omega⟩]; exact d)]
      exact q
  by_cases d : x ≤ tkV b n T.1
  · rw [if_pos d] at st
    have ep : poT b n x T = (tkE b n T.1, 3, tkS b n T.1) := by unfold poT; rw [en, if_neg (by exact fun q => q ezz), if_pos (by exact d), failA_z (by exact ezz)]; rfl
    rw [ep] at hQ
    obtain ⟨S', g1, hc, fr⟩ := wants_no (sc := sc) h0 hn.2 h hf (k := 3) (by decide)
    rw [failA_z hf] at hc
    refine ⟨_, hQ (-1) S' fr (mdT_pos hc (by dsimp only; decide) rfl ⟨by show 0 ≤ tkE b n T.1; omega, by show tkE b n T.1 ≤ n; omega⟩) (fun _ => rfl) (fun q => absurd q (by dsimp only; decide)), st _ (qX11_pageThere_139 h0 ⟨_, _, g1, ?_⟩)⟩
    rw [if_pos rfl]
    exact qX11_pageThere_146 h0 rfl
  · rw [if_neg d] at st
    have ep : poT b n x T = goT b n T := by unfold poT; rw [en, if_neg (by exact fun q => q ezz), if_neg (by exact d)]
    obtain ⟨S1, g1, c3, f1⟩ := goM (sc := sc) h0 hn hb h hf (u := none)
    rw [ep, en] at hQ
    refine ⟨_, hQ (y + tkV b n T.1) S1 f1 c3 (fun q => absurd ezz q) (fun _ => rfl), st _ (qX11_pageThere_139 h0 ⟨_, _, wants_yes h0 h hf, ?_⟩)⟩
    rw [if_neg (by decide), hy, ht.2.2.2.1]
    exact ⟨⟨by omega, by omega⟩, _, g1, rfl⟩
theorem pgThereM (h0 : sMod SH) (hn : 0 ≤ n ∧ n ≤ 700) (hb : ∀ i, 0 ≤ b i ∧ b i < 256) (h : mdT S b n T) (hp : modP S P) (hP : wfP P) {u1 u2 : Option Value} : ∃ S', G sc MX11_pageThere 0 [some (.ref 90), u1, u2] [] SH S (rI (if (pgT b n P T).2.2.1 = 0 then plc P (pgT b n P T).1.1 (pgT b n P T).1.2.1 else -1) SH S') ∧ mxF S S' ∧ mdT S' b n (pgT b n P T).2 := by
  have hP6 := hP.2.2.2.2.1
  have e18 : S 90 18 = P 0 6 := hp.1 6 (by decide) (by decide)
  by_cases hf : T.2.1 = 0
  case neg =>
    rw [pgT_bad hf, if_neg (show ¬ (((0 : Int), (0 : Int), (0 : Int)), T).2.2.1 = 0 from hf)]
    refine ⟨S, qX11_pageThere_0 h0 ?_, mxF_rf S, h⟩
    by_cases c : I (S 90 36) = I 2
    · rw [if_pos c]
      refine ⟨_, _, wants_bad h0 h hf, ?_⟩
      rw [if_pos rfl]
      exact qX11_pageThere_66 h0 rfl
    · rw [if_neg c]
      refine ⟨_, _, wants_bad h0 h hf, ?_⟩
      rw [if_pos rfl]
      exact qX11_pageThere_66 h0 rfl
  have ht := h.2.2.2.2.2 hf
  have hT := h.2.2.2.2.1
  have hT1 := hT.1
  have hr := tk_rg b (n := n) hT.1.2
  have hv := tkV_rg (b := b) (n := n) hT.1.2
  by_cases c1 : tkK b n T.1 = 2
  case neg =>
    have en : numT b n 0 3 T = (0, failA 1 (tkS b n T.1) T) := by unfold numT; rw [if_neg (fun q => q hf), if_pos c1]
    have ez : (failA 1 (tkS b n T.1) T).2.1 ≠ 0 := by rw [failA_z hf]; dsimp only; decide
    have ep : pgT b n P T = ((0, 0, 0), failA 1 (tkS b n T.1) T) := by unfold pgT; rw [en, if_pos (by exact ez)]
    rw [ep]
    obtain ⟨S', g1, hc, fr⟩ := wants_no (sc := sc) h0 hn.2 h hf (k := 1) (by decide)
    refine ⟨S', qX11_pageThere_0 h0 ?_, fr, hc⟩
    rw [ht.2.2.1, if_neg (by rw [I_eq ⟨by omega, by omega⟩ ⟨by decide, by decide⟩]; exact c1), if_neg (by exact ez)]
    refine ⟨_, _, g1, ?_⟩
    rw [if_pos rfl]
    exact qX11_pageThere_66 h0 rfl
  by_cases c2 : tkV b n T.1 ≤ 3
  case neg =>
    have en : numT b n 0 3 T = (0, failA 2 (tkS b n T.1) T) := by unfold numT; rw [if_neg (fun q => q hf), if_neg (fun q => q c1), if_neg (by omega)]
    have ez : (failA 2 (tkS b n T.1) T).2.1 ≠ 0 := by rw [failA_z hf]; dsimp only; decide
    have ep : pgT b n P T = ((0, 0, 0), failA 2 (tkS b n T.1) T) := by unfold pgT; rw [en, if_pos (by exact ez)]
    rw [ep]
    obtain ⟨S', g1, hc, fr⟩ := wants_no (sc := sc) h0 hn.2 h hf (k := 2) (by decide)
    refine ⟨S', qX11_pageThere_0 h0 ?_, fr, hc⟩
    rw [ht.2.2.1, c1, if_pos rfl, if_neg (by exact ez)]
    refine ⟨_, _, wants_yes h0 h hf, ?_⟩
    rw [if_neg (by decide), ht.2.2.2.1, if_pos (by rw [I_le ⟨by decide, by decide⟩ ⟨by omega, by omega⟩]; omega)]
    refine ⟨_, _, g1, ?_⟩
    rw [if_pos rfl]
    exact qX11_pageThere_66 h0 rfl
  have en : numT b n 0 3 T = (tkV b n T.1, goT b n T) := by unfold numT; rw [if_neg (fun q => q hf), if_neg (fun q => q c1), if_pos ⟨hv.1, c2⟩]
  have ezz : (goT b n T).2.1 = 0 := hf
  have st : ∀ r, G sc MX11_pageThere 59 [some (.ref 90), u1, u2] [.int (I (if P 0 6 ≤ tkV b n T.1 then 0 else 1)), .ref 90] SH S r → G sc MX11_pageThere 0 [some (.ref 90), u1, u2] [] SH S r := fun r q => by
    refine qX11_pageThere_0 h0 ?_
    rw [ht.2.2.1, c1, if_pos rfl]
    refine ⟨_, _, wants_yes h0 h hf, ?_⟩
    rw [if_neg (by decide), ht.2.2.2.1, if_neg (by rw [I_le ⟨by decide, by decide⟩ ⟨by omega, by omega⟩]; omega)]
    refine ⟨_, _, wants_yes h0 h hf, ?_⟩
    rw [if_neg (by decide), ht.2.2.2.1, e18]
    by_cases d : P 0 6 ≤ tkV b n T.1
    · rw [if_pos d] at q
      rw [if_pos (by rw [I_le ⟨by omega, by omega⟩ ⟨by omega, by omega⟩]; exact d)]
      exact q
    · rw [if_neg d] at q
      rw [if_neg (by rw [I_le ⟨by omega, by omega⟩ ⟨by omega, by omega⟩]; exact d)]
      exact q
  by_cases d : P 0 6 ≤ tkV b n T.1
  · rw [if_pos d] at st
    have ep : pgT b n P T = ((0, 0, 0), failA 3 (tkS b n T.1) (goT b n T)) := by unfold pgT; rw [en, if_neg (by exact fun q => q ezz), if_pos (by exact d)]
    rw [ep, failA_z ezz, if_neg (by dsimp only; decide)]
    obtain ⟨S', g1, hc, fr⟩ := wants_no (sc := sc) h0 hn.2 h hf (k := 3) (by decide)
    rw [failA_z hf] at hc
    refine ⟨S', st _ (qX11_pageThere_59 h0 ⟨_, _, g1, ?_⟩), fr, mdT_pos hc (by dsimp only; decide) rfl ⟨by show 0 ≤ tkE b n T.1; omega, by show tkE b n T.1 ≤ n; omega⟩⟩
    rw [if_pos rfl]
    exact qX11_pageThere_66 h0 rfl
  rw [if_neg d] at st
  obtain ⟨S1, g1, c3, f1⟩ := goM (sc := sc) h0 hn hb h hf (u := none)
  have hw := hP.2.2.2.2.2.2.1 (tkV b n T.1) hv.1 (by omega)
  have hpo := pgT_po (b := b) (n := n) (P := P) (T := T) (by rw [en]; exact ezz) (by rw [en]; show tkV b n T.1 < P 0 6; omega)
  rw [en] at hpo
  obtain ⟨r, ⟨v, S2, e, f2, m2, k1, k2⟩, g2⟩ := pgThere2 (sc := sc) h0 hn hb c3 ezz (g := tkV b n T.1) (x := P 1 (tkV b n T.1)) (y := P 3 (tkV b n T.1)) ⟨by omega, by omega⟩ (by rw [f1.1 95 (by decide)]; exact hp.2.1 _ hv.1 (by omega)) (by omega) (by rw [f1.1 97 (by decide)]; exact hp.2.2.2.1 _ hv.1 (by omega)) (u := u2) (Q := fun r => ∃ v S2, r = rI v SH S2 ∧ mxF S1 S2 ∧ mdT S2 b n (poT b n (P 1 (tkV b n T.1)) (goT b n T)) ∧ ((poT b n (P 1 (tkV b n T.1)) (goT b n T)).2.1 ≠ 0 → v = -1) ∧ ((poT b n (P 1 (tkV b n T.1)) (goT b n T)).2.1 = 0 → v = P 3 (tkV b n T.1) + (numT b n 0 11 (goT b n T)).1)) (fun v S' a1 a2 a3 a4 => ⟨v, S', rfl, a1, a2, a3, a4⟩)
  subst e
  have ev : v = if (pgT b n P T).2.2.1 = 0 then plc P (pgT b n P T).1.1 (pgT b n P T).1.2.1 else -1 := by
    by_cases q : (pgT b n P T).2.2.1 = 0
    · rw [if_pos q]
      have ok := pgT_ok q
      have q2 := q
      rw [hpo.1] at q2
      rw [k2 q2]
      rw [hpo.2 q] at ok
      rw [hpo.2 q]
      unfold plc
      rw [if_pos ⟨⟨ok.2.1.1.1, ok.2.1.1.2.1⟩, ok.2.1.2.1, ok.2.1.2.2.1⟩]
    · rw [if_neg q]
      rw [hpo.1] at q
      exact k1 q
  refine ⟨S2, st _ (qX11_pageThere_59 h0 ⟨_, _, wants_yes h0 h hf, ?_⟩), mxF_tr f1 f2, by rw [hpo.1]; exact m2⟩
  rw [if_neg (by decide), ht.2.2.2.1, ← ev]
  exact ⟨_, g1, g2⟩
end
