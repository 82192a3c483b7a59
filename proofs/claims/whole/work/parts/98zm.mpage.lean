/-! ===== the reference's text: pages ===== -/
section
variable {sc : Nat × (Nat → Int32)} {SH : List mCell} {S : mStore} {b : Int → Int} {n : Int} {T : aT} {P : aP}
theorem pgT_po {b : Int → Int} {n : Int} {P : aP} {T : aT} (h : (numT b n 0 3 T).2.2.1 = 0) (h2 : (numT b n 0 3 T).1 < P 0 6) : (pgT b n P T).2 = poT b n (P 1 (numT b n 0 3 T).1) (numT b n 0 3 T).2 ∧ ((pgT b n P T).2.2.1 = 0 → (pgT b n P T).1 = ((numT b n 0 3 T).1, (numT b n 0 11 (numT b n 0 3 T).2).1, (numT b n 0 3 T).2.1)) := by
  constructor
  · unfold pgT poT
    rw [if_neg (fun q => q h), if_neg (by omega)]
    split
    · rfl
    · split <;> rfl
  · intro q
    rw [(pgT_ok q).2.2.2.2]
theorem pgHereM (h0 : sMod SH) (hn : 0 ≤ n ∧ n ≤ 700) (hb : ∀ i, 0 ≤ b i ∧ b i < 256) (h : mdT S b n T) (hf : T.2.1 = 0) {m : Int} (hm : m = P 0 6) (hm2 : 0 ≤ m ∧ m ≤ 4) (hx : ∀ g, 0 ≤ g → g < P 0 6 → S 102 g = P 1 g ∧ 0 ≤ P 1 g ∧ P 1 g ≤ 12) {u : Option Value} : ∃ v S', G sc MX11_pageHere 0 [some (.ref 90), some (.int (I m)), u] [] SH S (rI v SH S') ∧ mxF S S' ∧ ((pgT b n P T).2.2.1 ≠ 0 → v = -1 ∧ mdT S' b n (pgT b n P T).2) ∧ ((pgT b n P T).2.2.1 = 0 → v = 12 * (pgT b n P T).1.1 + (pgT b n P T).1.2.1 ∧ mdT S' b n (numT b n 0 3 T).2 ∧ (numT b n 0 3 T).2.2.1 = 0 ∧ goT b n (numT b n 0 3 T).2 = (pgT b n P T).2) := by
  have ht := h.2.2.2.2.2 hf
  have hT := h.2.2.2.2.1
  have hT1 := hT.1
  have hr := tk_rg b (n := n) hT.1.2
  have hv := tkV_rg (b := b) (n := n) hT.1.2
  by_cases c1 : tkK b n T.1 = 2
  case neg =>
    have en : numT b n 0 3 T = (0, failA 1 (tkS b n T.1) T) := by unfold numT; rw [if_neg (fun q => q hf), if_pos c1]
    have ez : (failA 1 (tkS b n T.1) T).2.1 ≠ 0 := by rw [failA_z hf]; dsimp only; decide
    have ep : pgT b n P T = ((0, 0, 0), failA 1 (tkS b n T.1) T) := by unfold pgT; rw [en, if_pos (by exact ez)]
    rw [ep]
    obtain ⟨S', g1, hc, fr⟩ := wants_no (sc := sc) h0 hn.2 h hf (k := 1) (by decide)
    refine ⟨-1, S', qX11_pageHere_0 h0 ?_, fr, fun _ => ⟨rfl, hc⟩, fun q => absurd q ez⟩
    rw [ht.2.2.1, if_neg (by rw [I_eq ⟨by omega, by omega⟩ ⟨by decide, by decide⟩]; exact c1)]
    refine ⟨_, _, g1, ?_⟩
    rw [if_pos rfl]
    exact qX11_pageHere_63 h0 rfl
  by_cases c2 : tkV b n T.1 ≤ 3
  case neg =>
    have en : numT b n 0 3 T = (0, failA 2 (tkS b n T.1) T) := by unfold numT; rw [if_neg (fun q => q hf), if_neg (fun q => q c1), if_neg (by omega)]
    have ez : (failA 2 (tkS b n T.1) T).2.1 ≠ 0 := by rw [failA_z hf]; dsimp only; decide
    have ep : pgT b n P T = ((0, 0, 0), failA 2 (tkS b n T.1) T) := by unfold pgT; rw [en, if_pos (by exact ez)]
    rw [ep]
    obtain ⟨S', g1, hc, fr⟩ := wants_no (sc := sc) h0 hn.2 h hf (k := 2) (by decide)
    refine ⟨-1, S', qX11_pageHere_0 h0 ?_, fr, fun _ => ⟨rfl, hc⟩, fun q => absurd q ez⟩
    rw [ht.2.2.1, c1, if_pos rfl]
    refine ⟨_, _, wants_yes h0 h hf, ?_⟩
    rw [if_neg (by decide), ht.2.2.2.1, if_pos (by rw [I_le ⟨by decide, by decide⟩ ⟨by omega, by omega⟩]; omega)]
    refine ⟨_, _, g1, ?_⟩
    rw [if_pos rfl]
    exact qX11_pageHere_63 h0 rfl
  have en : numT b n 0 3 T = (tkV b n T.1, goT b n T) := by unfold numT; rw [if_neg (fun q => q hf), if_neg (fun q => q c1), if_pos ⟨hv.1, c2⟩]
  have ezz : (goT b n T).2.1 = 0 := hf
  have st : ∀ r, G sc MX11_pageHere 56 [some (.ref 90), some (.int (I m)), u] [.int (I (if m ≤ tkV b n T.1 then 0 else 1)), .ref 90] SH S r → G sc MX11_pageHere 0 [some (.ref 90), some (.int (I m)), u] [] SH S r := fun r q => by
    refine qX11_pageHere_0 h0 ?_
    rw [ht.2.2.1, c1, if_pos rfl]
    refine ⟨_, _, wants_yes h0 h hf, ?_⟩
    rw [if_neg (by decide), ht.2.2.2.1, if_neg (by rw [I_le ⟨by decide, by decide⟩ ⟨by omega, by omega⟩]; omega)]
    refine ⟨_, _, wants_yes h0 h hf, ?_⟩
    rw [if_neg (by decide), ht.2.2.2.1]
    by_cases d : m ≤ tkV b n T.1
    · rw [if_pos d] at q
      rw [if_pos (by rw [I_le ⟨by omega, by omega⟩ ⟨by omega, by omega⟩]; exact d)]
      exact q
    · rw [if_neg d] at q
      rw [if_neg (by rw [I_le ⟨by omega, by omega⟩ ⟨by omega, by omega⟩]; exact d)]
      exact q
  by_cases d : m ≤ tkV b n T.1
  · rw [if_pos d] at st
    have ep : pgT b n P T = ((0, 0, 0), failA 3 (tkS b n T.1) (goT b n T)) := by unfold pgT; rw [en, if_neg (by exact fun q => q ezz), if_pos (by show P 0 6 ≤ tkV b n T.1; omega)]
    rw [ep, failA_z ezz]
    obtain ⟨S', g1, hc, fr⟩ := wants_no (sc := sc) h0 hn.2 h hf (k := 3) (by decide)
    rw [failA_z hf] at hc
    refine ⟨-1, S', st _ (qX11_pageHere_56 h0 ?_), fr, fun _ => ⟨rfl, mdT_pos hc (by dsimp only; decide) rfl ⟨by show 0 ≤ tkE b n T.1; omega, by show tkE b n T.1 ≤ n; omega⟩⟩, fun q => absurd q (by dsimp only; decide)⟩
    refine ⟨_, _, g1, ?_⟩
    rw [if_pos rfl]
    exact qX11_pageHere_63 h0 rfl
  rw [if_neg d] at st
  obtain ⟨S1, g1, c3, f1⟩ := goM (sc := sc) h0 hn hb h hf (u := none)
  have hxx := hx (tkV b n T.1) hv.1 (by omega)
  obtain ⟨v, S2, g2, f2, k1, k2⟩ := pageOfM (sc := sc) h0 hn c3 ezz (g := tkV b n T.1) (x := P 1 (tkV b n T.1)) ⟨by omega, by omega⟩ (by rw [f1.1 102 (by decide)]; exact hxx.1) hxx.2
  have hpo := pgT_po (b := b) (n := n) (P := P) (T := T) (by rw [en]; exact ezz) (by rw [en]; show tkV b n T.1 < P 0 6; omega)
  rw [en] at hpo
  refine ⟨v, S2, st _ (qX11_pageHere_56 h0 ?_), mxF_tr f1 f2, fun q => ?_, fun q => ?_⟩
  · refine ⟨_, _, wants_yes h0 h hf, ?_⟩
    rw [if_neg (by decide), ht.2.2.2.1]
    exact ⟨_, g1, _, _, g2, rfl⟩
  · rw [hpo.1] at q
    rw [hpo.1]
    exact k1 q
  · rw [hpo.2 q]
    have q2 := q
    rw [hpo.1] at q2
    obtain ⟨e1, e2, e3, e4, e5⟩ := k2 q2
    rw [en]
    refine ⟨e1, e2, ezz, ?_⟩
    rw [hpo.1]
    dsimp only
    rw [e5, (numT_ok e3).2.2.2]
end
