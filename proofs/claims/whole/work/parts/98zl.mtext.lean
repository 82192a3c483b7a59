/-! ===== the reference's text ===== -/
def mdT (S : mStore) (b : Int → Int) (n : Int) (T : aT) : Prop := S 90 35 = n ∧ tapM S b n ∧ S 90 39 = T.2.1 ∧ S 90 26 = T.2.2 ∧ okX n T ∧ (T.2.1 = 0 → tokM S b n T.1)
/-- only where the text is has changed -/
abbrev mxF (S S' : mStore) : Prop := (∀ j, j ≠ 90 → S' j = S j) ∧ (∀ f, f ≠ 26 → f ≠ 33 → f ≠ 34 → f ≠ 36 → f ≠ 37 → f ≠ 38 → f ≠ 39 → S' 90 f = S 90 f)
theorem mxF_rf (S : mStore) : mxF S S := ⟨fun _ _ => rfl, fun _ _ _ _ _ _ _ _ => rfl⟩
theorem mxF_tr {S S1 S2 : mStore} (h : mxF S S1) (h2 : mxF S1 S2) : mxF S S2 := ⟨fun j hj => (h2.1 j hj).trans (h.1 j hj), fun f a1 a2 a3 a4 a5 a6 a7 => (h2.2 f a1 a2 a3 a4 a5 a6 a7).trans (h.2 f a1 a2 a3 a4 a5 a6 a7)⟩
section
variable {sc : Nat × (Nat → Int32)} {SH : List mCell} {S : mStore} {b : Int → Int} {n : Int} {T : aT} {P : aP}
theorem mdT_far (h : mdT S b n T) {S' : mStore} (h1 : ∀ f, f = 26 ∨ (33 ≤ f ∧ f ≤ 39) → S' 90 f = S 90 f) (h2 : S' 99 = S 99) : mdT S' b n T := by
  unfold mdT tapM tokM at *
  rw [h1 26 (by decide), h1 35 (by decide), h1 39 (by decide), h1 33 (by decide), h1 34 (by decide), h1 36 (by decide), h1 37 (by decide), h1 38 (by decide), h2]
  exact h
/-- behind a fault it does not matter where the text is -/
theorem mdT_pos (h : mdT S b n T) {U : aT} (hf : T.2.1 ≠ 0) (h2 : U.2 = T.2) (hU : 0 ≤ U.1 ∧ U.1 ≤ n) : mdT S b n U := by
  unfold mdT okX at *
  rw [h2]
  exact ⟨h.1, h.2.1, h.2.2.1, h.2.2.2.1, ⟨hU, h.2.2.2.2.1.2⟩, fun q => absurd q hf⟩
theorem wants_bad (h0 : sMod SH) (h : mdT S b n T) (hf : T.2.1 ≠ 0) {c k : Int} : G sc MX11_wants 0 [some (.ref 90), some (.int (I c)), some (.int (I k))] [] SH S (rI 0 SH S) := by
  have hr := h.2.2.2.2.1.2.1
  have hz : ¬ I (S 90 39) = I 0 := by rw [h.2.2.1, I_eq ⟨by omega, by omega⟩ ⟨by decide, by decide⟩]; exact hf
  refine qX11_wants_0 h0 ?_
  rw [if_neg hz, if_neg hz]
  exact ⟨.inl rfl, rfl⟩
theorem wants_yes (h0 : sMod SH) (h : mdT S b n T) (hf : T.2.1 = 0) {k : Int} : G sc MX11_wants 0 [some (.ref 90), some (.int (I 1)), some (.int (I k))] [] SH S (rI 1 SH S) := by
  refine qX11_wants_0 h0 ?_
  rw [h.2.2.1, hf, if_pos rfl, if_neg (by decide), if_pos rfl]
  exact ⟨.inr rfl, rfl⟩
theorem wants_no (h0 : sMod SH) (hn : n ≤ 700) (h : mdT S b n T) (hf : T.2.1 = 0) {k : Int} (hk : 1 ≤ k ∧ k ≤ 5) : ∃ S', G sc MX11_wants 0 [some (.ref 90), some (.int (I 0)), some (.int (I k))] [] SH S (rI 0 SH S') ∧ mdT S' b n (failA k (tkS b n T.1) T) ∧ mxF S S' := by
  have ht := h.2.2.2.2.2 hf
  have hT := h.2.2.2.2.1
  have hT1 := hT.1
  have hr := tk_rg b (n := n) hT.1.2
  refine ⟨up (up S 90 39 k) 90 26 (tkS b n T.1), qX11_wants_0 h0 ?_, ?_, fun j hj => by rw [up_ne hj, up_ne hj], fun f a1 _ _ _ _ _ a7 => by rw [up_at, if_neg a1, up_at, if_neg a7]⟩
  · rw [h.2.2.1, hf, if_pos rfl, if_pos rfl]
    have e : up S 90 39 k 90 34 = tkS b n T.1 := by rw [up_at, if_neg (by decide)]; exact ht.2.1
    rw [e]
    have e2 : up (up S 90 39 k) 90 26 (tkS b n T.1) 90 39 = k := by rw [up_at, if_neg (by decide), up_eq]
    rw [e2, if_neg (by rw [I_eq ⟨by omega, by omega⟩ ⟨by decide, by decide⟩]; omega)]
    exact ⟨.inl rfl, rfl⟩
  · rw [failA_z hf]
    refine ⟨by rw [up_at, if_neg (by decide), up_at, if_neg (by decide)]; exact h.1, fun i p q => by rw [up_ne (by decide), up_ne (by decide)]; exact h.2.1 i p q, by rw [up_at, if_neg (by decide), up_eq], by rw [up_eq], ⟨hT.1, by show 0 ≤ k ∧ k ≤ 5; omega, by show -1 ≤ tkS b n T.1 ∧ tkS b n T.1 ≤ 700; omega⟩, fun q => ?_⟩
    have q' : k = 0 := q
    omega
theorem goM (h0 : sMod SH) (hn : 0 ≤ n ∧ n ≤ 700) (hb : ∀ i, 0 ≤ b i ∧ b i < 256) (h : mdT S b n T) (hf : T.2.1 = 0) {u : Option Value} : ∃ S', G sc MX11_go 0 [some (.ref 90), u] [] SH S (rV SH S') ∧ mdT S' b n (goT b n T) ∧ mxF S S' := by
  have ht := h.2.2.2.2.2 hf
  have hT := h.2.2.2.2.1
  have hT1 := hT.1
  have hr := tk_rg b (n := n) hT.1.2
  obtain ⟨S', g, tk, ef, ej⟩ := go_ok (sc := sc) h0 hn hb h.1 ht.1 ⟨by omega, by omega⟩ h.2.1 (u := u)
  exact ⟨S', g, ⟨by rw [ef 35 (by decide) (by decide) (by decide) (by decide) (by decide)]; exact h.1, fun i p q => by rw [ej 99 (by decide)]; exact h.2.1 i p q, by rw [ef 39 (by decide) (by decide) (by decide) (by decide) (by decide)]; exact h.2.2.1, by rw [ef 26 (by decide) (by decide) (by decide) (by decide) (by decide)]; exact h.2.2.2.1, ok_go hT, fun _ => tk⟩, ej, fun f _ a2 a3 a4 a5 a6 _ => ef f a2 a3 a4 a5 a6⟩
theorem numM (h0 : sMod SH) (hn : 0 ≤ n ∧ n ≤ 700) (hb : ∀ i, 0 ≤ b i ∧ b i < 256) (h : mdT S b n T) {lo hi : Int} (hlo : 0 ≤ lo ∧ lo ≤ 9998) (hhi : 0 ≤ hi ∧ hi ≤ 9998) {u : Option Value} : ∃ S', G sc MX11_number 0 [some (.ref 90), some (.int (I lo)), some (.int (I hi)), u] [] SH S (rI (numT b n lo hi T).1 SH S') ∧ mdT S' b n (numT b n lo hi T).2 ∧ mxF S S' := by
  by_cases hf : T.2.1 = 0
  case neg =>
    rw [numT_bad hf]
    refine ⟨S, qX11_number_0 h0 ?_, h, mxF_rf S⟩
    by_cases c : I (S 90 36) = I 2
    · rw [if_pos c]
      refine ⟨_, _, wants_bad h0 h hf, ?_⟩
      rw [if_pos rfl]
    · rw [if_neg c]
      refine ⟨_, _, wants_bad h0 h hf, ?_⟩
      rw [if_pos rfl]
  have ht := h.2.2.2.2.2 hf
  have hT := h.2.2.2.2.1
  have hr := tk_rg b (n := n) hT.1.2
  have hv := tkV_rg (b := b) (n := n) hT.1.2
  unfold numT
  rw [if_neg (fun q => q hf)]
  by_cases c1 : tkK b n T.1 = 2
  · rw [if_neg (fun q => q c1)]
    by_cases c2 : lo ≤ tkV b n T.1 ∧ tkV b n T.1 ≤ hi
    · rw [if_pos c2]
      obtain ⟨S', g, hc, fr⟩ := goM (sc := sc) h0 hn hb h hf (u := none)
      refine ⟨S', qX11_number_0 h0 ?_, hc, fr⟩
      rw [ht.2.2.1, c1, if_pos rfl]
      refine ⟨_, _, wants_yes h0 h hf, ?_⟩
      rw [if_neg (by decide), ht.2.2.2.1]
      refine ⟨_, _, within_ok ⟨by omega, by omega⟩ ⟨by omega, by omega⟩ ⟨by omega, by omega⟩, ?_⟩
      rw [if_pos c2]
      refine ⟨_, _, wants_yes h0 h hf, ?_⟩
      rw [if_neg (by decide), ht.2.2.2.1]
      exact ⟨_, g, rfl⟩
    · rw [if_neg c2]
      obtain ⟨S', g, hc, fr⟩ := wants_no (sc := sc) h0 hn.2 h hf (k := 2) (by decide)
      refine ⟨S', qX11_number_0 h0 ?_, hc, fr⟩
      rw [ht.2.2.1, c1, if_pos rfl]
      refine ⟨_, _, wants_yes h0 h hf, ?_⟩
      rw [if_neg (by decide), ht.2.2.2.1]
      refine ⟨_, _, within_ok ⟨by omega, by omega⟩ ⟨by omega, by omega⟩ ⟨by omega, by omega⟩, ?_⟩
      rw [if_neg c2]
      refine ⟨_, _, g, ?_⟩
      rw [if_pos rfl]
  · rw [if_pos c1]
    obtain ⟨S', g, hc, fr⟩ := wants_no (sc := sc) h0 hn.2 h hf (k := 1) (by decide)
    refine ⟨S', qX11_number_0 h0 ?_, hc, fr⟩
    rw [ht.2.2.1, if_neg (by rw [I_eq ⟨by omega, by omega⟩ ⟨by decide, by decide⟩]; exact c1)]
    refine ⟨_, _, g, ?_⟩
    rw [if_pos rfl]
theorem endM (h0 : sMod SH) (hn : 0 ≤ n ∧ n ≤ 700) (hb : ∀ i, 0 ≤ b i ∧ b i < 256) (h : mdT S b n T) : ∃ S', G sc MX11_ends 0 [some (.ref 90)] [] SH S (rV SH S') ∧ mdT S' b n (endT b n T) ∧ mxF S S' := by
  have hT := h.2.2.2.2.1
  have hf5 := hT.2.1
  unfold endT
  by_cases hf : T.2.1 = 0
  case neg =>
    rw [if_pos hf]
    refine ⟨S, qX11_ends_0 h0 ?_, h, mxF_rf S⟩
    rw [h.2.2.1, if_neg (by rw [I_eq ⟨by omega, by omega⟩ ⟨by decide, by decide⟩]; exact hf)]
  have ht := h.2.2.2.2.2 hf
  have hr := tk_rg b (n := n) hT.1.2
  rw [if_neg (fun q => q hf)]
  by_cases c : tkK b n T.1 = 3
  · rw [if_pos c]
    obtain ⟨S', g, hc, fr⟩ := goM (sc := sc) h0 hn hb h hf (u := none)
    refine ⟨S', qX11_ends_0 h0 ?_, hc, fr⟩
    rw [h.2.2.1, hf, if_pos rfl, ht.2.2.1, c, if_pos rfl]
    refine ⟨_, _, wants_yes h0 h hf, ?_⟩
    rw [if_neg (by decide)]
    exact ⟨_, g, rfl⟩
  · rw [if_neg c]
    obtain ⟨S', g, hc, fr⟩ := wants_no (sc := sc) h0 hn.2 h hf (k := 1) (by decide)
    refine ⟨S', qX11_ends_0 h0 ?_, hc, fr⟩
    rw [h.2.2.1, hf, if_pos rfl, ht.2.2.1, if_neg (by rw [I_eq ⟨by omega, by omega⟩ ⟨by decide, by decide⟩]; exact c)]
    refine ⟨_, _, g, ?_⟩
    rw [if_pos rfl]
/-- a page's number behind its guest's -/
def poT (b : Int → Int) (n x : Int) (T : aT) : aT := if (numT b n 0 11 T).2.2.1 ≠ 0 then (numT b n 0 11 T).2 else if x ≤ (numT b n 0 11 T).1 then failA 3 (tkS b n T.1) (numT b n 0 11 T).2 else (numT b n 0 11 T).2
theorem pageOfM (h0 : sMod SH) (hn : 0 ≤ n ∧ n ≤ 700) (h : mdT S b n T) (hf : T.2.1 = 0) {g x : Int} (hg : 0 ≤ g ∧ g < 4) (hx : S 102 g = x) (hxr : 0 ≤ x ∧ x ≤ 12) : ∃ v S', G sc MX11_pageOf 0 [some (.ref 90), some (.int (I g))] [] SH S (rI v SH S') ∧ mxF S S' ∧ ((poT b n x T).2.1 ≠ 0 → v = -1 ∧ mdT S' b n (poT b n x T)) ∧ ((poT b n x T).2.1 = 0 → v = 12 * g + (numT b n 0 11 T).1 ∧ mdT S' b n T ∧ (numT b n 0 11 T).2.2.1 = 0 ∧ (numT b n 0 11 T).1 < x ∧ poT b n x T = (numT b n 0 11 T).2) := by
  have ht := h.2.2.2.2.2 hf
  have hT := h.2.2.2.2.1
  have hT1 := hT.1
  have hr := tk_rg b (n := n) hT.1.2
  have hv := tkV_rg (b := b) (n := n) hT.1.2
  unfold poT
  by_cases c1 : tkK b n T.1 = 2
  case neg =>
    have en : numT b n 0 11 T = (0, failA 1 (tkS b n T.1) T) := by unfold numT; rw [if_neg (fun q => q hf), if_pos c1]
    have ez : (failA 1 (tkS b n T.1) T).2.1 ≠ 0 := by rw [failA_z hf]; dsimp only; decide
    rw [en, if_pos (by exact ez)]
    obtain ⟨S', g1, hc, fr⟩ := wants_no (sc := sc) h0 hn.2 h hf (k := 1) (by decide)
    refine ⟨-1, S', qX11_pageOf_0 h0 ?_, fr, fun _ => ⟨rfl, hc⟩, fun q => absurd q ez⟩
    rw [ht.2.2.1, if_neg (by rw [I_eq ⟨by omega, by omega⟩ ⟨by decide, by decide⟩]; exact c1)]
    refine ⟨_, _, g1, ?_⟩
    rw [if_pos rfl]
    exact qX11_pageOf_69 h0 rfl
  by_cases c2 : tkV b n T.1 ≤ 11
  case neg =>
    have en : numT b n 0 11 T = (0, failA 2 (tkS b n T.1) T) := by unfold numT; rw [if_neg (fun q => q hf), if_neg (fun q => q c1), if_neg (by omega)]
    have ez : (failA 2 (tkS b n T.1) T).2.1 ≠ 0 := by rw [failA_z hf]; dsimp only; decide
    rw [en, if_pos (by exact ez)]
    obtain ⟨S', g1, hc, fr⟩ := wants_no (sc := sc) h0 hn.2 h hf (k := 2) (by decide)
    refine ⟨-1, S', qX11_pageOf_0 h0 ?_, fr, fun _ => ⟨rfl, hc⟩, fun q => absurd q ez⟩
    rw [ht.2.2.1, c1, if_pos rfl]
    refine ⟨_, _, wants_yes h0 h hf, ?_⟩
    rw [if_neg (by decide), ht.2.2.2.1, if_pos (by rw [I_le ⟨by decide, by decide⟩ ⟨by omega, by omega⟩]; omega)]
    refine ⟨_, _, g1, ?_⟩
    rw [if_pos rfl]
    exact qX11_pageOf_69 h0 rfl
  have en : numT b n 0 11 T = (tkV b n T.1, goT b n T) := by unfold numT; rw [if_neg (fun q => q hf), if_neg (fun q => q c1), if_pos ⟨hv.1, c2⟩]
  have ez : ¬ (goT b n T).2.1 ≠ 0 := fun q => q hf
  rw [en, if_neg (by exact ez)]
  have st : ∀ r, G sc MX11_pageOf 62 [some (.ref 90), some (.int (I g))] [.int (I (if x ≤ tkV b n T.1 then 0 else 1)), .ref 90] SH S r → G sc MX11_pageOf 0 [some (.ref 90), some (.int (I g))] [] SH S r := fun r q => by
    refine qX11_pageOf_0 h0 ?_
    rw [ht.2.2.1, c1, if_pos rfl]
    refine ⟨_, _, wants_yes h0 h hf, ?_⟩
    rw [if_neg (by decide), ht.2.2.2.1, if_neg (by rw [I_le ⟨by decide, by decide⟩ ⟨by omega, by omega⟩]; omega)]
    refine ⟨_, _, wants_yes h0 h hf, ?_⟩
    rw [if_neg (by decide), hx, ht.2.2.2.1]
    refine ⟨hg, ?_⟩
    by_cases d : x ≤ tkV b n T.1
    · rw [if_pos d] at q
      rw [if_pos (by rw [I_le ⟨by omega, by omega⟩ ⟨by omega, by omega⟩]; exact d)]
      exact q
    · rw [if_neg d] at q
      rw [if_neg (by rw [I_le ⟨by omega, by omega⟩ ⟨by omega, by omega⟩]; exact d)]
      exact q
  dsimp only
  by_cases d : x ≤ tkV b n T.1
  · rw [if_pos d] at *
    have ezz : (goT b n T).2.1 = 0 := hf
    rw [failA_z ezz]
    obtain ⟨S', g1, hc, fr⟩ := wants_no (sc := sc) h0 hn.2 h hf (k := 3) (by decide)
    rw [failA_z hf] at hc
    refine ⟨-1, S', st _ (qX11_pageOf_62 h0 ?_), fr, fun _ => ⟨rfl, mdT_pos hc (by dsimp only; decide) rfl ⟨by show 0 ≤ tkE b n T.1; omega, by show tkE b n T.1 ≤ n; omega⟩⟩, fun q => absurd q (by dsimp only; decide)⟩
    refine ⟨_, _, g1, ?_⟩
    rw [if_pos rfl]
    exact qX11_pageOf_69 h0 rfl
  · rw [if_neg d] at *
    refine ⟨12 * g + tkV b n T.1, S, st _ (qX11_pageOf_62 h0 ?_), mxF_rf S, fun q => absurd hf q, fun _ => ⟨rfl, h, hf, by omega, rfl⟩⟩
    refine ⟨_, _, wants_yes h0 h hf, ?_⟩
    rw [if_neg (by decide), ht.2.2.2.1]
end
