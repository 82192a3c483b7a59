/-! ===== knot (reference), like (both) ===== -/
/-- from a page on, how many are like one; the i-th is told -/
def lkA (P : aP) (A : aS) (pl i : Int) : Nat → Int → Int → aO
  | 0, _, m => if i = -1 then .inl m else .inr 0
  | n + 1, q, m => if q = pl ∨ cellsA A q ≠ cellsA A pl then lkA P A pl i n (q + 1) m else if m = i then .inl (lab P q) else lkA P A pl i n (q + 1) (m + 1)
def likeF (W : aW) (g p i : Int) : aO := if plc W.1 g p = -1 then .inr 0 else lkA W.1 W.2.1.1 (plc W.1 g p) i (W.1 0 7).toNat 0 0
theorem lkA_exc {P : aP} {A : aS} {pl i : Int} : ∀ {n : Nat} {q m : Int} {k : Nat}, lkA P A pl i n q m = .inr k → k = 0
  | 0, q, m, k, h => by
    unfold lkA at h
    by_cases c : i = -1
    · rw [if_pos c] at h; cases h
    · rw [if_neg c] at h; cases h; rfl
  | n + 1, q, m, k, h => by
    unfold lkA at h
    split at h
    · exact lkA_exc h
    · split at h
      · cases h
      · exact lkA_exc h
/-- an answer, or NoSuchElement -/
def rE (o : aO) (SH : List mCell) (S : mStore) : mR × mW := match o with
  | .inl v => rI v SH S
  | .inr _ => rX 0 (SH ++ [mO (12 + 0) []]) S
section
variable {sc : Nat × (Nat → Int32)} {SH : List mCell} {F : Nat → Nat → Option Nat} {S : mStore} {e : Nat} {W : aW} {N : Int} {P : aP} {A : aS}
theorem CL_rE {M : mM} {ls : List (Option Value)} {o : aO} (h : clR SH F e S W) (ho : ∀ k, o = .inr k → k = 0) (g : G sc M 0 ls [] SH S (rE o SH S)) : CL sc M ls SH F e S o W := by
  cases o with
  | inl v => exact CL_val h g
  | inr k => rw [ho k rfl]; exact CL_exc h g
theorem like_lp (g0 : sGP SH) (g1 : sState SH 17) (g2 : sPlan SH 1) (hp : planR S 1 P) (hP : wfP P) (hs : stateR S 17 A) (hA : wfA P A) {a b i pl : Int} (hi : rg i) (hpl : 0 ≤ pl ∧ pl < P 0 7) : ∀ (n : Nat) (q m : Int), q + n = P 0 7 → 0 ≤ q → 0 ≤ m → m ≤ q → G sc MX10_like 28 [some (.ref 0), some (.int (I a)), some (.int (I b)), some (.int (I i)), some (.int (I pl)), some (.int (I (cellsA A pl))), some (.int (I m)), some (.int (I q))] [] SH S (rE (lkA P A pl i n q m) SH S)
  | 0, q, m, hq, h0, hm, hm2 => by
    have hP7 := hP.2.2.2.2.2.1
    refine qX10_like_28 g0 ?_
    rw [show S 1 7 = P 0 7 from hp.1 7 (by omega) (by omega), if_pos (by rw [I_le ⟨by omega, by omega⟩ ⟨by omega, by omega⟩]; omega)]
    unfold lkA
    by_cases c : i = -1
    · rw [if_pos c, if_pos (by rw [c])]; exact .inl ⟨_, mustBe_yes, rfl⟩
    · rw [if_neg c, if_neg (by rw [I_eq hi ⟨by decide, by decide⟩]; exact c)]; exact .inr ⟨_, _, _, mustBe_no rfl, rfl⟩
  | n + 1, q, m, hq, h0, hm, hm2 => by
    have hP7 := hP.2.2.2.2.2.1
    refine qX10_like_28 g0 ?_
    rw [show S 1 7 = P 0 7 from hp.1 7 (by omega) (by omega), if_neg (by rw [I_le ⟨by omega, by omega⟩ ⟨by omega, by omega⟩]; omega)]
    unfold lkA
    by_cases c1 : q = pl
    · rw [if_pos (show q = pl ∨ cellsA A q ≠ cellsA A pl from .inl c1), if_pos (by rw [c1])]
      exact like_lp g0 g1 g2 hp hP hs hA hi hpl n (q + 1) m (by omega) (by omega) hm (by omega)
    rw [if_neg (by rw [I_eq ⟨by omega, by omega⟩ ⟨by omega, by omega⟩]; exact c1)]
    have r1 := cellsA_rg hA q
    have r2 := cellsA_rg hA pl
    refine ⟨_, _, cells_ok g1 hs hA ⟨by omega, by omega⟩, ?_⟩
    by_cases c2 : cellsA A q = cellsA A pl
    · rw [if_neg (show ¬(q = pl ∨ cellsA A q ≠ cellsA A pl) from fun z => z.elim c1 (fun z => z c2)), if_pos (by rw [c2])]
      by_cases c3 : m = i
      · rw [if_pos c3, if_pos (by rw [c3])]
        exact ⟨_, _, label_ok g2 hp hP ⟨by omega, by omega⟩, rfl⟩
      · rw [if_neg c3, if_neg (by rw [I_eq ⟨by omega, by omega⟩ hi]; exact c3)]
        exact like_lp g0 g1 g2 hp hP hs hA hi hpl n (q + 1) (m + 1) (by omega) (by omega) (by omega) (by omega)
    · rw [if_pos (show q = pl ∨ cellsA A q ≠ cellsA A pl from .inr c2), if_neg (by rw [I_eq ⟨by omega, by omega⟩ ⟨by omega, by omega⟩]; exact c2)]
      exact like_lp g0 g1 g2 hp hP hs hA hi hpl n (q + 1) m (by omega) (by omega) hm (by omega)
theorem like_cl (h : clR SH F e S W) (hW : wfW W) {g p i : Int} (hg : rg g) (hq : rg p) (hi : rg i) {u4 u5 u6 u7 : Option Value} : CL sc MX10_like [some (.ref 0), some (.int (I g)), some (.int (I p)), some (.int (I i)), u4, u5, u6, u7] SH F e S (likeF W g p i) W := by
  obtain ⟨g0, g1, g2, hp, hs⟩ := clS h
  have hP := hW.1
  have hA := hW.2.1.1
  have hP7 := hP.2.2.2.2.2.1
  unfold likeF
  by_cases c1 : plc W.1 g p = -1
  · rw [if_pos c1]
    exact CL_exc h (qX10_like_0 g0 (.inr ⟨_, _, _, pl_no g0 hp hP hg hq c1, rfl⟩))
  rw [if_neg c1]
  have hr := plc_rg hP c1
  exact CL_rE h (fun k => lkA_exc) (qX10_like_0 g0 (.inl ⟨_, _, pl_ok g0 hp hP hg hq c1, _, _, cells_ok g1 hs hA ⟨by omega, by omega⟩, like_lp g0 g1 g2 hp hP hs hA hi hr.2.2.2 _ 0 0 (by omega) (by omega) (by omega) (by omega)⟩))
theorem nb_ext {v w : Int} (hv : 0 ≤ v ∧ v < 65536) (hw : 0 ≤ w ∧ w < 65536) (h : ∀ c, 0 ≤ c → c < 4 → nb v (12 - 4 * c) = nb w (12 - 4 * c)) : v = w := by
  have h0 := h 0 (by decide) (by decide)
  have h1 := h 1 (by decide) (by decide)
  have h2 := h 2 (by decide) (by decide)
  have h3 := h 3 (by decide) (by decide)
  rw [show (12 : Int) - 4 * 0 = 12 by decide, nb12 hv, nb12 hw] at h0
  rw [show (12 : Int) - 4 * 1 = 8 by decide, nb8 hv, nb8 hw] at h1
  rw [show (12 : Int) - 4 * 2 = 4 by decide, nb4 hv, nb4 hw] at h2
  rw [show (12 : Int) - 4 * 3 = 0 by decide, nb0 hv, nb0 hw] at h3
  omega
theorem areLike_lp (h0 : sMod SH) (hr : refR S 0 A N) (hA : wfA P A) {p q : Int} (hp : 0 ≤ p ∧ p < 48) (hq : 0 ≤ q ∧ q < 48) : ∀ (n : Nat) (c : Int), c + n = 4 → 0 ≤ c → (∀ d, 0 ≤ d → d < c → nb (cellsA A p) (12 - 4 * d) = nb (cellsA A q) (12 - 4 * d)) → G sc MX11_areLike 2 [some (.ref 90), some (.int (I p)), some (.int (I q)), some (.int (I c))] [] SH S (rI (if cellsA A p = cellsA A q then 1 else 0) SH S)
  | 0, c, hc, hc0, he => by
    refine qX11_areLike_2 h0 ?_
    rw [if_pos (by rw [I_le ⟨by decide, by decide⟩ ⟨by omega, by omega⟩]; omega), if_pos (nb_ext (cellsA_rg hA p) (cellsA_rg hA q) (fun d h1 h2 => he d h1 (by omega)))]
    exact ⟨.inr rfl, rfl⟩
  | n + 1, c, hc, hc0, he => by
    refine qX11_areLike_2 h0 ?_
    rw [if_neg (by rw [I_le ⟨by decide, by decide⟩ ⟨by omega, by omega⟩]; omega)]
    refine ⟨_, _, rcell_ok h0 ⟨by decide, by decide⟩ hr hA hp ⟨hc0, by omega⟩, _, _, rcell_ok h0 ⟨by decide, by decide⟩ hr hA hq ⟨hc0, by omega⟩, ?_⟩
    have r1 := nb_rg (cellsA A p) (12 - 4 * c)
    have r2 := nb_rg (cellsA A q) (12 - 4 * c)
    by_cases c1 : nb (cellsA A p) (12 - 4 * c) = nb (cellsA A q) (12 - 4 * c)
    · rw [if_pos (by rw [c1])]
      refine areLike_lp h0 hr hA hp hq n (c + 1) (by omega) (by omega) (fun d h1 h2 => ?_)
      by_cases e : d = c
      · rw [e]; exact c1
      · exact he d h1 (by omega)
    · rw [if_neg (by rw [I_eq ⟨by omega, by omega⟩ ⟨by omega, by omega⟩]; exact c1), if_neg (fun q => c1 (by rw [q]))]
      exact ⟨.inl rfl, rfl⟩
theorem areLike_ok (h0 : sMod SH) (hr : refR S 0 A N) (hA : wfA P A) {p q : Int} (hp : 0 ≤ p ∧ p < 48) (hq : 0 ≤ q ∧ q < 48) {u : Option Value} : G sc MX11_areLike 0 [some (.ref 90), some (.int (I p)), some (.int (I q)), u] [] SH S (rI (if cellsA A p = cellsA A q then 1 else 0) SH S) :=
  qX11_areLike_0 h0 (areLike_lp h0 hr hA hp hq 4 0 (by decide) (by decide) (fun d h1 h2 => by omega))
/-- an answer, or that something was thrown -/
def rT (o : aO) (SH : List mCell) (S : mStore) : mR × mW := match o with
  | .inl v => rI v SH S
  | .inr _ => rI 0 SH (up S 90 4 1)
theorem MD_rT {M : mM} {ls : List (Option Value)} {o : aO} {y : Int} (hW : wfW W) (h : mdR S N W) (ho : ∀ k, o = .inr k → k = 0) (g : G sc M 0 ls [] SH S (rT o SH (up S 90 4 0))) : MD sc M ls SH S N y o W := by
  cases o with
  | inl v => exact MD_val hW h g
  | inr k => rw [ho k rfl]; exact MD_exc hW h g
theorem rlike_lp (h0 : sMod SH) (hm : modP S P) (ht : S 90 4 = 0) (hP : wfP P) (hr : refR S 0 A N) (hA : wfA P A) {a b i pl : Int} (hi : rg i) (hpl : 0 ≤ pl ∧ pl < P 0 7) : ∀ (n : Nat) (q m : Int), q + n = P 0 7 → 0 ≤ q → 0 ≤ m → m ≤ q → G sc MX11_like 32 [some (.ref 90), some (.int (I a)), some (.int (I b)), some (.int (I i)), some (.int (I pl)), some (.int (I m)), some (.int (I q))] [] SH S (rT (lkA P A pl i n q m) SH S)
  | 0, q, m, hq, h0', hm0, hm2 => by
    have hP7 := hP.2.2.2.2.2.1
    refine qX11_like_32 h0 ?_
    rw [show S 90 19 = P 0 7 from hm.1 7 (by omega) (by omega), if_pos (by rw [I_le ⟨by omega, by omega⟩ ⟨by omega, by omega⟩]; omega)]
    unfold lkA
    by_cases c : i = -1
    · rw [if_pos c, if_pos (by rw [c])]
      refine ⟨_, _, right_yes h0 ht, ?_⟩
      rw [if_neg (by decide)]; rfl
    · rw [if_neg c, if_neg (by rw [I_eq hi ⟨by decide, by decide⟩]; exact c)]
      refine ⟨_, _, right_no h0 ht (.inl rfl), ?_⟩
      rw [if_pos rfl]; rfl
  | n + 1, q, m, hq, h0', hm0, hm2 => by
    have hP7 := hP.2.2.2.2.2.1
    refine qX11_like_32 h0 ?_
    rw [show S 90 19 = P 0 7 from hm.1 7 (by omega) (by omega), if_neg (by rw [I_le ⟨by omega, by omega⟩ ⟨by omega, by omega⟩]; omega)]
    unfold lkA
    by_cases c1 : q = pl
    · rw [if_pos (show q = pl ∨ cellsA A q ≠ cellsA A pl from .inl c1), if_pos (by rw [c1])]
      exact rlike_lp h0 hm ht hP hr hA hi hpl n (q + 1) m (by omega) (by omega) hm0 (by omega)
    rw [if_neg (by rw [I_eq ⟨by omega, by omega⟩ ⟨by omega, by omega⟩]; exact c1)]
    refine ⟨_, _, areLike_ok h0 hr hA ⟨by omega, by omega⟩ ⟨by omega, by omega⟩, ?_⟩
    by_cases c2 : cellsA A q = cellsA A pl
    · rw [if_neg (show ¬(q = pl ∨ cellsA A q ≠ cellsA A pl) from fun z => z.elim c1 (fun z => z c2)), if_pos c2.symm, if_neg (by decide)]
      by_cases c3 : m = i
      · rw [if_pos c3, if_pos (by rw [c3])]
        exact ⟨_, _, told_ok h0 hm hP ⟨by omega, by omega⟩, rfl⟩
      · rw [if_neg c3, if_neg (by rw [I_eq ⟨by omega, by omega⟩ hi]; exact c3)]
        exact rlike_lp h0 hm ht hP hr hA hi hpl n (q + 1) (m + 1) (by omega) (by omega) (by omega) (by omega)
    · rw [if_pos (show q = pl ∨ cellsA A q ≠ cellsA A pl from .inr c2), if_neg (show ¬(cellsA A pl = cellsA A q) from fun z => c2 z.symm), if_pos rfl]
      exact rlike_lp h0 hm ht hP hr hA hi hpl n (q + 1) m (by omega) (by omega) hm0 (by omega)
theorem like_md (h0 : sMod SH) (hW : wfW W) (h : mdR S N W) {g p i y : Int} (hg : rg g) (hp : rg p) (hi : rg i) {u4 u5 u6 : Option Value} : MD sc MX11_like [some (.ref 90), some (.int (I g)), some (.int (I p)), some (.int (I i)), u4, u5, u6] SH S N y (likeF W g p i) W := by
  have ht : up S 90 4 0 90 4 = 0 := up_eq _ _ _ _
  obtain ⟨hm, hr⟩ := mdS (x := 0) hW h
  have hP := hW.1
  have hP7 := hP.2.2.2.2.2.1
  unfold likeF
  by_cases c1 : plc W.1 g p = -1
  · rw [if_pos c1]
    refine MD_exc (v := 0) hW h (qX11_like_0 h0 ⟨_, _, isP_no h0 hm hP ht hg hp c1, ?_⟩)
    rw [if_pos rfl]
  rw [if_neg c1]
  have hpr := plc_rg hP c1
  have h97 := tr97 hP h c1 hm
  refine MD_rT hW h (fun k => lkA_exc) (qX11_like_0 h0 ⟨_, _, isP_yes h0 hm hP ht hg hp c1, ?_⟩)
  rw [if_neg (by decide), h97.1]
  exact ⟨⟨h97.2.1, h97.2.2⟩, rlike_lp h0 hm ht hP hr hW.2.1.1 hi hpr.2.2.2 _ 0 0 (by omega) (by omega) (by omega) (by omega)⟩
end
