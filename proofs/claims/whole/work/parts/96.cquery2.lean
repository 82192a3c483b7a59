/-! ===== the class: frame, chain, knot, like, ideal ===== -/
/-- what lies at a place of a list that an int names -/
def nthI (l : List Int) (i : Int) : Int := if 0 ≤ i ∧ i < l.length then nthL l i.toNat else -1
theorem nthL_mem : ∀ {l : List Int} {k : Nat}, k < l.length → nthL l k ∈ l
  | [], _, h => absurd h (Nat.not_lt_zero _)
  | x :: _, 0, _ => List.mem_cons_self ..
  | _ :: t, k + 1, h => List.mem_cons_of_mem _ (nthL_mem (l := t) (by simpa using h))
theorem nthL_far : ∀ {l : List Int} {k : Nat}, l.length ≤ k → nthL l k = -1
  | [], _, _ => rfl
  | _ :: _, 0, h => absurd h (by simp)
  | _ :: t, k + 1, h => nthL_far (l := t) (by simpa using h)
def frameF (W : aW) (f i : Int) : aO := if ¬(0 ≤ f ∧ f < W.1 0 0) then .inr 0 else if i = -1 then .inl (W.2.1.1.L f).length else if ¬(0 ≤ i ∧ i < (W.2.1.1.L f).length) then .inr 0 else .inl (lab W.1 (nthL (W.2.1.1.L f) i.toNat))
def chainF (W : aW) (f i : Int) : aO := if ¬(0 ≤ f ∧ f < W.1 0 0) then .inr 0 else if W.2.1.1.k f = -1 then .inr 0 else if i = -1 then .inl (W.2.1.1.C (W.2.1.1.k f)).length else if ¬(0 ≤ i ∧ i < (W.2.1.1.C (W.2.1.1.k f)).length) then .inr 0 else .inl (nthL (W.2.1.1.C (W.2.1.1.k f)) i.toNat)
def idealF (W : aW) (x : Int) : aO := if x = 0 then .inl (fewA W.1 W.2.1.1) else if x = 1 then .inl (usedA W.1 W.2.1.1 - fewA W.1 W.2.1.1) else if x = 2 then .inl (riskA W.1 W.2.1.1) else .inr 0
section
variable {sc : Nat × (Nat → Int32)} {SH : List mCell} {F : Nat → Nat → Option Nat} {S : mStore} {e : Nat} {W : aW}
theorem rnthI {o i n f : Nat} {L : Int → List Int} {w : Int → Int} (h0 : sRows SH o i n f) (hw : wfR L w) (hr : rowsR S i n f L w) {row k : Int} (hrow : 0 ≤ row ∧ row < 48) (hk : rg k) (hl : (L row).length ≤ 48) {u u' : Option Value} : G sc MX6_nth 0 [some (.ref o), some (.int (I row)), some (.int (I k)), u, u'] [] SH S (rI (nthI (L row) k) SH S) := by
  unfold nthI
  by_cases c : 0 ≤ k ∧ k < 48
  · have q := rnth_ok (sc := sc) (u := u) (u' := u') h0 hw hr hrow c
    by_cases d : 0 ≤ k ∧ k < (L row).length
    · rw [if_pos d]; exact q
    · rw [if_neg d]
      rw [nthL_far (by omega)] at q
      exact q
  · rw [if_neg (by omega)]
    exact rnth_no h0 hk (by omega) ⟨by omega, by omega⟩
theorem frame_cl (h : clR SH F e S W) (hW : wfW W) {f i : Int} (hf : rg f) (hi : rg i) {u : Option Value} : CL sc MX10_frame [some (.ref 0), some (.int (I f)), some (.int (I i)), u] SH F e S (frameF W f i) W := by
  obtain ⟨g0, g1, g2, hp, hs⟩ := clS h
  obtain ⟨hP, hB, hT⟩ := hW
  have hA := hB.1
  have hP0 := hP.1
  have hf1 := hf.1
  have hf2 := hf.2
  have hi1 := hi.1
  have hi2 := hi.2
  have e0 : S 1 0 = W.1 0 0 := hp.1 0 (by omega) (by omega)
  unfold frameF
  by_cases c1 : 0 ≤ f ∧ f < W.1 0 0
  · rw [if_neg (fun q => q c1)]
    have hlen := hA.2.2.2.2.2.2.2.1 f
    have hP1 := hP.2.1
    have st : ∀ r, (if I i = I (-1) then (∃ v S1, G sc MX6_sizeOf 0 [some (.ref (17 + 1)), some (.int (I f)), none, none] [] SH S (rI v SH S1) ∧ r = rI v SH S1) else (∃ v S1, G sc MX6_nth 0 [some (.ref (17 + 1)), some (.int (I f)), some (.int (I i)), none, none] [] SH S (rI v SH S1) ∧ (if I v = I (-1) then ((∃ S2, G sc MX10_mustBe 0 [some (.int (I 0))] [] SH S1 (rV SH S2) ∧ (∃ v2 S3, G sc MX5_labelOf 0 [some (.ref 1), some (.int (I v)), none] [] SH S2 (rI v2 SH S3) ∧ r = rI v2 SH S3)) ∨ (∃ e SH1 S2, G sc MX10_mustBe 0 [some (.int (I 0))] [] SH S1 (rX e SH1 S2) ∧ r = rX e SH1 S2)) else ((∃ S2, G sc MX10_mustBe 0 [some (.int (I 1))] [] SH S1 (rV SH S2) ∧ (∃ v2 S3, G sc MX5_labelOf 0 [some (.ref 1), some (.int (I v)), none] [] SH S2 (rI v2 SH S3) ∧ r = rI v2 SH S3)) ∨ (∃ e SH1 S2, G sc MX10_mustBe 0 [some (.int (I 1))] [] SH S1 (rX e SH1 S2) ∧ r = rX e SH1 S2))))) → G sc MX10_frame 0 [some (.ref 0), some (.int (I f)), some (.int (I i)), u] [] SH S r := by
      intro r g
      refine qX10_frame_0 g0 ?_
      rw [e0, if_neg (by rw [I_lt hf ⟨by omega, by omega⟩]; omega), if_neg (by rw [I_le ⟨by omega, by omega⟩ hf]; omega)]
      exact .inl ⟨_, mustBe_yes, g⟩
    by_cases c2 : i = -1
    · rw [if_pos c2]
      refine CL_val h (st _ ?_)
      rw [c2, if_pos rfl]
      exact ⟨_, _, rsize_ok g1.2.1 hA.1 hs.1 ⟨by omega, by omega⟩, rfl⟩
    rw [if_neg c2]
    have q := rnthI (sc := sc) (u := none) (u' := none) g1.2.1 hA.1 hs.1 (row := f) ⟨by omega, by omega⟩ hi (by omega)
    by_cases c3 : 0 ≤ i ∧ i < (W.2.1.1.L f).length
    · rw [if_neg (fun q => q c3)]
      refine CL_val h (st _ ?_)
      unfold nthI at q
      rw [if_pos c3] at q
      have hm : nthL (W.2.1.1.L f) i.toNat ∈ W.2.1.1.L f := nthL_mem (by omega)
      have hw := (hA.1.2.1 _ _).mp hm
      have hpp := hA.2.2.2.2.1 (nthL (W.2.1.1.L f) i.toNat) (by rw [hw.2.2]; omega)
      have hP7 := hP.2.2.2.2.2.1
      rw [if_neg (by rw [I_eq hi ⟨by omega, by omega⟩]; exact c2)]
      refine ⟨_, _, q, ?_⟩
      rw [if_neg (by rw [I_eq ⟨by omega, by omega⟩ ⟨by omega, by omega⟩]; omega)]
      exact .inl ⟨_, mustBe_yes, _, _, label_ok g2 hp hP ⟨by omega, by omega⟩, rfl⟩
    · rw [if_pos c3]
      refine CL_exc h (st _ ?_)
      unfold nthI at q
      rw [if_neg c3] at q
      rw [if_neg (by rw [I_eq hi ⟨by omega, by omega⟩]; exact c2)]
      refine ⟨_, _, q, ?_⟩
      rw [if_pos rfl]
      exact .inr ⟨_, _, _, mustBe_no rfl, rfl⟩
  · rw [if_pos c1]
    refine CL_exc h (qX10_frame_0 g0 ?_)
    rw [e0]
    by_cases c2 : f < 0
    · rw [if_pos (by rw [I_lt hf ⟨by omega, by omega⟩]; omega)]
      exact .inr ⟨_, _, _, mustBe_no rfl, rfl⟩
    · rw [if_neg (by rw [I_lt hf ⟨by omega, by omega⟩]; omega), if_pos (by rw [I_le ⟨by omega, by omega⟩ hf]; omega)]
      exact .inr ⟨_, _, _, mustBe_no rfl, rfl⟩
theorem chain_cl (h : clR SH F e S W) (hW : wfW W) {f i : Int} (hf : rg f) (hi : rg i) {u u' : Option Value} : CL sc MX10_chain [some (.ref 0), some (.int (I f)), some (.int (I i)), u, u'] SH F e S (chainF W f i) W := by
  obtain ⟨g0, g1, g2, hp, hs⟩ := clS h
  obtain ⟨hP, hB, hT⟩ := hW
  have hA := hB.1
  have hP0 := hP.1
  have hf1 := hf.1
  have hf2 := hf.2
  have hi1 := hi.1
  have hi2 := hi.2
  have e0 : S 1 0 = W.1 0 0 := hp.1 0 (by omega) (by omega)
  unfold chainF
  by_cases c1 : 0 ≤ f ∧ f < W.1 0 0
  · rw [if_neg (fun q => q c1)]
    have ek : S (17 + 6) f = W.2.1.1.k f := hs.2.1.1 f (by omega) (by omega)
    have hkr := hA.2.1.2.2 f
    have st : ∀ r, (if I (W.2.1.1.k f) = I (-1) then G sc MX10_chain 49 [some (.ref 0), some (.int (I f)), some (.int (I i)), some (.int (I (W.2.1.1.k f))), u'] [.int (I 0)] SH S r else G sc MX10_chain 49 [some (.ref 0), some (.int (I f)), some (.int (I i)), some (.int (I (W.2.1.1.k f))), u'] [.int (I 1)] SH S r) → G sc MX10_chain 0 [some (.ref 0), some (.int (I f)), some (.int (I i)), u, u'] [] SH S r := by
      intro r g
      refine qX10_chain_0 g0 ?_
      rw [e0, if_neg (by rw [I_lt hf ⟨by omega, by omega⟩]; omega), if_neg (by rw [I_le ⟨by omega, by omega⟩ hf]; omega)]
      refine .inl ⟨_, mustBe_yes, ⟨by omega, by omega⟩, ?_⟩
      rw [ek]
      exact g
    by_cases c2 : W.2.1.1.k f = -1
    · rw [if_pos c2]
      refine CL_exc h (st _ ?_)
      rw [c2, if_pos rfl]
      exact qX10_chain_49 g0 (.inr ⟨_, _, _, mustBe_no rfl, rfl⟩)
    rw [if_neg c2]
    have st2 : ∀ r, (if I i = I (-1) then (∃ v S1, G sc MX6_sizeOf 0 [some (.ref (17 + 5)), some (.int (I (W.2.1.1.k f))), none, none] [] SH S (rI v SH S1) ∧ r = rI v SH S1) else (∃ v S1, G sc MX6_nth 0 [some (.ref (17 + 5)), some (.int (I (W.2.1.1.k f))), some (.int (I i)), none, none] [] SH S (rI v SH S1) ∧ (if I v = I (-1) then G sc MX10_chain 100 [some (.ref 0), some (.int (I f)), some (.int (I i)), some (.int (I (W.2.1.1.k f))), some (.int (I v))] [.int (I 0)] SH S1 r else G sc MX10_chain 100 [some (.ref 0), some (.int (I f)), some (.int (I i)), some (.int (I (W.2.1.1.k f))), some (.int (I v))] [.int (I 1)] SH S1 r))) → G sc MX10_chain 0 [some (.ref 0), some (.int (I f)), some (.int (I i)), u, u'] [] SH S r := by
      intro r g
      refine st r ?_
      rw [if_neg (by rw [I_eq ⟨by omega, by omega⟩ ⟨by omega, by omega⟩]; exact c2)]
      exact qX10_chain_49 g0 (.inl ⟨_, mustBe_yes, g⟩)
    have hk48 : 0 ≤ W.2.1.1.k f ∧ W.2.1.1.k f < 48 := by omega
    have hlen := wf_len hA.2.1 (W.2.1.1.k f)
    by_cases c3 : i = -1
    · rw [if_pos c3]
      refine CL_val h (st2 _ ?_)
      rw [c3, if_pos rfl]
      exact ⟨_, _, rsize_ok g1.2.2.1 hA.2.1 hs.2.1 hk48, rfl⟩
    rw [if_neg c3]
    have q := rnthI (sc := sc) (u := none) (u' := none) g1.2.2.1 hA.2.1 hs.2.1 (row := W.2.1.1.k f) hk48 hi (by omega)
    by_cases c4 : 0 ≤ i ∧ i < (W.2.1.1.C (W.2.1.1.k f)).length
    · rw [if_neg (fun q => q c4)]
      refine CL_val h (st2 _ ?_)
      unfold nthI at q
      rw [if_pos c4] at q
      have hm : nthL (W.2.1.1.C (W.2.1.1.k f)) i.toNat ∈ W.2.1.1.C (W.2.1.1.k f) := nthL_mem (by omega)
      have hb := wf_bd hA.2.1 hm
      rw [if_neg (by rw [I_eq hi ⟨by omega, by omega⟩]; exact c3)]
      refine ⟨_, _, q, ?_⟩
      rw [if_neg (by rw [I_eq ⟨by omega, by omega⟩ ⟨by omega, by omega⟩]; omega)]
      exact qX10_chain_100 g0 (.inl ⟨_, mustBe_yes, rfl⟩)
    · rw [if_pos c4]
      refine CL_exc h (st2 _ ?_)
      unfold nthI at q
      rw [if_neg c4] at q
      rw [if_neg (by rw [I_eq hi ⟨by omega, by omega⟩]; exact c3)]
      refine ⟨_, _, q, ?_⟩
      rw [if_pos rfl]
      exact qX10_chain_100 g0 (.inr ⟨_, _, _, mustBe_no rfl, rfl⟩)
  · rw [if_pos c1]
    refine CL_exc h (qX10_chain_0 g0 ?_)
    rw [e0]
    by_cases c2 : f < 0
    · rw [if_pos (by rw [I_lt hf ⟨by omega, by omega⟩]; omega)]
      exact .inr ⟨_, _, _, mustBe_no rfl, rfl⟩
    · rw [if_neg (by rw [I_lt hf ⟨by omega, by omega⟩]; omega), if_pos (by rw [I_le ⟨by omega, by omega⟩ hf]; omega)]
      exact .inr ⟨_, _, _, mustBe_no rfl, rfl⟩
theorem ideal_cl (h : clR SH F e S W) (hW : wfW W) {x : Int} (hx : rg x) : CL sc MX10_ideal [some (.ref 0), some (.int (I x))] SH F e S (idealF W x) W := by
  obtain ⟨g0, g1, g2, hp, hs⟩ := clS h
  obtain ⟨hP, hB, hT⟩ := hW
  have hA := hB.1
  have r0 : rg 0 := ⟨by decide, by decide⟩
  unfold idealF
  by_cases d : x = 0
  · rw [if_pos d]; exact CL_val h (qX10_ideal_0 g0 (swp_at 0 hx r0 (by omega) rfl ⟨_, _, few_ok g1 hp hP hs hA, rfl⟩))
  rw [if_neg d]
  by_cases d : x = 1
  · rw [if_pos d]; exact CL_val h (qX10_ideal_0 g0 (swp_at 1 hx r0 (by omega) rfl ⟨_, _, used_ok g1 hp hP hs hA, _, _, few_ok g1 hp hP hs hA, rfl⟩))
  rw [if_neg d]
  by_cases d : x = 2
  · rw [if_pos d]; exact CL_val h (qX10_ideal_0 g0 (swp_at 2 hx r0 (by omega) rfl ⟨_, _, risk_ok g1 hp hP hs hA, rfl⟩))
  rw [if_neg d]
  exact CL_exc h (qX10_ideal_0 g0 (swp_no 3 rfl hx (by decide) (by decide) (by omega) rfl))
end
