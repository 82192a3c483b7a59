/-! ===== the law: rules for its calls ===== -/
section
variable {sc : Nat × (Nat → Int32)} {M M' : mM} {pc n idx a c : Nat} {ls ls' : List (Option Value)} {st : List Value} {SH SH1 : List mCell} {S S1 : mStore} {r : mR × mW} {fs : List Value} {As : List Value}
theorem tt_vcHI {v : Int} (hd : decode M.cc pc = .ok (.invokevirtual idx, 3)) (hT : mcT M.own idx = some (0, n, M')) (hc : M'.own = c) (rest : List Value) (hp : mpop n st = some (.ref a :: As, rest)) (hL : mlocals M'.nL (.ref a :: As) = ls') (hw : mwt rest = true ∧ M'.rank < M.rank ∧ (menter (.ref a :: As)).length ≤ M'.nL) (ho : ob SH a c fs) (hg : G sc M' 0 ls' [] SH S (rI v SH1 S1)) (h : G sc M (pc + 3) ls (.int (I v) :: rest) SH1 S1 r) : G sc M pc ls st SH S r := by
  have hg : R sc M' 0 ls' [] (wd SH S) = some (rI v SH1 S1) := hg
  refine (s_vcH (H := fun _ _ => none) hd hT hc rest hp hL hw (fun _ _ => oLe.rf _) (fun e g1 => ⟨none, oLe.rf _, fun r q => by cases q⟩)).go ?_
  rw [if_pos (rcv_wd ho), hg]
  exact h
theorem tt_vcHX {e t : Nat} (hd : decode M.cc pc = .ok (.invokevirtual idx, 3)) (hT : mcT M.own idx = some (0, n, M')) (hc : M'.own = c) (rest : List Value) (hp : mpop n st = some (.ref a :: As, rest)) (hL : mlocals M'.nL (.ref a :: As) = ls') (hw : mwt rest = true ∧ M'.rank < M.rank ∧ (menter (.ref a :: As)).length ≤ M'.nL) (ho : ob SH a c fs) (hg : G sc M' 0 ls' [] SH S (rX e SH1 S1)) {ls1 : List (Option Value)} (hH : ∀ r, R sc M t ls1 [] (wd SH1 S1) = some r → ∃ m, ∀ k, mback (mx sc (m + k)) M pc ls rest (some (.inr e, wd SH1 S1)) = some r) (h : G sc M t ls1 [] SH1 S1 r) : G sc M pc ls st SH S r := by
  have hg : R sc M' 0 ls' [] (wd SH S) = some (rX e SH1 S1) := hg
  obtain ⟨m, hm⟩ := hH r h
  obtain ⟨m2, hm2⟩ := R_iff.mp hg
  subst hL hc
  have b := mx_le sc (Nat.le_add_left m2 m) M' 0 _ [] (wd SH S) _ hm2
  refine R_of hd (Or.inl rfl) (n := m + m2) ((mcall_0 (pc := pc) hT hp hw (rcv_wd ho)).trans ?_)
  rw [b]
  exact hm m2
theorem tt_scA {v : Int} (hd : decode M.cc pc = .ok (.invokestatic idx, 3)) (hT : mcT M.own idx = some (2, n, M')) (rest : List Value) {as : List Value} (hp : mpop n st = some (as, rest)) (hL : mlocals M'.nL as = ls') (hw : mwt rest = true ∧ M'.rank < M.rank ∧ (menter as).length ≤ M'.nL) (hg : G sc M' 0 ls' [] SH S (rI v SH1 S1)) (h : G sc M (pc + 3) ls (.int (I v) :: rest) SH1 S1 r) : G sc M pc ls st SH S r := by
  have hg : R sc M' 0 ls' [] (wd SH S) = some (rI v SH1 S1) := hg
  refine (s_scIN hd hT rest hp hL hw (fun _ _ => oLe.rf _)).go ?_
  rw [hg]
  exact h
theorem tt_vcVN1 (hd : decode M.cc pc = .ok (.invokevirtual idx, 3)) (hT : mcT M.own idx = some (0, n, M')) (hc : M'.own = c) (rest : List Value) (hp : mpop n st = some (.ref a :: As, rest)) (hL : mlocals M'.nL (.ref a :: As) = ls') (hw : mwt rest = true ∧ M'.rank < M.rank ∧ (menter (.ref a :: As)).length ≤ M'.nL) (ho : ob SH a c fs) (hg : G sc M' 0 ls' [] SH S (rV SH1 S1)) (h : G sc M (pc + 3) ls rest SH1 S1 r) : G sc M pc ls st SH S r := tt_vcV1 hd hT hc rest hp hL hw ho hg h
end
/-- a call of the class, caught by the law -/
def WR (sc : Nat × (Nat → Int32)) (M : mM) (ls : List (Option Value)) (SH : List mCell) (F : Nat → Nat → Option Nat) (e : Nat) (S : mStore) (x : Int) (o : aO) (W : aW) : Prop := ∃ k SH' F' e' S', G sc M 0 ls [] SH S (rI k SH' S') ∧ clR SH' F' e' S' W ∧ e' ≤ e + 1 ∧ (∀ j, 90 ≤ j → j ≤ 109 → S' j = S j) ∧ (∀ v, o = .inl v → k = 0 ∧ S' 110 0 = (I v).toInt) ∧ (∀ q, o = .inr q → k = (if q = 0 then 1 else x))
section
variable {sc : Nat × (Nat → Int32)} {SH : List mCell} {F : Nat → Nat → Option Nat} {S S' : mStore} {e : Nat} {N : Int} {W : aW}
theorem clR_md (h : clR SH F e S W) (hf : ∀ j, j < 90 ∨ 110 < j → S' j = S j) : clR SH F e S' W := by
  obtain ⟨h1, h2, h3, h4, h5, h6, h7⟩ := h
  refine ⟨h1, planR_far h2 (fun j _ _ => hf j (by omega)), bkR_far h1 (by decide) h3 (by decide) (fun _ _ _ h => h) (fun j _ _ => hf j (by omega)) (hist_same h3.2.2.2.1 (fun _ _ _ h => h) h1 (by decide) (fun j hj _ => hf j (by omega))), ⟨fun hn => by rw [hf 0 (by decide)]; exact h4.1 hn, fun B hB => ⟨by rw [hf 0 (by decide)]; exact (h4.2 B hB).1, ?_⟩⟩, by rw [hf 12 (by decide)]; exact h5, by rw [hf 11 (by decide)]; exact h6, by rw [hf 0 (by decide)]; exact h7⟩
  have q := (h4.2 B hB).2
  exact bkR_far h1 (by decide) q (by decide) (fun _ _ _ h => h) (fun j _ _ => hf j (by omega)) (hist_same q.2.2.2.1 (fun _ _ _ h => h) h1 (by decide) (fun j hj _ => hf j (by omega)))
theorem mdR_cl (h : mdR S N W) (hf : ∀ j, 90 ≤ j → j ≤ 99 → S' j = S j) : mdR S' N W := by
  obtain ⟨m, bb, im, t, f, a⟩ := h
  have q : ∀ {z y iA iF iN w r : Int} {B : aB}, mbR S z y iA iF iN w r N B → mbR S' z y iA iF iN w r N B := by
    rintro z y iA iF iN w r B ⟨r1, r2, r3, r4, r5, r6, r7⟩
    exact ⟨refR_far r1 (hf 91 (by decide) (by decide)), by rw [hf 90 (by decide) (by decide)]; exact r2, by rw [hf 90 (by decide) (by decide)]; exact r3, fun k A hk => by rw [hf 90 (by decide) (by decide)]; exact refR_far (r4 k A hk) (hf 91 (by decide) (by decide)), by rw [hf 90 (by decide) (by decide)]; exact r5, by rw [hf 92 (by decide) (by decide), hf 93 (by decide) (by decide)]; exact r6, by rw [hf 94 (by decide) (by decide)]; exact r7⟩
  exact ⟨⟨by rw [hf 90 (by decide) (by decide)]; exact m.1, by rw [hf 95 (by decide) (by decide)]; exact m.2.1, by rw [hf 96 (by decide) (by decide)]; exact m.2.2.1, by rw [hf 97 (by decide) (by decide)]; exact m.2.2.2.1, by rw [hf 98 (by decide) (by decide)]; exact m.2.2.2.2⟩, q bb, ⟨fun hn => by rw [hf 90 (by decide) (by decide)]; exact im.1 hn, fun B hB => ⟨by rw [hf 90 (by decide) (by decide)]; exact (im.2 B hB).1, q (im.2 B hB).2⟩⟩, by rw [hf 99 (by decide) (by decide)]; exact t, by rw [hf 90 (by decide) (by decide)]; exact f, by rw [hf 90 (by decide) (by decide)]; exact a⟩
end
