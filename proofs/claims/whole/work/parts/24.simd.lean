/-! ===== cells that are made; copies; control ===== -/
section
variable {p : Program} {l : Launch} {e : Env} {R : Room} {s : State} {m : MethodId} {args : Array Value} {below : List Frame} {meth : Method} {c : Code} {H : Heap} {locs : List Loc} {cells slots : Nat} {Q : State → Prop}
variable {M : mM} {pc : Nat} {L : Array Slot} {kd : Nat → Nat} {base : Nat} {D : va_G} {tc : Nat → ClassId} {g : mW}
theorem mr_A (hbs : base ≤ s.heap.size) : ∀ q : Nat, s.heap.size ≤ q → (fun q => base ≤ q) q := fun _ h => Nat.le_trans hbs h
theorem mr_new (C : mCt p s m args meth c M) (hK : va_K D mcl (mtys tc) s) (hbs : base ≤ s.heap.size) (hR : mRl D tc kd base s g H locs cells) {idx ci : Nat} {st : List Value} (hd : decode M.cc pc = .ok (.new idx, 3)) (hn : mnT M.own idx = some ci) (hci : ci < 12)
    (hcells : cells + 1 ≤ R.cells) (hslots : slots + mnum ci ≤ R.slots)
    (kk : ∀ H', mRl D tc kd base s (g ++ [mO ci (mdf ci)]) H' locs (cells + 1) → W p l e R s m args below meth c H' locs (cells + 1) (slots + mnum ci) Q (F0 m (pc + 3) L ((.ref g.length :: st).map (mv kd base)))) : W p l e R s m args below meth c H locs cells slots Q (F0 m pc L (st.map (mv kd base))) := by
  obtain ⟨hx, hb, -, hown, hts, -⟩ := C
  have hw := mnT_ok _ _ (mlook_mem hn)
  unfold mnw at hw
  rw [if_pos hci] at hw
  have h1 := hw (.classLink (mcn M.own) idx (mcn ci)) (by simp)
  have h2 := hw (.instantiable (mcn ci) (mnum ci)) (by simp)
  have h3 := hw (.initialized (mcn ci)) (by simp)
  have hfs : ∀ j, j < mnum ci → defaultValue (mty ci j) = vp_V ((mdf ci).map (mv kd base)) j := by
    intro j hj
    have h4 := mdf_ok ci hci j hj
    unfold vp_V
    rw [List.getD_eq_getElem?_getD, List.getElem?_map, h4]
    show _ = mv kd base (defaultValue (mty ci j))
    generalize mty ci j = t
    cases t <;> rfl
  refine va_new (D := D) (ci := ci) (fs := (mdf ci).map (mv kd base)) (C := mcn ci) (T := mtx ci) (N := mnum ci) hx hb hts (fun w h => gt_in (mu_ok ci hci w h)) (mty ci) (mty_ok ci hci) hown (hts _ (gt_in h1)) (hts _ (gt_in h2)) (hts _ (gt_in h3)) hK hR.1 mwS_D hR.2.2.1 (mr_A hbs) (mcl_at ci hci) hfs hcells hslots hd fun q H1 hP hD hS => ?_
  refine mr_app (x := mO ci (mdf ci)) hbs hR hP hD hS fun hq hR1 => ?_
  subst hq
  exact kk H1 hR1
theorem mr_newa (C : mCt p s m args meth c M) (hK : va_K D mcl (mtys tc) s) (hbs : base ≤ s.heap.size) (hR : mRl D tc kd base s g H locs cells) {t : ArrayType} {n : Int32} {x : mCell} {st : List Value} (hd : decode M.cc pc = .ok (.newarray t, 2)) (hn : mnewa t n = some x)
    (hcells : cells + 1 ≤ R.cells) (hslots : slots + msz x ≤ R.slots)
    (kk : ∀ H', mRl D tc kd base s (g ++ [x]) H' locs (cells + 1) → W p l e R s m args below meth c H' locs (cells + 1) (slots + msz x) Q (F0 m (pc + 2) L ((.ref g.length :: st).map (mv kd base)))) : W p l e R s m args below meth c H locs cells slots Q (F0 m pc L ((.int n :: st).map (mv kd base))) := by
  obtain ⟨hx, hb, -, hown, hts, -⟩ := C
  have key : ∀ (k : Nat) (ty : FieldType) (cA : ClassId), (mtys tc)[k]? = some (tc k, ty) → (∀ X, ty ≠ .object X) → va_K D mcl (mtys tc ++ [(cA, ty)]) s → cA = tc k := by
    intro k ty cA h1 hno h2
    have h3 := (hK.2 k _ h1).2
    have h4 := (h2.2 (mtys tc).length (cA, ty) (by simp)).2
    cases ty
    case object X => exact absurd rfl (hno X)
    all_goals
      have h3' : s.vm.findClass _ = some (tc k) := h3
      have h4' : s.vm.findClass _ = some cA := h4
      exact Option.some.inj (h4'.symm.trans h3')
  cases t <;> simp only [mnewa, reduceCtorEq] at hn
  case int =>
    split at hn
    · cases hn
    · rename_i h1
      cases hn
      have hb1 : n.toNatClampNeg ≤ 1000000 := by omega
      refine va_newa (atype := .int) (ty := .int) (a0 := (n.toNatClampNeg, .inl (fun _ => 0))) hx hb (hts _ (gt_in ⟨ma_int, rfl⟩)) rfl hK hR.1 mwS_D hR.2.2.1 (mr_A hbs) (fun cA => rfl) (fun h => h1 (Or.inl h)) rfl (by simp only [componentBytes]; omega) hcells hslots hd fun q cA H1 hK1 hP hD hS => ?_
      have hcA := key 0 .int cA rfl (fun X h => by cases h) hK1
      subst hcA
      refine mr_app (x := mI n.toNatClampNeg (fun _ => 0)) hbs hR hP hD hS fun hq hR1 => ?_
      subst hq
      exact kk H1 hR1
  case byte =>
    split at hn
    · cases hn
    · rename_i h1
      cases hn
      have hb1 : n.toNatClampNeg ≤ 1000000 := by omega
      refine va_newa (atype := .byte) (ty := .byte) (a0 := (n.toNatClampNeg, .inl (fun _ => 0))) hx hb (hts _ (gt_in ⟨ma_byte, rfl⟩)) rfl hK hR.1 mwS_D hR.2.2.1 (mr_A hbs) (fun cA => rfl) (fun h => h1 (Or.inl h)) rfl (by simp only [componentBytes]; omega) hcells hslots hd fun q cA H1 hK1 hP hD hS => ?_
      have hcA := key 1 .byte cA rfl (fun X h => by cases h) hK1
      subst hcA
      refine mr_app (x := mB n.toNatClampNeg (fun _ => 0)) hbs hR hP hD hS fun hq hR1 => ?_
      subst hq
      exact kk H1 hR1
  case long =>
    split at hn
    · cases hn
    · rename_i h1
      cases hn
      have hb1 : n.toNatClampNeg ≤ 1000000 := by omega
      refine va_newa (atype := .long) (ty := .long) (a0 := (n.toNatClampNeg, .inr (.inl (fun _ => 0)))) hx hb (hts _ (gt_in ⟨ma_long, rfl⟩)) rfl hK hR.1 mwS_D hR.2.2.1 (mr_A hbs) (fun cA => rfl) (fun h => h1 (Or.inl h)) rfl (by simp only [componentBytes]; omega) hcells hslots hd fun q cA H1 hK1 hP hD hS => ?_
      have hcA := key 2 .long cA rfl (fun X h => by cases h) hK1
      subst hcA
      refine mr_app (x := mJ n.toNatClampNeg (fun _ => 0)) hbs hR hP hD hS fun hq hR1 => ?_
      subst hq
      exact kk H1 hR1
theorem mr_newq (C : mCt p s m args meth c M) (hK : va_K D mcl (mtys tc) s) (hO : va_AO RX7 s) (hbs : base ≤ s.heap.size) (hR : mRl D tc kd base s g H locs cells) {idx : Nat} {n : Int32} {st : List Value} (hd : decode M.cc pc = .ok (.anewarray idx, 3)) (hq : mqT M.own idx = true) (hn : ¬ (n < 0 ∨ 1000000 < n.toNatClampNeg))
    (hcells : cells + 1 ≤ R.cells) (hslots : slots + n.toNatClampNeg ≤ R.slots)
    (kk : ∀ H', mRl D tc kd base s (g ++ [mS n.toNatClampNeg (fun _ => none)]) H' locs (cells + 1) → W p l e R s m args below meth c H' locs (cells + 1) (slots + n.toNatClampNeg) Q (F0 m (pc + 3) L ((.ref g.length :: st).map (mv kd base)))) : W p l e R s m args below meth c H locs cells slots Q (F0 m pc L ((.int n :: st).map (mv kd base))) := by
  obtain ⟨hx, hb, -, hown, hts, -⟩ := C
  have h9 : M.own = 0 ∧ idx = 9 := by simpa [mqT] using hq
  obtain ⟨h8, rfl⟩ := h9
  have hw := mnT_ok 0 (9, 7) (by decide) (.classLink (mcn 0) 9 (mcn 7)) (by decide +kernel)
  rw [h8] at hown
  refine va_newq (own := mcn 0) (C := RX7) (index := 9) hx hb hown (hts _ (gt_in hw)) hO hK hR.1 mwS_D hR.2.2.1 (mr_A hbs) (fun h => hn (Or.inl h)) rfl (by omega) hcells hslots hd fun q cA H1 hK1 hP hD hS => ?_
  have hcA : cA = tc 3 := by
    have h3 := (hK.2 3 _ (rfl : (mtys tc)[3]? = some (tc 3, .object RX7))).2
    have h4 := (hK1.2 (mtys tc).length (cA, .object RX7) (by simp)).2
    obtain ⟨_, _, _, _, _, h5⟩ := h3
    obtain ⟨_, _, _, _, _, h6⟩ := h4
    exact Option.some.inj (h6.symm.trans h5)
  subst hcA
  refine mr_app (x := mS n.toNatClampNeg (fun _ => none)) hbs hR hP hD hS fun hq hR1 => ?_
  subst hq
  exact kk H1 hR1
theorem mr_alen (C : mCt p s m args meth c M) (hK : va_K D mcl (mtys tc) s) (hR : mRl D tc kd base s g H locs cells) {a : Nat} {n : Int32} {st : List Value} {sc : Nat × (Nat → Int32)} (hd : decode M.cc pc = .ok (.arraylength, 1)) (hv : mlen? sc g (.ref a) = some n)
    (kk : W p l e R s m args below meth c H locs cells slots Q (F0 m (pc + 1) L ((.int n :: st).map (mv kd base)))) : W p l e R s m args below meth c H locs cells slots Q (F0 m pc L ((.ref a :: st).map (mv kd base))) := by
  obtain ⟨hx, hb, -⟩ := C
  simp only [mlen?] at hv
  split at hv
  · rename_i t k f hg
    split at hv
    rotate_left
    · cases hv
    rename_i ht
    cases hv
    rcases (show t = 0 ∨ t = 1 by omega) with rfl | rfl
    · exact va_alen hx hb hK hR.1 a 0 (mwS_at hg) (rfl : (mtys tc)[0]? = some (tc 0, .int)) rfl hd kk
    · exact va_alen hx hb hK hR.1 a 1 (mwS_at hg) (rfl : (mtys tc)[1]? = some (tc 1, .byte)) rfl hd kk
  · rename_i k f hg
    cases hv
    exact va_alen hx hb hK hR.1 a 2 (mwS_at hg) (rfl : (mtys tc)[2]? = some (tc 2, .long)) rfl hd kk
  · rename_i k f hg
    cases hv
    exact va_alen hx hb hK hR.1 a 3 (mwS_at hg) (rfl : (mtys tc)[3]? = some (tc 3, .object RX7)) rfl hd kk
  · cases hv
theorem mr_to {ls : List (Option Value)} {st : List Value} {K : mK} {off : Int} {r : mR} {g' : mW} (h : mto K M ls st g pc off = some (r, g')) : ∃ tgt : Nat, (pc : Int) + off = (tgt : Int) ∧ K M tgt ls st g = some (r, g') := by
  unfold mto at h
  split at h
  · cases h
  · rename_i h1
    exact ⟨_, (Int.toNat_of_nonneg (by omega)).symm, h⟩
theorem mr_br {ls : List (Option Value)} {st : List Value} {K : mK} {off : Int} {b : Bool} {r : mR} {g' : mW} (h : mbr K M ls st g pc off b = some (r, g')) : ∃ tgt : Nat, (pc : Int) + off = (tgt : Int) ∧ (b = true → K M tgt ls st g = some (r, g')) ∧ (¬ b = true → K M (pc + 3) ls st g = some (r, g')) := by
  unfold mbr at h
  split at h
  · cases h
  · rename_i h1
    refine ⟨_, (Int.toNat_of_nonneg (by omega)).symm, fun hb => ?_, fun hb => ?_⟩
    · rw [if_pos hb] at h; exact h
    · rw [if_neg hb] at h; exact h
theorem mr_if (C : mCt p s m args meth c M) {cd : ClassFile.Cond} {off : Int} {x : Int32} {st : List Value} (hd : decode M.cc pc = .ok (.ifCond cd off, 3)) {tgt : Nat} (ht : (pc : Int) + off = (tgt : Int))
    (kt : mcmp cd x 0 = true → W p l e R s m args below meth c H locs cells slots Q (F0 m tgt L (st.map (mv kd base)))) (kf : ¬ mcmp cd x 0 = true → W p l e R s m args below meth c H locs cells slots Q (F0 m (pc + 3) L (st.map (mv kd base)))) :
    W p l e R s m args below meth c H locs cells slots Q (F0 m pc L ((.int x :: st).map (mv kd base))) := by
  obtain ⟨hx, hb, -⟩ := C
  cases cd <;> simp only [mcmp, decide_eq_true_eq, Bool.not_eq_true', decide_eq_false_iff_not] at kt kf
  · exact lv_if_eq hx hb hd ht kt kf
  · exact lv_if_ne hx hb hd ht kt (fun h => kf (fun k => k h))
  · exact lv_if_lt hx hb hd ht kt kf
  · exact lv_if_ge hx hb hd ht kt kf
  · exact lv_if_gt hx hb hd ht kt kf
  · exact lv_if_le hx hb hd ht kt kf
theorem mr_icmp (C : mCt p s m args meth c M) {cd : ClassFile.Cond} {off : Int} {x y : Int32} {st : List Value} (hd : decode M.cc pc = .ok (.if_icmp cd off, 3)) {tgt : Nat} (ht : (pc : Int) + off = (tgt : Int))
    (kt : mcmp cd x y = true → W p l e R s m args below meth c H locs cells slots Q (F0 m tgt L (st.map (mv kd base)))) (kf : ¬ mcmp cd x y = true → W p l e R s m args below meth c H locs cells slots Q (F0 m (pc + 3) L (st.map (mv kd base)))) :
    W p l e R s m args below meth c H locs cells slots Q (F0 m pc L ((.int y :: .int x :: st).map (mv kd base))) := by
  obtain ⟨hx, hb, -⟩ := C
  cases cd <;> simp only [mcmp, decide_eq_true_eq, Bool.not_eq_true', decide_eq_false_iff_not] at kt kf
  · exact lv_icmp_eq hx hb hd ht kt kf
  · exact lv_icmp_ne hx hb hd ht kt (fun h => kf (fun k => k h))
  · exact lv_icmp_lt hx hb hd ht kt kf
  · exact lv_icmp_ge hx hb hd ht kt kf
  · exact lv_icmp_gt hx hb hd ht kt kf
  · exact lv_icmp_le hx hb hd ht kt kf
end
