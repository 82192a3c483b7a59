/-! ===== instructions on the heap ===== -/
theorem gt_in {w : Cond} (h : w ∈ lw_tbl ∧ goodWord w = true) : w ∈ gtbl := List.mem_filter.mpr h
/-- what a method's body knows of the machine -/
def mCt (p : Program) (s : State) (m : MethodId) (args : Array Value) (meth : Method) (c : Code) (M : mM) : Prop :=
  p.tables.exec = Jvm.exec ∧ c.code = M.cc ∧ c.maxLocals = M.nL ∧ s.vm.findClass (mcn M.own) = some m.cls ∧ (∀ w ∈ gtbl, w.before args s = true) ∧ meth.sig.returnType = M.ret ∧ meth.name = M.nm.name ∧ meth.locks = false ∧ (¬ M.hs = [] → c.exceptionTable.toList = tableOf (mhs M.hs))
/-- the world in the heap -/
def mRl (D : va_G) (tc : Nat → ClassId) (kd : Nat → Nat) (base : Nat) (s : State) (g : mW) (H : Heap) (locs : List Loc) (cells : Nat) : Prop :=
  va_P D mcl (mwS kd tc base g) H ∧ H.size = base + g.length ∧ va_S (fun q => base ≤ q) s.heap H locs ∧ s.heap.size + cells = base + g.length
section
variable {p : Program} {l : Launch} {e : Env} {R : Room} {s : State} {m : MethodId} {args : Array Value} {below : List Frame} {meth : Method} {c : Code} {H : Heap} {locs : List Loc} {cells slots : Nat} {Q : State → Prop}
variable {M : mM} {pc : Nat} {L : Array Slot} {kd : Nat → Nat} {base : Nat} {D : va_G} {tc : Nat → ClassId} {g : mW}
/-- no more cells than were made -/
theorem mr_le {j : JFrame} (kk : H.size ≤ s.heap.size + cells → W p l e R s m args below meth c H locs cells slots Q j) : W p l e R s m args below meth c H locs cells slots Q j := by
  intro T hT X
  exact kk (by rw [← hT]; exact X.heapSize) T hT X
/-- a changed world: its size is as it was -/
theorem mr_set {j : JFrame} {g' : mW} (hg : g'.length = g.length) (hne : 0 < g.length) (hR : mRl D tc kd base s g H locs cells) {H1 : Heap} {locs1 : List Loc} (hP : va_P D mcl (mwS kd tc base g') H1) (hS : va_S (fun q => base ≤ q) s.heap H1 locs1)
    (kk : mRl D tc kd base s g' H1 locs1 cells → W p l e R s m args below meth c H1 locs1 cells slots Q j) : W p l e R s m args below meth c H1 locs1 cells slots Q j := by
  refine mr_le fun hle => kk ⟨hP, ?_, hS, by rw [hg]; exact hR.2.2.2⟩
  have h1 : g'[g'.length - 1]? = some (g'[g'.length - 1]'(by omega)) := List.getElem?_eq_getElem (by omega)
  have h2 := (hP _ _ (mwS_at h1)).lt
  have h3 := hR.2.2.2
  have h2' : base + (g'.length - 1) < H1.size := h2
  omega
/-- a cell more: where it lies -/
theorem mr_app {j : JFrame} {x : mCell} {q : Nat} {H1 : Heap} (hbs : base ≤ s.heap.size) (hR : mRl D tc kd base s g H locs cells) (hP : va_P D mcl (mwS kd tc base g ++ [(q, mcv kd tc base x)]) H1) (hD : va_D (fun q => base ≤ q) (mwS kd tc base g ++ [(q, mcv kd tc base x)])) (hS : va_S (fun q => base ≤ q) s.heap H1 locs) {sl : Nat}
    (kk : q = base + g.length → mRl D tc kd base s (g ++ [x]) H1 locs (cells + 1) → W p l e R s m args below meth c H1 locs (cells + 1) sl Q j) : W p l e R s m args below meth c H1 locs (cells + 1) sl Q j := by
  refine mr_le fun hle => ?_
  have h0 := hR.2.2.2
  have hlen : (mwS kd tc base g).length = g.length := by simp [mwS]
  have hat : (mwS kd tc base g ++ [(q, mcv kd tc base x)])[g.length]? = some (q, mcv kd tc base x) := by
    rw [List.getElem?_append_right (by omega), hlen, Nat.sub_self]; rfl
  have h1 : q < H1.size := (hP _ _ hat).lt
  have h2 : base ≤ q := hD.2 _ _ hat
  have h3 : q = base + g.length := by
    rcases Nat.lt_or_ge q (base + g.length) with hq | hq
    · obtain ⟨k, hk⟩ : ∃ k, q = base + k := ⟨q - base, by omega⟩
      have hk2 : k < g.length := by omega
      have h4 := mwS_at (kd := kd) (tc := tc) (base := base) (List.getElem?_eq_getElem hk2)
      have h5 : (mwS kd tc base g ++ [(q, mcv kd tc base x)])[k]? = some (base + k, mcv kd tc base g[k]) := by
        rw [List.getElem?_append_left (by omega)]; exact h4
      have h6 := hD.1 k g.length _ _ h5 hat hk.symm
      omega
    · omega
  subst h3
  refine kk rfl ⟨by rw [mwS_app]; exact hP, by simp; omega, hS, by simp; omega⟩
theorem mr_getfield (C : mCt p s m args meth c M) (hK : va_K D mcl (mtys tc) s) (hR : mRl D tc kd base s g H locs cells) {idx ci k a : Nat} {v : Value} {st : List Value} (hd : decode M.cc pc = .ok (.getfield idx, 3)) (hf : mfT M.own idx = some (ci, k)) (hv : mgetf g ci k a = some v)
    (kk : W p l e R s m args below meth c H locs cells slots Q (F0 m (pc + 3) L ((v :: st).map (mv kd base)))) : W p l e R s m args below meth c H locs cells slots Q (F0 m pc L ((.ref a :: st).map (mv kd base))) := by
  obtain ⟨hx, hb, -, hown, hts, -⟩ := C
  have hm := mlook_mem hf
  obtain ⟨hw, hgw⟩ := mfT_ok _ _ hm
  obtain ⟨hci, hk⟩ := mr_ok _ _ hm
  unfold mgetf at hv
  split at hv
  · rename_i c' fs hg
    by_cases h1 : c' = ci
    · rw [if_pos h1] at hv
      subst h1
      refine va_get (D := D) (ci := c') (v := mv kd base v) (C := mcn c') (T := mtx c') (N := mnum c') hx hb hts (fun w h => gt_in (mu_ok c' hci w h)) hown hK hR.1 a (mwS_at hg) (mcl_at c' hci) k hk (hts _ (gt_in ⟨hw, hgw⟩)) (fun _ h => h) ?_ hd kk
      rw [List.getElem?_map, hv]; rfl
    · rw [if_neg h1] at hv; cases hv
  · cases hv
theorem mfit_ok {ty : FieldType} {v : Value} (h : mfit ty v = true) : narrow ty (mv kd base v) = mv kd base v ∧ fits ty (mv kd base v) = true := by
  unfold mfit at h
  split at h
  · exact ⟨rfl, rfl⟩
  · rename_i x
    simp only [Bool.or_eq_true, beq_iff_eq] at h
    rcases h with rfl | rfl <;> exact ⟨rfl, rfl⟩
  · exact ⟨rfl, rfl⟩
  · exact ⟨rfl, rfl⟩
  · cases h
theorem mr_putfield (C : mCt p s m args meth c M) (hK : va_K D mcl (mtys tc) s) (hR : mRl D tc kd base s g H locs cells) {idx ci k a : Nat} {v : Value} {st : List Value} {g' : mW} (hd : decode M.cc pc = .ok (.putfield idx, 3)) (hf : mfT M.own idx = some (ci, k)) (hfit : mfit (mty ci k) v = true) (hv : mputf g ci k a v = some g')
    (hfin : mfin ci k = false ∨ (M.nm.name = "<init>" ∧ M.own = ci))
    (kk : ∀ H' locs', mRl D tc kd base s g' H' locs' cells → W p l e R s m args below meth c H' locs' cells slots Q (F0 m (pc + 3) L (st.map (mv kd base)))) : W p l e R s m args below meth c H locs cells slots Q (F0 m pc L ((v :: .ref a :: st).map (mv kd base))) := by
  obtain ⟨hx, hb, -, hown, hts, -, hnm, -⟩ := C
  have hm := mlook_mem hf
  obtain ⟨hw, hgw⟩ := mfT_ok _ _ hm
  obtain ⟨hci, hk⟩ := mr_ok _ _ hm
  obtain ⟨hn1, hn2⟩ := mfit_ok (kd := kd) (base := base) hfit
  unfold mputf at hv
  split at hv
  · rename_i c' fs hg
    by_cases h1 : c' = ci
    · rw [if_pos h1] at hv
      subst h1
      by_cases h2 : k < fs.length
      · rw [if_pos h2] at hv
        cases hv
        have hl : a < g.length := (List.getElem?_eq_some_iff.mp hg).1
        have hk2 : ∀ (H1 : Heap) (locs1 : List Loc), va_P D mcl ((mwS kd tc base g).set a (base + a, .inr (c', (fs.map (mv kd base)).set k (mv kd base v)))) H1 → va_D (fun q => base ≤ q) ((mwS kd tc base g).set a (base + a, .inr (c', (fs.map (mv kd base)).set k (mv kd base v)))) → va_S (fun q => base ≤ q) s.heap H1 locs1 →
            W p l e R s m args below meth c H1 locs1 cells slots Q (F0 m (pc + 3) L (st.map (mv kd base))) := by
          intro H1 locs1 hP hD hS
          have e1 : (mwS kd tc base g).set a (base + a, .inr (c', (fs.map (mv kd base)).set k (mv kd base v))) = mwS kd tc base (g.set a (mO c' (fs.set k v))) := by
            rw [mwS_set]; simp [mcv, List.map_set]
          rw [e1] at hP
          exact mr_set (by simp) (by omega) hR hP hS (kk H1 locs1)
        by_cases hf1 : mfin c' k = false
        · exact va_put (D := D) (ci := c') (v := mv kd base v) (C := mcn c') (T := mtx c') (N := mnum c') (ty := mty c' k) hx hb hts (fun w h => gt_in (mu_ok c' hci w h)) (mty c') (mty_ok c' hci) (mnm_ok c' hci) hown hK hR.1 mwS_D hR.2.2.1 a (mwS_at hg) (mcl_at c' hci) k hk (hts _ (gt_in ⟨hw, hgw⟩)) (fun _ h => h) hf1 (mty_ok c' hci k hk) hn1 hn2 (by simpa using h2) hd hk2
        · rcases hfin with h | ⟨h3, h4⟩
          · exact absurd h hf1
          · exact va_putF (D := D) (ci := c') (v := mv kd base v) (C := mcn c') (T := mtx c') (N := mnum c') (ty := mty c' k) hx hb hts (fun w h => gt_in (mu_ok c' hci w h)) (mty c') (mty_ok c' hci) (mnm_ok c' hci) hown hK hR.1 mwS_D hR.2.2.1 a (mwS_at hg) (mcl_at c' hci) k hk (hts _ (gt_in ⟨hw, hgw⟩)) (fun _ h => h) (by simpa using hf1) (hnm.trans h3) (by rw [mtx_own c' hci k hk, h4]) (mty_ok c' hci k hk) hn1 hn2 (by simpa using h2) hd hk2
      · rw [if_neg h2] at hv; cases hv
    · rw [if_neg h1] at hv; cases hv
  · cases hv
theorem mrecv_ref {g : mW} {c : Nat} {as : List Value} (h : mrecv g c as = true) : ∃ b r fs, as = .ref b :: r ∧ g[b]? = some (mO c fs) := by
  cases as with
  | nil => cases h
  | cons v r =>
    cases v <;> simp only [mrecv, Bool.false_eq_true] at h
    rename_i b
    split at h
    · rename_i c' fs hg
      simp only [beq_iff_eq] at h
      subst h
      exact ⟨b, r, fs, rfl, hg⟩
    · cases h
theorem vin_of {i : Int32} {n : Nat} (h : ¬ (i < 0 ∨ n ≤ i.toNatClampNeg)) : vp_in i n := h
theorem mr_iald (C : mCt p s m args meth c M) (hK : va_K D mcl (mtys tc) s) (hR : mRl D tc kd base s g H locs cells) {i : Instr} {a : Nat} {j : Int32} {v : Value} {st : List Value} {sc : Nat × (Nat → Int32)} (hd : decode M.cc pc = .ok (i, 1)) (hv : mald sc g i (.ref a) j = some v)
    (kk : W p l e R s m args below meth c H locs cells slots Q (F0 m (pc + 1) L ((v :: st).map (mv kd base)))) : W p l e R s m args below meth c H locs cells slots Q (F0 m pc L ((.int j :: .ref a :: st).map (mv kd base))) := by
  obtain ⟨hx, hb, -⟩ := C
  cases i <;> simp only [mald, reduceCtorEq] at hv
  case iaload =>
    split at hv
    · rename_i n f hg
      by_cases h1 : j < 0 ∨ n ≤ j.toNatClampNeg
      · rw [if_pos h1] at hv; cases hv
      · rw [if_neg h1] at hv; cases hv
        exact va_iald hx hb hK hR.1 a 0 (mwS_at hg) rfl (vin_of h1) hd kk
    · cases hv
  case baload =>
    split at hv
    · rename_i n f hg
      by_cases h1 : j < 0 ∨ n ≤ j.toNatClampNeg
      · rw [if_pos h1] at hv; cases hv
      · rw [if_neg h1] at hv; cases hv
        exact va_bald hx hb hK hR.1 a 1 (mwS_at hg) rfl (vin_of h1) hd kk
    · cases hv
  case laload =>
    split at hv
    · rename_i n f hg
      by_cases h1 : j < 0 ∨ n ≤ j.toNatClampNeg
      · rw [if_pos h1] at hv; cases hv
      · rw [if_neg h1] at hv; cases hv
        exact va_lald hx hb hK hR.1 a 2 (mwS_at hg) rfl (vin_of h1) hd kk
    · cases hv
  case aaload =>
    split at hv
    · rename_i n f hg
      by_cases h1 : j < 0 ∨ n ≤ j.toNatClampNeg
      · rw [if_pos h1] at hv; cases hv
      · rw [if_neg h1] at hv; cases hv
        refine va_aldq hx hb hK hR.1 a 3 (mwS_at hg) rfl (vin_of h1) hd ?_
        have e1 : va_rf ((f j.toNatClampNeg).map (base + ·)) = mv kd base (va_rf (f j.toNatClampNeg)) := by
          cases f j.toNatClampNeg <;> rfl
        rw [e1]
        exact kk
    · cases hv
theorem mr_iast (C : mCt p s m args meth c M) (hK : va_K D mcl (mtys tc) s) (hR : mRl D tc kd base s g H locs cells) {i : Instr} {a : Nat} {j : Int32} {v : Value} {st : List Value} {g' : mW} (hd : decode M.cc pc = .ok (i, 1)) (hv : mast g i a j v = some g')
    (kk : ∀ H' locs', mRl D tc kd base s g' H' locs' cells → W p l e R s m args below meth c H' locs' cells slots Q (F0 m (pc + 1) L (st.map (mv kd base)))) : W p l e R s m args below meth c H locs cells slots Q (F0 m pc L ((v :: .int j :: .ref a :: st).map (mv kd base))) := by
  obtain ⟨hx, hb, -⟩ := C
  unfold mast at hv
  split at hv
  · split at hv
    · rename_i n f hg
      have hl : a < g.length := (List.getElem?_eq_some_iff.mp hg).1
      split at hv
      · cases hv
      · rename_i h1
        cases hv
        refine va_iast hx hb hK hR.1 mwS_D hR.2.2.1 a 0 (mwS_at hg) rfl (vin_of h1) hd fun H1 locs1 hP hD hS => ?_
        refine mr_set (g' := g.set a (mI n (upd f j.toNatClampNeg _))) (by simp) (by omega) hR (by rw [mwS_set]; exact hP) hS (kk H1 locs1)
    · cases hv
  · split at hv
    · rename_i n f hg
      have hl : a < g.length := (List.getElem?_eq_some_iff.mp hg).1
      split at hv
      · cases hv
      · rename_i h1
        cases hv
        refine va_bast hx hb hK hR.1 mwS_D hR.2.2.1 a 1 (mwS_at hg) rfl (vin_of h1) hd fun H1 locs1 hP hD hS => ?_
        rw [vp_nar_byte] at hP
        refine mr_set (g' := g.set a (mB n (upd f j.toNatClampNeg _))) (by simp) (by omega) hR (by rw [mwS_set]; exact hP) hS (kk H1 locs1)
    · cases hv
  · split at hv
    · rename_i n f hg
      have hl : a < g.length := (List.getElem?_eq_some_iff.mp hg).1
      split at hv
      · cases hv
      · rename_i h1
        cases hv
        refine va_last hx hb hK hR.1 mwS_D hR.2.2.1 a 2 (mwS_at hg) rfl (vin_of h1) hd fun H1 locs1 hP hD hS => ?_
        refine mr_set (g' := g.set a (mJ n (vp_updL f j.toNatClampNeg _))) (by simp) (by omega) hR (by rw [mwS_set]; exact hP) hS (kk H1 locs1)
    · cases hv
  · rename_i x
    split at hv
    · rename_i n f hg
      have hl : a < g.length := (List.getElem?_eq_some_iff.mp hg).1
      split at hv
      · rename_i hrc
        split at hv
        · cases hv
        · rename_i h1
          cases hv
          obtain ⟨b, r, fs7, hbx, hgx⟩ := mrecv_ref hrc
          cases hbx
          refine va_astq hx hb hK hR.1 mwS_D hR.2.2.1 a 3 x 7 (r := (RX7, TX7, 12)) (mwS_at hg) rfl (mwS_at hgx) rfl (vin_of h1) hd fun H1 locs1 hP hD hS => ?_
          refine mr_set (g' := g.set a (mS n (va_up f j.toNatClampNeg (some x)))) (by simp) (by omega) hR ?_ hS (kk H1 locs1)
          rw [mwS_set]
          have e1 : mcv kd tc base (mS n (va_up f j.toNatClampNeg (some x))) = .inl (tc 3, n, .inr (.inr (.inr (.inr (va_up (fun i => (f i).map (base + ·)) j.toNatClampNeg (some (base + x))))))) := by
            simp only [mcv]
            congr 7
            funext i
            unfold va_up
            split <;> rfl
          rw [e1]
          exact hP
      · cases hv
    · cases hv
  · cases hv
end
