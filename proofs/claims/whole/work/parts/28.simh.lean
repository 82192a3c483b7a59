/-! ===== step by step ===== -/
/-- what a run's end owes: it returns; it throws; an exception goes through -/
def mEnd (p : Program) (l : Launch) (e : Env) (R : Room) (s : State) (m : MethodId) (args : Array Value) (below : List Frame) (meth : Method) (c : Code) (Q : State → Prop) (D : va_G) (tc : Nat → ClassId) (kd : Nat → Nat) (base : Nat) (M : mM) (r : mR) (g' : mW) (SF : Nat) : Prop :=
  (∀ v, r = .inl v → ∀ pcR i H' locs' L' cells', decode M.cc pcR = .ok (i, 1) → mrt i v = true → mretok M.ret v = true → mRl D tc kd base s g' H' locs' cells' → W p l e R s m args below meth c H' locs' cells' SF Q (F0 m pcR L' (v.map (mv kd base)).toList)) ∧
  (∀ k, r = .inr k → ∀ pcT idx ic H' locs' L' st' cells' sl' g1, decode M.cc pcT = .ok (.new idx, 3) → decode M.cc (pcT + 3) = .ok (.dup, 1) → decode M.cc (pcT + 4) = .ok (.invokespecial ic, 3) → decode M.cc (pcT + 7) = .ok (.athrow, 1) →
    mnT M.own idx = some (100 + k) → mthrow M.own idx ic (100 + k) = true → M.hs = [] → 6 ≤ M.rank → mwt st' = true → L'.size = M.nL → g' = g1 ++ [mO (12 + k) []] → mRl D tc kd base s g1 H' locs' cells' → sl' + 6 = SF → W p l e R s m args below meth c H' locs' cells' sl' Q (F0 m pcT L' (st'.map (mv kd base)))) ∧
  (∀ k, r = .inr k → ∀ pcT H' locs' L' st' cells' q ce, M.hs = [] → mRl D tc kd base s g' H' locs' cells' → H'[q]? = some ce → ce.vm = .none → s.vm.findClass (mxn k) = some ce.cls → vx_W p l e R s m args below meth c H' locs' cells' SF Q (F0 m pcT L' st') q)
def mSim (l : Launch) (D : va_G) (tc : Nat → ClassId) (kd : Nat → Nat) (base : Nat) (sc : Nat × (Nat → Int32)) (n : Nat) : Prop :=
  ∀ (p : Program) (e : Env) (R : Room) (s : State) (m : MethodId) (args : Array Value) (below : List Frame) (meth : Method) (c : Code) (Q : State → Prop) (M : mM) (r : mR) (g' : mW) (SF : Nat),
    mCt p s m args meth c M → mEn D tc kd base sc s s.heap → base ≤ s.heap.size → M.rank ≤ R.frames → 43 * M.rank ≤ R.locals → SF ≤ R.slots → base + g'.length ≤ s.heap.size + R.cells → mEnd p l e R s m args below meth c Q D tc kd base M r g' SF →
    ∀ (pc : Nat) (ls : List (Option Value)) (st : List Value) (g : mW) (H : Heap) (locs : List Loc) (cells slots : Nat) (L : Array Slot), mx sc n M pc ls st g = some (r, g') → mLoc kd base ls L → ls.length = M.nL → mRl D tc kd base s g H locs cells → slots + (msl g' - msl g) = SF →
      W p l e R s m args below meth c H locs cells slots Q (F0 m pc L (st.map (mv kd base)))
section
variable {p : Program} {l : Launch} {e : Env} {R : Room} {s : State} {m : MethodId} {args : Array Value} {below : List Frame} {meth : Method} {c : Code} {H : Heap} {locs : List Loc} {cells slots : Nat} {Q : State → Prop}
variable {M : mM} {pc : Nat} {L : Array Slot} {kd : Nat → Nat} {base : Nat} {D : va_G} {tc : Nat → ClassId} {g : mW} {sc : Nat × (Nat → Int32)}
theorem mpure_len {cst : Nat → Option Value} {i : Instr} {ls ls' : List (Option Value)} {st st' : List Value} (hp : mpure cst i ls st = some (ls', st')) : ls'.length = ls.length := by
  have key : ∀ j v l5, mstl ls j v = some l5 → l5.length = ls.length := by
    intro j v l5 h
    unfold mstl at h
    split at h
    · split at h
      · have := (mset_len _ _ _ _ h).1
        rw [this, List.length_set]
      · cases h
    · exact (mset_len _ _ _ _ h).1
  unfold mpure at hp
  split at hp
  · cases hp; rfl
  · split at hp
    · split at hp
      · split at hp
        · cases hp; rfl
        · cases hp
      · cases hp
    · split at hp
      · split at hp
        · split at hp
          · obtain ⟨l5, h5, h6⟩ := Option.map_eq_some_iff.mp hp
            cases h6
            exact key _ _ _ h5
          · cases hp
        · cases hp
      · split at hp
        · split at hp
          · obtain ⟨l5, h5, h6⟩ := Option.map_eq_some_iff.mp hp
            cases h6
            exact key _ _ _ h5
          · cases hp
        · split at hp
          · split at hp
            · rename_i f _ _ y x st
              cases h7 : f x y with
              | none => rw [h7] at hp; cases hp
              | some z => rw [h7] at hp; cases hp; rfl
            · cases hp
          · split at hp
            · split at hp
              · cases hp; rfl
              · cases hp
            · split at hp
              · split at hp
                · cases hp; rfl
                · cases hp
              · cases h10 : mrest i st with
                | none => rw [h10] at hp; cases hp
                | some s10 => rw [h10] at hp; cases hp; rfl
end
