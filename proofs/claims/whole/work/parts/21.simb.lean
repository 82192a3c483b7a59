/-! ===== pure instructions ===== -/
section
variable {p : Program} {l : Launch} {e : Env} {R : Room} {s : State} {m : MethodId} {args : Array Value} {below : List Frame} {meth : Method} {c : Code} {H : Heap} {locs : List Loc} {cells slots : Nat} {Q : State → Prop}
variable {cc : ByteArray} {pc : Nat} {L : Array Slot} {kd : Nat → Nat} {base : Nat}
theorem ms_load (hx : p.tables.exec = Jvm.exec) (hb : c.code = cc) {i : Instr} (hd : decode cc pc = .ok (i, mlen i)) {k j : Nat} (hi : mload i = some (k, j)) {ls : List (Option Value)} {v : Value} (hv : mld ls j = some v) (hk : mkind v = k) (hl : mLoc kd base ls L) {st : List Value}
    (kk : W p l e R s m args below meth c H locs cells slots Q (F0 m (pc + mlen i) L ((v :: st).map (mv kd base)))) : W p l e R s m args below meth c H locs cells slots Q (F0 m pc L (st.map (mv kd base))) := by
  have h := hl.2.2 j v hv
  cases i <;> simp only [mload, Option.some.injEq, Prod.mk.injEq, reduceCtorEq] at hi
  all_goals obtain ⟨h1, h2⟩ := hi
  all_goals subst h1
  all_goals subst h2
  all_goals cases v <;> simp [mkind] at hk
  all_goals first
    | exact lv_iload hx hb hd h kk
    | exact lv_iload_n hx hb hd rfl h kk
    | exact lv_lload hx hb hd h kk
    | exact lv_lload_n hx hb hd rfl h kk
    | exact lv_aload hx hb hd h kk
    | exact lv_aload_n hx hb hd rfl h kk
theorem ms_store (hx : p.tables.exec = Jvm.exec) (hb : c.code = cc) {i : Instr} (hd : decode cc pc = .ok (i, mlen i)) {k j : Nat} (hi : mstore i = some (k, j)) {ls ls' : List (Option Value)} {v : Value} (hk : mkind v = k) (hs : mstl ls j v = some ls') (hl : mLoc kd base ls L) {st : List Value}
    (kk : ∀ L', mLoc kd base ls' L' → W p l e R s m args below meth c H locs cells slots Q (F0 m (pc + mlen i) L' (st.map (mv kd base)))) : W p l e R s m args below meth c H locs cells slots Q (F0 m pc L ((v :: st).map (mv kd base))) := by
  have ha := mal_has hl
  have h2 : v.category = 1 → mset ls j (some v) = some ls' := fun h => by
    unfold mstl at hs
    rw [if_neg (by rw [h]; decide)] at hs
    exact hs
  have h3 : v.category = 2 → j + 1 < ls.length ∧ mset (ls.set (j + 1) none) j (some v) = some ls' := fun h => by
    unfold mstl at hs
    rw [if_pos h] at hs
    by_cases hj : j + 1 < ls.length
    · rw [if_pos hj] at hs; exact ⟨hj, hs⟩
    · rw [if_neg hj] at hs; cases hs
  cases i <;> simp only [mstore, Option.some.injEq, Prod.mk.injEq, reduceCtorEq] at hi
  case istore q =>
    obtain ⟨h1, e2⟩ := hi
    subst h1
    subst e2
    cases v <;> simp [mkind] at hk
    · exact lv_istore hx hb hd ha (mset_len _ _ _ _ (h2 rfl)).2 rfl (fun L' h => kk L' (mLoc_store1 hl rfl (h2 rfl) h))
  case istore_n q =>
    obtain ⟨h1, e2⟩ := hi
    subst h1
    subst e2
    cases v <;> simp [mkind] at hk
    · exact lv_istore_n hx hb hd rfl ha (mset_len _ _ _ _ (h2 rfl)).2 rfl (fun L' h => kk L' (mLoc_store1 hl rfl (h2 rfl) h))
  case astore q =>
    obtain ⟨h1, e2⟩ := hi
    subst h1
    subst e2
    cases v <;> simp [mkind] at hk
    · exact lv_astore hx hb hd ha (mset_len _ _ _ _ (h2 rfl)).2 rfl (fun L' h => kk L' (mLoc_store1 hl rfl (h2 rfl) h))
    · exact lv_astore hx hb hd ha (mset_len _ _ _ _ (h2 rfl)).2 rfl (fun L' h => kk L' (mLoc_store1 hl rfl (h2 rfl) h))
  case astore_n q =>
    obtain ⟨h1, e2⟩ := hi
    subst h1
    subst e2
    cases v <;> simp [mkind] at hk
    · exact lv_astore_n hx hb hd rfl ha (mset_len _ _ _ _ (h2 rfl)).2 rfl (fun L' h => kk L' (mLoc_store1 hl rfl (h2 rfl) h))
    · exact lv_astore_n hx hb hd rfl ha (mset_len _ _ _ _ (h2 rfl)).2 rfl (fun L' h => kk L' (mLoc_store1 hl rfl (h2 rfl) h))
  case lstore q =>
    obtain ⟨h1, e2⟩ := hi
    subst h1
    subst e2
    cases v <;> simp [mkind] at hk
    · exact lv_lstore hx hb hd ha (h3 rfl).1 rfl (fun L' h => kk L' (mLoc_store2 hl (h3 rfl).1 (h3 rfl).2 h))
  case lstore_n q =>
    obtain ⟨h1, e2⟩ := hi
    subst h1
    subst e2
    cases v <;> simp [mkind] at hk
    · exact lv_lstore_n hx hb hd rfl ha (h3 rfl).1 rfl (fun L' h => kk L' (mLoc_store2 hl (h3 rfl).1 (h3 rfl).2 h))
theorem ms_iinc (hx : p.tables.exec = Jvm.exec) (hb : c.code = cc) {j : Nat} {n : Int} (hd : decode cc pc = .ok (.iinc j n, 3)) {ls ls' : List (Option Value)} {x : Int32} (hv : mld ls j = some (.int x)) (hs : mstl ls j (.int (x + Int32.ofInt n)) = some ls') (hl : mLoc kd base ls L) {st : List Value}
    (kk : ∀ L', mLoc kd base ls' L' → W p l e R s m args below meth c H locs cells slots Q (F0 m (pc + 3) L' st)) : W p l e R s m args below meth c H locs cells slots Q (F0 m pc L st) := by
  have ha := mal_has hl
  have hm := mal_mem (kd := kd) (base := base) hv
  obtain ⟨k, hk⟩ := List.getElem?_of_mem hm
  have h2 : mset ls j (some (.int (x + Int32.ofInt n))) = some ls' := by
    unfold mstl at hs
    rw [if_neg (show ¬ (Value.int (x + Int32.ofInt n)).category = 2 from (by decide : ¬ (1 : Nat) = 2))] at hs
    exact hs
  exact lv_iinc (v := x + Int32.ofInt n) hx hb hd ha hk rfl (mset_len _ _ _ _ h2).2 rfl (fun L' h => kk L' (mLoc_store1 hl rfl h2 h))
theorem ms_bin (hx : p.tables.exec = Jvm.exec) (hb : c.code = cc) {i : Instr} (hd : decode cc pc = .ok (i, mlen i)) {f : Int32 → Int32 → Option Int32} (hi : mbin i = some f) {x y z : Int32} (hz : f x y = some z) {st : List Value}
    (kk : W p l e R s m args below meth c H locs cells slots Q (F0 m (pc + mlen i) L (.int z :: st))) : W p l e R s m args below meth c H locs cells slots Q (F0 m pc L (.int y :: .int x :: st)) := by
  cases i <;> simp only [mbin, Option.some.injEq, reduceCtorEq] at hi
  all_goals subst hi
  all_goals simp only [Option.some.injEq] at hz
  case idiv =>
    by_cases h0 : y = 0
    · rw [if_pos h0] at hz; cases hz
    · rw [if_neg h0] at hz; cases hz; exact lv_idiv hx hb hd h0 kk
  case irem =>
    by_cases h0 : y = 0
    · rw [if_pos h0] at hz; cases hz
    · rw [if_neg h0] at hz; cases hz; exact lv_irem hx hb hd h0 kk
  all_goals subst hz
  case iadd => exact lv_iadd hx hb hd kk
  case isub => exact lv_isub hx hb hd kk
  case imul => exact lv_imul hx hb hd kk
  case iand => exact lv_iand hx hb hd kk
  case ior => exact lv_ior hx hb hd kk
  case ixor => exact lv_ixor hx hb hd kk
  case ishl => exact lv_ishl hx hb hd kk
  case ishr => exact lv_ishr hx hb hd kk
  case iushr => exact lv_iushr hx hb hd rfl kk
theorem ms_binl (hx : p.tables.exec = Jvm.exec) (hb : c.code = cc) {i : Instr} (hd : decode cc pc = .ok (i, mlen i)) {f : Int64 → Int64 → Value} (hi : mbinl i = some f) {x y : Int64} {st : List Value}
    (kk : W p l e R s m args below meth c H locs cells slots Q (F0 m (pc + mlen i) L (mv kd base (f x y) :: st))) : W p l e R s m args below meth c H locs cells slots Q (F0 m pc L (.long y :: .long x :: st)) := by
  cases i <;> simp only [mbinl, Option.some.injEq, reduceCtorEq] at hi
  all_goals subst hi
  case ladd => exact lv_ladd hx hb hd kk
  case lsub => exact lv_lsub hx hb hd kk
  case land => exact lv_land hx hb hd kk
  case lor => exact lv_lor hx hb hd kk
  case lcmp => exact W.lcmp hx hb hd kk
theorem ms_shl (hx : p.tables.exec = Jvm.exec) (hb : c.code = cc) {i : Instr} (hd : decode cc pc = .ok (i, mlen i)) {f : Int64 → Int32 → Int64} (hi : mshl i = some f) {x : Int64} {y : Int32} {st : List Value}
    (kk : W p l e R s m args below meth c H locs cells slots Q (F0 m (pc + mlen i) L (.long (f x y) :: st))) : W p l e R s m args below meth c H locs cells slots Q (F0 m pc L (.int y :: .long x :: st)) := by
  cases i <;> simp only [mshl, Option.some.injEq, reduceCtorEq] at hi
  all_goals subst hi
  case lshl => exact lv_lshl hx hb hd rfl kk
  case lshr => exact lv_lshr hx hb hd rfl kk
  case lushr => exact lv_lushr hx hb hd rfl kk
theorem ms_rest (hx : p.tables.exec = Jvm.exec) (hb : c.code = cc) {i : Instr} (hd : decode cc pc = .ok (i, mlen i)) {st st' : List Value} (hi : mrest i st = some st')
    (kk : W p l e R s m args below meth c H locs cells slots Q (F0 m (pc + mlen i) L (st'.map (mv kd base)))) : W p l e R s m args below meth c H locs cells slots Q (F0 m pc L (st.map (mv kd base))) := by
  unfold mrest at hi
  split at hi
  · cases hi; exact lv_i2l hx hb hd rfl kk
  · cases hi; exact lv_l2i hx hb hd rfl kk
  · cases hi; exact lv_i2b hx hb hd rfl kk
  · rename_i a st
    by_cases h1 : a.category = 1
    · rw [if_pos h1] at hi; cases hi
      exact lv_dup hx hb hd (by rw [mv_cat]; exact h1) kk
    · rw [if_neg h1] at hi; cases hi
  · rename_i a st
    by_cases h1 : a.category = 1
    · rw [if_pos h1] at hi; cases hi
      exact lv_pop hx hb hd (by rw [mv_cat]; exact h1) kk
    · rw [if_neg h1] at hi; cases hi
  · rename_i a b st
    by_cases h1 : a.category = 1
    · rw [if_pos h1] at hi
      by_cases h2 : b.category = 1
      · rw [if_pos h2] at hi; cases hi
        exact lv_dup_x1 hx hb hd (by rw [mv_cat]; exact h1) (by rw [mv_cat]; exact h2) kk
      · rw [if_neg h2] at hi; cases hi
    · rw [if_neg h1] at hi; cases hi
  · rename_i a b st
    by_cases h1 : a.category = 1
    · rw [if_pos h1] at hi
      by_cases h2 : b.category = 1
      · rw [if_pos h2] at hi; cases hi
        exact lv_dup2_11 hx hb hd (by rw [mv_cat]; exact h1) (by rw [mv_cat]; exact h2) kk
      · rw [if_neg h2] at hi; cases hi
    · rw [if_neg h1] at hi; cases hi
  · cases hi
/-- all of them; a constant of the pool by a premise -/
theorem ms_pure (hx : p.tables.exec = Jvm.exec) (hb : c.code = cc) {i : Instr} (hd : decode cc pc = .ok (i, mlen i)) {cst : Nat → Option Value} {ls ls' : List (Option Value)} {st st' : List Value} (hp : mpure cst i ls st = some (ls', st')) (hl : mLoc kd base ls L)
    (hk : ∀ k v, cst k = some v → ((i = .ldc k ∧ ¬ mkind v = 1) ∨ (i = .ldc_w k ∧ mkind v = 0) ∨ (i = .ldc2_w k ∧ mkind v = 1)) → W p l e R s m args below meth c H locs cells slots Q (F0 m (pc + mlen i) L (mv kd base v :: st.map (mv kd base))) → W p l e R s m args below meth c H locs cells slots Q (F0 m pc L (st.map (mv kd base))))
    (kk : ∀ L', mLoc kd base ls' L' → W p l e R s m args below meth c H locs cells slots Q (F0 m (pc + mlen i) L' (st'.map (mv kd base)))) : W p l e R s m args below meth c H locs cells slots Q (F0 m pc L (st.map (mv kd base))) := by
  unfold mpure at hp
  cases hc : mconst cst i with
  | some v =>
    rw [hc] at hp
    cases hp
    have k1 := kk L hl
    cases i <;> simp only [mconst, Option.some.injEq, reduceCtorEq] at hc
    case iconst n => subst hc; exact lv_iconst hx hb hd rfl k1
    case bipush n => subst hc; exact lv_bipush hx hb hd rfl k1
    case sipush n => subst hc; exact lv_sipush hx hb hd rfl k1
    case lconst n => subst hc; exact lv_lconst hx hb hd rfl k1
    case ldc k =>
      split at hc
      · rename_i v' hv'
        split at hc
        · cases hc
        · rename_i h9
          cases hc
          exact hk k v hv' (Or.inl ⟨rfl, h9⟩) k1
      · cases hc
    case ldc_w k =>
      split at hc
      · rename_i v' hv'
        split at hc
        · rename_i h9
          cases hc
          exact hk k v hv' (Or.inr (Or.inl ⟨rfl, h9⟩)) k1
        · cases hc
      · cases hc
    case ldc2_w k =>
      split at hc
      · rename_i v' hv'
        split at hc
        · rename_i h9
          cases hc
          exact hk k v hv' (Or.inr (Or.inr ⟨rfl, h9⟩)) k1
        · cases hc
      · cases hc
  | none =>
    rw [hc] at hp
    dsimp only at hp
    cases h1 : mload i with
    | some kj =>
      obtain ⟨k, j⟩ := kj
      rw [h1] at hp
      dsimp only at hp
      cases h2 : mld ls j with
      | none => rw [h2] at hp; cases hp
      | some v =>
        rw [h2] at hp
        dsimp only at hp
        by_cases h3 : mkind v = k
        · rw [if_pos h3] at hp; cases hp
          exact ms_load hx hb hd h1 h2 h3 hl (kk L hl)
        · rw [if_neg h3] at hp; cases hp
    | none =>
      rw [h1] at hp
      dsimp only at hp
      cases h4 : mstore i with
      | some kj =>
        obtain ⟨k, j⟩ := kj
        rw [h4] at hp
        dsimp only at hp
        cases st with
        | nil => cases hp
        | cons v st =>
          dsimp only at hp
          by_cases h3 : mkind v = k
          · rw [if_pos h3] at hp
            cases h5 : mstl ls j v with
            | none => rw [h5] at hp; cases hp
            | some l5 =>
              rw [h5] at hp; cases hp
              exact ms_store hx hb hd h4 h3 h5 hl kk
          · rw [if_neg h3] at hp; cases hp
      | none =>
        rw [h4] at hp
        dsimp only at hp
        split at hp
        · rename_i j n
          split at hp
          · rename_i x h2
            cases h5 : mstl ls j (.int (x + Int32.ofInt n)) with
            | none => rw [h5] at hp; cases hp
            | some l5 =>
              rw [h5] at hp; cases hp
              exact ms_iinc hx hb hd h2 h5 hl kk
          · cases hp
        · cases h6 : mbin i with
          | some f =>
            rw [h6] at hp
            dsimp only at hp
            split at hp
            · rename_i y x st
              cases h7 : f x y with
              | none => rw [h7] at hp; cases hp
              | some z =>
                rw [h7] at hp; cases hp
                exact ms_bin hx hb hd h6 h7 (kk L hl)
            · cases hp
          | none =>
            rw [h6] at hp
            dsimp only at hp
            cases h8 : mbinl i with
            | some f =>
              rw [h8] at hp
              dsimp only at hp
              split at hp
              · cases hp
                exact ms_binl hx hb hd h8 (kk L hl)
              · cases hp
            | none =>
              rw [h8] at hp
              dsimp only at hp
              cases h9 : mshl i with
              | some f =>
                rw [h9] at hp
                dsimp only at hp
                split at hp
                · cases hp
                  exact ms_shl hx hb hd h9 (kk L hl)
                · cases hp
              | none =>
                rw [h9] at hp
                dsimp only at hp
                cases h10 : mrest i st with
                | none => rw [h10] at hp; cases hp
                | some s10 =>
                  rw [h10] at hp; cases hp
                  exact ms_rest hx hb hd h10 (kk L hl)
end
