/-! ===== one step, and all ===== -/
section
variable {p : Program} {l : Launch} {e : Env} {R : Room} {s : State} {m : MethodId} {args : Array Value} {below : List Frame} {meth : Method} {c : Code} {H : Heap} {locs : List Loc} {cells slots : Nat} {Q : State → Prop}
variable {M : mM} {pc : Nat} {L : Array Slot} {kd : Nat → Nat} {base : Nat} {D : va_G} {tc : Nat → ClassId} {g : mW} {sc : Nat × (Nat → Int32)}
/-- a constant of the pool -/
theorem mr_ldc (C : mCt p s m args meth c M) (hE : mEn D tc kd base sc s s.heap) {i : Instr} (hd : decode M.cc pc = .ok (i, mlen i)) {k : Nat} {v : Value} (hk : mkT M.own k = some v) (hi : (i = .ldc k ∧ ¬ mkind v = 1) ∨ (i = .ldc_w k ∧ mkind v = 0) ∨ (i = .ldc2_w k ∧ mkind v = 1)) {st : List Value}
    (kk : W p l e R s m args below meth c H locs cells slots Q (F0 m (pc + mlen i) L (mv kd base v :: st))) : W p l e R s m args below meth c H locs cells slots Q (F0 m pc L st) := by
  obtain ⟨hx, hb, -, hown, hts, -⟩ := C
  have hw := mkA _ _ (mlook_mem hk)
  cases v with
  | int x =>
    have w1 := hts _ (gt_in (hw (.constant (mcn M.own) k x) (by simp [mkw])))
    rcases hi with ⟨rfl, -⟩ | ⟨rfl, -⟩ | ⟨rfl, h9⟩
    · exact lv_ldc hx hb hown w1 hd kk
    · exact lv_ldcw hx hb hown w1 hd kk
    · simp [mkind] at h9
  | long x =>
    have w1 := hts _ (gt_in (hw (.constantLong (mcn M.own) k x) (by simp [mkw])))
    rcases hi with ⟨rfl, h9⟩ | ⟨rfl, h9⟩ | ⟨rfl, -⟩
    · simp [mkind] at h9
    · simp [mkind] at h9
    · exact lv_ldc2 hx hb hown w1 hd kk
  | retAddr j => sorry
  | float x => cases mkB _ _ (mlook_mem hk)
  | double x => cases mkB _ _ (mlook_mem hk)
  | null => cases mkB _ _ (mlook_mem hk)
  | ref a => cases mkB _ _ (mlook_mem hk)
/-- the cells that are read only -/
theorem mr_sld (C : mCt p s m args meth c M) (hE : mEn D tc kd base sc s s.heap) (hbs : base ≤ s.heap.size) (hR : mRl D tc kd base s g H locs cells) {i : Instr} {k : Nat} {j : Int32} {v : Value} {st : List Value} (hd : decode M.cc pc = .ok (i, 1)) (hv : mald sc g i (.retAddr k) j = some v)
    (kk : W p l e R s m args below meth c H locs cells slots Q (F0 m (pc + 1) L ((v :: st).map (mv kd base)))) : W p l e R s m args below meth c H locs cells slots Q (F0 m pc L ((.int j :: .retAddr k :: st).map (mv kd base))) := by
  obtain ⟨hx, hb, -⟩ := C
  obtain ⟨-, -, -, ⟨e1, e2⟩, e3, e4⟩ := hE
  unfold mald at hv
  split at hv <;> rename_i hq <;> first | cases hq | skip
  · split at hv
    · cases hv
    · rename_i h1
      cases hv
      exact va_sld (A := fun q => base ≤ q) hx hb e1 (Nat.lt_of_lt_of_le e2 hbs) (Nat.not_le.mpr e2) hR.2.2.1 (vin_of h1) hd kk
  · split at hv
    · cases hv
    · rename_i h1
      cases hv
      exact va_tb hx hb e4 hR.2.2.1 (vin_of h1) rfl hd kk
  · cases hv
end
