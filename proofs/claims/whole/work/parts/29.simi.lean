/-! ===== one step, and all ===== -/
section
variable {p : Program} {l : Launch} {e : Env} {R : Room} {s : State} {m : MethodId} {args : Array Value} {below : List Frame} {meth : Method} {c : Code} {H : Heap} {locs : List Loc} {cells slots : Nat} {Q : State → Prop}
variable {M : mM} {pc : Nat} {L : Array Slot} {kd : Nat → Nat} {base : Nat} {D : va_G} {tc : Nat → ClassId} {g : mW} {sc : Nat × (Nat → Int32)}
def mks (own : Nat) (e : Nat × Value) : Bool := match e.2 with
  | .retAddr j => decide (2 ≤ j) && decide ((mstrL[j - 2]?).map (fun q => (q.1, q.2.1)) = some (own, e.1))
  | _ => true
theorem mks_ok : ∀ own, own < 15 → ∀ e ∈ mkTab own, mks own e = true := by decide +kernel
theorem mkS (own k j : Nat) (h : mkT own k = some (.retAddr j)) : ∃ i tx, j = i + 2 ∧ mstrL[i]? = some (own, k, tx) := by
  have hm := mlook_mem h
  have ho : own < 15 := by
    apply Nat.lt_of_not_le
    intro hle
    obtain ⟨d, rfl⟩ : ∃ d, own = d + 15 := ⟨own - 15, by omega⟩
    cases hm
  have h1 := mks_ok own ho _ hm
  simp only [mks, Bool.and_eq_true, decide_eq_true_eq] at h1
  obtain ⟨h2, h3⟩ := h1
  cases hq : mstrL[j - 2]? with
  | none => rw [hq] at h3; cases h3
  | some q =>
    rw [hq] at h3
    obtain ⟨q1, q2, q3⟩ := q
    simp only [Option.map_some, Option.some.injEq, Prod.mk.injEq] at h3
    obtain ⟨rfl, rfl⟩ := h3
    exact ⟨j - 2, q3, by omega, hq⟩
/-- a constant of the pool -/
theorem mr_ldc (C : mCt p s m args meth c M) (hE : mEn D tc kd base sc s s.heap) {i : Instr} (hd : decode M.cc pc = .ok (i, mlen i)) {k : Nat} {v : Value} (hk : mkT M.own k = some v) (hi : (i = .ldc k ∧ ¬ mkind v = 1) ∨ (i = .ldc_w k ∧ mkind v = 0) ∨ (i = .ldc2_w k ∧ mkind v = 1)) {st : List Value}
    (kk : W p l e R s m args below meth c H locs cells slots Q (F0 m (pc + mlen i) L (mv kd base v :: st))) : W p l e R s m args below meth c H locs cells slots Q (F0 m pc L st) := by
  obtain ⟨hx, hb, -, hown, hts, -⟩ := C
  have hw := mkA _ _ (mlook_mem hk)
  cases v with
  | int x =>
    have w1 := hts _ (gt_in (hw (.constant (mcn M.own) k x) (by simp [mkw])))
    rcases hi with ⟨rfl, -⟩ | ⟨rfl, -⟩ | ⟨rfl, h9⟩
    · exact lv_ldc hx hb hown w1 hd kk
    · exact lv_ldcw hx hb hown w1 hd kk
    · simp [mkind] at h9
  | long x =>
    have w1 := hts _ (gt_in (hw (.constantLong (mcn M.own) k x) (by simp [mkw])))
    rcases hi with ⟨rfl, h9⟩ | ⟨rfl, h9⟩ | ⟨rfl, -⟩
    · simp [mkind] at h9
    · simp [mkind] at h9
    · exact lv_ldc2 hx hb hown w1 hd kk
  | retAddr j =>
    obtain ⟨i0, tx, rfl, hq⟩ := mkS _ _ _ hk
    obtain ⟨-, -, ⟨-, -, -, e8⟩, -⟩ := hE
    have h8 : vk_R (mcn M.own) k tx (kd (i0 + 2)) s := e8 i0 (M.own, k, tx) hq
    rcases hi with ⟨hi, -⟩ | ⟨-, h9⟩ | ⟨-, h9⟩
    · subst hi
      exact va_ldcS hx hb hown h8 hd kk
    · exact absurd h9 (show ¬ (2 : Nat) = 0 by decide)
    · exact absurd h9 (show ¬ (2 : Nat) = 1 by decide)
  | float x => cases mkB _ _ (mlook_mem hk)
  | double x => cases mkB _ _ (mlook_mem hk)
  | null => cases mkB _ _ (mlook_mem hk)
  | ref a => cases mkB _ _ (mlook_mem hk)
/-- the cells that are read only -/
theorem mr_sld (C : mCt p s m args meth c M) (hE : mEn D tc kd base sc s s.heap) (hbs : base ≤ s.heap.size) (hR : mRl D tc kd base s g H locs cells) {i : Instr} {k : Nat} {j : Int32} {v : Value} {st : List Value} (hd : decode M.cc pc = .ok (i, 1)) (hv : mald sc g i (.retAddr k) j = some v)
    (kk : W p l e R s m args below meth c H locs cells slots Q (F0 m (pc + 1) L ((v :: st).map (mv kd base)))) : W p l e R s m args below meth c H locs cells slots Q (F0 m pc L ((.int j :: .retAddr k :: st).map (mv kd base))) := by
  obtain ⟨hx, hb, -⟩ := C
  obtain ⟨-, -, -, ⟨⟨e1, e2⟩, e3, e4⟩, -⟩ := hE
  unfold mald at hv
  split at hv <;> rename_i hq <;> first | cases hq | skip
  · split at hv
    · cases hv
    · rename_i h1
      cases hv
      exact va_sld (A := fun q => base ≤ q) hx hb e1 (Nat.lt_of_lt_of_le e2 hbs) (Nat.not_le.mpr e2) hR.2.2.1 (vin_of h1) hd kk
  · split at hv
    · cases hv
    · rename_i h1
      cases hv
      exact va_tb hx hb e4 hR.2.2.1 (vin_of h1) rfl hd kk
  · cases hv
end
