/-! ===== steps that make objects and arrays; references in arrays ===== -/
def zr (S : mStore) (a : Nat) : mStore := fun j i => if j = a then 0 else S j i
theorem zr_eq (S : mStore) (a : Nat) : zr S a a = fun _ => 0 := by funext i; exact if_pos rfl
theorem zr_ne {S : mStore} {a j : Nat} (h : j ≠ a) : zr S a j = S j := by funext i; exact if_neg h
theorem wd_new (SH : List mCell) (S : mStore) {c c' : mCell} (hc : wc (fun _ => 0) c = c') : wd SH S ++ [c'] = wd (SH ++ [c]) (zr S SH.length) := by
  rw [wd_app, zr_eq, hc, wd_cong (fun j hj => zr_ne (Nat.ne_of_lt hj))]
section
variable {sc : Nat × (Nat → Int32)} {M M' : mM} {pc len : Nat} {ls ls' : List (Option Value)} {st rest : List Value} {SH SH1 : List mCell} {S S1 : mStore} {r : mR × mW} {a b c k n idx : Nat} {As as : List Value} {fs : List Value}
theorem tt_new (hd : decode M.cc pc = .ok (.new idx, 3)) (hT : mnT M.own idx = some c) (hc : c < 100) (hz : wc (fun _ => 0) (mO c (mdf c)) = mO c (mdf c)) (h : G sc M (pc + 3) ls (.ref SH.length :: st) (SH ++ [mO c (mdf c)]) (zr S SH.length) r) : G sc M pc ls st SH S r :=
  (s_new hd hT hc (fun _ _ => oLe.rf _)).go (by
    unfold nw
    rw [wd_new SH S hz, wd_len]
    exact h)
theorem tt_newI (hd : decode M.cc pc = .ok (.newarray .int, 2)) (hn : n ≤ 1000000) (h : G sc M (pc + 2) ls (.ref SH.length :: st) (SH ++ [mI n (fun _ => 0)]) (zr S SH.length) r) : G sc M pc ls (.int (I n) :: st) SH S r :=
  (s_newarr hd (fun _ _ => oLe.rf _)).go (by
    have e : (I n).toNatClampNeg = n := by rw [← Int32.toNat_toInt, I_toInt ⟨by omega, by omega⟩]; omega
    have e2 : mnewa .int (I n) = some (mI n (fun _ => 0)) := by
      show (if I n < 0 ∨ 1000000 < (I n).toNatClampNeg then none else some (mI (I n).toNatClampNeg (fun _ => 0))) = _
      rw [e, if_neg (by rw [Int32.lt_iff_toInt_lt, I_toInt ⟨by omega, by omega⟩]; simp; omega)]
    unfold nwa
    rw [e2]
    dsimp only
    rw [wd_new SH S (c := mI n (fun _ => 0)) (c' := mI n (fun _ => 0)) rfl, wd_len]
    exact h)
theorem tt_newB (hd : decode M.cc pc = .ok (.newarray .byte, 2)) (hn : n ≤ 1000000) (h : G sc M (pc + 2) ls (.ref SH.length :: st) (SH ++ [mB n (fun _ => 0)]) (zr S SH.length) r) : G sc M pc ls (.int (I n) :: st) SH S r :=
  (s_newarr hd (fun _ _ => oLe.rf _)).go (by
    have e : (I n).toNatClampNeg = n := by rw [← Int32.toNat_toInt, I_toInt ⟨by omega, by omega⟩]; omega
    have e2 : mnewa .byte (I n) = some (mB n (fun _ => 0)) := by
      show (if I n < 0 ∨ 1000000 < (I n).toNatClampNeg then none else some (mB (I n).toNatClampNeg (fun _ => 0))) = _
      rw [e, if_neg (by rw [Int32.lt_iff_toInt_lt, I_toInt ⟨by omega, by omega⟩]; simp; omega)]
    unfold nwa
    rw [e2]
    dsimp only
    rw [wd_new SH S (c := mB n (fun _ => 0)) (c' := mB n (fun _ => 0)) rfl, wd_len]
    exact h)
theorem tt_newJ (hd : decode M.cc pc = .ok (.newarray .long, 2)) (hn : n ≤ 1000000) (h : G sc M (pc + 2) ls (.ref SH.length :: st) (SH ++ [mJ n (fun _ => 0)]) (zr S SH.length) r) : G sc M pc ls (.int (I n) :: st) SH S r :=
  (s_newarr hd (fun _ _ => oLe.rf _)).go (by
    have e : (I n).toNatClampNeg = n := by rw [← Int32.toNat_toInt, I_toInt ⟨by omega, by omega⟩]; omega
    have e2 : mnewa .long (I n) = some (mJ n (fun _ => 0)) := by
      show (if I n < 0 ∨ 1000000 < (I n).toNatClampNeg then none else some (mJ (I n).toNatClampNeg (fun _ => 0))) = _
      rw [e, if_neg (by rw [Int32.lt_iff_toInt_lt, I_toInt ⟨by omega, by omega⟩]; simp; omega)]
    unfold nwa
    rw [e2]
    dsimp only
    rw [wd_new SH S (c := mJ n (fun _ => 0)) (c' := mJ n (fun _ => 0)) rfl, wd_len]
    exact h)
theorem pfR_wd (h : ob SH a c fs) (hk : k < fs.length) : mputf (wd SH S) c k a (.ref b) = some (wd (SH.set a (mO c (fs.set k (.ref b)))) S) := by
  unfold mputf
  rw [wd_get, h]
  refine (if_pos rfl).trans ?_
  rw [List.length_mapIdx]
  refine (if_pos hk).trans ?_
  congr 1
  refine wd_set' h ?_
  show mO c _ = mO c _
  congr 1
  apply List.ext_getElem?
  intro j
  rw [List.getElem?_mapIdx, List.getElem?_set, List.getElem?_set, List.getElem?_mapIdx, List.length_mapIdx]
  split
  · rename_i e; subst e
    rfl
  · rfl
theorem tt_putR (hd : decode M.cc pc = .ok (.putfield idx, 3)) (hT : mfT M.own idx = some (c, k)) (hm : mfit (mty c k) (.ref 0) = true) (hq : mfin c k = false ∨ (M.nm.name = "<init>" ∧ M.own = c)) (ho : ob SH a c fs) (hk : k < fs.length) (h : G sc M (pc + 3) ls st (SH.set a (mO c (fs.set k (.ref b)))) S r) : G sc M pc ls (.ref b :: .ref a :: st) SH S r :=
  (s_putR hd hT hm hq (fun _ => oLe.rf _)).go (by unfold pfR; rw [pfR_wd ho hk]; exact h)
theorem s_ctV {g : mW} {F : mW → Option (mR × mW)} (hd : decode M.cc pc = .ok (.invokespecial idx, 3)) (hT : mcT M.own idx = some (1, n, M')) (rest : List Value) (hp : mpop n st = some (as, rest)) (hr : mref as = true) (hL : mlocals M'.nL as = ls') (hw : mwt rest = true ∧ M'.rank < M.rank ∧ (menter as).length ≤ M'.nL) (h : ∀ g1, oLe (F g1) (R sc M (pc + 3) ls rest g1)) : oLe (cVN (R sc M' 0 ls' [] g) F) (R sc M pc ls st g) := by
  subst hL
  unfold cVN
  split
  · rename_i g1 hv
    exact R_two hd rfl hv (h g1) (fun K hK => (mcall_1 (pc := pc) hT (.inl rfl) hp hw hr).trans (by rw [hK]; rfl))
  · exact oLe.none _
theorem tt_ctV (hd : decode M.cc pc = .ok (.invokespecial idx, 3)) (hT : mcT M.own idx = some (1, n, M')) (rest : List Value) (hp : mpop n st = some (as, rest)) (hr : mref as = true) (hL : mlocals M'.nL as = ls') (hw : mwt rest = true ∧ M'.rank < M.rank ∧ (menter as).length ≤ M'.nL) (hg : G sc M' 0 ls' [] SH S (rV SH1 S1)) (h : G sc M (pc + 3) ls rest SH1 S1 r) : G sc M pc ls st SH S r := by
  have hg : R sc M' 0 ls' [] (wd SH S) = some (rV SH1 S1) := hg
  refine (s_ctV hd hT rest hp hr hL hw (fun _ => oLe.rf _)).go ?_
  rw [hg]
  exact h
theorem tt_vcV1 (hd : decode M.cc pc = .ok (.invokevirtual idx, 3)) (hT : mcT M.own idx = some (0, n, M')) (hc : M'.own = c) (rest : List Value) (hp : mpop n st = some (.ref a :: As, rest)) (hL : mlocals M'.nL (.ref a :: As) = ls') (hw : mwt rest = true ∧ M'.rank < M.rank ∧ (menter (.ref a :: As)).length ≤ M'.nL) (ho : ob SH a c fs) (hg : G sc M' 0 ls' [] SH S (rV SH1 S1)) (h : G sc M (pc + 3) ls rest SH1 S1 r) : G sc M pc ls st SH S r := by
  have hg : R sc M' 0 ls' [] (wd SH S) = some (rV SH1 S1) := hg
  refine (s_vcVN hd hT hc rest hp hL hw (fun _ => oLe.rf _)).go ?_
  rw [if_pos (rcv_wd ho), hg]
  exact h
theorem tt_vcR1 {v : Nat} (hd : decode M.cc pc = .ok (.invokevirtual idx, 3)) (hT : mcT M.own idx = some (0, n, M')) (hc : M'.own = c) (rest : List Value) (hp : mpop n st = some (.ref a :: As, rest)) (hL : mlocals M'.nL (.ref a :: As) = ls') (hw : mwt rest = true ∧ M'.rank < M.rank ∧ (menter (.ref a :: As)).length ≤ M'.nL) (ho : ob SH a c fs) (hg : G sc M' 0 ls' [] SH S (rR v SH1 S1)) (h : G sc M (pc + 3) ls (.ref v :: rest) SH1 S1 r) : G sc M pc ls st SH S r := by
  have hg : R sc M' 0 ls' [] (wd SH S) = some (rR v SH1 S1) := hg
  refine (s_vcRN hd hT hc rest hp hL hw (fun _ _ => oLe.rf _)).go ?_
  rw [if_pos (rcv_wd ho), hg]
  exact h
theorem tt_aaload {f : Nat → Option Nat} {z : Int} (hd : decode M.cc pc = .ok (.aaload, 1)) (ha : SH[a]? = some (mS n f)) (hz : 0 ≤ z ∧ z < n) (hn : n < 2147483648) (h : G sc M (pc + 1) ls (va_rf (f z.toNat) :: st) SH S r) : G sc M pc ls (.int (I z) :: .ref a :: st) SH S r := by
  refine (s_lda hd rfl (fun K => rfl) ?_ (oLe.rf _)).go h
  show (match (wd SH S)[a]? with
    | some (.inr (.inr (.inl (n, f)))) => if I z < 0 ∨ n ≤ (I z).toNatClampNeg then none else some (va_rf (f (I z).toNatClampNeg))
    | _ => none) = _
  rw [wd_get, ha]
  obtain ⟨h1, h2⟩ := I_ix hz.1 hz.2 hn
  show (if I z < 0 ∨ n ≤ (I z).toNatClampNeg then none else some (va_rf (f (I z).toNatClampNeg))) = _
  rw [if_neg h1, h2]
theorem tt_aastore {f : Nat → Option Nat} {z : Int} {x : Nat} (hd : decode M.cc pc = .ok (.aastore, 1)) (ha : SH[a]? = some (mS n f)) (ho : ob SH x 7 fs) (hz : 0 ≤ z ∧ z < n) (hn : n < 2147483648) (h : G sc M (pc + 1) ls st (SH.set a (mS n (va_up f z.toNat (some x)))) S r) : G sc M pc ls (.ref x :: .int (I z) :: .ref a :: st) SH S r := by
  refine (s_sta hd rfl (fun K => rfl) (fun _ => oLe.rf _)).go ?_
  have e : mast (wd SH S) .aastore a (I z) (.ref x) = some (wd (SH.set a (mS n (va_up f z.toNat (some x)))) S) := by
    show (match (wd SH S)[a]? with
      | some (.inr (.inr (.inl (n, f)))) => if mrecv (wd SH S) 7 [.ref x] then (if I z < 0 ∨ n ≤ (I z).toNatClampNeg then none else some ((wd SH S).set a (mS n (va_up f (I z).toNatClampNeg (some x))))) else none
      | _ => none) = _
    rw [wd_get, ha]
    obtain ⟨h1, h2⟩ := I_ix hz.1 hz.2 hn
    have hr : mrecv (wd SH S) 7 [.ref x] = true := rcv_wd ho
    show (if mrecv (wd SH S) 7 [.ref x] then (if I z < 0 ∨ n ≤ (I z).toNatClampNeg then none else some ((wd SH S).set a (mS n (va_up f (I z).toNatClampNeg (some x))))) else none) = _
    rw [if_pos hr, if_neg h1, h2]
    congr 1
    exact wd_set' ha rfl
  rw [e]
  exact h
theorem tt_nonnull (t : Nat) {off : Int} {x : Nat} (hd : decode M.cc pc = .ok (.ifnonnull off, 3)) (ht : (pc : Int) + off = t) (h : G sc M t ls st SH S r) : G sc M pc ls (.ref x :: st) SH S r := by
  refine (R_one hd rfl (fun K => ?_) (oLe.rf _)).go h
  simp only [mstep, mpure, mconst, mload, mstore, mbin, mbinl, mshl, mrest, Option.map_none]
  show mto K M ls st (wd SH S) pc off = _
  unfold mto
  rw [ht, if_neg (by omega)]
  rfl
theorem tt_null {off : Int} (hd : decode M.cc pc = .ok (.ifnonnull off, 3)) (h : G sc M (pc + 3) ls st SH S r) : G sc M pc ls (.null :: st) SH S r := by
  refine (R_one hd rfl (fun K => ?_) (oLe.rf _)).go h
  simp only [mstep, mpure, mconst, mload, mstore, mbin, mbinl, mshl, mrest, Option.map_none]
theorem tt_aret {x : Nat} (hd : decode M.cc pc = .ok (.areturn, 1)) (hr : mretok M.ret (some (.ref x)) = true) : G sc M pc ls [.ref x] SH S (rR x SH S) := by
  refine (R_end hd rfl (fun K => ?_) : oLe (some (rR x SH S)) _).go rfl
  simp only [mstep, mpure, mconst, mload, mstore, mbin, mbinl, mshl, mrest, Option.map_none]
  exact if_pos ⟨rfl, hr⟩
end
