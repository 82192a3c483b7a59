/-! ===== the constructors (gen_init.py) ===== -/
section
variable {sc : Nat × (Nat → Int32)} {M M' : mM} {pc len : Nat} {ls ls' : List (Option Value)} {st rest : List Value} {SH SH1 L L1 : List mCell} {S S1 : mStore} {r : mR × mW} {a b c k n m j f idx : Nat} {fs as : List Value}
theorem newA_L (hn : SH.length = n) (hd : decode M.cc pc = .ok (.anewarray idx, 3)) (hq : mqT M.own idx = true) (hk : L.length = k) (hl : L ++ [mS m (fun _ => none)] = L1) (hm : m ≤ 1000000) (h : G sc M (pc + 3) ls (.ref (n + k) :: st) (SH ++ L1) (zr S (n + k)) r) : G sc M pc ls (.int (I m) :: st) (SH ++ L) S r := by
  have e : (I m).toNatClampNeg = m := by rw [← Int32.toNat_toInt, I_toInt ⟨by omega, by omega⟩]; omega
  have e3 : ¬ (I m < 0 ∨ 1000000 < (I m).toNatClampNeg) := by
    rw [e, Int32.lt_iff_toInt_lt, I_toInt ⟨by omega, by omega⟩]; simp; omega
  have hw : wd (SH ++ L) S ++ [mS m (fun _ => none)] = wd (SH ++ L1) (zr S (n + k)) := by
    rw [wd_new (SH ++ L) S (c := mS m (fun _ => none)) (c' := mS m (fun _ => none)) rfl, List.length_append, hn, hk, List.append_assoc, hl]
  refine (R_one hd rfl (fun K => ?_) (oLe.rf _)).go h
  simp only [mstep, mpure, mconst, mload, mstore, mbin, mbinl, mshl, mrest, Option.map_none, hq]
  rw [if_neg e3, e, hw, wd_len, List.length_append, hn, hk]
theorem tt_ctN (hd : decode M.cc pc = .ok (.invokespecial idx, 3)) (hT : mcT M.own idx = some (4, n, M')) (rest : List Value) (hp : mpop n st = some (as, rest)) (hr : mref as = true) (hL : mlocals M'.nL as = ls') (hw : mwt rest = true ∧ M'.rank < M.rank ∧ (menter as).length ≤ M'.nL) (hg : G sc M' 0 ls' [] SH S (rV SH1 S1)) (h : G sc M (pc + 3) ls rest SH1 S1 r) : G sc M pc ls st SH S r := by
  have hg : R sc M' 0 ls' [] (wd SH S) = some (rV SH1 S1) := hg
  refine (s_inVN hd hT (.inr rfl) rest hp hr hL hw (fun _ => oLe.rf _)).go ?_
  rw [hg]
  exact h
end
section
variable {sc : Nat × (Nat → Int32)} {SH L : List mCell} {S : mStore} {n : Nat}
def plC (n : Nat) : List mCell := [mO 5 [.int 0, .int 0, .int 0, .int 0, .int 0, .int 0, .int 0, .int 0, .ref (n + 1), .ref (n + 2), .ref (n + 3), .ref (n + 4)], mI 4 (fun _ => 0), mI 4 (fun _ => 0), mI 4 (fun _ => 0), mI 48 (fun _ => 0)]
theorem plan_new (hn : SH.length = n) : ∃ S', G sc MX5_init 0 [some (.ref n)] [] (SH ++ [mO 5 (mdf 5)]) S (rV (SH ++ plC n) S') ∧ planR S' n P0d ∧ (∀ j, j < n → S' j = S j) := by
  have hs : sPlan (SH ++ plC n) n := ⟨getL (j := 0) hn rfl, ⟨getL (j := 1) hn rfl, by decide⟩, ⟨getL (j := 2) hn rfl, by decide⟩, ⟨getL (j := 3) hn rfl, by decide⟩, ⟨getL (j := 4) hn rfl, by decide⟩⟩
  obtain ⟨U, hU⟩ : ∃ U, U = (up (up (up (up (up (up (up (up (zr (zr (zr (zr S (n + 1)) (n + 2)) (n + 3)) (n + 4)) n 0 24) n 1 4) n 2 1) n 3 8) n 4 0) n 5 0) n 6 0) n 7 0) := ⟨_, rfl⟩
  have g : G sc MX5_clear 0 [some (.ref n)] [] (SH ++ plC n) (zr (zr (zr (zr S (n + 1)) (n + 2)) (n + 3)) (n + 4)) (rV (SH ++ plC n) U) := qX5_clear_0 hs ⟨.inl rfl, .inl rfl, by rw [hU]⟩
  refine ⟨U, ?_, ?_, fun j hj => ?_⟩
  · show G sc MX5_init 0 [some (.ref n)] [] (SH ++ [mO 5 [.int 0, .int 0, .int 0, .int 0, .int 0, .int 0, .int 0, .int 0, .null, .null, .null, .null]]) S (rV (SH ++ [mO 5 [.int 0, .int 0, .int 0, .int 0, .int 0, .int 0, .int 0, .int 0, .ref (n + 1), .ref (n + 2), .ref (n + 3), .ref (n + 4)], mI 4 (fun _ => 0), mI 4 (fun _ => 0), mI 4 (fun _ => 0), mI 48 (fun _ => 0)]) U)
    replace g : G sc MX5_clear 0 [some (.ref n)] [] (SH ++ [mO 5 [.int 0, .int 0, .int 0, .int 0, .int 0, .int 0, .int 0, .int 0, .ref (n + 1), .ref (n + 2), .ref (n + 3), .ref (n + 4)], mI 4 (fun _ => 0), mI 4 (fun _ => 0), mI 4 (fun _ => 0), mI 48 (fun _ => 0)]) (zr (zr (zr (zr S (n + 1)) (n + 2)) (n + 3)) (n + 4)) (rV (SH ++ [mO 5 [.int 0, .int 0, .int 0, .int 0, .int 0, .int 0, .int 0, .int 0, .ref (n + 1), .ref (n + 2), .ref (n + 3), .ref (n + 4)], mI 4 (fun _ => 0), mI 4 (fun _ => 0), mI 4 (fun _ => 0), mI 48 (fun _ => 0)]) U) := g
    refine tt_ld (P := True) (M := MX5_init) (pc := 0) dX5_init_0 rfl rfl rfl rfl rfl (fun _ => ?_) trivial
    refine tt_obj (P := True) (M := MX5_init) (pc := 1) dX5_init_1 rfl [] rfl rfl ⟨rfl, by decide, Nat.le_of_ble_eq_true rfl⟩ (fun _ => ?_) trivial
    refine tt_ld (P := True) (M := MX5_init) (pc := 4) dX5_init_4 rfl rfl rfl rfl rfl (fun _ => ?_) trivial
    refine tt_iconst (P := True) (M := MX5_init) (pc := 5) dX5_init_5 (fun _ => ?_) trivial
    refine newI_L (n := n) (k := 1) (m := 4) (L := [mO 5 [.int 0, .int 0, .int 0, .int 0, .int 0, .int 0, .int 0, .int 0, .null, .null, .null, .null]]) (L1 := [mO 5 [.int 0, .int 0, .int 0, .int 0, .int 0, .int 0, .int 0, .int 0, .null, .null, .null, .null], mI 4 (fun _ => 0)]) hn (M := MX5_init) (pc := 6) dX5_init_6 rfl rfl (by decide) ?_
    refine putR_L (n := n) (j := 0) (L := [mO 5 [.int 0, .int 0, .int 0, .int 0, .int 0, .int 0, .int 0, .int 0, .null, .null, .null, .null], mI 4 (fun _ => 0)]) (L1 := [mO 5 [.int 0, .int 0, .int 0, .int 0, .int 0, .int 0, .int 0, .int 0, .ref (n + 1), .null, .null, .null], mI 4 (fun _ => 0)]) hn (M := MX5_init) (pc := 8) dX5_init_8 rfl rfl (.inr ⟨rfl, rfl⟩) rfl (Nat.le_of_ble_eq_true rfl) rfl ?_
    refine tt_ld (P := True) (M := MX5_init) (pc := 11) dX5_init_11 rfl rfl rfl rfl rfl (fun _ => ?_) trivial
    refine tt_iconst (P := True) (M := MX5_init) (pc := 12) dX5_init_12 (fun _ => ?_) trivial
    refine newI_L (n := n) (k := 2) (m := 4) (L := [mO 5 [.int 0, .int 0, .int 0, .int 0, .int 0, .int 0, .int 0, .int 0, .ref (n + 1), .null, .null, .null], mI 4 (fun _ => 0)]) (L1 := [mO 5 [.int 0, .int 0, .int 0, .int 0, .int 0, .int 0, .int 0, .int 0, .ref (n + 1), .null, .null, .null], mI 4 (fun _ => 0), mI 4 (fun _ => 0)]) hn (M := MX5_init) (pc := 13) dX5_init_13 rfl rfl (by decide) ?_
    refine putR_L (n := n) (j := 0) (L := [mO 5 [.int 0, .int 0, .int 0, .int 0, .int 0, .int 0, .int 0, .int 0, .ref (n + 1), .null, .null, .null], mI 4 (fun _ => 0), mI 4 (fun _ => 0)]) (L1 := [mO 5 [.int 0, .int 0, .int 0, .int 0, .int 0, .int 0, .int 0, .int 0, .ref (n + 1), .ref (n + 2), .null, .null], mI 4 (fun _ => 0), mI 4 (fun _ => 0)]) hn (M := MX5_init) (pc := 15) dX5_init_15 rfl rfl (.inr ⟨rfl, rfl⟩) rfl (Nat.le_of_ble_eq_true rfl) rfl ?_
    refine tt_ld (P := True) (M := MX5_init) (pc := 18) dX5_init_18 rfl rfl rfl rfl rfl (fun _ => ?_) trivial
    refine tt_iconst (P := True) (M := MX5_init) (pc := 19) dX5_init_19 (fun _ => ?_) trivial
    refine newI_L (n := n) (k := 3) (m := 4) (L := [mO 5 [.int 0, .int 0, .int 0, .int 0, .int 0, .int 0, .int 0, .int 0, .ref (n + 1), .ref (n + 2), .null, .null], mI 4 (fun _ => 0), mI 4 (fun _ => 0)]) (L1 := [mO 5 [.int 0, .int 0, .int 0, .int 0, .int 0, .int 0, .int 0, .int 0, .ref (n + 1), .ref (n + 2), .null, .null], mI 4 (fun _ => 0), mI 4 (fun _ => 0), mI 4 (fun _ => 0)]) hn (M := MX5_init) (pc := 20) dX5_init_20 rfl rfl (by decide) ?_
    refine putR_L (n := n) (j := 0) (L := [mO 5 [.int 0, .int 0, .int 0, .int 0, .int 0, .int 0, .int 0, .int 0, .ref (n + 1), .ref (n + 2), .null, .null], mI 4 (fun _ => 0), mI 4 (fun _ => 0), mI 4 (fun _ => 0)]) (L1 := [mO 5 [.int 0, .int 0, .int 0, .int 0, .int 0, .int 0, .int 0, .int 0, .ref (n + 1), .ref (n + 2), .ref (n + 3), .null], mI 4 (fun _ => 0), mI 4 (fun _ => 0), mI 4 (fun _ => 0)]) hn (M := MX5_init) (pc := 22) dX5_init_22 rfl rfl (.inr ⟨rfl, rfl⟩) rfl (Nat.le_of_ble_eq_true rfl) rfl ?_
    refine tt_ld (P := True) (M := MX5_init) (pc := 25) dX5_init_25 rfl rfl rfl rfl rfl (fun _ => ?_) trivial
    refine tt_bipush (P := True) (M := MX5_init) (pc := 26) dX5_init_26 (by decide) (fun _ => ?_) trivial
    refine newI_L (n := n) (k := 4) (m := 48) (L := [mO 5 [.int 0, .int 0, .int 0, .int 0, .int 0, .int 0, .int 0, .int 0, .ref (n + 1), .ref (n + 2), .ref (n + 3), .null], mI 4 (fun _ => 0), mI 4 (fun _ => 0), mI 4 (fun _ => 0)]) (L1 := [mO 5 [.int 0, .int 0, .int 0, .int 0, .int 0, .int 0, .int 0, .int 0, .ref (n + 1), .ref (n + 2), .ref (n + 3), .null], mI 4 (fun _ => 0), mI 4 (fun _ => 0), mI 4 (fun _ => 0), mI 48 (fun _ => 0)]) hn (M := MX5_init) (pc := 28) dX5_init_28 rfl rfl (by decide) ?_
    refine putR_L (n := n) (j := 0) (L := [mO 5 [.int 0, .int 0, .int 0, .int 0, .int 0, .int 0, .int 0, .int 0, .ref (n + 1), .ref (n + 2), .ref (n + 3), .null], mI 4 (fun _ => 0), mI 4 (fun _ => 0), mI 4 (fun _ => 0), mI 48 (fun _ => 0)]) (L1 := [mO 5 [.int 0, .int 0, .int 0, .int 0, .int 0, .int 0, .int 0, .int 0, .ref (n + 1), .ref (n + 2), .ref (n + 3), .ref (n + 4)], mI 4 (fun _ => 0), mI 4 (fun _ => 0), mI 4 (fun _ => 0), mI 48 (fun _ => 0)]) hn (M := MX5_init) (pc := 30) dX5_init_30 rfl rfl (.inr ⟨rfl, rfl⟩) rfl (Nat.le_of_ble_eq_true rfl) rfl ?_
    refine tt_ld (P := True) (M := MX5_init) (pc := 33) dX5_init_33 rfl rfl rfl rfl rfl (fun _ => ?_) trivial
    refine tt_vcV1 (M := MX5_init) (pc := 34) dX5_init_34 rfl rfl [] rfl rfl ⟨rfl, by decide, Nat.le_of_ble_eq_true rfl⟩ hs.1 g ?_
    exact tt_ret (M := MX5_init) (pc := 37) dX5_init_37 rfl rfl
  · refine ⟨fun i i0 i8 => ?_, fun i i0 i8 => ?_, fun i i0 i8 => ?_, fun i i0 i8 => ?_, fun i i0 i8 => ?_⟩
    · rw [hU]
      rcases (show i = 0 ∨ i = 1 ∨ i = 2 ∨ i = 3 ∨ i = 4 ∨ i = 5 ∨ i = 6 ∨ i = 7 by omega) with rfl | rfl | rfl | rfl | rfl | rfl | rfl | rfl <;> simp [up, P0d]
    · have : i < 0 := i8
      omega
    · have : i < 0 := i8
      omega
    · have : i < 0 := i8
      omega
    · have : i < 0 := i8
      omega
  · rw [hU]
    repeat rw [up_ne (by omega)]
    repeat rw [zr_ne (by omega)]
def txC (n : Nat) : List mCell := [mO 8 [.ref (n + 1), .int 0, .int 0, .int 0, .int 0, .int 0, .int 0, .int 0], mB 700 (fun _ => 0)]
theorem text_new (hn : SH.length = n) : ∃ S', G sc MX8_init 0 [some (.ref n)] [] (SH ++ [mO 8 (mdf 8)]) S (rV (SH ++ txC n) S') ∧ S' n 1 = 0 ∧ (∀ j, j < n → S' j = S j) := by
  refine ⟨(up (up (up (up (up (up (up (zr S (n + 1)) n 1 0) n 2 0) n 3 0) n 4 0) n 5 0) n 6 0) n 7 (-1)), ?_, by simp [up], fun j hj => ?_⟩
  · show G sc MX8_init 0 [some (.ref n)] [] (SH ++ [mO 8 [.null, .int 0, .int 0, .int 0, .int 0, .int 0, .int 0, .int 0]]) S (rV (SH ++ [mO 8 [.ref (n + 1), .int 0, .int 0, .int 0, .int 0, .int 0, .int 0, .int 0], mB 700 (fun _ => 0)]) _)
    refine tt_ld (P := True) (M := MX8_init) (pc := 0) dX8_init_0 rfl rfl rfl rfl rfl (fun _ => ?_) trivial
    refine tt_obj (P := True) (M := MX8_init) (pc := 1) dX8_init_1 rfl [] rfl rfl ⟨rfl, by decide, Nat.le_of_ble_eq_true rfl⟩ (fun _ => ?_) trivial
    refine tt_ld (P := True) (M := MX8_init) (pc := 4) dX8_init_4 rfl rfl rfl rfl rfl (fun _ => ?_) trivial
    refine tt_sipush (P := True) (M := MX8_init) (pc := 5) dX8_init_5 (by decide) (fun _ => ?_) trivial
    refine newB_L (n := n) (k := 1) (m := 700) (L := [mO 8 [.null, .int 0, .int 0, .int 0, .int 0, .int 0, .int 0, .int 0]]) (L1 := [mO 8 [.null, .int 0, .int 0, .int 0, .int 0, .int 0, .int 0, .int 0], mB 700 (fun _ => 0)]) hn (M := MX8_init) (pc := 8) dX8_init_8 rfl rfl (by decide) ?_
    refine putR_L (n := n) (j := 0) (L := [mO 8 [.null, .int 0, .int 0, .int 0, .int 0, .int 0, .int 0, .int 0], mB 700 (fun _ => 0)]) (L1 := [mO 8 [.ref (n + 1), .int 0, .int 0, .int 0, .int 0, .int 0, .int 0, .int 0], mB 700 (fun _ => 0)]) hn (M := MX8_init) (pc := 10) dX8_init_10 rfl rfl (.inr ⟨rfl, rfl⟩) rfl (Nat.le_of_ble_eq_true rfl) rfl ?_
    refine tt_ld (P := True) (M := MX8_init) (pc := 13) dX8_init_13 rfl rfl rfl rfl rfl (fun _ => ?_) trivial
    refine tt_iconst (P := True) (M := MX8_init) (pc := 14) dX8_init_14 (fun _ => ?_) trivial
    refine putI_L (n := n) (j := 0) (L := [mO 8 [.ref (n + 1), .int 0, .int 0, .int 0, .int 0, .int 0, .int 0, .int 0], mB 700 (fun _ => 0)]) hn (M := MX8_init) (pc := 15) dX8_init_15 rfl rfl (.inr ⟨rfl, rfl⟩) rfl rfl ?_
    refine tt_ld (P := True) (M := MX8_init) (pc := 18) dX8_init_18 rfl rfl rfl rfl rfl (fun _ => ?_) trivial
    refine tt_iconst (P := True) (M := MX8_init) (pc := 19) dX8_init_19 (fun _ => ?_) trivial
    refine putI_L (n := n) (j := 0) (L := [mO 8 [.ref (n + 1), .int 0, .int 0, .int 0, .int 0, .int 0, .int 0, .int 0], mB 700 (fun _ => 0)]) hn (M := MX8_init) (pc := 20) dX8_init_20 rfl rfl (.inr ⟨rfl, rfl⟩) rfl rfl ?_
    refine tt_ld (P := True) (M := MX8_init) (pc := 23) dX8_init_23 rfl rfl rfl rfl rfl (fun _ => ?_) trivial
    refine tt_iconst (P := True) (M := MX8_init) (pc := 24) dX8_init_24 (fun _ => ?_) trivial
    refine putI_L (n := n) (j := 0) (L := [mO 8 [.ref (n + 1), .int 0, .int 0, .int 0, .int 0, .int 0, .int 0, .int 0], mB 700 (fun _ => 0)]) hn (M := MX8_init) (pc := 25) dX8_init_25 rfl rfl (.inr ⟨rfl, rfl⟩) rfl rfl ?_
    refine tt_ld (P := True) (M := MX8_init) (pc := 28) dX8_init_28 rfl rfl rfl rfl rfl (fun _ => ?_) trivial
    refine tt_iconst (P := True) (M := MX8_init) (pc := 29) dX8_init_29 (fun _ => ?_) trivial
    refine putI_L (n := n) (j := 0) (L := [mO 8 [.ref (n + 1), .int 0, .int 0, .int 0, .int 0, .int 0, .int 0, .int 0], mB 700 (fun _ => 0)]) hn (M := MX8_init) (pc := 30) dX8_init_30 rfl rfl (.inr ⟨rfl, rfl⟩) rfl rfl ?_
    refine tt_ld (P := True) (M := MX8_init) (pc := 33) dX8_init_33 rfl rfl rfl rfl rfl (fun _ => ?_) trivial
    refine tt_iconst (P := True) (M := MX8_init) (pc := 34) dX8_init_34 (fun _ => ?_) trivial
    refine putI_L (n := n) (j := 0) (L := [mO 8 [.ref (n + 1), .int 0, .int 0, .int 0, .int 0, .int 0, .int 0, .int 0], mB 700 (fun _ => 0)]) hn (M := MX8_init) (pc := 35) dX8_init_35 rfl rfl (.inr ⟨rfl, rfl⟩) rfl rfl ?_
    refine tt_ld (P := True) (M := MX8_init) (pc := 38) dX8_init_38 rfl rfl rfl rfl rfl (fun _ => ?_) trivial
    refine tt_iconst (P := True) (M := MX8_init) (pc := 39) dX8_init_39 (fun _ => ?_) trivial
    refine putI_L (n := n) (j := 0) (L := [mO 8 [.ref (n + 1), .int 0, .int 0, .int 0, .int 0, .int 0, .int 0, .int 0], mB 700 (fun _ => 0)]) hn (M := MX8_init) (pc := 40) dX8_init_40 rfl rfl (.inr ⟨rfl, rfl⟩) rfl rfl ?_
    refine tt_ld (P := True) (M := MX8_init) (pc := 43) dX8_init_43 rfl rfl rfl rfl rfl (fun _ => ?_) trivial
    refine tt_iconst (P := True) (M := MX8_init) (pc := 44) dX8_init_44 (fun _ => ?_) trivial
    refine putI_L (n := n) (j := 0) (L := [mO 8 [.ref (n + 1), .int 0, .int 0, .int 0, .int 0, .int 0, .int 0, .int 0], mB 700 (fun _ => 0)]) hn (M := MX8_init) (pc := 45) dX8_init_45 rfl rfl (.inr ⟨rfl, rfl⟩) rfl rfl ?_
    exact tt_ret (M := MX8_init) (pc := 48) dX8_init_48 rfl rfl
  · repeat rw [up_ne (by omega)]
    repeat rw [zr_ne (by omega)]
def acC (n : Nat) : List mCell := [mO 0 [.ref 1, .ref (n + 1), .int 0, .int 0], mS 41 (fun _ => none)]
theorem acts_new (hn : SH.length = n) : ∃ S', G sc MX0_init 0 [some (.ref n), some (.ref 1)] [] (SH ++ [mO 0 (mdf 0)]) S (rV (SH ++ acC n) S') ∧ (S' n 2 = 0 ∧ S' n 3 = 0) ∧ (∀ j, j < n → S' j = S j) := by
  refine ⟨(up (up (zr S (n + 1)) n 2 0) n 3 0), ?_, ⟨by simp [up], by simp [up]⟩, fun j hj => ?_⟩
  · show G sc MX0_init 0 [some (.ref n), some (.ref 1)] [] (SH ++ [mO 0 [.null, .null, .int 0, .int 0]]) S (rV (SH ++ [mO 0 [.ref 1, .ref (n + 1), .int 0, .int 0], mS 41 (fun _ => none)]) _)
    refine tt_ld (P := True) (M := MX0_init) (pc := 0) dX0_init_0 rfl rfl rfl rfl rfl (fun _ => ?_) trivial
    refine tt_obj (P := True) (M := MX0_init) (pc := 1) dX0_init_1 rfl [] rfl rfl ⟨rfl, by decide, Nat.le_of_ble_eq_true rfl⟩ (fun _ => ?_) trivial
    refine tt_ld (P := True) (M := MX0_init) (pc := 4) dX0_init_4 rfl rfl rfl rfl rfl (fun _ => ?_) trivial
    refine tt_bipush (P := True) (M := MX0_init) (pc := 5) dX0_init_5 (by decide) (fun _ => ?_) trivial
    refine newA_L (n := n) (k := 1) (m := 41) (L := [mO 0 [.null, .null, .int 0, .int 0]]) (L1 := [mO 0 [.null, .null, .int 0, .int 0], mS 41 (fun _ => none)]) hn (M := MX0_init) (pc := 7) dX0_init_7 rfl rfl rfl (by decide) ?_
    refine putR_L (n := n) (j := 0) (L := [mO 0 [.null, .null, .int 0, .int 0], mS 41 (fun _ => none)]) (L1 := [mO 0 [.null, .ref (n + 1), .int 0, .int 0], mS 41 (fun _ => none)]) hn (M := MX0_init) (pc := 10) dX0_init_10 rfl rfl (.inr ⟨rfl, rfl⟩) rfl (Nat.le_of_ble_eq_true rfl) rfl ?_
    refine tt_ld (P := True) (M := MX0_init) (pc := 13) dX0_init_13 rfl rfl rfl rfl rfl (fun _ => ?_) trivial
    refine tt_iconst (P := True) (M := MX0_init) (pc := 14) dX0_init_14 (fun _ => ?_) trivial
    refine putI_L (n := n) (j := 0) (L := [mO 0 [.null, .ref (n + 1), .int 0, .int 0], mS 41 (fun _ => none)]) hn (M := MX0_init) (pc := 15) dX0_init_15 rfl rfl (.inr ⟨rfl, rfl⟩) rfl rfl ?_
    refine tt_ld (P := True) (M := MX0_init) (pc := 18) dX0_init_18 rfl rfl rfl rfl rfl (fun _ => ?_) trivial
    refine tt_iconst (P := True) (M := MX0_init) (pc := 19) dX0_init_19 (fun _ => ?_) trivial
    refine putI_L (n := n) (j := 0) (L := [mO 0 [.null, .ref (n + 1), .int 0, .int 0], mS 41 (fun _ => none)]) hn (M := MX0_init) (pc := 20) dX0_init_20 rfl rfl (.inr ⟨rfl, rfl⟩) rfl rfl ?_
    refine tt_ld (P := True) (M := MX0_init) (pc := 23) dX0_init_23 rfl rfl rfl rfl rfl (fun _ => ?_) trivial
    refine tt_ld (P := True) (M := MX0_init) (pc := 24) dX0_init_24 rfl rfl rfl rfl rfl (fun _ => ?_) trivial
    refine putR_L (n := n) (j := 0) (L := [mO 0 [.null, .ref (n + 1), .int 0, .int 0], mS 41 (fun _ => none)]) (L1 := [mO 0 [.ref 1, .ref (n + 1), .int 0, .int 0], mS 41 (fun _ => none)]) hn (M := MX0_init) (pc := 25) dX0_init_25 rfl rfl (.inr ⟨rfl, rfl⟩) rfl (Nat.le_of_ble_eq_true rfl) rfl ?_
    exact tt_ret (M := MX0_init) (pc := 28) dX0_init_28 rfl rfl
  · repeat rw [up_ne (by omega)]
    repeat rw [zr_ne (by omega)]
theorem maker_new (hn : SH.length = n) : ∃ S', G sc MX3_init 0 [some (.ref n), some (.ref 11), some (.ref 6), some (.ref 65)] [] (SH ++ [mO 3 (mdf 3)]) S (rV (SH ++ [mO 3 [.ref 11, .ref 6, .ref 65, .int 0, .int 0]]) S') ∧ (∀ j, j < n → S' j = S j) := by
  refine ⟨(up (up S n 3 0) n 4 0), ?_, fun j hj => ?_⟩
  · show G sc MX3_init 0 [some (.ref n), some (.ref 11), some (.ref 6), some (.ref 65)] [] (SH ++ [mO 3 [.null, .null, .null, .int 0, .int 0]]) S (rV (SH ++ [mO 3 [.ref 11, .ref 6, .ref 65, .int 0, .int 0]]) _)
    refine tt_ld (P := True) (M := MX3_init) (pc := 0) dX3_init_0 rfl rfl rfl rfl rfl (fun _ => ?_) trivial
    refine tt_obj (P := True) (M := MX3_init) (pc := 1) dX3_init_1 rfl [] rfl rfl ⟨rfl, by decide, Nat.le_of_ble_eq_true rfl⟩ (fun _ => ?_) trivial
    refine tt_ld (P := True) (M := MX3_init) (pc := 4) dX3_init_4 rfl rfl rfl rfl rfl (fun _ => ?_) trivial
    refine tt_iconst (P := True) (M := MX3_init) (pc := 5) dX3_init_5 (fun _ => ?_) trivial
    refine putI_L (n := n) (j := 0) (L := [mO 3 [.null, .null, .null, .int 0, .int 0]]) hn (M := MX3_init) (pc := 6) dX3_init_6 rfl rfl (.inr ⟨rfl, rfl⟩) rfl rfl ?_
    refine tt_ld (P := True) (M := MX3_init) (pc := 9) dX3_init_9 rfl rfl rfl rfl rfl (fun _ => ?_) trivial
    refine tt_iconst (P := True) (M := MX3_init) (pc := 10) dX3_init_10 (fun _ => ?_) trivial
    refine putI_L (n := n) (j := 0) (L := [mO 3 [.null, .null, .null, .int 0, .int 0]]) hn (M := MX3_init) (pc := 11) dX3_init_11 rfl rfl (.inr ⟨rfl, rfl⟩) rfl rfl ?_
    refine tt_ld (P := True) (M := MX3_init) (pc := 14) dX3_init_14 rfl rfl rfl rfl rfl (fun _ => ?_) trivial
    refine tt_ld (P := True) (M := MX3_init) (pc := 15) dX3_init_15 rfl rfl rfl rfl rfl (fun _ => ?_) trivial
    refine putR_L (n := n) (j := 0) (L := [mO 3 [.null, .null, .null, .int 0, .int 0]]) (L1 := [mO 3 [.ref 11, .null, .null, .int 0, .int 0]]) hn (M := MX3_init) (pc := 16) dX3_init_16 rfl rfl (.inr ⟨rfl, rfl⟩) rfl (Nat.le_of_ble_eq_true rfl) rfl ?_
    refine tt_ld (P := True) (M := MX3_init) (pc := 19) dX3_init_19 rfl rfl rfl rfl rfl (fun _ => ?_) trivial
    refine tt_ld (P := True) (M := MX3_init) (pc := 20) dX3_init_20 rfl rfl rfl rfl rfl (fun _ => ?_) trivial
    refine putR_L (n := n) (j := 0) (L := [mO 3 [.ref 11, .null, .null, .int 0, .int 0]]) (L1 := [mO 3 [.ref 11, .ref 6, .null, .int 0, .int 0]]) hn (M := MX3_init) (pc := 21) dX3_init_21 rfl rfl (.inr ⟨rfl, rfl⟩) rfl (Nat.le_of_ble_eq_true rfl) rfl ?_
    refine tt_ld (P := True) (M := MX3_init) (pc := 24) dX3_init_24 rfl rfl rfl rfl rfl (fun _ => ?_) trivial
    refine tt_ld (P := True) (M := MX3_init) (pc := 25) dX3_init_25 rfl rfl rfl rfl rfl (fun _ => ?_) trivial
    refine putR_L (n := n) (j := 0) (L := [mO 3 [.ref 11, .ref 6, .null, .int 0, .int 0]]) (L1 := [mO 3 [.ref 11, .ref 6, .ref 65, .int 0, .int 0]]) hn (M := MX3_init) (pc := 26) dX3_init_26 rfl rfl (.inr ⟨rfl, rfl⟩) rfl (Nat.le_of_ble_eq_true rfl) rfl ?_
    exact tt_ret (M := MX3_init) (pc := 29) dX3_init_29 rfl rfl
  · repeat rw [up_ne (by omega)]
theorem order_new (hn : SH.length = n) : ∃ S', G sc MX4_init 0 [some (.ref n), some (.ref 11), some (.ref 1)] [] (SH ++ [mO 4 (mdf 4)]) S (rV (SH ++ [mO 4 [.ref 11, .ref 1, .int 0, .int 0, .int 0, .int 0, .int 0]]) S') ∧ (∀ j, j < n → S' j = S j) := by
  refine ⟨(up (up (up (up (up S n 2 (-1)) n 3 (-1)) n 4 (-1)) n 5 0) n 6 0), ?_, fun j hj => ?_⟩
  · show G sc MX4_init 0 [some (.ref n), some (.ref 11), some (.ref 1)] [] (SH ++ [mO 4 [.null, .null, .int 0, .int 0, .int 0, .int 0, .int 0]]) S (rV (SH ++ [mO 4 [.ref 11, .ref 1, .int 0, .int 0, .int 0, .int 0, .int 0]]) _)
    refine tt_ld (P := True) (M := MX4_init) (pc := 0) dX4_init_0 rfl rfl rfl rfl rfl (fun _ => ?_) trivial
    refine tt_obj (P := True) (M := MX4_init) (pc := 1) dX4_init_1 rfl [] rfl rfl ⟨rfl, by decide, Nat.le_of_ble_eq_true rfl⟩ (fun _ => ?_) trivial
    refine tt_ld (P := True) (M := MX4_init) (pc := 4) dX4_init_4 rfl rfl rfl rfl rfl (fun _ => ?_) trivial
    refine tt_iconst (P := True) (M := MX4_init) (pc := 5) dX4_init_5 (fun _ => ?_) trivial
    refine putI_L (n := n) (j := 0) (L := [mO 4 [.null, .null, .int 0, .int 0, .int 0, .int 0, .int 0]]) hn (M := MX4_init) (pc := 6) dX4_init_6 rfl rfl (.inr ⟨rfl, rfl⟩) rfl rfl ?_
    refine tt_ld (P := True) (M := MX4_init) (pc := 9) dX4_init_9 rfl rfl rfl rfl rfl (fun _ => ?_) trivial
    refine tt_iconst (P := True) (M := MX4_init) (pc := 10) dX4_init_10 (fun _ => ?_) trivial
    refine putI_L (n := n) (j := 0) (L := [mO 4 [.null, .null, .int 0, .int 0, .int 0, .int 0, .int 0]]) hn (M := MX4_init) (pc := 11) dX4_init_11 rfl rfl (.inr ⟨rfl, rfl⟩) rfl rfl ?_
    refine tt_ld (P := True) (M := MX4_init) (pc := 14) dX4_init_14 rfl rfl rfl rfl rfl (fun _ => ?_) trivial
    refine tt_iconst (P := True) (M := MX4_init) (pc := 15) dX4_init_15 (fun _ => ?_) trivial
    refine putI_L (n := n) (j := 0) (L := [mO 4 [.null, .null, .int 0, .int 0, .int 0, .int 0, .int 0]]) hn (M := MX4_init) (pc := 16) dX4_init_16 rfl rfl (.inr ⟨rfl, rfl⟩) rfl rfl ?_
    refine tt_ld (P := True) (M := MX4_init) (pc := 19) dX4_init_19 rfl rfl rfl rfl rfl (fun _ => ?_) trivial
    refine tt_iconst (P := True) (M := MX4_init) (pc := 20) dX4_init_20 (fun _ => ?_) trivial
    refine putI_L (n := n) (j := 0) (L := [mO 4 [.null, .null, .int 0, .int 0, .int 0, .int 0, .int 0]]) hn (M := MX4_init) (pc := 21) dX4_init_21 rfl rfl (.inr ⟨rfl, rfl⟩) rfl rfl ?_
    refine tt_ld (P := True) (M := MX4_init) (pc := 24) dX4_init_24 rfl rfl rfl rfl rfl (fun _ => ?_) trivial
    refine tt_iconst (P := True) (M := MX4_init) (pc := 25) dX4_init_25 (fun _ => ?_) trivial
    refine putI_L (n := n) (j := 0) (L := [mO 4 [.null, .null, .int 0, .int 0, .int 0, .int 0, .int 0]]) hn (M := MX4_init) (pc := 26) dX4_init_26 rfl rfl (.inr ⟨rfl, rfl⟩) rfl rfl ?_
    refine tt_ld (P := True) (M := MX4_init) (pc := 29) dX4_init_29 rfl rfl rfl rfl rfl (fun _ => ?_) trivial
    refine tt_ld (P := True) (M := MX4_init) (pc := 30) dX4_init_30 rfl rfl rfl rfl rfl (fun _ => ?_) trivial
    refine putR_L (n := n) (j := 0) (L := [mO 4 [.null, .null, .int 0, .int 0, .int 0, .int 0, .int 0]]) (L1 := [mO 4 [.ref 11, .null, .int 0, .int 0, .int 0, .int 0, .int 0]]) hn (M := MX4_init) (pc := 31) dX4_init_31 rfl rfl (.inr ⟨rfl, rfl⟩) rfl (Nat.le_of_ble_eq_true rfl) rfl ?_
    refine tt_ld (P := True) (M := MX4_init) (pc := 34) dX4_init_34 rfl rfl rfl rfl rfl (fun _ => ?_) trivial
    refine tt_ld (P := True) (M := MX4_init) (pc := 35) dX4_init_35 rfl rfl rfl rfl rfl (fun _ => ?_) trivial
    refine putR_L (n := n) (j := 0) (L := [mO 4 [.ref 11, .null, .int 0, .int 0, .int 0, .int 0, .int 0]]) (L1 := [mO 4 [.ref 11, .ref 1, .int 0, .int 0, .int 0, .int 0, .int 0]]) hn (M := MX4_init) (pc := 36) dX4_init_36 rfl rfl (.inr ⟨rfl, rfl⟩) rfl (Nat.le_of_ble_eq_true rfl) rfl ?_
    exact tt_ret (M := MX4_init) (pc := 39) dX4_init_39 rfl rfl
  · repeat rw [up_ne (by omega)]
theorem draws_new (hn : SH.length = n) : ∃ S', G sc MX2_init 0 [some (.ref n)] [] (SH ++ [mO 2 (mdf 2)]) S (rV (SH ++ [mO 2 [.int 0]]) S') ∧ (∀ j, j < n → S' j = S j) := by
  refine ⟨(up S n 0 0), ?_, fun j hj => ?_⟩
  · show G sc MX2_init 0 [some (.ref n)] [] (SH ++ [mO 2 [.int 0]]) S (rV (SH ++ [mO 2 [.int 0]]) _)
    refine tt_ld (P := True) (M := MX2_init) (pc := 0) dX2_init_0 rfl rfl rfl rfl rfl (fun _ => ?_) trivial
    refine tt_obj (P := True) (M := MX2_init) (pc := 1) dX2_init_1 rfl [] rfl rfl ⟨rfl, by decide, Nat.le_of_ble_eq_true rfl⟩ (fun _ => ?_) trivial
    refine tt_ld (P := True) (M := MX2_init) (pc := 4) dX2_init_4 rfl rfl rfl rfl rfl (fun _ => ?_) trivial
    refine tt_iconst (P := True) (M := MX2_init) (pc := 5) dX2_init_5 (fun _ => ?_) trivial
    refine putI_L (n := n) (j := 0) (L := [mO 2 [.int 0]]) hn (M := MX2_init) (pc := 6) dX2_init_6 rfl rfl (.inr ⟨rfl, rfl⟩) rfl rfl ?_
    exact tt_ret (M := MX2_init) (pc := 9) dX2_init_9 rfl rfl
  · repeat rw [up_ne (by omega)]
theorem sPlan_app (hp : sPlan SH 1) (h6 : 6 ≤ SH.length) : sPlan (SH ++ L) 1 := by
  have o : ∀ j, j < 6 → (SH ++ L)[j]? = SH[j]? := fun j hj => getOld (by omega)
  exact ⟨(o 1 (by omega)).trans hp.1, ⟨(o 2 (by omega)).trans hp.2.1.1, by decide⟩, ⟨(o 3 (by omega)).trans hp.2.2.1.1, by decide⟩, ⟨(o 4 (by omega)).trans hp.2.2.2.1.1, by decide⟩, ⟨(o 5 (by omega)).trans hp.2.2.2.2.1, by decide⟩⟩
theorem state_newL (hn : SH.length = n) (hp : sPlan SH 1) (h6 : 6 ≤ n) {k : Nat} (hk : L.length = k) : ∃ S', G sc MX7_init 0 [some (.ref (n + k)), some (.ref 1)] [] (SH ++ (L ++ [mO 7 (mdf 7)])) S (rV (SH ++ (L ++ stC (n + k))) S') ∧ stateR S' (n + k) (newA (S 1 2)) ∧ (∀ j, j < n + k → S' j = S j) := by
  have q := state_new (sc := sc) (SH := SH ++ L) (S := S) (n := n + k) (by rw [List.length_append, hn, hk]) (sPlan_app hp (by omega)) (by omega)
  rw [List.append_assoc, List.append_assoc] at q
  exact q
theorem acts_newL (hn : SH.length = n) {k : Nat} (hk : L.length = k) : ∃ S', G sc MX0_init 0 [some (.ref (n + k)), some (.ref 1)] [] (SH ++ (L ++ [mO 0 (mdf 0)])) S (rV (SH ++ (L ++ acC (n + k))) S') ∧ (S' (n + k) 2 = 0 ∧ S' (n + k) 3 = 0) ∧ (∀ j, j < n + k → S' j = S j) := by
  have q := acts_new (sc := sc) (SH := SH ++ L) (S := S) (n := n + k) (by rw [List.length_append, hn, hk])
  rw [List.append_assoc, List.append_assoc] at q
  exact q
def bkC (n : Nat) : List mCell := [mO 1 [.ref (n + 4), .ref (n + 24), .ref (n + 1), .ref (n + 2), .ref (n + 3), .int 0], mI 8 (fun _ => 0), mI 8 (fun _ => 0), mI 3 (fun _ => 0), mO 7 [.ref 1, .ref (n + 5), .ref (n + 9), .ref (n + 13), .ref (n + 15), .ref (n + 17), .ref (n + 18), .ref (n + 19), .ref (n + 20), .ref (n + 21), .ref (n + 22), .ref (n + 23)], mO 6 [.ref (n + 6), .ref (n + 7), .ref (n + 8)], mI 48 (fun _ => 0), mI 48 (fun _ => 0), mI 48 (fun _ => 0), mO 6 [.ref (n + 10), .ref (n + 11), .ref (n + 12)], mI 48 (fun _ => 0), mI 48 (fun _ => 0), mI 48 (fun _ => 0), mO 9 [.ref (n + 14)], mI 99 (fun _ => 0), mO 9 [.ref (n + 16)], mI 99 (fun _ => 0), mI 48 (fun _ => 0), mI 48 (fun _ => 0), mI 48 (fun _ => 0), mI 48 (fun _ => 0), mI 48 (fun _ => 0), mI 48 (fun _ => 0), mI 12 (fun _ => 0), mO 0 [.ref 1, .ref (n + 25), .int 0, .int 0], mS 41 (fun _ => none)]
theorem book_new (hn : SH.length = n) (hp : sPlan SH 1) (h6 : 6 ≤ n) : ∃ S', G sc MX1_init 0 [some (.ref n), some (.ref 1)] [] (SH ++ [mO 1 (mdf 1)]) S (rV (SH ++ bkC n) S') ∧ stateR S' (n + 4) (newA (S 1 2)) ∧ (S' (n + 24) 2 = 0 ∧ S' (n + 24) 3 = 0 ∧ S' n 5 = 0) ∧ (∀ i, S' (n + 3) i = 0) ∧ (∀ j, j < n → S' j = S j) := by
  obtain ⟨S1, g1, r1, f1⟩ := state_newL (sc := sc) (SH := SH) (L := [mO 1 [.null, .null, .ref (n + 1), .ref (n + 2), .ref (n + 3), .int 0], mI 8 (fun _ => 0), mI 8 (fun _ => 0), mI 3 (fun _ => 0)]) (S := (zr (up (zr (zr (zr S (n + 1)) (n + 2)) (n + 3)) n 5 0) (n + 4))) hn hp h6 (k := 4) rfl
  obtain ⟨S2, g2, r2, f2⟩ := acts_newL (sc := sc) (SH := SH) (L := [mO 1 [.ref (n + 4), .null, .ref (n + 1), .ref (n + 2), .ref (n + 3), .int 0], mI 8 (fun _ => 0), mI 8 (fun _ => 0), mI 3 (fun _ => 0), mO 7 [.ref 1, .ref (n + 5), .ref (n + 9), .ref (n + 13), .ref (n + 15), .ref (n + 17), .ref (n + 18), .ref (n + 19), .ref (n + 20), .ref (n + 21), .ref (n + 22), .ref (n + 23)], mO 6 [.ref (n + 6), .ref (n + 7), .ref (n + 8)], mI 48 (fun _ => 0), mI 48 (fun _ => 0), mI 48 (fun _ => 0), mO 6 [.ref (n + 10), .ref (n + 11), .ref (n + 12)], mI 48 (fun _ => 0), mI 48 (fun _ => 0), mI 48 (fun _ => 0), mO 9 [.ref (n + 14)], mI 99 (fun _ => 0), mO 9 [.ref (n + 16)], mI 99 (fun _ => 0), mI 48 (fun _ => 0), mI 48 (fun _ => 0), mI 48 (fun _ => 0), mI 48 (fun _ => 0), mI 48 (fun _ => 0), mI 48 (fun _ => 0), mI 12 (fun _ => 0)]) (S := (zr S1 (n + 24))) hn (k := 24) rfl
  replace g1 : G sc MX7_init 0 [some (.ref (n + 4)), some (.ref 1)] [] (SH ++ [mO 1 [.null, .null, .ref (n + 1), .ref (n + 2), .ref (n + 3), .int 0], mI 8 (fun _ => 0), mI 8 (fun _ => 0), mI 3 (fun _ => 0), mO 7 [.null, .null, .null, .null, .null, .null, .null, .null, .null, .null, .null, .null]]) (zr (up (zr (zr (zr S (n + 1)) (n + 2)) (n + 3)) n 5 0) (n + 4)) (rV (SH ++ [mO 1 [.null, .null, .ref (n + 1), .ref (n + 2), .ref (n + 3), .int 0], mI 8 (fun _ => 0), mI 8 (fun _ => 0), mI 3 (fun _ => 0), mO 7 [.ref 1, .ref (n + 5), .ref (n + 9), .ref (n + 13), .ref (n + 15), .ref (n + 17), .ref (n + 18), .ref (n + 19), .ref (n + 20), .ref (n + 21), .ref (n + 22), .ref (n + 23)], mO 6 [.ref (n + 6), .ref (n + 7), .ref (n + 8)], mI 48 (fun _ => 0), mI 48 (fun _ => 0), mI 48 (fun _ => 0), mO 6 [.ref (n + 10), .ref (n + 11), .ref (n + 12)], mI 48 (fun _ => 0), mI 48 (fun _ => 0), mI 48 (fun _ => 0), mO 9 [.ref (n + 14)], mI 99 (fun _ => 0), mO 9 [.ref (n + 16)], mI 99 (fun _ => 0), mI 48 (fun _ => 0), mI 48 (fun _ => 0), mI 48 (fun _ => 0), mI 48 (fun _ => 0), mI 48 (fun _ => 0), mI 48 (fun _ => 0), mI 12 (fun _ => 0)]) S1) := g1
  replace g2 : G sc MX0_init 0 [some (.ref (n + 24)), some (.ref 1)] [] (SH ++ [mO 1 [.ref (n + 4), .null, .ref (n + 1), .ref (n + 2), .ref (n + 3), .int 0], mI 8 (fun _ => 0), mI 8 (fun _ => 0), mI 3 (fun _ => 0), mO 7 [.ref 1, .ref (n + 5), .ref (n + 9), .ref (n + 13), .ref (n + 15), .ref (n + 17), .ref (n + 18), .ref (n + 19), .ref (n + 20), .ref (n + 21), .ref (n + 22), .ref (n + 23)], mO 6 [.ref (n + 6), .ref (n + 7), .ref (n + 8)], mI 48 (fun _ => 0), mI 48 (fun _ => 0), mI 48 (fun _ => 0), mO 6 [.ref (n + 10), .ref (n + 11), .ref (n + 12)], mI 48 (fun _ => 0), mI 48 (fun _ => 0), mI 48 (fun _ => 0), mO 9 [.ref (n + 14)], mI 99 (fun _ => 0), mO 9 [.ref (n + 16)], mI 99 (fun _ => 0), mI 48 (fun _ => 0), mI 48 (fun _ => 0), mI 48 (fun _ => 0), mI 48 (fun _ => 0), mI 48 (fun _ => 0), mI 48 (fun _ => 0), mI 12 (fun _ => 0), mO 0 [.null, .null, .int 0, .int 0]]) (zr S1 (n + 24)) (rV (SH ++ [mO 1 [.ref (n + 4), .null, .ref (n + 1), .ref (n + 2), .ref (n + 3), .int 0], mI 8 (fun _ => 0), mI 8 (fun _ => 0), mI 3 (fun _ => 0), mO 7 [.ref 1, .ref (n + 5), .ref (n + 9), .ref (n + 13), .ref (n + 15), .ref (n + 17), .ref (n + 18), .ref (n + 19), .ref (n + 20), .ref (n + 21), .ref (n + 22), .ref (n + 23)], mO 6 [.ref (n + 6), .ref (n + 7), .ref (n + 8)], mI 48 (fun _ => 0), mI 48 (fun _ => 0), mI 48 (fun _ => 0), mO 6 [.ref (n + 10), .ref (n + 11), .ref (n + 12)], mI 48 (fun _ => 0), mI 48 (fun _ => 0), mI 48 (fun _ => 0), mO 9 [.ref (n + 14)], mI 99 (fun _ => 0), mO 9 [.ref (n + 16)], mI 99 (fun _ => 0), mI 48 (fun _ => 0), mI 48 (fun _ => 0), mI 48 (fun _ => 0), mI 48 (fun _ => 0), mI 48 (fun _ => 0), mI 48 (fun _ => 0), mI 12 (fun _ => 0), mO 0 [.ref 1, .ref (n + 25), .int 0, .int 0], mS 41 (fun _ => none)]) S2) := g2
  have f2' : ∀ j, j < n + 24 → S2 j = S1 j := fun j hj => by rw [f2 j hj, zr_ne (by omega)]
  refine ⟨S2, ?_, ?_, ⟨r2.1, r2.2, ?_⟩, fun i => ?_, fun j hj => ?_⟩
  · show G sc MX1_init 0 [some (.ref n), some (.ref 1)] [] (SH ++ [mO 1 [.null, .null, .null, .null, .null, .int 0]]) S (rV (SH ++ [mO 1 [.ref (n + 4), .ref (n + 24), .ref (n + 1), .ref (n + 2), .ref (n + 3), .int 0], mI 8 (fun _ => 0), mI 8 (fun _ => 0), mI 3 (fun _ => 0), mO 7 [.ref 1, .ref (n + 5), .ref (n + 9), .ref (n + 13), .ref (n + 15), .ref (n + 17), .ref (n + 18), .ref (n + 19), .ref (n + 20), .ref (n + 21), .ref (n + 22), .ref (n + 23)], mO 6 [.ref (n + 6), .ref (n + 7), .ref (n + 8)], mI 48 (fun _ => 0), mI 48 (fun _ => 0), mI 48 (fun _ => 0), mO 6 [.ref (n + 10), .ref (n + 11), .ref (n + 12)], mI 48 (fun _ => 0), mI 48 (fun _ => 0), mI 48 (fun _ => 0), mO 9 [.ref (n + 14)], mI 99 (fun _ => 0), mO 9 [.ref (n + 16)], mI 99 (fun _ => 0), mI 48 (fun _ => 0), mI 48 (fun _ => 0), mI 48 (fun _ => 0), mI 48 (fun _ => 0), mI 48 (fun _ => 0), mI 48 (fun _ => 0), mI 12 (fun _ => 0), mO 0 [.ref 1, .ref (n + 25), .int 0, .int 0], mS 41 (fun _ => none)]) S2)
    refine tt_ld (P := True) (M := MX1_init) (pc := 0) dX1_init_0 rfl rfl rfl rfl rfl (fun _ => ?_) trivial
    refine tt_obj (P := True) (M := MX1_init) (pc := 1) dX1_init_1 rfl [] rfl rfl ⟨rfl, by decide, Nat.le_of_ble_eq_true rfl⟩ (fun _ => ?_) trivial
    refine tt_ld (P := True) (M := MX1_init) (pc := 4) dX1_init_4 rfl rfl rfl rfl rfl (fun _ => ?_) trivial
    refine tt_bipush (P := True) (M := MX1_init) (pc := 5) dX1_init_5 (by decide) (fun _ => ?_) trivial
    refine newI_L (n := n) (k := 1) (m := 8) (L := [mO 1 [.null, .null, .null, .null, .null, .int 0]]) (L1 := [mO 1 [.null, .null, .null, .null, .null, .int 0], mI 8 (fun _ => 0)]) hn (M := MX1_init) (pc := 7) dX1_init_7 rfl rfl (by decide) ?_
    refine putR_L (n := n) (j := 0) (L := [mO 1 [.null, .null, .null, .null, .null, .int 0], mI 8 (fun _ => 0)]) (L1 := [mO 1 [.null, .null, .ref (n + 1), .null, .null, .int 0], mI 8 (fun _ => 0)]) hn (M := MX1_init) (pc := 9) dX1_init_9 rfl rfl (.inr ⟨rfl, rfl⟩) rfl (Nat.le_of_ble_eq_true rfl) rfl ?_
    refine tt_ld (P := True) (M := MX1_init) (pc := 12) dX1_init_12 rfl rfl rfl rfl rfl (fun _ => ?_) trivial
    refine tt_bipush (P := True) (M := MX1_init) (pc := 13) dX1_init_13 (by decide) (fun _ => ?_) trivial
    refine newI_L (n := n) (k := 2) (m := 8) (L := [mO 1 [.null, .null, .ref (n + 1), .null, .null, .int 0], mI 8 (fun _ => 0)]) (L1 := [mO 1 [.null, .null, .ref (n + 1), .null, .null, .int 0], mI 8 (fun _ => 0), mI 8 (fun _ => 0)]) hn (M := MX1_init) (pc := 15) dX1_init_15 rfl rfl (by decide) ?_
    refine putR_L (n := n) (j := 0) (L := [mO 1 [.null, .null, .ref (n + 1), .null, .null, .int 0], mI 8 (fun _ => 0), mI 8 (fun _ => 0)]) (L1 := [mO 1 [.null, .null, .ref (n + 1), .ref (n + 2), .null, .int 0], mI 8 (fun _ => 0), mI 8 (fun _ => 0)]) hn (M := MX1_init) (pc := 17) dX1_init_17 rfl rfl (.inr ⟨rfl, rfl⟩) rfl (Nat.le_of_ble_eq_true rfl) rfl ?_
    refine tt_ld (P := True) (M := MX1_init) (pc := 20) dX1_init_20 rfl rfl rfl rfl rfl (fun _ => ?_) trivial
    refine tt_iconst (P := True) (M := MX1_init) (pc := 21) dX1_init_21 (fun _ => ?_) trivial
    refine newI_L (n := n) (k := 3) (m := 3) (L := [mO 1 [.null, .null, .ref (n + 1), .ref (n + 2), .null, .int 0], mI 8 (fun _ => 0), mI 8 (fun _ => 0)]) (L1 := [mO 1 [.null, .null, .ref (n + 1), .ref (n + 2), .null, .int 0], mI 8 (fun _ => 0), mI 8 (fun _ => 0), mI 3 (fun _ => 0)]) hn (M := MX1_init) (pc := 22) dX1_init_22 rfl rfl (by decide) ?_
    refine putR_L (n := n) (j := 0) (L := [mO 1 [.null, .null, .ref (n + 1), .ref (n + 2), .null, .int 0], mI 8 (fun _ => 0), mI 8 (fun _ => 0), mI 3 (fun _ => 0)]) (L1 := [mO 1 [.null, .null, .ref (n + 1), .ref (n + 2), .ref (n + 3), .int 0], mI 8 (fun _ => 0), mI 8 (fun _ => 0), mI 3 (fun _ => 0)]) hn (M := MX1_init) (pc := 24) dX1_init_24 rfl rfl (.inr ⟨rfl, rfl⟩) rfl (Nat.le_of_ble_eq_true rfl) rfl ?_
    refine tt_ld (P := True) (M := MX1_init) (pc := 27) dX1_init_27 rfl rfl rfl rfl rfl (fun _ => ?_) trivial
    refine tt_iconst (P := True) (M := MX1_init) (pc := 28) dX1_init_28 (fun _ => ?_) trivial
    refine putI_L (n := n) (j := 0) (L := [mO 1 [.null, .null, .ref (n + 1), .ref (n + 2), .ref (n + 3), .int 0], mI 8 (fun _ => 0), mI 8 (fun _ => 0), mI 3 (fun _ => 0)]) hn (M := MX1_init) (pc := 29) dX1_init_29 rfl rfl (.inr ⟨rfl, rfl⟩) rfl rfl ?_
    refine tt_ld (P := True) (M := MX1_init) (pc := 32) dX1_init_32 rfl rfl rfl rfl rfl (fun _ => ?_) trivial
    refine newO_L (n := n) (k := 4) (L := [mO 1 [.null, .null, .ref (n + 1), .ref (n + 2), .ref (n + 3), .int 0], mI 8 (fun _ => 0), mI 8 (fun _ => 0), mI 3 (fun _ => 0)]) (L1 := [mO 1 [.null, .null, .ref (n + 1), .ref (n + 2), .ref (n + 3), .int 0], mI 8 (fun _ => 0), mI 8 (fun _ => 0), mI 3 (fun _ => 0), mO 7 [.null, .null, .null, .null, .null, .null, .null, .null, .null, .null, .null, .null]]) hn (M := MX1_init) (pc := 33) dX1_init_33 rfl (by decide) rfl rfl rfl ?_
    refine tt_dup (P := True) (M := MX1_init) (pc := 36) dX1_init_36 rfl (fun _ => ?_) trivial
    refine tt_ld (P := True) (M := MX1_init) (pc := 37) dX1_init_37 rfl rfl rfl rfl rfl (fun _ => ?_) trivial
    refine tt_ctV (M := MX1_init) (pc := 38) dX1_init_38 rfl [.ref (n + 4), .ref n] rfl rfl rfl ⟨rfl, by decide, Nat.le_of_ble_eq_true rfl⟩ g1 ?_
    refine putR_L (n := n) (j := 0) (L := [mO 1 [.null, .null, .ref (n + 1), .ref (n + 2), .ref (n + 3), .int 0], mI 8 (fun _ => 0), mI 8 (fun _ => 0), mI 3 (fun _ => 0), mO 7 [.ref 1, .ref (n + 5), .ref (n + 9), .ref (n + 13), .ref (n + 15), .ref (n + 17), .ref (n + 18), .ref (n + 19), .ref (n + 20), .ref (n + 21), .ref (n + 22), .ref (n + 23)], mO 6 [.ref (n + 6), .ref (n + 7), .ref (n + 8)], mI 48 (fun _ => 0), mI 48 (fun _ => 0), mI 48 (fun _ => 0), mO 6 [.ref (n + 10), .ref (n + 11), .ref (n + 12)], mI 48 (fun _ => 0), mI 48 (fun _ => 0), mI 48 (fun _ => 0), mO 9 [.ref (n + 14)], mI 99 (fun _ => 0), mO 9 [.ref (n + 16)], mI 99 (fun _ => 0), mI 48 (fun _ => 0), mI 48 (fun _ => 0), mI 48 (fun _ => 0), mI 48 (fun _ => 0), mI 48 (fun _ => 0), mI 48 (fun _ => 0), mI 12 (fun _ => 0)]) (L1 := [mO 1 [.ref (n + 4), .null, .ref (n + 1), .ref (n + 2), .ref (n + 3), .int 0], mI 8 (fun _ => 0), mI 8 (fun _ => 0), mI 3 (fun _ => 0), mO 7 [.ref 1, .ref (n + 5), .ref (n + 9), .ref (n + 13), .ref (n + 15), .ref (n + 17), .ref (n + 18), .ref (n + 19), .ref (n + 20), .ref (n + 21), .ref (n + 22), .ref (n + 23)], mO 6 [.ref (n + 6), .ref (n + 7), .ref (n + 8)], mI 48 (fun _ => 0), mI 48 (fun _ => 0), mI 48 (fun _ => 0), mO 6 [.ref (n + 10), .ref (n + 11), .ref (n + 12)], mI 48 (fun _ => 0), mI 48 (fun _ => 0), mI 48 (fun _ => 0), mO 9 [.ref (n + 14)], mI 99 (fun _ => 0), mO 9 [.ref (n + 16)], mI 99 (fun _ => 0), mI 48 (fun _ => 0), mI 48 (fun _ => 0), mI 48 (fun _ => 0), mI 48 (fun _ => 0), mI 48 (fun _ => 0), mI 48 (fun _ => 0), mI 12 (fun _ => 0)]) hn (M := MX1_init) (pc := 41) dX1_init_41 rfl rfl (.inr ⟨rfl, rfl⟩) rfl (Nat.le_of_ble_eq_true rfl) rfl ?_
    refine tt_ld (P := True) (M := MX1_init) (pc := 44) dX1_init_44 rfl rfl rfl rfl rfl (fun _ => ?_) trivial
    refine newO_L (n := n) (k := 24) (L := [mO 1 [.ref (n + 4), .null, .ref (n + 1), .ref (n + 2), .ref (n + 3), .int 0], mI 8 (fun _ => 0), mI 8 (fun _ => 0), mI 3 (fun _ => 0), mO 7 [.ref 1, .ref (n + 5), .ref (n + 9), .ref (n + 13), .ref (n + 15), .ref (n + 17), .ref (n + 18), .ref (n + 19), .ref (n + 20), .ref (n + 21), .ref (n + 22), .ref (n + 23)], mO 6 [.ref (n + 6), .ref (n + 7), .ref (n + 8)], mI 48 (fun _ => 0), mI 48 (fun _ => 0), mI 48 (fun _ => 0), mO 6 [.ref (n + 10), .ref (n + 11), .ref (n + 12)], mI 48 (fun _ => 0), mI 48 (fun _ => 0), mI 48 (fun _ => 0), mO 9 [.ref (n + 14)], mI 99 (fun _ => 0), mO 9 [.ref (n + 16)], mI 99 (fun _ => 0), mI 48 (fun _ => 0), mI 48 (fun _ => 0), mI 48 (fun _ => 0), mI 48 (fun _ => 0), mI 48 (fun _ => 0), mI 48 (fun _ => 0), mI 12 (fun _ => 0)]) (L1 := [mO 1 [.ref (n + 4), .null, .ref (n + 1), .ref (n + 2), .ref (n + 3), .int 0], mI 8 (fun _ => 0), mI 8 (fun _ => 0), mI 3 (fun _ => 0), mO 7 [.ref 1, .ref (n + 5), .ref (n + 9), .ref (n + 13), .ref (n + 15), .ref (n + 17), .ref (n + 18), .ref (n + 19), .ref (n + 20), .ref (n + 21), .ref (n + 22), .ref (n + 23)], mO 6 [.ref (n + 6), .ref (n + 7), .ref (n + 8)], mI 48 (fun _ => 0), mI 48 (fun _ => 0), mI 48 (fun _ => 0), mO 6 [.ref (n + 10), .ref (n + 11), .ref (n + 12)], mI 48 (fun _ => 0), mI 48 (fun _ => 0), mI 48 (fun _ => 0), mO 9 [.ref (n + 14)], mI 99 (fun _ => 0), mO 9 [.ref (n + 16)], mI 99 (fun _ => 0), mI 48 (fun _ => 0), mI 48 (fun _ => 0), mI 48 (fun _ => 0), mI 48 (fun _ => 0), mI 48 (fun _ => 0), mI 48 (fun _ => 0), mI 12 (fun _ => 0), mO 0 [.null, .null, .int 0, .int 0]]) hn (M := MX1_init) (pc := 45) dX1_init_45 rfl (by decide) rfl rfl rfl ?_
    refine tt_dup (P := True) (M := MX1_init) (pc := 48) dX1_init_48 rfl (fun _ => ?_) trivial
    refine tt_ld (P := True) (M := MX1_init) (pc := 49) dX1_init_49 rfl rfl rfl rfl rfl (fun _ => ?_) trivial
    refine tt_ctV (M := MX1_init) (pc := 50) dX1_init_50 rfl [.ref (n + 24), .ref n] rfl rfl rfl ⟨rfl, by decide, Nat.le_of_ble_eq_true rfl⟩ g2 ?_
    refine putR_L (n := n) (j := 0) (L := [mO 1 [.ref (n + 4), .null, .ref (n + 1), .ref (n + 2), .ref (n + 3), .int 0], mI 8 (fun _ => 0), mI 8 (fun _ => 0), mI 3 (fun _ => 0), mO 7 [.ref 1, .ref (n + 5), .ref (n + 9), .ref (n + 13), .ref (n + 15), .ref (n + 17), .ref (n + 18), .ref (n + 19), .ref (n + 20), .ref (n + 21), .ref (n + 22), .ref (n + 23)], mO 6 [.ref (n + 6), .ref (n + 7), .ref (n + 8)], mI 48 (fun _ => 0), mI 48 (fun _ => 0), mI 48 (fun _ => 0), mO 6 [.ref (n + 10), .ref (n + 11), .ref (n + 12)], mI 48 (fun _ => 0), mI 48 (fun _ => 0), mI 48 (fun _ => 0), mO 9 [.ref (n + 14)], mI 99 (fun _ => 0), mO 9 [.ref (n + 16)], mI 99 (fun _ => 0), mI 48 (fun _ => 0), mI 48 (fun _ => 0), mI 48 (fun _ => 0), mI 48 (fun _ => 0), mI 48 (fun _ => 0), mI 48 (fun _ => 0), mI 12 (fun _ => 0), mO 0 [.ref 1, .ref (n + 25), .int 0, .int 0], mS 41 (fun _ => none)]) (L1 := [mO 1 [.ref (n + 4), .ref (n + 24), .ref (n + 1), .ref (n + 2), .ref (n + 3), .int 0], mI 8 (fun _ => 0), mI 8 (fun _ => 0), mI 3 (fun _ => 0), mO 7 [.ref 1, .ref (n + 5), .ref (n + 9), .ref (n + 13), .ref (n + 15), .ref (n + 17), .ref (n + 18), .ref (n + 19), .ref (n + 20), .ref (n + 21), .ref (n + 22), .ref (n + 23)], mO 6 [.ref (n + 6), .ref (n + 7), .ref (n + 8)], mI 48 (fun _ => 0), mI 48 (fun _ => 0), mI 48 (fun _ => 0), mO 6 [.ref (n + 10), .ref (n + 11), .ref (n + 12)], mI 48 (fun _ => 0), mI 48 (fun _ => 0), mI 48 (fun _ => 0), mO 9 [.ref (n + 14)], mI 99 (fun _ => 0), mO 9 [.ref (n + 16)], mI 99 (fun _ => 0), mI 48 (fun _ => 0), mI 48 (fun _ => 0), mI 48 (fun _ => 0), mI 48 (fun _ => 0), mI 48 (fun _ => 0), mI 48 (fun _ => 0), mI 12 (fun _ => 0), mO 0 [.ref 1, .ref (n + 25), .int 0, .int 0], mS 41 (fun _ => none)]) hn (M := MX1_init) (pc := 53) dX1_init_53 rfl rfl (.inr ⟨rfl, rfl⟩) rfl (Nat.le_of_ble_eq_true rfl) rfl ?_
    exact tt_ret (M := MX1_init) (pc := 56) dX1_init_56 rfl rfl
  · refine stateR_far ?_ (fun j h1 h2 => f2' j (by omega))
    have q : (zr (up (zr (zr (zr S (n + 1)) (n + 2)) (n + 3)) n 5 0) (n + 4)) 1 2 = S 1 2 := by
      rw [zr_ne (by omega), up_ne (by omega), zr_ne (by omega), zr_ne (by omega), zr_ne (by omega)]
    rw [q] at r1
    exact r1
  · rw [f2' n (by omega), f1 n (by omega), zr_ne (by omega), up_eq]
  · rw [f2' _ (by omega), f1 _ (by omega), zr_ne (by omega), up_ne (by omega), zr_eq]
  · rw [f2' j (by omega), f1 j (by omega), zr_ne (by omega), up_ne (by omega), zr_ne (by omega), zr_ne (by omega), zr_ne (by omega)]
end
