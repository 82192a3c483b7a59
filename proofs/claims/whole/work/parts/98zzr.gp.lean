/-! ===== a new GuestPages (gen_init.py) ===== -/
def gpL0 : List mCell := []
def gpL1 : List mCell := gpL0 ++ plC 1
def gpL2 : List mCell := gpL1 ++ plC 6
def gpL3 : List mCell := gpL2 ++ txC 11
def gpL4 : List mCell := gpL3 ++ bkC 13
def gpL5 : List mCell := gpL4 ++ bkC 39
def gpL6 : List mCell := gpL5 ++ stC 65
def gpL7 : List mCell := gpL6 ++ [mO 3 [.ref 11, .ref 6, .ref 65, .int 0, .int 0]]
def gpL8 : List mCell := gpL7 ++ [mO 4 [.ref 11, .ref 1, .int 0, .int 0, .int 0, .int 0, .int 0]]
def gpL9 : List mCell := gpL8 ++ [mO 2 [.int 0]]
def gpL10 : List mCell := gpL9 ++ [mI 21 (fun _ => 0)]
def gpL11 : List mCell := gpL10 ++ [mJ 21 (fun _ => 0)]
section
variable {sc : Nat × (Nat → Int32)} {M M' : mM} {pc len : Nat} {ls ls' : List (Option Value)} {st rest : List Value} {SH L L1 : List mCell} {S : mStore} {r : mR × mW} {b c k m f idx : Nat} {fs fs1 : List Value} {x : mCell}
theorem newO_C (hd : decode M.cc pc = .ok (.new idx, 3)) (hT : mnT M.own idx = some c) (hc : c < 100) (hz : wc (fun _ => 0) (mO c (mdf c)) = mO c (mdf c)) (hk : (x :: L).length = k) (h : G sc M (pc + 3) ls (.ref k :: st) (x :: (L ++ [mO c (mdf c)])) (zr S k) r) : G sc M pc ls st (x :: L) S r := by
  refine tt_new hd hT hc hz ?_
  rw [hk]
  exact h
theorem newI_C (hd : decode M.cc pc = .ok (.newarray .int, 2)) (hk : (x :: L).length = k) (hl : L ++ [mI m (fun _ => 0)] = L1) (hm : m ≤ 1000000) (h : G sc M (pc + 2) ls (.ref k :: st) (x :: L1) (zr S k) r) : G sc M pc ls (.int (I m) :: st) (x :: L) S r := by
  refine tt_newI hd hm ?_
  rw [hk, List.cons_append, hl]
  exact h
theorem newJ_C (hd : decode M.cc pc = .ok (.newarray .long, 2)) (hk : (x :: L).length = k) (hl : L ++ [mJ m (fun _ => 0)] = L1) (hm : m ≤ 1000000) (h : G sc M (pc + 2) ls (.ref k :: st) (x :: L1) (zr S k) r) : G sc M pc ls (.int (I m) :: st) (x :: L) S r := by
  refine tt_newJ hd hm ?_
  rw [hk, List.cons_append, hl]
  exact h
theorem putR_C (hd : decode M.cc pc = .ok (.putfield idx, 3)) (hT : mfT M.own idx = some (c, f)) (hm : mfit (mty c f) (.ref 0) = true) (hq : mfin c f = false ∨ (M.nm.name = "<init>" ∧ M.own = c)) (hk : f < fs.length) (hl : fs.set f (.ref b) = fs1) (h : G sc M (pc + 3) ls st (mO c fs1 :: L) S r) : G sc M pc ls (.ref b :: .ref 0 :: st) (mO c fs :: L) S r := by
  refine tt_putR (fs := fs) hd hT hm hq rfl hk ?_
  rw [hl]
  exact h
theorem gp_pl {q : List mCell} (h : q.take 6 = x :: plC 1) : sPlan q 1 := by
  have o : ∀ j, j < 6 → q[j]? = (x :: plC 1)[j]? := fun j hj => by rw [← h, List.getElem?_take_of_lt hj]
  exact ⟨(o 1 (by omega)).trans rfl, ⟨(o 2 (by omega)).trans rfl, by decide⟩, ⟨(o 3 (by omega)).trans rfl, by decide⟩, ⟨(o 4 (by omega)).trans rfl, by decide⟩, ⟨(o 5 (by omega)).trans rfl, by decide⟩⟩
def gpF : List Value := [.ref 1, .ref 6, .ref 11, .ref 13, .ref 39, .ref 65, .ref 85, .ref 86, .ref 87, .ref 88, .ref 89, .int 0, .int 0]
theorem gp_new {S : mStore} : ∃ S', G sc MX10_init 0 [some (.ref 0)] [] [mO 10 (mdf 10)] S (rV (mO 10 gpF :: gpL11) S') ∧ planR S' 1 P0d ∧ stateR S' 17 (newA 1) ∧ (S' 37 2 = 0 ∧ S' 37 3 = 0 ∧ S' 13 5 = 0) ∧ (∀ i, S' 16 i = 0) ∧ (S' 0 11 = 0 ∧ S' 0 12 = -1 ∧ S' 11 1 = 0) := by
  obtain ⟨S1, g1, r1, f1⟩ := plan_new (sc := sc) (SH := mO 10 [.null, .null, .null, .null, .null, .null, .null, .null, .null, .null, .null, .int 0, .int 0] :: gpL0) (S := (zr S 1)) (n := 1) rfl
  replace g1 : G sc MX5_init 0 [some (.ref 1)] [] (mO 10 [.null, .null, .null, .null, .null, .null, .null, .null, .null, .null, .null, .int 0, .int 0] :: (gpL0 ++ [mO 5 (mdf 5)])) (zr S 1) (rV (mO 10 [.null, .null, .null, .null, .null, .null, .null, .null, .null, .null, .null, .int 0, .int 0] :: gpL1) S1) := g1
  obtain ⟨S2, g2, r2, f2⟩ := plan_new (sc := sc) (SH := mO 10 [.ref 1, .null, .null, .null, .null, .null, .null, .null, .null, .null, .null, .int 0, .int 0] :: gpL1) (S := (zr S1 6)) (n := 6) rfl
  replace g2 : G sc MX5_init 0 [some (.ref 6)] [] (mO 10 [.ref 1, .null, .null, .null, .null, .null, .null, .null, .null, .null, .null, .int 0, .int 0] :: (gpL1 ++ [mO 5 (mdf 5)])) (zr S1 6) (rV (mO 10 [.ref 1, .null, .null, .null, .null, .null, .null, .null, .null, .null, .null, .int 0, .int 0] :: gpL2) S2) := g2
  obtain ⟨S3, g3, r3, f3⟩ := text_new (sc := sc) (SH := mO 10 [.ref 1, .ref 6, .null, .null, .null, .null, .null, .null, .null, .null, .null, .int 0, .int 0] :: gpL2) (S := (zr S2 11)) (n := 11) rfl
  replace g3 : G sc MX8_init 0 [some (.ref 11)] [] (mO 10 [.ref 1, .ref 6, .null, .null, .null, .null, .null, .null, .null, .null, .null, .int 0, .int 0] :: (gpL2 ++ [mO 8 (mdf 8)])) (zr S2 11) (rV (mO 10 [.ref 1, .ref 6, .null, .null, .null, .null, .null, .null, .null, .null, .null, .int 0, .int 0] :: gpL3) S3) := g3
  obtain ⟨S4, g4, r4, t4, z4, f4⟩ := book_new (sc := sc) (SH := mO 10 [.ref 1, .ref 6, .ref 11, .null, .null, .null, .null, .null, .null, .null, .null, .int 0, .int 0] :: gpL3) (S := (zr S3 13)) (n := 13) rfl (gp_pl rfl) (by decide)
  replace g4 : G sc MX1_init 0 [some (.ref 13), some (.ref 1)] [] (mO 10 [.ref 1, .ref 6, .ref 11, .null, .null, .null, .null, .null, .null, .null, .null, .int 0, .int 0] :: (gpL3 ++ [mO 1 (mdf 1)])) (zr S3 13) (rV (mO 10 [.ref 1, .ref 6, .ref 11, .null, .null, .null, .null, .null, .null, .null, .null, .int 0, .int 0] :: gpL4) S4) := g4
  obtain ⟨S5, g5, r5, t5, z5, f5⟩ := book_new (sc := sc) (SH := mO 10 [.ref 1, .ref 6, .ref 11, .ref 13, .null, .null, .null, .null, .null, .null, .null, .int 0, .int 0] :: gpL4) (S := (zr S4 39)) (n := 39) rfl (gp_pl rfl) (by decide)
  replace g5 : G sc MX1_init 0 [some (.ref 39), some (.ref 1)] [] (mO 10 [.ref 1, .ref 6, .ref 11, .ref 13, .null, .null, .null, .null, .null, .null, .null, .int 0, .int 0] :: (gpL4 ++ [mO 1 (mdf 1)])) (zr S4 39) (rV (mO 10 [.ref 1, .ref 6, .ref 11, .ref 13, .null, .null, .null, .null, .null, .null, .null, .int 0, .int 0] :: gpL5) S5) := g5
  obtain ⟨S6, g6, r6, f6⟩ := state_new (sc := sc) (SH := mO 10 [.ref 1, .ref 6, .ref 11, .ref 13, .ref 39, .null, .null, .null, .null, .null, .null, .int 0, .int 0] :: gpL5) (S := (zr S5 65)) (n := 65) rfl (gp_pl rfl) (by decide)
  replace g6 : G sc MX7_init 0 [some (.ref 65), some (.ref 1)] [] (mO 10 [.ref 1, .ref 6, .ref 11, .ref 13, .ref 39, .null, .null, .null, .null, .null, .null, .int 0, .int 0] :: (gpL5 ++ [mO 7 (mdf 7)])) (zr S5 65) (rV (mO 10 [.ref 1, .ref 6, .ref 11, .ref 13, .ref 39, .null, .null, .null, .null, .null, .null, .int 0, .int 0] :: gpL6) S6) := g6
  obtain ⟨S7, g7, f7⟩ := maker_new (sc := sc) (SH := mO 10 [.ref 1, .ref 6, .ref 11, .ref 13, .ref 39, .ref 65, .null, .null, .null, .null, .null, .int 0, .int 0] :: gpL6) (S := (zr S6 85)) (n := 85) rfl
  replace g7 : G sc MX3_init 0 [some (.ref 85), some (.ref 11), some (.ref 6), some (.ref 65)] [] (mO 10 [.ref 1, .ref 6, .ref 11, .ref 13, .ref 39, .ref 65, .null, .null, .null, .null, .null, .int 0, .int 0] :: (gpL6 ++ [mO 3 (mdf 3)])) (zr S6 85) (rV (mO 10 [.ref 1, .ref 6, .ref 11, .ref 13, .ref 39, .ref 65, .null, .null, .null, .null, .null, .int 0, .int 0] :: gpL7) S7) := g7
  obtain ⟨S8, g8, f8⟩ := order_new (sc := sc) (SH := mO 10 [.ref 1, .ref 6, .ref 11, .ref 13, .ref 39, .ref 65, .ref 85, .null, .null, .null, .null, .int 0, .int 0] :: gpL7) (S := (zr S7 86)) (n := 86) rfl
  replace g8 : G sc MX4_init 0 [some (.ref 86), some (.ref 11), some (.ref 1)] [] (mO 10 [.ref 1, .ref 6, .ref 11, .ref 13, .ref 39, .ref 65, .ref 85, .null, .null, .null, .null, .int 0, .int 0] :: (gpL7 ++ [mO 4 (mdf 4)])) (zr S7 86) (rV (mO 10 [.ref 1, .ref 6, .ref 11, .ref 13, .ref 39, .ref 65, .ref 85, .null, .null, .null, .null, .int 0, .int 0] :: gpL8) S8) := g8
  obtain ⟨S9, g9, f9⟩ := draws_new (sc := sc) (SH := mO 10 [.ref 1, .ref 6, .ref 11, .ref 13, .ref 39, .ref 65, .ref 85, .ref 86, .null, .null, .null, .int 0, .int 0] :: gpL8) (S := (zr S8 87)) (n := 87) rfl
  replace g9 : G sc MX2_init 0 [some (.ref 87)] [] (mO 10 [.ref 1, .ref 6, .ref 11, .ref 13, .ref 39, .ref 65, .ref 85, .ref 86, .null, .null, .null, .int 0, .int 0] :: (gpL8 ++ [mO 2 (mdf 2)])) (zr S8 87) (rV (mO 10 [.ref 1, .ref 6, .ref 11, .ref 13, .ref 39, .ref 65, .ref 85, .ref 86, .null, .null, .null, .int 0, .int 0] :: gpL9) S9) := g9
  have h1 : ∀ j, j < 1 → S1 j = S j := fun j hj => by rw [f1 j hj, zr_ne (by omega)]
  have h2 : ∀ j, j < 6 → S2 j = S1 j := fun j hj => by rw [f2 j hj, zr_ne (by omega)]
  have h3 : ∀ j, j < 11 → S3 j = S2 j := fun j hj => by rw [f3 j hj, zr_ne (by omega)]
  have h4 : ∀ j, j < 13 → S4 j = S3 j := fun j hj => by rw [f4 j hj, zr_ne (by omega)]
  have h5 : ∀ j, j < 39 → S5 j = S4 j := fun j hj => by rw [f5 j hj, zr_ne (by omega)]
  have h6 : ∀ j, j < 65 → S6 j = S5 j := fun j hj => by rw [f6 j hj, zr_ne (by omega)]
  have h7 : ∀ j, j < 85 → S7 j = S6 j := fun j hj => by rw [f7 j hj, zr_ne (by omega)]
  have h8 : ∀ j, j < 86 → S8 j = S7 j := fun j hj => by rw [f8 j hj, zr_ne (by omega)]
  have h9 : ∀ j, j < 87 → S9 j = S8 j := fun j hj => by rw [f9 j hj, zr_ne (by omega)]
  obtain ⟨V, hV⟩ : ∃ V, V = (up (up (zr (zr S9 88) 89) 0 11 0) 0 12 (-1)) := ⟨_, rfl⟩
  have k5 : ∀ j, 1 ≤ j → j < 39 → V j = S4 j := fun j a b => by rw [hV, up_ne (by omega), up_ne (by omega), zr_ne (by omega), zr_ne (by omega), h9 j (by omega), h8 j (by omega), h7 j (by omega), h6 j (by omega), h5 j (by omega)]
  have k4 : ∀ j, 1 ≤ j → j < 13 → V j = S3 j := fun j a b => by rw [k5 j a (by omega), h4 j b]
  have k2 : ∀ j, 1 ≤ j → j < 6 → V j = S1 j := fun j a b => by rw [k4 j a (by omega), h3 j (by omega), h2 j (by omega)]
  have p1 : zr S3 13 1 2 = 1 := by
    rw [zr_ne (by omega), h3 1 (by omega), h2 1 (by omega)]
    exact r1.1 2 (by omega) (by omega)
  rw [p1] at r4
  refine ⟨V, ?_, planR_far r1 (fun j a b => k2 j a (by omega)), stateR_far r4 (fun j a b => k5 j (by omega) (by omega)), ⟨?_, ?_, ?_⟩, fun i => ?_, ⟨?_, ?_, ?_⟩⟩
  · rw [hV]
    show G sc MX10_init 0 [some (.ref 0)] [] (mO 10 [.null, .null, .null, .null, .null, .null, .null, .null, .null, .null, .null, .int 0, .int 0] :: gpL0) S (rV (mO 10 [.ref 1, .ref 6, .ref 11, .ref 13, .ref 39, .ref 65, .ref 85, .ref 86, .ref 87, .ref 88, .ref 89, .int 0, .int 0] :: gpL11) _)
    refine tt_ld (P := True) (M := MX10_init) (pc := 0) dX10_init_0 rfl rfl rfl rfl rfl (fun _ => ?_) trivial
    refine tt_obj (P := True) (M := MX10_init) (pc := 1) dX10_init_1 rfl [] rfl rfl ⟨rfl, by decide, Nat.le_of_ble_eq_true rfl⟩ (fun _ => ?_) trivial
    refine tt_ld (P := True) (M := MX10_init) (pc := 4) dX10_init_4 rfl rfl rfl rfl rfl (fun _ => ?_) trivial
    refine newO_C (k := 1) (M := MX10_init) (pc := 5) dX10_init_5 rfl (by decide) rfl rfl ?_
    refine tt_dup (P := True) (M := MX10_init) (pc := 8) dX10_init_8 rfl (fun _ => ?_) trivial
    refine tt_ctV (M := MX10_init) (pc := 9) dX10_init_9 rfl [.ref 1, .ref 0] rfl rfl rfl ⟨rfl, by decide, Nat.le_of_ble_eq_true rfl⟩ g1 ?_
    refine putR_C (fs := [.null, .null, .null, .null, .null, .null, .null, .null, .null, .null, .null, .int 0, .int 0]) (fs1 := [.ref 1, .null, .null, .null, .null, .null, .null, .null, .null, .null, .null, .int 0, .int 0]) (M := MX10_init) (pc := 12) dX10_init_12 rfl rfl (.inr ⟨rfl, rfl⟩) (Nat.le_of_ble_eq_true rfl) rfl ?_
    refine tt_ld (P := True) (M := MX10_init) (pc := 15) dX10_init_15 rfl rfl rfl rfl rfl (fun _ => ?_) trivial
    refine newO_C (k := 6) (M := MX10_init) (pc := 16) dX10_init_16 rfl (by decide) rfl rfl ?_
    refine tt_dup (P := True) (M := MX10_init) (pc := 19) dX10_init_19 rfl (fun _ => ?_) trivial
    refine tt_ctV (M := MX10_init) (pc := 20) dX10_init_20 rfl [.ref 6, .ref 0] rfl rfl rfl ⟨rfl, by decide, Nat.le_of_ble_eq_true rfl⟩ g2 ?_
    refine putR_C (fs := [.ref 1, .null, .null, .null, .null, .null, .null, .null, .null, .null, .null, .int 0, .int 0]) (fs1 := [.ref 1, .ref 6, .null, .null, .null, .null, .null, .null, .null, .null, .null, .int 0, .int 0]) (M := MX10_init) (pc := 23) dX10_init_23 rfl rfl (.inr ⟨rfl, rfl⟩) (Nat.le_of_ble_eq_true rfl) rfl ?_
    refine tt_ld (P := True) (M := MX10_init) (pc := 26) dX10_init_26 rfl rfl rfl rfl rfl (fun _ => ?_) trivial
    refine newO_C (k := 11) (M := MX10_init) (pc := 27) dX10_init_27 rfl (by decide) rfl rfl ?_
    refine tt_dup (P := True) (M := MX10_init) (pc := 30) dX10_init_30 rfl (fun _ => ?_) trivial
    refine tt_ctN (M := MX10_init) (pc := 31) dX10_init_31 rfl [.ref 11, .ref 0] rfl rfl rfl ⟨rfl, by decide, Nat.le_of_ble_eq_true rfl⟩ g3 ?_
    refine putR_C (fs := [.ref 1, .ref 6, .null, .null, .null, .null, .null, .null, .null, .null, .null, .int 0, .int 0]) (fs1 := [.ref 1, .ref 6, .ref 11, .null, .null, .null, .null, .null, .null, .null, .null, .int 0, .int 0]) (M := MX10_init) (pc := 34) dX10_init_34 rfl rfl (.inr ⟨rfl, rfl⟩) (Nat.le_of_ble_eq_true rfl) rfl ?_
    refine tt_ld (P := True) (M := MX10_init) (pc := 37) dX10_init_37 rfl rfl rfl rfl rfl (fun _ => ?_) trivial
    refine newO_C (k := 13) (M := MX10_init) (pc := 38) dX10_init_38 rfl (by decide) rfl rfl ?_
    refine tt_dup (P := True) (M := MX10_init) (pc := 41) dX10_init_41 rfl (fun _ => ?_) trivial
    refine tt_ld (P := True) (M := MX10_init) (pc := 42) dX10_init_42 rfl rfl rfl rfl rfl (fun _ => ?_) trivial
    refine tt_getR (P := True) (M := MX10_init) (pc := 43) dX10_init_43 rfl rfl rfl (fun _ => ?_) trivial
    refine tt_ctV (M := MX10_init) (pc := 46) dX10_init_46 rfl [.ref 13, .ref 0] rfl rfl rfl ⟨rfl, by decide, Nat.le_of_ble_eq_true rfl⟩ g4 ?_
    refine putR_C (fs := [.ref 1, .ref 6, .ref 11, .null, .null, .null, .null, .null, .null, .null, .null, .int 0, .int 0]) (fs1 := [.ref 1, .ref 6, .ref 11, .ref 13, .null, .null, .null, .null, .null, .null, .null, .int 0, .int 0]) (M := MX10_init) (pc := 49) dX10_init_49 rfl rfl (.inr ⟨rfl, rfl⟩) (Nat.le_of_ble_eq_true rfl) rfl ?_
    refine tt_ld (P := True) (M := MX10_init) (pc := 52) dX10_init_52 rfl rfl rfl rfl rfl (fun _ => ?_) trivial
    refine newO_C (k := 39) (M := MX10_init) (pc := 53) dX10_init_53 rfl (by decide) rfl rfl ?_
    refine tt_dup (P := True) (M := MX10_init) (pc := 56) dX10_init_56 rfl (fun _ => ?_) trivial
    refine tt_ld (P := True) (M := MX10_init) (pc := 57) dX10_init_57 rfl rfl rfl rfl rfl (fun _ => ?_) trivial
    refine tt_getR (P := True) (M := MX10_init) (pc := 58) dX10_init_58 rfl rfl rfl (fun _ => ?_) trivial
    refine tt_ctV (M := MX10_init) (pc := 61) dX10_init_61 rfl [.ref 39, .ref 0] rfl rfl rfl ⟨rfl, by decide, Nat.le_of_ble_eq_true rfl⟩ g5 ?_
    refine putR_C (fs := [.ref 1, .ref 6, .ref 11, .ref 13, .null, .null, .null, .null, .null, .null, .null, .int 0, .int 0]) (fs1 := [.ref 1, .ref 6, .ref 11, .ref 13, .ref 39, .null, .null, .null, .null, .null, .null, .int 0, .int 0]) (M := MX10_init) (pc := 64) dX10_init_64 rfl rfl (.inr ⟨rfl, rfl⟩) (Nat.le_of_ble_eq_true rfl) rfl ?_
    refine tt_ld (P := True) (M := MX10_init) (pc := 67) dX10_init_67 rfl rfl rfl rfl rfl (fun _ => ?_) trivial
    refine newO_C (k := 65) (M := MX10_init) (pc := 68) dX10_init_68 rfl (by decide) rfl rfl ?_
    refine tt_dup (P := True) (M := MX10_init) (pc := 71) dX10_init_71 rfl (fun _ => ?_) trivial
    refine tt_ld (P := True) (M := MX10_init) (pc := 72) dX10_init_72 rfl rfl rfl rfl rfl (fun _ => ?_) trivial
    refine tt_getR (P := True) (M := MX10_init) (pc := 73) dX10_init_73 rfl rfl rfl (fun _ => ?_) trivial
    refine tt_ctV (M := MX10_init) (pc := 76) dX10_init_76 rfl [.ref 65, .ref 0] rfl rfl rfl ⟨rfl, by decide, Nat.le_of_ble_eq_true rfl⟩ g6 ?_
    refine putR_C (fs := [.ref 1, .ref 6, .ref 11, .ref 13, .ref 39, .null, .null, .null, .null, .null, .null, .int 0, .int 0]) (fs1 := [.ref 1, .ref 6, .ref 11, .ref 13, .ref 39, .ref 65, .null, .null, .null, .null, .null, .int 0, .int 0]) (M := MX10_init) (pc := 79) dX10_init_79 rfl rfl (.inr ⟨rfl, rfl⟩) (Nat.le_of_ble_eq_true rfl) rfl ?_
    refine tt_ld (P := True) (M := MX10_init) (pc := 82) dX10_init_82 rfl rfl rfl rfl rfl (fun _ => ?_) trivial
    refine newO_C (k := 85) (M := MX10_init) (pc := 83) dX10_init_83 rfl (by decide) rfl rfl ?_
    refine tt_dup (P := True) (M := MX10_init) (pc := 86) dX10_init_86 rfl (fun _ => ?_) trivial
    refine tt_ld (P := True) (M := MX10_init) (pc := 87) dX10_init_87 rfl rfl rfl rfl rfl (fun _ => ?_) trivial
    refine tt_getR (P := True) (M := MX10_init) (pc := 88) dX10_init_88 rfl rfl rfl (fun _ => ?_) trivial
    refine tt_ld (P := True) (M := MX10_init) (pc := 91) dX10_init_91 rfl rfl rfl rfl rfl (fun _ => ?_) trivial
    refine tt_getR (P := True) (M := MX10_init) (pc := 92) dX10_init_92 rfl rfl rfl (fun _ => ?_) trivial
    refine tt_ld (P := True) (M := MX10_init) (pc := 95) dX10_init_95 rfl rfl rfl rfl rfl (fun _ => ?_) trivial
    refine tt_getR (P := True) (M := MX10_init) (pc := 96) dX10_init_96 rfl rfl rfl (fun _ => ?_) trivial
    refine tt_ctV (M := MX10_init) (pc := 99) dX10_init_99 rfl [.ref 85, .ref 0] rfl rfl rfl ⟨rfl, by decide, Nat.le_of_ble_eq_true rfl⟩ g7 ?_
    refine putR_C (fs := [.ref 1, .ref 6, .ref 11, .ref 13, .ref 39, .ref 65, .null, .null, .null, .null, .null, .int 0, .int 0]) (fs1 := [.ref 1, .ref 6, .ref 11, .ref 13, .ref 39, .ref 65, .ref 85, .null, .null, .null, .null, .int 0, .int 0]) (M := MX10_init) (pc := 102) dX10_init_102 rfl rfl (.inr ⟨rfl, rfl⟩) (Nat.le_of_ble_eq_true rfl) rfl ?_
    refine tt_ld (P := True) (M := MX10_init) (pc := 105) dX10_init_105 rfl rfl rfl rfl rfl (fun _ => ?_) trivial
    refine newO_C (k := 86) (M := MX10_init) (pc := 106) dX10_init_106 rfl (by decide) rfl rfl ?_
    refine tt_dup (P := True) (M := MX10_init) (pc := 109) dX10_init_109 rfl (fun _ => ?_) trivial
    refine tt_ld (P := True) (M := MX10_init) (pc := 110) dX10_init_110 rfl rfl rfl rfl rfl (fun _ => ?_) trivial
    refine tt_getR (P := True) (M := MX10_init) (pc := 111) dX10_init_111 rfl rfl rfl (fun _ => ?_) trivial
    refine tt_ld (P := True) (M := MX10_init) (pc := 114) dX10_init_114 rfl rfl rfl rfl rfl (fun _ => ?_) trivial
    refine tt_getR (P := True) (M := MX10_init) (pc := 115) dX10_init_115 rfl rfl rfl (fun _ => ?_) trivial
    refine tt_ctV (M := MX10_init) (pc := 118) dX10_init_118 rfl [.ref 86, .ref 0] rfl rfl rfl ⟨rfl, by decide, Nat.le_of_ble_eq_true rfl⟩ g8 ?_
    refine putR_C (fs := [.ref 1, .ref 6, .ref 11, .ref 13, .ref 39, .ref 65, .ref 85, .null, .null, .null, .null, .int 0, .int 0]) (fs1 := [.ref 1, .ref 6, .ref 11, .ref 13, .ref 39, .ref 65, .ref 85, .ref 86, .null, .null, .null, .int 0, .int 0]) (M := MX10_init) (pc := 121) dX10_init_121 rfl rfl (.inr ⟨rfl, rfl⟩) (Nat.le_of_ble_eq_true rfl) rfl ?_
    refine tt_ld (P := True) (M := MX10_init) (pc := 124) dX10_init_124 rfl rfl rfl rfl rfl (fun _ => ?_) trivial
    refine newO_C (k := 87) (M := MX10_init) (pc := 125) dX10_init_125 rfl (by decide) rfl rfl ?_
    refine tt_dup (P := True) (M := MX10_init) (pc := 128) dX10_init_128 rfl (fun _ => ?_) trivial
    refine tt_ctN (M := MX10_init) (pc := 129) dX10_init_129 rfl [.ref 87, .ref 0] rfl rfl rfl ⟨rfl, by decide, Nat.le_of_ble_eq_true rfl⟩ g9 ?_
    refine putR_C (fs := [.ref 1, .ref 6, .ref 11, .ref 13, .ref 39, .ref 65, .ref 85, .ref 86, .null, .null, .null, .int 0, .int 0]) (fs1 := [.ref 1, .ref 6, .ref 11, .ref 13, .ref 39, .ref 65, .ref 85, .ref 86, .ref 87, .null, .null, .int 0, .int 0]) (M := MX10_init) (pc := 132) dX10_init_132 rfl rfl (.inr ⟨rfl, rfl⟩) (Nat.le_of_ble_eq_true rfl) rfl ?_
    refine tt_ld (P := True) (M := MX10_init) (pc := 135) dX10_init_135 rfl rfl rfl rfl rfl (fun _ => ?_) trivial
    refine tt_bipush (P := True) (M := MX10_init) (pc := 136) dX10_init_136 (by decide) (fun _ => ?_) trivial
    refine newI_C (k := 88) (m := 21) (L1 := gpL10) (M := MX10_init) (pc := 138) dX10_init_138 rfl rfl (by decide) ?_
    refine putR_C (fs := [.ref 1, .ref 6, .ref 11, .ref 13, .ref 39, .ref 65, .ref 85, .ref 86, .ref 87, .null, .null, .int 0, .int 0]) (fs1 := [.ref 1, .ref 6, .ref 11, .ref 13, .ref 39, .ref 65, .ref 85, .ref 86, .ref 87, .ref 88, .null, .int 0, .int 0]) (M := MX10_init) (pc := 140) dX10_init_140 rfl rfl (.inr ⟨rfl, rfl⟩) (Nat.le_of_ble_eq_true rfl) rfl ?_
    refine tt_ld (P := True) (M := MX10_init) (pc := 143) dX10_init_143 rfl rfl rfl rfl rfl (fun _ => ?_) trivial
    refine tt_bipush (P := True) (M := MX10_init) (pc := 144) dX10_init_144 (by decide) (fun _ => ?_) trivial
    refine newJ_C (k := 89) (m := 21) (L1 := gpL11) (M := MX10_init) (pc := 146) dX10_init_146 rfl rfl (by decide) ?_
    refine putR_C (fs := [.ref 1, .ref 6, .ref 11, .ref 13, .ref 39, .ref 65, .ref 85, .ref 86, .ref 87, .ref 88, .null, .int 0, .int 0]) (fs1 := [.ref 1, .ref 6, .ref 11, .ref 13, .ref 39, .ref 65, .ref 85, .ref 86, .ref 87, .ref 88, .ref 89, .int 0, .int 0]) (M := MX10_init) (pc := 148) dX10_init_148 rfl rfl (.inr ⟨rfl, rfl⟩) (Nat.le_of_ble_eq_true rfl) rfl ?_
    refine tt_ld (P := True) (M := MX10_init) (pc := 151) dX10_init_151 rfl rfl rfl rfl rfl (fun _ => ?_) trivial
    refine tt_iconst (P := True) (M := MX10_init) (pc := 152) dX10_init_152 (fun _ => ?_) trivial
    refine tt_putZ (P := True) (M := MX10_init) (pc := 153) dX10_init_153 rfl rfl (.inr ⟨rfl, rfl⟩) rfl rfl (fun _ => ?_) ⟨by decide, trivial⟩
    refine tt_ld (P := True) (M := MX10_init) (pc := 156) dX10_init_156 rfl rfl rfl rfl rfl (fun _ => ?_) trivial
    refine tt_iconst (P := True) (M := MX10_init) (pc := 157) dX10_init_157 (fun _ => ?_) trivial
    refine tt_putI (P := True) (M := MX10_init) (pc := 158) dX10_init_158 rfl rfl (.inr ⟨rfl, rfl⟩) rfl rfl (fun _ => ?_) trivial
    exact tt_ret (M := MX10_init) (pc := 161) dX10_init_161 rfl rfl
  · rw [k5 37 (by omega) (by omega)]; exact t4.1
  · rw [k5 37 (by omega) (by omega)]; exact t4.2.1
  · rw [k5 13 (by omega) (by omega)]; exact t4.2.2
  · rw [k5 16 (by omega) (by omega)]; exact z4 i
  · rw [hV]; rfl
  · rw [hV]; rfl
  · rw [k4 11 (by omega) (by omega)]; exact r3
end
