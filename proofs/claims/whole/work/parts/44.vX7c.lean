-- needs: 43.tshape
/-! ===== the program as conditions (gen_vc.py) ===== -/
theorem qX7_pairUp_0 {sc : Nat × (Nat → Int32)} {SH : List mCell} {S : mStore} {r : mR × mW} {a0 : Nat} (h0 : sState SH a0) {l1 : Int} {l2 : Int} {l3 : Int} {u4 : Option Value} {u5 : Option Value} : ((∃ S101, G sc MX9_leave 0 [some (.ref (a0 + 11)), some (.int (I l2)), none, none, none, none, none, none] [] SH S (rV SH S101) ∧ (((0 : Int) ≤ l2 ∧ l2 < 48) ∧ (((0 : Int) ≤ l2 ∧ l2 < 48) ∧ (((0 : Int) ≤ l3 ∧ l3 < 99) ∧ (if I ((up (up S101 (a0 + 17) l2 0) (a0 + 18) l2 0) (a0 + 10) l3) = I (-1) then (∃ v105 S106, G sc MX7_freeKnot 0 [some (.ref a0), none] [] SH (up (up S101 (a0 + 17) l2 0) (a0 + 18) l2 0) (rI v105 SH S106) ∧ (((0 : Int) ≤ l3 ∧ l3 < 99) ∧ (((0 : Int) ≤ l2 ∧ l2 < 48) ∧ (∃ S107, G sc MX6_add 0 [some (.ref (a0 + 5)), some (.int (I v105)), some (.int (I ((up S106 (a0 + 10) l3 v105) (a0 + 2) l2))), none, none, none] [] SH (up S106 (a0 + 10) l3 v105) (rV SH S107) ∧ (∃ S108, G sc MX6_remove 0 [some (.ref (a0 + 1)), some (.int (I l1)), none, none, none, none] [] SH S107 (rV SH S108) ∧ (∃ S109, G sc MX6_add 0 [some (.ref (a0 + 1)), some (.int (I ((up S106 (a0 + 10) l3 v105) (a0 + 2) l2))), some (.int (I l1)), none, none, none] [] SH S108 (rV SH S109) ∧ r = rV SH S109)))))) else (((0 : Int) ≤ l2 ∧ l2 < 48) ∧ (∃ S102, G sc MX6_add 0 [some (.ref (a0 + 5)), some (.int (I ((up (up S101 (a0 + 17) l2 0) (a0 + 18) l2 0) (a0 + 10) l3))), some (.int (I ((up (up S101 (a0 + 17) l2 0) (a0 + 18) l2 0) (a0 + 2) l2))), none, none, none] [] SH (up (up S101 (a0 + 17) l2 0) (a0 + 18) l2 0) (rV SH S102) ∧ (∃ S103, G sc MX6_remove 0 [some (.ref (a0 + 1)), some (.int (I l1)), none, none, none, none] [] SH S102 (rV SH S103) ∧ (∃ S104, G sc MX6_add 0 [some (.ref (a0 + 1)), some (.int (I ((up (up S101 (a0 + 17) l2 0) (a0 + 18) l2 0) (a0 + 2) l2))), some (.int (I l1)), none, none, none] [] SH S103 (rV SH S104) ∧ r = rV SH S104)))))))))) → G sc MX7_pairUp 0 [some (.ref a0), some (.int (I l1)), some (.int (I l2)), some (.int (I l3)), u4, u5] [] SH S r := by
  refine tt_ld (M := MX7_pairUp) (pc := 0) dX7_pairUp_0 rfl rfl rfl rfl rfl ?_
  refine tt_getR (M := MX7_pairUp) (pc := 1) dX7_pairUp_1 rfl h0.1 rfl ?_
  refine tt_ld (M := MX7_pairUp) (pc := 4) dX7_pairUp_4 rfl rfl rfl rfl rfl ?_
  refine tt_vcVN (M := MX7_pairUp) (pc := 5) dX7_pairUp_5 rfl rfl [] rfl rfl ⟨rfl, by decide, Nat.le_of_ble_eq_true rfl⟩ h0.2.2.2.2.1.1 fun S101 => ?_
  refine tt_ld (M := MX7_pairUp) (pc := 8) dX7_pairUp_8 rfl rfl rfl rfl rfl ?_
  refine tt_getR (M := MX7_pairUp) (pc := 9) dX7_pairUp_9 rfl h0.1 rfl ?_
  refine tt_ld (M := MX7_pairUp) (pc := 12) dX7_pairUp_12 rfl rfl rfl rfl rfl ?_
  refine tt_iconst (M := MX7_pairUp) (pc := 13) dX7_pairUp_13 ?_
  refine tt_iastore (M := MX7_pairUp) (pc := 14) dX7_pairUp_14 h0.2.2.2.2.2.2.2.2.2.1 rfl ?_
  refine tt_ld (M := MX7_pairUp) (pc := 15) dX7_pairUp_15 rfl rfl rfl rfl rfl ?_
  refine tt_getR (M := MX7_pairUp) (pc := 16) dX7_pairUp_16 rfl h0.1 rfl ?_
  refine tt_ld (M := MX7_pairUp) (pc := 19) dX7_pairUp_19 rfl rfl rfl rfl rfl ?_
  refine tt_iconst (M := MX7_pairUp) (pc := 20) dX7_pairUp_20 ?_
  refine tt_iastore (M := MX7_pairUp) (pc := 21) dX7_pairUp_21 h0.2.2.2.2.2.2.2.2.2.2.1 rfl ?_
  refine tt_ld (M := MX7_pairUp) (pc := 22) dX7_pairUp_22 rfl rfl rfl rfl rfl ?_
  refine tt_getR (M := MX7_pairUp) (pc := 23) dX7_pairUp_23 rfl h0.1 rfl ?_
  refine tt_getR (M := MX7_pairUp) (pc := 26) dX7_pairUp_26 rfl h0.2.2.2.1.1 rfl ?_
  refine tt_ld (M := MX7_pairUp) (pc := 29) dX7_pairUp_29 rfl rfl rfl rfl rfl ?_
  refine tt_iaload (M := MX7_pairUp) (pc := 30) dX7_pairUp_30 h0.2.2.2.1.2 rfl ?_
  refine tt_st (M := MX7_pairUp) (pc := 31) [some (.ref a0), some (.int (I l1)), some (.int (I l2)), some (.int (I l3)), some (.int (I ((up (up S101 (a0 + 17) l2 0) (a0 + 18) l2 0) (a0 + 10) l3))), u5] dX7_pairUp_31 rfl rfl rfl rfl rfl rfl ?_
  refine tt_ld (M := MX7_pairUp) (pc := 33) dX7_pairUp_33 rfl rfl rfl rfl rfl ?_
  refine tt_iconst (M := MX7_pairUp) (pc := 35) dX7_pairUp_35 ?_
  refine tt_ic_ne (M := MX7_pairUp) (pc := 36) 56 dX7_pairUp_36 rfl ?_ ?_
  · refine tt_ld (M := MX7_pairUp) (pc := 56) dX7_pairUp_56 rfl rfl rfl rfl rfl ?_
    refine tt_getR (M := MX7_pairUp) (pc := 57) dX7_pairUp_57 rfl h0.1 rfl ?_
    refine tt_getR (M := MX7_pairUp) (pc := 60) dX7_pairUp_60 rfl h0.2.1.1 rfl ?_
    refine tt_ld (M := MX7_pairUp) (pc := 63) dX7_pairUp_63 rfl rfl rfl rfl rfl ?_
    refine tt_iaload (M := MX7_pairUp) (pc := 64) dX7_pairUp_64 h0.2.1.2.1 rfl ?_
    refine tt_st (M := MX7_pairUp) (pc := 65) [some (.ref a0), some (.int (I l1)), some (.int (I l2)), some (.int (I l3)), some (.int (I ((up (up S101 (a0 + 17) l2 0) (a0 + 18) l2 0) (a0 + 10) l3))), some (.int (I ((up (up S101 (a0 + 17) l2 0) (a0 + 18) l2 0) (a0 + 2) l2)))] dX7_pairUp_65 rfl rfl rfl rfl rfl rfl ?_
    refine tt_ld (M := MX7_pairUp) (pc := 67) dX7_pairUp_67 rfl rfl rfl rfl rfl ?_
    refine tt_getR (M := MX7_pairUp) (pc := 68) dX7_pairUp_68 rfl h0.1 rfl ?_
    refine tt_ld (M := MX7_pairUp) (pc := 71) dX7_pairUp_71 rfl rfl rfl rfl rfl ?_
    refine tt_ld (M := MX7_pairUp) (pc := 73) dX7_pairUp_73 rfl rfl rfl rfl rfl ?_
    refine tt_vcVN (M := MX7_pairUp) (pc := 75) dX7_pairUp_75 rfl rfl [] rfl rfl ⟨rfl, by decide, Nat.le_of_ble_eq_true rfl⟩ h0.2.2.1.1 fun S102 => ?_
    refine tt_ld (M := MX7_pairUp) (pc := 78) dX7_pairUp_78 rfl rfl rfl rfl rfl ?_
    refine tt_getR (M := MX7_pairUp) (pc := 79) dX7_pairUp_79 rfl h0.1 rfl ?_
    refine tt_ld (M := MX7_pairUp) (pc := 82) dX7_pairUp_82 rfl rfl rfl rfl rfl ?_
    refine tt_vcVN (M := MX7_pairUp) (pc := 83) dX7_pairUp_83 rfl rfl [] rfl rfl ⟨rfl, by decide, Nat.le_of_ble_eq_true rfl⟩ h0.2.1.1 fun S103 => ?_
    refine tt_ld (M := MX7_pairUp) (pc := 86) dX7_pairUp_86 rfl rfl rfl rfl rfl ?_
    refine tt_getR (M := MX7_pairUp) (pc := 87) dX7_pairUp_87 rfl h0.1 rfl ?_
    refine tt_ld (M := MX7_pairUp) (pc := 90) dX7_pairUp_90 rfl rfl rfl rfl rfl ?_
    refine tt_ld (M := MX7_pairUp) (pc := 92) dX7_pairUp_92 rfl rfl rfl rfl rfl ?_
    refine tt_vcVN (M := MX7_pairUp) (pc := 93) dX7_pairUp_93 rfl rfl [] rfl rfl ⟨rfl, by decide, Nat.le_of_ble_eq_true rfl⟩ h0.2.1.1 fun S104 => ?_
    exact tt_ret (M := MX7_pairUp) (pc := 96) dX7_pairUp_96 rfl
  · refine tt_ld (M := MX7_pairUp) (pc := 39) dX7_pairUp_39 rfl rfl rfl rfl rfl ?_
    refine tt_vcIN (M := MX7_pairUp) (pc := 40) dX7_pairUp_40 rfl rfl [] rfl rfl ⟨rfl, by decide, Nat.le_of_ble_eq_true rfl⟩ h0.1 fun v105 S106 => ?_
    refine tt_st (M := MX7_pairUp) (pc := 43) [some (.ref a0), some (.int (I l1)), some (.int (I l2)), some (.int (I l3)), some (.int (I v105)), u5] dX7_pairUp_43 rfl rfl rfl rfl rfl rfl ?_
    refine tt_ld (M := MX7_pairUp) (pc := 45) dX7_pairUp_45 rfl rfl rfl rfl rfl ?_
    refine tt_getR (M := MX7_pairUp) (pc := 46) dX7_pairUp_46 rfl h0.1 rfl ?_
    refine tt_getR (M := MX7_pairUp) (pc := 49) dX7_pairUp_49 rfl h0.2.2.2.1.1 rfl ?_
    refine tt_ld (M := MX7_pairUp) (pc := 52) dX7_pairUp_52 rfl rfl rfl rfl rfl ?_
    refine tt_ld (M := MX7_pairUp) (pc := 53) dX7_pairUp_53 rfl rfl rfl rfl rfl ?_
    refine tt_iastore (M := MX7_pairUp) (pc := 55) dX7_pairUp_55 h0.2.2.2.1.2 rfl ?_
    refine tt_ld (M := MX7_pairUp) (pc := 56) dX7_pairUp_56 rfl rfl rfl rfl rfl ?_
    refine tt_getR (M := MX7_pairUp) (pc := 57) dX7_pairUp_57 rfl h0.1 rfl ?_
    refine tt_getR (M := MX7_pairUp) (pc := 60) dX7_pairUp_60 rfl h0.2.1.1 rfl ?_
    refine tt_ld (M := MX7_pairUp) (pc := 63) dX7_pairUp_63 rfl rfl rfl rfl rfl ?_
    refine tt_iaload (M := MX7_pairUp) (pc := 64) dX7_pairUp_64 h0.2.1.2.1 rfl ?_
    refine tt_st (M := MX7_pairUp) (pc := 65) [some (.ref a0), some (.int (I l1)), some (.int (I l2)), some (.int (I l3)), some (.int (I v105)), some (.int (I ((up S106 (a0 + 10) l3 v105) (a0 + 2) l2)))] dX7_pairUp_65 rfl rfl rfl rfl rfl rfl ?_
    refine tt_ld (M := MX7_pairUp) (pc := 67) dX7_pairUp_67 rfl rfl rfl rfl rfl ?_
    refine tt_getR (M := MX7_pairUp) (pc := 68) dX7_pairUp_68 rfl h0.1 rfl ?_
    refine tt_ld (M := MX7_pairUp) (pc := 71) dX7_pairUp_71 rfl rfl rfl rfl rfl ?_
    refine tt_ld (M := MX7_pairUp) (pc := 73) dX7_pairUp_73 rfl rfl rfl rfl rfl ?_
    refine tt_vcVN (M := MX7_pairUp) (pc := 75) dX7_pairUp_75 rfl rfl [] rfl rfl ⟨rfl, by decide, Nat.le_of_ble_eq_true rfl⟩ h0.2.2.1.1 fun S107 => ?_
    refine tt_ld (M := MX7_pairUp) (pc := 78) dX7_pairUp_78 rfl rfl rfl rfl rfl ?_
    refine tt_getR (M := MX7_pairUp) (pc := 79) dX7_pairUp_79 rfl h0.1 rfl ?_
    refine tt_ld (M := MX7_pairUp) (pc := 82) dX7_pairUp_82 rfl rfl rfl rfl rfl ?_
    refine tt_vcVN (M := MX7_pairUp) (pc := 83) dX7_pairUp_83 rfl rfl [] rfl rfl ⟨rfl, by decide, Nat.le_of_ble_eq_true rfl⟩ h0.2.1.1 fun S108 => ?_
    refine tt_ld (M := MX7_pairUp) (pc := 86) dX7_pairUp_86 rfl rfl rfl rfl rfl ?_
    refine tt_getR (M := MX7_pairUp) (pc := 87) dX7_pairUp_87 rfl h0.1 rfl ?_
    refine tt_ld (M := MX7_pairUp) (pc := 90) dX7_pairUp_90 rfl rfl rfl rfl rfl ?_
    refine tt_ld (M := MX7_pairUp) (pc := 92) dX7_pairUp_92 rfl rfl rfl rfl rfl ?_
    refine tt_vcVN (M := MX7_pairUp) (pc := 93) dX7_pairUp_93 rfl rfl [] rfl rfl ⟨rfl, by decide, Nat.le_of_ble_eq_true rfl⟩ h0.2.1.1 fun S109 => ?_
    exact tt_ret (M := MX7_pairUp) (pc := 96) dX7_pairUp_96 rfl
theorem qX7_freeKnot_0 {sc : Nat × (Nat → Int32)} {SH : List mCell} {S : mStore} {r : mR × mW} {a0 : Nat} (h0 : sState SH a0) {u1 : Option Value} : (G sc MX7_freeKnot 2 [some (.ref a0), some (.int (I 0))] [] SH S r) → G sc MX7_freeKnot 0 [some (.ref a0), u1] [] SH S r := by
  refine tt_iconst (M := MX7_freeKnot) (pc := 0) dX7_freeKnot_0 ?_
  refine tt_st (M := MX7_freeKnot) (pc := 1) [some (.ref a0), some (.int (I 0))] dX7_freeKnot_1 rfl rfl rfl rfl rfl rfl ?_
  exact id
theorem qX7_freeKnot_2 {sc : Nat × (Nat → Int32)} {SH : List mCell} {S : mStore} {r : mR × mW} {a0 : Nat} (h0 : sState SH a0) {l1 : Int} : ((if I 47 ≤ I l1 then r = rI l1 SH S else (((0 : Int) ≤ l1 ∧ l1 < 48) ∧ (if I (S (a0 + 8) l1) = I (-1) then r = rI l1 SH S else G sc MX7_freeKnot 2 [some (.ref a0), some (.int (I (l1 + 1)))] [] SH S r)))) → G sc MX7_freeKnot 2 [some (.ref a0), some (.int (I l1))] [] SH S r := by
  refine tt_ld (M := MX7_freeKnot) (pc := 2) dX7_freeKnot_2 rfl rfl rfl rfl rfl ?_
  refine tt_bipush (M := MX7_freeKnot) (pc := 3) dX7_freeKnot_3 (by decide) ?_
  refine tt_ic_ge (M := MX7_freeKnot) (pc := 5) 27 dX7_freeKnot_5 rfl ?_ ?_
  · refine tt_ld (M := MX7_freeKnot) (pc := 27) dX7_freeKnot_27 rfl rfl rfl rfl rfl ?_
    exact tt_iret (M := MX7_freeKnot) (pc := 28) dX7_freeKnot_28 rfl
  · refine tt_ld (M := MX7_freeKnot) (pc := 8) dX7_freeKnot_8 rfl rfl rfl rfl rfl ?_
    refine tt_getR (M := MX7_freeKnot) (pc := 9) dX7_freeKnot_9 rfl h0.1 rfl ?_
    refine tt_getR (M := MX7_freeKnot) (pc := 12) dX7_freeKnot_12 rfl h0.2.2.1.1 rfl ?_
    refine tt_ld (M := MX7_freeKnot) (pc := 15) dX7_freeKnot_15 rfl rfl rfl rfl rfl ?_
    refine tt_iaload (M := MX7_freeKnot) (pc := 16) dX7_freeKnot_16 h0.2.2.1.2.2.2 rfl ?_
    refine tt_iconst (M := MX7_freeKnot) (pc := 17) dX7_freeKnot_17 ?_
    refine tt_ic_eq (M := MX7_freeKnot) (pc := 18) 27 dX7_freeKnot_18 rfl ?_ ?_
    · refine tt_ld (M := MX7_freeKnot) (pc := 27) dX7_freeKnot_27 rfl rfl rfl rfl rfl ?_
      exact tt_iret (M := MX7_freeKnot) (pc := 28) dX7_freeKnot_28 rfl
    · refine tt_iinc (M := MX7_freeKnot) (pc := 21) [some (.ref a0), some (.int (I (l1 + 1)))] dX7_freeKnot_21 rfl rfl ?_
      refine tt_goto (M := MX7_freeKnot) (pc := 24) 2 dX7_freeKnot_24 rfl ?_
      exact id
theorem qX7_fewest_0 {sc : Nat × (Nat → Int32)} {SH : List mCell} {S : mStore} {r : mR × mW} {a0 : Nat} (h0 : sState SH a0) {u1 : Option Value} {u2 : Option Value} : (G sc MX7_fewest 4 [some (.ref a0), some (.int (I 0)), some (.int (I 0))] [] SH S r) → G sc MX7_fewest 0 [some (.ref a0), u1, u2] [] SH S r := by
  refine tt_iconst (M := MX7_fewest) (pc := 0) dX7_fewest_0 ?_
  refine tt_st (M := MX7_fewest) (pc := 1) [some (.ref a0), some (.int (I 0)), u2] dX7_fewest_1 rfl rfl rfl rfl rfl rfl ?_
  refine tt_iconst (M := MX7_fewest) (pc := 2) dX7_fewest_2 ?_
  refine tt_st (M := MX7_fewest) (pc := 3) [some (.ref a0), some (.int (I 0)), some (.int (I 0))] dX7_fewest_3 rfl rfl rfl rfl rfl rfl ?_
  exact id
theorem qX7_fewest_4 {sc : Nat × (Nat → Int32)} {SH : List mCell} {S : mStore} {r : mR × mW} {a0 : Nat} (h0 : sState SH a0) {l1 : Int} {l2 : Int} : ((if I (S 1 7) ≤ I l2 then r = rI l1 SH S else (((0 : Int) ≤ l2 ∧ l2 < 48) ∧ (if I (S (a0 + 2) l2) = I (-1) then G sc MX7_fewest 4 [some (.ref a0), some (.int (I l1)), some (.int (I (l2 + 1)))] [] SH S r else (((0 : Int) ≤ l2 ∧ l2 < 48) ∧ (if I (S (a0 + 14) l2) = I 0 then G sc MX7_fewest 4 [some (.ref a0), some (.int (I (l1 + 1))), some (.int (I (l2 + 1)))] [] SH S r else (if I (S 1 4) = I 0 then (if I (S 1 1) ≤ I 0 then G sc MX7_fewest 4 [some (.ref a0), some (.int (I l1)), some (.int (I (l2 + 1)))] [] SH S r else (∃ v101 S102, G sc MX7_likeAhead 0 [some (.ref a0), some (.int (I l2)), none, none] [] SH S (rI v101 SH S102) ∧ (I (S102 1 1) ≠ I 0 ∧ (if I (v101 - idv v101 (S102 1 1) * (S102 1 1)) = I 0 then G sc MX7_fewest 4 [some (.ref a0), some (.int (I (l1 + 1))), some (.int (I (l2 + 1)))] [] SH S102 r else G sc MX7_fewest 4 [some (.ref a0), some (.int (I l1)), some (.int (I (l2 + 1)))] [] SH S102 r)))) else (∃ v103 S104, G sc MX7_cellsAt 0 [some (.ref a0), some (.int (I l2)), none] [] SH S (rI v103 SH S104) ∧ (if I v103 = I 0 then G sc MX7_fewest 4 [some (.ref a0), some (.int (I l1)), some (.int (I (l2 + 1)))] [] SH S104 r else (if I (S104 1 1) ≤ I 0 then G sc MX7_fewest 4 [some (.ref a0), some (.int (I l1)), some (.int (I (l2 + 1)))] [] SH S104 r else (∃ v105 S106, G sc MX7_likeAhead 0 [some (.ref a0), some (.int (I l2)), none, none] [] SH S104 (rI v105 SH S106) ∧ (I (S106 1 1) ≠ I 0 ∧ (if I (v105 - idv v105 (S106 1 1) * (S106 1 1)) = I 0 then G sc MX7_fewest 4 [some (.ref a0), some (.int (I (l1 + 1))), some (.int (I (l2 + 1)))] [] SH S106 r else G sc MX7_fewest 4 [some (.ref a0), some (.int (I l1)), some (.int (I (l2 + 1)))] [] SH S106 r))))))))))))) → G sc MX7_fewest 4 [some (.ref a0), some (.int (I l1)), some (.int (I l2))] [] SH S r := by
  refine tt_ld (M := MX7_fewest) (pc := 4) dX7_fewest_4 rfl rfl rfl rfl rfl ?_
  refine tt_ld (M := MX7_fewest) (pc := 5) dX7_fewest_5 rfl rfl rfl rfl rfl ?_
  refine tt_getR (M := MX7_fewest) (pc := 6) dX7_fewest_6 rfl h0.1 rfl ?_
  refine tt_getI (M := MX7_fewest) (pc := 9) dX7_fewest_9 rfl h0.2.2.2.2.2.2.2.2.2.2.2.2.1 rfl ?_
  refine tt_ic_ge (M := MX7_fewest) (pc := 12) 99 dX7_fewest_12 rfl ?_ ?_
  · refine tt_ld (M := MX7_fewest) (pc := 99) dX7_fewest_99 rfl rfl rfl rfl rfl ?_
    exact tt_iret (M := MX7_fewest) (pc := 100) dX7_fewest_100 rfl
  · refine tt_ld (M := MX7_fewest) (pc := 15) dX7_fewest_15 rfl rfl rfl rfl rfl ?_
    refine tt_getR (M := MX7_fewest) (pc := 16) dX7_fewest_16 rfl h0.1 rfl ?_
    refine tt_getR (M := MX7_fewest) (pc := 19) dX7_fewest_19 rfl h0.2.1.1 rfl ?_
    refine tt_ld (M := MX7_fewest) (pc := 22) dX7_fewest_22 rfl rfl rfl rfl rfl ?_
    refine tt_iaload (M := MX7_fewest) (pc := 23) dX7_fewest_23 h0.2.1.2.1 rfl ?_
    refine tt_iconst (M := MX7_fewest) (pc := 24) dX7_fewest_24 ?_
    refine tt_ic_ne (M := MX7_fewest) (pc := 25) 31 dX7_fewest_25 rfl ?_ ?_
    · refine tt_ld (M := MX7_fewest) (pc := 31) dX7_fewest_31 rfl rfl rfl rfl rfl ?_
      refine tt_getR (M := MX7_fewest) (pc := 32) dX7_fewest_32 rfl h0.1 rfl ?_
      refine tt_ld (M := MX7_fewest) (pc := 35) dX7_fewest_35 rfl rfl rfl rfl rfl ?_
      refine tt_iaload (M := MX7_fewest) (pc := 36) dX7_fewest_36 h0.2.2.2.2.2.2.1 rfl ?_
      refine tt_if_ne (M := MX7_fewest) (pc := 37) 46 dX7_fewest_37 rfl ?_ ?_
      · refine tt_ld (M := MX7_fewest) (pc := 46) dX7_fewest_46 rfl rfl rfl rfl rfl ?_
        refine tt_getR (M := MX7_fewest) (pc := 47) dX7_fewest_47 rfl h0.1 rfl ?_
        refine tt_getI (M := MX7_fewest) (pc := 50) dX7_fewest_50 rfl h0.2.2.2.2.2.2.2.2.2.2.2.2.1 rfl ?_
        refine tt_if_eq (M := MX7_fewest) (pc := 53) 64 dX7_fewest_53 rfl ?_ ?_
        · refine tt_ld (M := MX7_fewest) (pc := 64) dX7_fewest_64 rfl rfl rfl rfl rfl ?_
          refine tt_getR (M := MX7_fewest) (pc := 65) dX7_fewest_65 rfl h0.1 rfl ?_
          refine tt_getI (M := MX7_fewest) (pc := 68) dX7_fewest_68 rfl h0.2.2.2.2.2.2.2.2.2.2.2.2.1 rfl ?_
          refine tt_if_le (M := MX7_fewest) (pc := 71) 93 dX7_fewest_71 rfl ?_ ?_
          · refine tt_iinc (M := MX7_fewest) (pc := 93) [some (.ref a0), some (.int (I l1)), some (.int (I (l2 + 1)))] dX7_fewest_93 rfl rfl ?_
            refine tt_goto (M := MX7_fewest) (pc := 96) 4 dX7_fewest_96 rfl ?_
            exact id
          · refine tt_ld (M := MX7_fewest) (pc := 74) dX7_fewest_74 rfl rfl rfl rfl rfl ?_
            refine tt_ld (M := MX7_fewest) (pc := 75) dX7_fewest_75 rfl rfl rfl rfl rfl ?_
            refine tt_vcIN (M := MX7_fewest) (pc := 76) dX7_fewest_76 rfl rfl [] rfl rfl ⟨rfl, by decide, Nat.le_of_ble_eq_true rfl⟩ h0.1 fun v101 S102 => ?_
            refine tt_ld (M := MX7_fewest) (pc := 79) dX7_fewest_79 rfl rfl rfl rfl rfl ?_
            refine tt_getR (M := MX7_fewest) (pc := 80) dX7_fewest_80 rfl h0.1 rfl ?_
            refine tt_getI (M := MX7_fewest) (pc := 83) dX7_fewest_83 rfl h0.2.2.2.2.2.2.2.2.2.2.2.2.1 rfl ?_
            refine tt_iremc (M := MX7_fewest) (pc := 86) dX7_fewest_86 ?_
            refine tt_if_ne (M := MX7_fewest) (pc := 87) 93 dX7_fewest_87 rfl ?_ ?_
            · refine tt_iinc (M := MX7_fewest) (pc := 93) [some (.ref a0), some (.int (I l1)), some (.int (I (l2 + 1)))] dX7_fewest_93 rfl rfl ?_
              refine tt_goto (M := MX7_fewest) (pc := 96) 4 dX7_fewest_96 rfl ?_
              exact id
            · refine tt_iinc (M := MX7_fewest) (pc := 90) [some (.ref a0), some (.int (I (l1 + 1))), some (.int (I l2))] dX7_fewest_90 rfl rfl ?_
              refine tt_iinc (M := MX7_fewest) (pc := 93) [some (.ref a0), some (.int (I (l1 + 1))), some (.int (I (l2 + 1)))] dX7_fewest_93 rfl rfl ?_
              refine tt_goto (M := MX7_fewest) (pc := 96) 4 dX7_fewest_96 rfl ?_
              exact id
        · refine tt_ld (M := MX7_fewest) (pc := 56) dX7_fewest_56 rfl rfl rfl rfl rfl ?_
          refine tt_ld (M := MX7_fewest) (pc := 57) dX7_fewest_57 rfl rfl rfl rfl rfl ?_
          refine tt_vcIN (M := MX7_fewest) (pc := 58) dX7_fewest_58 rfl rfl [] rfl rfl ⟨rfl, by decide, Nat.le_of_ble_eq_true rfl⟩ h0.1 fun v103 S104 => ?_
          refine tt_if_eq (M := MX7_fewest) (pc := 61) 93 dX7_fewest_61 rfl ?_ ?_
          · refine tt_iinc (M := MX7_fewest) (pc := 93) [some (.ref a0), some (.int (I l1)), some (.int (I (l2 + 1)))] dX7_fewest_93 rfl rfl ?_
            refine tt_goto (M := MX7_fewest) (pc := 96) 4 dX7_fewest_96 rfl ?_
            exact id
          · refine tt_ld (M := MX7_fewest) (pc := 64) dX7_fewest_64 rfl rfl rfl rfl rfl ?_
            refine tt_getR (M := MX7_fewest) (pc := 65) dX7_fewest_65 rfl h0.1 rfl ?_
            refine tt_getI (M := MX7_fewest) (pc := 68) dX7_fewest_68 rfl h0.2.2.2.2.2.2.2.2.2.2.2.2.1 rfl ?_
            refine tt_if_le (M := MX7_fewest) (pc := 71) 93 dX7_fewest_71 rfl ?_ ?_
            · refine tt_iinc (M := MX7_fewest) (pc := 93) [some (.ref a0), some (.int (I l1)), some (.int (I (l2 + 1)))] dX7_fewest_93 rfl rfl ?_
              refine tt_goto (M := MX7_fewest) (pc := 96) 4 dX7_fewest_96 rfl ?_
              exact id
            · refine tt_ld (M := MX7_fewest) (pc := 74) dX7_fewest_74 rfl rfl rfl rfl rfl ?_
              refine tt_ld (M := MX7_fewest) (pc := 75) dX7_fewest_75 rfl rfl rfl rfl rfl ?_
              refine tt_vcIN (M := MX7_fewest) (pc := 76) dX7_fewest_76 rfl rfl [] rfl rfl ⟨rfl, by decide, Nat.le_of_ble_eq_true rfl⟩ h0.1 fun v105 S106 => ?_
              refine tt_ld (M := MX7_fewest) (pc := 79) dX7_fewest_79 rfl rfl rfl rfl rfl ?_
              refine tt_getR (M := MX7_fewest) (pc := 80) dX7_fewest_80 rfl h0.1 rfl ?_
              refine tt_getI (M := MX7_fewest) (pc := 83) dX7_fewest_83 rfl h0.2.2.2.2.2.2.2.2.2.2.2.2.1 rfl ?_
              refine tt_iremc (M := MX7_fewest) (pc := 86) dX7_fewest_86 ?_
              refine tt_if_ne (M := MX7_fewest) (pc := 87) 93 dX7_fewest_87 rfl ?_ ?_
              · refine tt_iinc (M := MX7_fewest) (pc := 93) [some (.ref a0), some (.int (I l1)), some (.int (I (l2 + 1)))] dX7_fewest_93 rfl rfl ?_
                refine tt_goto (M := MX7_fewest) (pc := 96) 4 dX7_fewest_96 rfl ?_
                exact id
              · refine tt_iinc (M := MX7_fewest) (pc := 90) [some (.ref a0), some (.int (I (l1 + 1))), some (.int (I l2))] dX7_fewest_90 rfl rfl ?_
                refine tt_iinc (M := MX7_fewest) (pc := 93) [some (.ref a0), some (.int (I (l1 + 1))), some (.int (I (l2 + 1)))] dX7_fewest_93 rfl rfl ?_
                refine tt_goto (M := MX7_fewest) (pc := 96) 4 dX7_fewest_96 rfl ?_
                exact id
      · refine tt_iinc (M := MX7_fewest) (pc := 40) [some (.ref a0), some (.int (I (l1 + 1))), some (.int (I l2))] dX7_fewest_40 rfl rfl ?_
        refine tt_goto (M := MX7_fewest) (pc := 43) 93 dX7_fewest_43 rfl ?_
        refine tt_iinc (M := MX7_fewest) (pc := 93) [some (.ref a0), some (.int (I (l1 + 1))), some (.int (I (l2 + 1)))] dX7_fewest_93 rfl rfl ?_
        refine tt_goto (M := MX7_fewest) (pc := 96) 4 dX7_fewest_96 rfl ?_
        exact id
    · refine tt_goto (M := MX7_fewest) (pc := 28) 93 dX7_fewest_28 rfl ?_
      refine tt_iinc (M := MX7_fewest) (pc := 93) [some (.ref a0), some (.int (I l1)), some (.int (I (l2 + 1)))] dX7_fewest_93 rfl rfl ?_
      refine tt_goto (M := MX7_fewest) (pc := 96) 4 dX7_fewest_96 rfl ?_
      exact id
theorem qX7_likeAhead_0 {sc : Nat × (Nat → Int32)} {SH : List mCell} {S : mStore} {r : mR × mW} {a0 : Nat} (h0 : sState SH a0) {l1 : Int} {u2 : Option Value} {u3 : Option Value} : (G sc MX7_likeAhead 4 [some (.ref a0), some (.int (I l1)), some (.int (I 0)), some (.int (I 0))] [] SH S r) → G sc MX7_likeAhead 0 [some (.ref a0), some (.int (I l1)), u2, u3] [] SH S r := by
  refine tt_iconst (M := MX7_likeAhead) (pc := 0) dX7_likeAhead_0 ?_
  refine tt_st (M := MX7_likeAhead) (pc := 1) [some (.ref a0), some (.int (I l1)), some (.int (I 0)), u3] dX7_likeAhead_1 rfl rfl rfl rfl rfl rfl ?_
  refine tt_iconst (M := MX7_likeAhead) (pc := 2) dX7_likeAhead_2 ?_
  refine tt_st (M := MX7_likeAhead) (pc := 3) [some (.ref a0), some (.int (I l1)), some (.int (I 0)), some (.int (I 0))] dX7_likeAhead_3 rfl rfl rfl rfl rfl rfl ?_
  exact id
theorem qX7_likeAhead_4 {sc : Nat × (Nat → Int32)} {SH : List mCell} {S : mStore} {r : mR × mW} {a0 : Nat} (h0 : sState SH a0) {l1 : Int} {l2 : Int} {l3 : Int} : ((if I l1 ≤ I l3 then r = rI l2 SH S else (((0 : Int) ≤ l3 ∧ l3 < 48) ∧ (if I (S (a0 + 14) l3) = I 1 then (((0 : Int) ≤ l3 ∧ l3 < 48) ∧ (if I (S (a0 + 2) l3) = I (-1) then G sc MX7_likeAhead 4 [some (.ref a0), some (.int (I l1)), some (.int (I l2)), some (.int (I (l3 + 1)))] [] SH S r else (∃ v101 S102, G sc MX5_realmOf 0 [some (.ref 1), some (.int (I l3))] [] SH S (rI v101 SH S102) ∧ (∃ v103 S104, G sc MX5_realmOf 0 [some (.ref 1), some (.int (I l1))] [] SH S102 (rI v103 SH S104) ∧ (if I v101 = I v103 then (∃ v105 S106, G sc MX7_cellsAt 0 [some (.ref a0), some (.int (I l3)), none] [] SH S104 (rI v105 SH S106) ∧ (∃ v107 S108, G sc MX7_cellsAt 0 [some (.ref a0), some (.int (I l1)), none] [] SH S106 (rI v107 SH S108) ∧ (if I v105 = I v107 then G sc MX7_likeAhead 4 [some (.ref a0), some (.int (I l1)), some (.int (I (l2 + 1))), some (.int (I (l3 + 1)))] [] SH S108 r else G sc MX7_likeAhead 4 [some (.ref a0), some (.int (I l1)), some (.int (I l2)), some (.int (I (l3 + 1)))] [] SH S108 r))) else G sc MX7_likeAhead 4 [some (.ref a0), some (.int (I l1)), some (.int (I l2)), some (.int (I (l3 + 1)))] [] SH S104 r))))) else G sc MX7_likeAhead 4 [some (.ref a0), some (.int (I l1)), some (.int (I l2)), some (.int (I (l3 + 1)))] [] SH S r)))) → G sc MX7_likeAhead 4 [some (.ref a0), some (.int (I l1)), some (.int (I l2)), some (.int (I l3))] [] SH S r := by
  refine tt_ld (M := MX7_likeAhead) (pc := 4) dX7_likeAhead_4 rfl rfl rfl rfl rfl ?_
  refine tt_ld (M := MX7_likeAhead) (pc := 5) dX7_likeAhead_5 rfl rfl rfl rfl rfl ?_
  refine tt_ic_ge (M := MX7_likeAhead) (pc := 6) 73 dX7_likeAhead_6 rfl ?_ ?_
  · refine tt_ld (M := MX7_likeAhead) (pc := 73) dX7_likeAhead_73 rfl rfl rfl rfl rfl ?_
    exact tt_iret (M := MX7_likeAhead) (pc := 74) dX7_likeAhead_74 rfl
  · refine tt_ld (M := MX7_likeAhead) (pc := 9) dX7_likeAhead_9 rfl rfl rfl rfl rfl ?_
    refine tt_getR (M := MX7_likeAhead) (pc := 10) dX7_likeAhead_10 rfl h0.1 rfl ?_
    refine tt_ld (M := MX7_likeAhead) (pc := 13) dX7_likeAhead_13 rfl rfl rfl rfl rfl ?_
    refine tt_iaload (M := MX7_likeAhead) (pc := 14) dX7_likeAhead_14 h0.2.2.2.2.2.2.1 rfl ?_
    refine tt_iconst (M := MX7_likeAhead) (pc := 15) dX7_likeAhead_15 ?_
    refine tt_ic_ne (M := MX7_likeAhead) (pc := 16) 67 dX7_likeAhead_16 rfl ?_ ?_
    · refine tt_iinc (M := MX7_likeAhead) (pc := 67) [some (.ref a0), some (.int (I l1)), some (.int (I l2)), some (.int (I (l3 + 1)))] dX7_likeAhead_67 rfl rfl ?_
      refine tt_goto (M := MX7_likeAhead) (pc := 70) 4 dX7_likeAhead_70 rfl ?_
      exact id
    · refine tt_ld (M := MX7_likeAhead) (pc := 19) dX7_likeAhead_19 rfl rfl rfl rfl rfl ?_
      refine tt_getR (M := MX7_likeAhead) (pc := 20) dX7_likeAhead_20 rfl h0.1 rfl ?_
      refine tt_getR (M := MX7_likeAhead) (pc := 23) dX7_likeAhead_23 rfl h0.2.1.1 rfl ?_
      refine tt_ld (M := MX7_likeAhead) (pc := 26) dX7_likeAhead_26 rfl rfl rfl rfl rfl ?_
      refine tt_iaload (M := MX7_likeAhead) (pc := 27) dX7_likeAhead_27 h0.2.1.2.1 rfl ?_
      refine tt_iconst (M := MX7_likeAhead) (pc := 28) dX7_likeAhead_28 ?_
      refine tt_ic_eq (M := MX7_likeAhead) (pc := 29) 67 dX7_likeAhead_29 rfl ?_ ?_
      · refine tt_iinc (M := MX7_likeAhead) (pc := 67) [some (.ref a0), some (.int (I l1)), some (.int (I l2)), some (.int (I (l3 + 1)))] dX7_likeAhead_67 rfl rfl ?_
        refine tt_goto (M := MX7_likeAhead) (pc := 70) 4 dX7_likeAhead_70 rfl ?_
        exact id
      · refine tt_ld (M := MX7_likeAhead) (pc := 32) dX7_likeAhead_32 rfl rfl rfl rfl rfl ?_
        refine tt_getR (M := MX7_likeAhead) (pc := 33) dX7_likeAhead_33 rfl h0.1 rfl ?_
        refine tt_ld (M := MX7_likeAhead) (pc := 36) dX7_likeAhead_36 rfl rfl rfl rfl rfl ?_
        refine tt_vcIN (M := MX7_likeAhead) (pc := 37) dX7_likeAhead_37 rfl rfl [] rfl rfl ⟨rfl, by decide, Nat.le_of_ble_eq_true rfl⟩ h0.2.2.2.2.2.2.2.2.2.2.2.2.1 fun v101 S102 => ?_
        refine tt_ld (M := MX7_likeAhead) (pc := 40) dX7_likeAhead_40 rfl rfl rfl rfl rfl ?_
        refine tt_getR (M := MX7_likeAhead) (pc := 41) dX7_likeAhead_41 rfl h0.1 rfl ?_
        refine tt_ld (M := MX7_likeAhead) (pc := 44) dX7_likeAhead_44 rfl rfl rfl rfl rfl ?_
        refine tt_vcIN (M := MX7_likeAhead) (pc := 45) dX7_likeAhead_45 rfl rfl [.int (I v101)] rfl rfl ⟨rfl, by decide, Nat.le_of_ble_eq_true rfl⟩ h0.2.2.2.2.2.2.2.2.2.2.2.2.1 fun v103 S104 => ?_
        refine tt_ic_ne (M := MX7_likeAhead) (pc := 48) 67 dX7_likeAhead_48 rfl ?_ ?_
        · refine tt_iinc (M := MX7_likeAhead) (pc := 67) [some (.ref a0), some (.int (I l1)), some (.int (I l2)), some (.int (I (l3 + 1)))] dX7_likeAhead_67 rfl rfl ?_
          refine tt_goto (M := MX7_likeAhead) (pc := 70) 4 dX7_likeAhead_70 rfl ?_
          exact id
        · refine tt_ld (M := MX7_likeAhead) (pc := 51) dX7_likeAhead_51 rfl rfl rfl rfl rfl ?_
          refine tt_ld (M := MX7_likeAhead) (pc := 52) dX7_likeAhead_52 rfl rfl rfl rfl rfl ?_
          refine tt_vcIN (M := MX7_likeAhead) (pc := 53) dX7_likeAhead_53 rfl rfl [] rfl rfl ⟨rfl, by decide, Nat.le_of_ble_eq_true rfl⟩ h0.1 fun v105 S106 => ?_
          refine tt_ld (M := MX7_likeAhead) (pc := 56) dX7_likeAhead_56 rfl rfl rfl rfl rfl ?_
          refine tt_ld (M := MX7_likeAhead) (pc := 57) dX7_likeAhead_57 rfl rfl rfl rfl rfl ?_
          refine tt_vcIN (M := MX7_likeAhead) (pc := 58) dX7_likeAhead_58 rfl rfl [.int (I v105)] rfl rfl ⟨rfl, by decide, Nat.le_of_ble_eq_true rfl⟩ h0.1 fun v107 S108 => ?_
          refine tt_ic_ne (M := MX7_likeAhead) (pc := 61) 67 dX7_likeAhead_61 rfl ?_ ?_
          · refine tt_iinc (M := MX7_likeAhead) (pc := 67) [some (.ref a0), some (.int (I l1)), some (.int (I l2)), some (.int (I (l3 + 1)))] dX7_likeAhead_67 rfl rfl ?_
            refine tt_goto (M := MX7_likeAhead) (pc := 70) 4 dX7_likeAhead_70 rfl ?_
            exact id
          · refine tt_iinc (M := MX7_likeAhead) (pc := 64) [some (.ref a0), some (.int (I l1)), some (.int (I (l2 + 1))), some (.int (I l3))] dX7_likeAhead_64 rfl rfl ?_
            refine tt_iinc (M := MX7_likeAhead) (pc := 67) [some (.ref a0), some (.int (I l1)), some (.int (I (l2 + 1))), some (.int (I (l3 + 1)))] dX7_likeAhead_67 rfl rfl ?_
            refine tt_goto (M := MX7_likeAhead) (pc := 70) 4 dX7_likeAhead_70 rfl ?_
            exact id
theorem qX7_risk_0 {sc : Nat × (Nat → Int32)} {SH : List mCell} {S : mStore} {r : mR × mW} {a0 : Nat} (h0 : sState SH a0) {u1 : Option Value} {u2 : Option Value} {u3 : Option Value} : ((∃ v101 S102, G sc MX7_used 0 [some (.ref a0), none, none] [] SH S (rI v101 SH S102) ∧ (if I ((S102 1 7) - v101) ≤ I ((S102 1 0) - v101) then r = rI (-1) SH S102 else r = rI (((S102 1 0) - v101) + 1) SH S102))) → G sc MX7_risk 0 [some (.ref a0), u1, u2, u3] [] SH S r := by
  refine tt_ld (M := MX7_risk) (pc := 0) dX7_risk_0 rfl rfl rfl rfl rfl ?_
  refine tt_vcIN (M := MX7_risk) (pc := 1) dX7_risk_1 rfl rfl [] rfl rfl ⟨rfl, by decide, Nat.le_of_ble_eq_true rfl⟩ h0.1 fun v101 S102 => ?_
  refine tt_st (M := MX7_risk) (pc := 4) [some (.ref a0), some (.int (I v101)), u2, u3] dX7_risk_4 rfl rfl rfl rfl rfl rfl ?_
  refine tt_ld (M := MX7_risk) (pc := 5) dX7_risk_5 rfl rfl rfl rfl rfl ?_
  refine tt_getR (M := MX7_risk) (pc := 6) dX7_risk_6 rfl h0.1 rfl ?_
  refine tt_getI (M := MX7_risk) (pc := 9) dX7_risk_9 rfl h0.2.2.2.2.2.2.2.2.2.2.2.2.1 rfl ?_
  refine tt_ld (M := MX7_risk) (pc := 12) dX7_risk_12 rfl rfl rfl rfl rfl ?_
  refine tt_isub (M := MX7_risk) (pc := 13) dX7_risk_13 ?_
  refine tt_st (M := MX7_risk) (pc := 14) [some (.ref a0), some (.int (I v101)), some (.int (I ((S102 1 0) - v101))), u3] dX7_risk_14 rfl rfl rfl rfl rfl rfl ?_
  refine tt_ld (M := MX7_risk) (pc := 15) dX7_risk_15 rfl rfl rfl rfl rfl ?_
  refine tt_getR (M := MX7_risk) (pc := 16) dX7_risk_16 rfl h0.1 rfl ?_
  refine tt_getI (M := MX7_risk) (pc := 19) dX7_risk_19 rfl h0.2.2.2.2.2.2.2.2.2.2.2.2.1 rfl ?_
  refine tt_ld (M := MX7_risk) (pc := 22) dX7_risk_22 rfl rfl rfl rfl rfl ?_
  refine tt_isub (M := MX7_risk) (pc := 23) dX7_risk_23 ?_
  refine tt_st (M := MX7_risk) (pc := 24) [some (.ref a0), some (.int (I v101)), some (.int (I ((S102 1 0) - v101))), some (.int (I ((S102 1 7) - v101)))] dX7_risk_24 rfl rfl rfl rfl rfl rfl ?_
  refine tt_ld (M := MX7_risk) (pc := 25) dX7_risk_25 rfl rfl rfl rfl rfl ?_
  refine tt_ld (M := MX7_risk) (pc := 26) dX7_risk_26 rfl rfl rfl rfl rfl ?_
  refine tt_ic_le (M := MX7_risk) (pc := 27) 36 dX7_risk_27 rfl ?_ ?_
  · refine tt_iconst (M := MX7_risk) (pc := 36) dX7_risk_36 ?_
    exact tt_iret (M := MX7_risk) (pc := 37) dX7_risk_37 rfl
  · refine tt_ld (M := MX7_risk) (pc := 30) dX7_risk_30 rfl rfl rfl rfl rfl ?_
    refine tt_iconst (M := MX7_risk) (pc := 31) dX7_risk_31 ?_
    refine tt_iadd (M := MX7_risk) (pc := 32) dX7_risk_32 ?_
    refine tt_goto (M := MX7_risk) (pc := 33) 37 dX7_risk_33 rfl ?_
    exact tt_iret (M := MX7_risk) (pc := 37) dX7_risk_37 rfl
