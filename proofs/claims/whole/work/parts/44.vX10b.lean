-- needs: 43.tshape
/-! ===== the program as conditions (gen_vc.py) ===== -/
theorem qX10_like_0 {sc : Nat × (Nat → Int32)} {SH : List mCell} {S : mStore} {r : mR × mW} (h0 : sGP SH) {l1 : Int} {l2 : Int} {l3 : Int} {u4 : Option Value} {u5 : Option Value} {u6 : Option Value} {u7 : Option Value} : (((∃ v101 S102, G sc MX10_placeOf 0 [some (.ref 0), some (.int (I l1)), some (.int (I l2)), none] [] SH S (rI v101 SH S102) ∧ (∃ v103 S104, G sc MX7_cellsAt 0 [some (.ref 17), some (.int (I v101)), none] [] SH S102 (rI v103 SH S104) ∧ G sc MX10_like 28 [some (.ref 0), some (.int (I l1)), some (.int (I l2)), some (.int (I l3)), some (.int (I v101)), some (.int (I v103)), some (.int (I 0)), some (.int (I 0))] [] SH S104 r)) ∨ (∃ e SH1 S1, G sc MX10_placeOf 0 [some (.ref 0), some (.int (I l1)), some (.int (I l2)), none] [] SH S (rX e SH1 S1) ∧ r = rX e SH1 S1))) → G sc MX10_like 0 [some (.ref 0), some (.int (I l1)), some (.int (I l2)), some (.int (I l3)), u4, u5, u6, u7] [] SH S r := by
  refine tt_ld (M := MX10_like) (pc := 0) dX10_like_0 rfl rfl rfl rfl rfl ?_
  refine tt_ld (M := MX10_like) (pc := 1) dX10_like_1 rfl rfl rfl rfl rfl ?_
  refine tt_ld (M := MX10_like) (pc := 2) dX10_like_2 rfl rfl rfl rfl rfl ?_
  refine tt_vcI (M := MX10_like) (pc := 3) dX10_like_3 rfl rfl [] rfl rfl ⟨rfl, by decide, Nat.le_of_ble_eq_true rfl⟩ h0.1 rfl fun v101 S102 => ?_
  refine tt_st (M := MX10_like) (pc := 6) [some (.ref 0), some (.int (I l1)), some (.int (I l2)), some (.int (I l3)), some (.int (I v101)), u5, u6, u7] dX10_like_6 rfl rfl rfl rfl rfl rfl ?_
  refine tt_ld (M := MX10_like) (pc := 8) dX10_like_8 rfl rfl rfl rfl rfl ?_
  refine tt_getR (M := MX10_like) (pc := 9) dX10_like_9 rfl h0.1 rfl ?_
  refine tt_getR (M := MX10_like) (pc := 12) dX10_like_12 rfl h0.2.2.2.1.1 rfl ?_
  refine tt_ld (M := MX10_like) (pc := 15) dX10_like_15 rfl rfl rfl rfl rfl ?_
  refine tt_vcIN (M := MX10_like) (pc := 17) dX10_like_17 rfl rfl [] rfl rfl ⟨rfl, by decide, Nat.le_of_ble_eq_true rfl⟩ h0.2.2.2.1.2.2.2.2.1.1 fun v103 S104 => ?_
  refine tt_st (M := MX10_like) (pc := 20) [some (.ref 0), some (.int (I l1)), some (.int (I l2)), some (.int (I l3)), some (.int (I v101)), some (.int (I v103)), u6, u7] dX10_like_20 rfl rfl rfl rfl rfl rfl ?_
  refine tt_iconst (M := MX10_like) (pc := 22) dX10_like_22 ?_
  refine tt_st (M := MX10_like) (pc := 23) [some (.ref 0), some (.int (I l1)), some (.int (I l2)), some (.int (I l3)), some (.int (I v101)), some (.int (I v103)), some (.int (I 0)), u7] dX10_like_23 rfl rfl rfl rfl rfl rfl ?_
  refine tt_iconst (M := MX10_like) (pc := 25) dX10_like_25 ?_
  refine tt_st (M := MX10_like) (pc := 26) [some (.ref 0), some (.int (I l1)), some (.int (I l2)), some (.int (I l3)), some (.int (I v101)), some (.int (I v103)), some (.int (I 0)), some (.int (I 0))] dX10_like_26 rfl rfl rfl rfl rfl rfl ?_
  exact id
theorem qX10_like_28 {sc : Nat × (Nat → Int32)} {SH : List mCell} {S : mStore} {r : mR × mW} (h0 : sGP SH) {l1 : Int} {l2 : Int} {l3 : Int} {l4 : Int} {l5 : Int} {l6 : Int} {l7 : Int} : ((if I (S 1 7) ≤ I l7 then (if I l3 = I (-1) then ((∃ S102, G sc MX10_mustBe 0 [some (.int (I 1))] [] SH S (rV SH S102) ∧ r = rI l6 SH S102) ∨ (∃ e SH1 S1, G sc MX10_mustBe 0 [some (.int (I 1))] [] SH S (rX e SH1 S1) ∧ r = rX e SH1 S1)) else ((∃ S101, G sc MX10_mustBe 0 [some (.int (I 0))] [] SH S (rV SH S101) ∧ r = rI l6 SH S101) ∨ (∃ e SH1 S1, G sc MX10_mustBe 0 [some (.int (I 0))] [] SH S (rX e SH1 S1) ∧ r = rX e SH1 S1))) else (if I l7 = I l4 then G sc MX10_like 28 [some (.ref 0), some (.int (I l1)), some (.int (I l2)), some (.int (I l3)), some (.int (I l4)), some (.int (I l5)), some (.int (I l6)), some (.int (I (l7 + 1)))] [] SH S r else (∃ v103 S104, G sc MX7_cellsAt 0 [some (.ref 17), some (.int (I l7)), none] [] SH S (rI v103 SH S104) ∧ (if I v103 = I l5 then (if I l6 = I l3 then (∃ v105 S106, G sc MX5_labelOf 0 [some (.ref 1), some (.int (I l7)), none] [] SH S104 (rI v105 SH S106) ∧ r = rI v105 SH S106) else G sc MX10_like 28 [some (.ref 0), some (.int (I l1)), some (.int (I l2)), some (.int (I l3)), some (.int (I l4)), some (.int (I l5)), some (.int (I (l6 + 1))), some (.int (I (l7 + 1)))] [] SH S104 r) else G sc MX10_like 28 [some (.ref 0), some (.int (I l1)), some (.int (I l2)), some (.int (I l3)), some (.int (I l4)), some (.int (I l5)), some (.int (I l6)), some (.int (I (l7 + 1)))] [] SH S104 r))))) → G sc MX10_like 28 [some (.ref 0), some (.int (I l1)), some (.int (I l2)), some (.int (I l3)), some (.int (I l4)), some (.int (I l5)), some (.int (I l6)), some (.int (I l7))] [] SH S r := by
  refine tt_ld (M := MX10_like) (pc := 28) dX10_like_28 rfl rfl rfl rfl rfl ?_
  refine tt_ld (M := MX10_like) (pc := 30) dX10_like_30 rfl rfl rfl rfl rfl ?_
  refine tt_getR (M := MX10_like) (pc := 31) dX10_like_31 rfl h0.1 rfl ?_
  refine tt_getI (M := MX10_like) (pc := 34) dX10_like_34 rfl h0.2.2.2.1.2.2.2.2.1.2.2.2.2.2.2.2.2.2.2.2.2.1 rfl ?_
  refine tt_ic_ge (M := MX10_like) (pc := 37) 92 dX10_like_37 rfl ?_ ?_
  · refine tt_ld (M := MX10_like) (pc := 92) dX10_like_92 rfl rfl rfl rfl rfl ?_
    refine tt_iconst (M := MX10_like) (pc := 93) dX10_like_93 ?_
    refine tt_ic_ne (M := MX10_like) (pc := 94) 101 dX10_like_94 rfl ?_ ?_
    · refine tt_iconst (M := MX10_like) (pc := 101) dX10_like_101 ?_
      refine tt_scV (M := MX10_like) (pc := 102) dX10_like_102 rfl [] rfl rfl ⟨rfl, by decide, Nat.le_of_ble_eq_true rfl⟩ rfl fun S101 => ?_
      refine tt_ld (M := MX10_like) (pc := 105) dX10_like_105 rfl rfl rfl rfl rfl ?_
      exact tt_iret (M := MX10_like) (pc := 107) dX10_like_107 rfl
    · refine tt_iconst (M := MX10_like) (pc := 97) dX10_like_97 ?_
      refine tt_goto (M := MX10_like) (pc := 98) 102 dX10_like_98 rfl ?_
      refine tt_scV (M := MX10_like) (pc := 102) dX10_like_102 rfl [] rfl rfl ⟨rfl, by decide, Nat.le_of_ble_eq_true rfl⟩ rfl fun S102 => ?_
      refine tt_ld (M := MX10_like) (pc := 105) dX10_like_105 rfl rfl rfl rfl rfl ?_
      exact tt_iret (M := MX10_like) (pc := 107) dX10_like_107 rfl
  · refine tt_ld (M := MX10_like) (pc := 40) dX10_like_40 rfl rfl rfl rfl rfl ?_
    refine tt_ld (M := MX10_like) (pc := 42) dX10_like_42 rfl rfl rfl rfl rfl ?_
    refine tt_ic_eq (M := MX10_like) (pc := 44) 86 dX10_like_44 rfl ?_ ?_
    · refine tt_iinc (M := MX10_like) (pc := 86) [some (.ref 0), some (.int (I l1)), some (.int (I l2)), some (.int (I l3)), some (.int (I l4)), some (.int (I l5)), some (.int (I l6)), some (.int (I (l7 + 1)))] dX10_like_86 rfl rfl ?_
      refine tt_goto (M := MX10_like) (pc := 89) 28 dX10_like_89 rfl ?_
      exact id
    · refine tt_ld (M := MX10_like) (pc := 47) dX10_like_47 rfl rfl rfl rfl rfl ?_
      refine tt_getR (M := MX10_like) (pc := 48) dX10_like_48 rfl h0.1 rfl ?_
      refine tt_getR (M := MX10_like) (pc := 51) dX10_like_51 rfl h0.2.2.2.1.1 rfl ?_
      refine tt_ld (M := MX10_like) (pc := 54) dX10_like_54 rfl rfl rfl rfl rfl ?_
      refine tt_vcIN (M := MX10_like) (pc := 56) dX10_like_56 rfl rfl [] rfl rfl ⟨rfl, by decide, Nat.le_of_ble_eq_true rfl⟩ h0.2.2.2.1.2.2.2.2.1.1 fun v103 S104 => ?_
      refine tt_ld (M := MX10_like) (pc := 59) dX10_like_59 rfl rfl rfl rfl rfl ?_
      refine tt_ic_eq (M := MX10_like) (pc := 61) 67 dX10_like_61 rfl ?_ ?_
      · refine tt_ld (M := MX10_like) (pc := 67) dX10_like_67 rfl rfl rfl rfl rfl ?_
        refine tt_ld (M := MX10_like) (pc := 69) dX10_like_69 rfl rfl rfl rfl rfl ?_
        refine tt_ic_ne (M := MX10_like) (pc := 70) 83 dX10_like_70 rfl ?_ ?_
        · refine tt_iinc (M := MX10_like) (pc := 83) [some (.ref 0), some (.int (I l1)), some (.int (I l2)), some (.int (I l3)), some (.int (I l4)), some (.int (I l5)), some (.int (I (l6 + 1))), some (.int (I l7))] dX10_like_83 rfl rfl ?_
          refine tt_iinc (M := MX10_like) (pc := 86) [some (.ref 0), some (.int (I l1)), some (.int (I l2)), some (.int (I l3)), some (.int (I l4)), some (.int (I l5)), some (.int (I (l6 + 1))), some (.int (I (l7 + 1)))] dX10_like_86 rfl rfl ?_
          refine tt_goto (M := MX10_like) (pc := 89) 28 dX10_like_89 rfl ?_
          exact id
        · refine tt_ld (M := MX10_like) (pc := 73) dX10_like_73 rfl rfl rfl rfl rfl ?_
          refine tt_getR (M := MX10_like) (pc := 74) dX10_like_74 rfl h0.1 rfl ?_
          refine tt_ld (M := MX10_like) (pc := 77) dX10_like_77 rfl rfl rfl rfl rfl ?_
          refine tt_vcIN (M := MX10_like) (pc := 79) dX10_like_79 rfl rfl [] rfl rfl ⟨rfl, by decide, Nat.le_of_ble_eq_true rfl⟩ h0.2.2.2.1.2.2.2.2.1.2.2.2.2.2.2.2.2.2.2.2.2.1 fun v105 S106 => ?_
          exact tt_iret (M := MX10_like) (pc := 82) dX10_like_82 rfl
      · refine tt_goto (M := MX10_like) (pc := 64) 86 dX10_like_64 rfl ?_
        refine tt_iinc (M := MX10_like) (pc := 86) [some (.ref 0), some (.int (I l1)), some (.int (I l2)), some (.int (I l3)), some (.int (I l4)), some (.int (I l5)), some (.int (I l6)), some (.int (I (l7 + 1)))] dX10_like_86 rfl rfl ?_
        refine tt_goto (M := MX10_like) (pc := 89) 28 dX10_like_89 rfl ?_
        exact id
theorem qX10_write_0 {sc : Nat × (Nat → Int32)} {SH : List mCell} {S : mStore} {r : mR × mW} (h0 : sGP SH) {l1 : Int} {l2 : Int} {l3 : Int} {l4 : Int} {u5 : Option Value} : (((∃ v101 S102, G sc MX10_placeOf 0 [some (.ref 0), some (.int (I l1)), some (.int (I l2)), none] [] SH S (rI v101 SH S102) ∧ ((∃ S103, G sc MX10_mustBeCell 0 [some (.int (I l3))] [] SH S102 (rV SH S103) ∧ (if I l4 < I 0 then (∃ v104 S105, G sc MX10_refused 0 [some (.ref 0)] [] SH S103 (rI v104 SH S105) ∧ r = rI v104 SH S105) else (if I l4 ≤ I 15 then (∃ SH107 S106, sGP SH107 ∧ G sc MX0_ahead 0 [some (.ref 37), some (.ref 17)] [] SH S103 (rV SH107 S106) ∧ (∃ v108 S109, G sc MX7_putCell 0 [some (.ref 17), some (.int (I v101)), some (.int (I l3)), some (.int (I l4)), none] [] SH107 S106 (rI v108 SH107 S109) ∧ (∃ v110 S111, G sc MX10_acted 0 [some (.ref 0), some (.int (I v108))] [] SH107 S109 (rI v110 SH107 S111) ∧ r = rI v110 SH107 S111))) else (∃ v112 S113, G sc MX10_refused 0 [some (.ref 0)] [] SH S103 (rI v112 SH S113) ∧ r = rI v112 SH S113)))) ∨ (∃ e SH1 S1, G sc MX10_mustBeCell 0 [some (.int (I l3))] [] SH S102 (rX e SH1 S1) ∧ r = rX e SH1 S1))) ∨ (∃ e SH1 S1, G sc MX10_placeOf 0 [some (.ref 0), some (.int (I l1)), some (.int (I l2)), none] [] SH S (rX e SH1 S1) ∧ r = rX e SH1 S1))) → G sc MX10_write 0 [some (.ref 0), some (.int (I l1)), some (.int (I l2)), some (.int (I l3)), some (.int (I l4)), u5] [] SH S r := by
  refine tt_ld (M := MX10_write) (pc := 0) dX10_write_0 rfl rfl rfl rfl rfl ?_
  refine tt_ld (M := MX10_write) (pc := 1) dX10_write_1 rfl rfl rfl rfl rfl ?_
  refine tt_ld (M := MX10_write) (pc := 2) dX10_write_2 rfl rfl rfl rfl rfl ?_
  refine tt_vcI (M := MX10_write) (pc := 3) dX10_write_3 rfl rfl [] rfl rfl ⟨rfl, by decide, Nat.le_of_ble_eq_true rfl⟩ h0.1 rfl fun v101 S102 => ?_
  refine tt_st (M := MX10_write) (pc := 6) [some (.ref 0), some (.int (I l1)), some (.int (I l2)), some (.int (I l3)), some (.int (I l4)), some (.int (I v101))] dX10_write_6 rfl rfl rfl rfl rfl rfl ?_
  refine tt_ld (M := MX10_write) (pc := 8) dX10_write_8 rfl rfl rfl rfl rfl ?_
  refine tt_scV (M := MX10_write) (pc := 9) dX10_write_9 rfl [] rfl rfl ⟨rfl, by decide, Nat.le_of_ble_eq_true rfl⟩ rfl fun S103 => ?_
  refine tt_ld (M := MX10_write) (pc := 12) dX10_write_12 rfl rfl rfl rfl rfl ?_
  refine tt_if_lt (M := MX10_write) (pc := 14) 24 dX10_write_14 rfl ?_ ?_
  · refine tt_ld (M := MX10_write) (pc := 24) dX10_write_24 rfl rfl rfl rfl rfl ?_
    refine tt_vcIN (M := MX10_write) (pc := 25) dX10_write_25 rfl rfl [] rfl rfl ⟨rfl, by decide, Nat.le_of_ble_eq_true rfl⟩ h0.1 fun v104 S105 => ?_
    exact tt_iret (M := MX10_write) (pc := 28) dX10_write_28 rfl
  · refine tt_ld (M := MX10_write) (pc := 17) dX10_write_17 rfl rfl rfl rfl rfl ?_
    refine tt_bipush (M := MX10_write) (pc := 19) dX10_write_19 (by decide) ?_
    refine tt_ic_le (M := MX10_write) (pc := 21) 29 dX10_write_21 rfl ?_ ?_
    · refine tt_ld (M := MX10_write) (pc := 29) dX10_write_29 rfl rfl rfl rfl rfl ?_
      refine tt_getR (M := MX10_write) (pc := 30) dX10_write_30 rfl h0.1 rfl ?_
      refine tt_getR (M := MX10_write) (pc := 33) dX10_write_33 rfl h0.2.2.2.1.1 rfl ?_
      refine tt_ld (M := MX10_write) (pc := 36) dX10_write_36 rfl rfl rfl rfl rfl ?_
      refine tt_getR (M := MX10_write) (pc := 37) dX10_write_37 rfl h0.1 rfl ?_
      refine tt_getR (M := MX10_write) (pc := 40) dX10_write_40 rfl h0.2.2.2.1.1 rfl ?_
      refine tt_vcVA (Q := (fun SH => sGP SH)) (M := MX10_write) (pc := 43) dX10_write_43 rfl rfl [] rfl rfl ⟨rfl, by decide, Nat.le_of_ble_eq_true rfl⟩ h0.2.2.2.1.2.2.2.2.2 fun SH107 S106 hSH107 => ?_
      refine tt_ld (M := MX10_write) (pc := 46) dX10_write_46 rfl rfl rfl rfl rfl ?_
      refine tt_ld (M := MX10_write) (pc := 47) dX10_write_47 rfl rfl rfl rfl rfl ?_
      refine tt_getR (M := MX10_write) (pc := 48) dX10_write_48 rfl hSH107.1 rfl ?_
      refine tt_getR (M := MX10_write) (pc := 51) dX10_write_51 rfl hSH107.2.2.2.1.1 rfl ?_
      refine tt_ld (M := MX10_write) (pc := 54) dX10_write_54 rfl rfl rfl rfl rfl ?_
      refine tt_ld (M := MX10_write) (pc := 56) dX10_write_56 rfl rfl rfl rfl rfl ?_
      refine tt_ld (M := MX10_write) (pc := 57) dX10_write_57 rfl rfl rfl rfl rfl ?_
      refine tt_vcIN (M := MX10_write) (pc := 59) dX10_write_59 rfl rfl [.ref 0] rfl rfl ⟨rfl, by decide, Nat.le_of_ble_eq_true rfl⟩ hSH107.2.2.2.1.2.2.2.2.1.1 fun v108 S109 => ?_
      refine tt_vcIN (M := MX10_write) (pc := 62) dX10_write_62 rfl rfl [] rfl rfl ⟨rfl, by decide, Nat.le_of_ble_eq_true rfl⟩ hSH107.1 fun v110 S111 => ?_
      exact tt_iret (M := MX10_write) (pc := 65) dX10_write_65 rfl
    · refine tt_ld (M := MX10_write) (pc := 24) dX10_write_24 rfl rfl rfl rfl rfl ?_
      refine tt_vcIN (M := MX10_write) (pc := 25) dX10_write_25 rfl rfl [] rfl rfl ⟨rfl, by decide, Nat.le_of_ble_eq_true rfl⟩ h0.1 fun v112 S113 => ?_
      exact tt_iret (M := MX10_write) (pc := 28) dX10_write_28 rfl
theorem qX10_copy_0 {sc : Nat × (Nat → Int32)} {SH : List mCell} {S : mStore} {r : mR × mW} (h0 : sGP SH) {l1 : Int} {l2 : Int} {l3 : Int} {l4 : Int} {u5 : Option Value} {u6 : Option Value} : (((∃ v101 S102, G sc MX10_placeOf 0 [some (.ref 0), some (.int (I l1)), some (.int (I l2)), none] [] SH S (rI v101 SH S102) ∧ ((∃ v103 S104, G sc MX10_placeOf 0 [some (.ref 0), some (.int (I l3)), some (.int (I l4)), none] [] SH S102 (rI v103 SH S104) ∧ (∃ SH106 S105, sGP SH106 ∧ G sc MX0_ahead 0 [some (.ref 37), some (.ref 17)] [] SH S104 (rV SH106 S105) ∧ (∃ v107 S108, G sc MX7_cellsAt 0 [some (.ref 17), some (.int (I v103)), none] [] SH106 S105 (rI v107 SH106 S108) ∧ (∃ v109 S110, G sc MX7_put 0 [some (.ref 17), some (.int (I v101)), some (.int (I v107)), none, none] [] SH106 S108 (rI v109 SH106 S110) ∧ (∃ v111 S112, G sc MX10_acted 0 [some (.ref 0), some (.int (I v109))] [] SH106 S110 (rI v111 SH106 S112) ∧ r = rI v111 SH106 S112))))) ∨ (∃ e SH1 S1, G sc MX10_placeOf 0 [some (.ref 0), some (.int (I l3)), some (.int (I l4)), none] [] SH S102 (rX e SH1 S1) ∧ r = rX e SH1 S1))) ∨ (∃ e SH1 S1, G sc MX10_placeOf 0 [some (.ref 0), some (.int (I l1)), some (.int (I l2)), none] [] SH S (rX e SH1 S1) ∧ r = rX e SH1 S1))) → G sc MX10_copy 0 [some (.ref 0), some (.int (I l1)), some (.int (I l2)), some (.int (I l3)), some (.int (I l4)), u5, u6] [] SH S r := by
  refine tt_ld (M := MX10_copy) (pc := 0) dX10_copy_0 rfl rfl rfl rfl rfl ?_
  refine tt_ld (M := MX10_copy) (pc := 1) dX10_copy_1 rfl rfl rfl rfl rfl ?_
  refine tt_ld (M := MX10_copy) (pc := 2) dX10_copy_2 rfl rfl rfl rfl rfl ?_
  refine tt_vcI (M := MX10_copy) (pc := 3) dX10_copy_3 rfl rfl [] rfl rfl ⟨rfl, by decide, Nat.le_of_ble_eq_true rfl⟩ h0.1 rfl fun v101 S102 => ?_
  refine tt_st (M := MX10_copy) (pc := 6) [some (.ref 0), some (.int (I l1)), some (.int (I l2)), some (.int (I l3)), some (.int (I l4)), some (.int (I v101)), u6] dX10_copy_6 rfl rfl rfl rfl rfl rfl ?_
  refine tt_ld (M := MX10_copy) (pc := 8) dX10_copy_8 rfl rfl rfl rfl rfl ?_
  refine tt_ld (M := MX10_copy) (pc := 9) dX10_copy_9 rfl rfl rfl rfl rfl ?_
  refine tt_ld (M := MX10_copy) (pc := 10) dX10_copy_10 rfl rfl rfl rfl rfl ?_
  refine tt_vcI (M := MX10_copy) (pc := 12) dX10_copy_12 rfl rfl [] rfl rfl ⟨rfl, by decide, Nat.le_of_ble_eq_true rfl⟩ h0.1 rfl fun v103 S104 => ?_
  refine tt_st (M := MX10_copy) (pc := 15) [some (.ref 0), some (.int (I l1)), some (.int (I l2)), some (.int (I l3)), some (.int (I l4)), some (.int (I v101)), some (.int (I v103))] dX10_copy_15 rfl rfl rfl rfl rfl rfl ?_
  refine tt_ld (M := MX10_copy) (pc := 17) dX10_copy_17 rfl rfl rfl rfl rfl ?_
  refine tt_getR (M := MX10_copy) (pc := 18) dX10_copy_18 rfl h0.1 rfl ?_
  refine tt_getR (M := MX10_copy) (pc := 21) dX10_copy_21 rfl h0.2.2.2.1.1 rfl ?_
  refine tt_ld (M := MX10_copy) (pc := 24) dX10_copy_24 rfl rfl rfl rfl rfl ?_
  refine tt_getR (M := MX10_copy) (pc := 25) dX10_copy_25 rfl h0.1 rfl ?_
  refine tt_getR (M := MX10_copy) (pc := 28) dX10_copy_28 rfl h0.2.2.2.1.1 rfl ?_
  refine tt_vcVA (Q := (fun SH => sGP SH)) (M := MX10_copy) (pc := 31) dX10_copy_31 rfl rfl [] rfl rfl ⟨rfl, by decide, Nat.le_of_ble_eq_true rfl⟩ h0.2.2.2.1.2.2.2.2.2 fun SH106 S105 hSH106 => ?_
  refine tt_ld (M := MX10_copy) (pc := 34) dX10_copy_34 rfl rfl rfl rfl rfl ?_
  refine tt_ld (M := MX10_copy) (pc := 35) dX10_copy_35 rfl rfl rfl rfl rfl ?_
  refine tt_getR (M := MX10_copy) (pc := 36) dX10_copy_36 rfl hSH106.1 rfl ?_
  refine tt_getR (M := MX10_copy) (pc := 39) dX10_copy_39 rfl hSH106.2.2.2.1.1 rfl ?_
  refine tt_ld (M := MX10_copy) (pc := 42) dX10_copy_42 rfl rfl rfl rfl rfl ?_
  refine tt_ld (M := MX10_copy) (pc := 44) dX10_copy_44 rfl rfl rfl rfl rfl ?_
  refine tt_getR (M := MX10_copy) (pc := 45) dX10_copy_45 rfl hSH106.1 rfl ?_
  refine tt_getR (M := MX10_copy) (pc := 48) dX10_copy_48 rfl hSH106.2.2.2.1.1 rfl ?_
  refine tt_ld (M := MX10_copy) (pc := 51) dX10_copy_51 rfl rfl rfl rfl rfl ?_
  refine tt_vcIN (M := MX10_copy) (pc := 53) dX10_copy_53 rfl rfl [.int (I v101), .ref 17, .ref 0] rfl rfl ⟨rfl, by decide, Nat.le_of_ble_eq_true rfl⟩ hSH106.2.2.2.1.2.2.2.2.1.1 fun v107 S108 => ?_
  refine tt_vcIN (M := MX10_copy) (pc := 56) dX10_copy_56 rfl rfl [.ref 0] rfl rfl ⟨rfl, by decide, Nat.le_of_ble_eq_true rfl⟩ hSH106.2.2.2.1.2.2.2.2.1.1 fun v109 S110 => ?_
  refine tt_vcIN (M := MX10_copy) (pc := 59) dX10_copy_59 rfl rfl [] rfl rfl ⟨rfl, by decide, Nat.le_of_ble_eq_true rfl⟩ hSH106.1 fun v111 S112 => ?_
  exact tt_iret (M := MX10_copy) (pc := 62) dX10_copy_62 rfl
theorem qX10_drop_0 {sc : Nat × (Nat → Int32)} {SH : List mCell} {S : mStore} {r : mR × mW} (h0 : sGP SH) {l1 : Int} {l2 : Int} {u3 : Option Value} : (((∃ v101 S102, G sc MX10_placeOf 0 [some (.ref 0), some (.int (I l1)), some (.int (I l2)), none] [] SH S (rI v101 SH S102) ∧ (∃ SH104 S103, sGP SH104 ∧ G sc MX0_ahead 0 [some (.ref 37), some (.ref 17)] [] SH S102 (rV SH104 S103) ∧ (∃ v105 S106, G sc MX7_dropPage 0 [some (.ref 17), some (.int (I v101)), none] [] SH104 S103 (rI v105 SH104 S106) ∧ (∃ v107 S108, G sc MX10_acted 0 [some (.ref 0), some (.int (I v105))] [] SH104 S106 (rI v107 SH104 S108) ∧ r = rI v107 SH104 S108)))) ∨ (∃ e SH1 S1, G sc MX10_placeOf 0 [some (.ref 0), some (.int (I l1)), some (.int (I l2)), none] [] SH S (rX e SH1 S1) ∧ r = rX e SH1 S1))) → G sc MX10_drop 0 [some (.ref 0), some (.int (I l1)), some (.int (I l2)), u3] [] SH S r := by
  refine tt_ld (M := MX10_drop) (pc := 0) dX10_drop_0 rfl rfl rfl rfl rfl ?_
  refine tt_ld (M := MX10_drop) (pc := 1) dX10_drop_1 rfl rfl rfl rfl rfl ?_
  refine tt_ld (M := MX10_drop) (pc := 2) dX10_drop_2 rfl rfl rfl rfl rfl ?_
  refine tt_vcI (M := MX10_drop) (pc := 3) dX10_drop_3 rfl rfl [] rfl rfl ⟨rfl, by decide, Nat.le_of_ble_eq_true rfl⟩ h0.1 rfl fun v101 S102 => ?_
  refine tt_st (M := MX10_drop) (pc := 6) [some (.ref 0), some (.int (I l1)), some (.int (I l2)), some (.int (I v101))] dX10_drop_6 rfl rfl rfl rfl rfl rfl ?_
  refine tt_ld (M := MX10_drop) (pc := 7) dX10_drop_7 rfl rfl rfl rfl rfl ?_
  refine tt_getR (M := MX10_drop) (pc := 8) dX10_drop_8 rfl h0.1 rfl ?_
  refine tt_getR (M := MX10_drop) (pc := 11) dX10_drop_11 rfl h0.2.2.2.1.1 rfl ?_
  refine tt_ld (M := MX10_drop) (pc := 14) dX10_drop_14 rfl rfl rfl rfl rfl ?_
  refine tt_getR (M := MX10_drop) (pc := 15) dX10_drop_15 rfl h0.1 rfl ?_
  refine tt_getR (M := MX10_drop) (pc := 18) dX10_drop_18 rfl h0.2.2.2.1.1 rfl ?_
  refine tt_vcVA (Q := (fun SH => sGP SH)) (M := MX10_drop) (pc := 21) dX10_drop_21 rfl rfl [] rfl rfl ⟨rfl, by decide, Nat.le_of_ble_eq_true rfl⟩ h0.2.2.2.1.2.2.2.2.2 fun SH104 S103 hSH104 => ?_
  refine tt_ld (M := MX10_drop) (pc := 24) dX10_drop_24 rfl rfl rfl rfl rfl ?_
  refine tt_ld (M := MX10_drop) (pc := 25) dX10_drop_25 rfl rfl rfl rfl rfl ?_
  refine tt_getR (M := MX10_drop) (pc := 26) dX10_drop_26 rfl hSH104.1 rfl ?_
  refine tt_getR (M := MX10_drop) (pc := 29) dX10_drop_29 rfl hSH104.2.2.2.1.1 rfl ?_
  refine tt_ld (M := MX10_drop) (pc := 32) dX10_drop_32 rfl rfl rfl rfl rfl ?_
  refine tt_vcIN (M := MX10_drop) (pc := 33) dX10_drop_33 rfl rfl [.ref 0] rfl rfl ⟨rfl, by decide, Nat.le_of_ble_eq_true rfl⟩ hSH104.2.2.2.1.2.2.2.2.1.1 fun v105 S106 => ?_
  refine tt_vcIN (M := MX10_drop) (pc := 36) dX10_drop_36 rfl rfl [] rfl rfl ⟨rfl, by decide, Nat.le_of_ble_eq_true rfl⟩ hSH104.1 fun v107 S108 => ?_
  exact tt_iret (M := MX10_drop) (pc := 39) dX10_drop_39 rfl
theorem qX10_advise_0 {sc : Nat × (Nat → Int32)} {SH : List mCell} {S : mStore} {r : mR × mW} (h0 : sGP SH) {l1 : Int} {l2 : Int} {l3 : Int} {l4 : Int} {u5 : Option Value} {u6 : Option Value} {u7 : Option Value} : (((∃ v101 S102, G sc MX10_placeOf 0 [some (.ref 0), some (.int (I l1)), some (.int (I l2)), none] [] SH S (rI v101 SH S102) ∧ ((∃ v103 S104, G sc MX10_placeOf 0 [some (.ref 0), some (.int (I l1)), some (.int (I l3)), none] [] SH S102 (rI v103 SH S104) ∧ (∃ SH106 S105, sGP SH106 ∧ G sc MX0_ahead 0 [some (.ref 37), some (.ref 17)] [] SH S104 (rV SH106 S105) ∧ (if I l4 = I 0 then (∃ v107 S108, G sc MX7_adviseNoMore 0 [some (.ref 17), some (.int (I v101)), some (.int (I v103)), none, none] [] SH106 S105 (rI v107 SH106 S108) ∧ (if I v107 = I 0 then (∃ v111 S112, G sc MX10_acted 0 [some (.ref 0), some (.int (I (-1)))] [] SH106 S108 (rI v111 SH106 S112) ∧ r = rI v111 SH106 S112) else (∃ v109 S110, G sc MX10_acted 0 [some (.ref 0), some (.int (I v107))] [] SH106 S108 (rI v109 SH106 S110) ∧ r = rI v109 SH106 S110))) else (∃ v113 S114, G sc MX7_adviseAll 0 [some (.ref 17), some (.int (I v101)), some (.int (I v103)), none, none] [] SH106 S105 (rI v113 SH106 S114) ∧ (if I v113 = I 0 then (∃ v117 S118, G sc MX10_acted 0 [some (.ref 0), some (.int (I (-1)))] [] SH106 S114 (rI v117 SH106 S118) ∧ r = rI v117 SH106 S118) else (∃ v115 S116, G sc MX10_acted 0 [some (.ref 0), some (.int (I v113))] [] SH106 S114 (rI v115 SH106 S116) ∧ r = rI v115 SH106 S116)))))) ∨ (∃ e SH1 S1, G sc MX10_placeOf 0 [some (.ref 0), some (.int (I l1)), some (.int (I l3)), none] [] SH S102 (rX e SH1 S1) ∧ r = rX e SH1 S1))) ∨ (∃ e SH1 S1, G sc MX10_placeOf 0 [some (.ref 0), some (.int (I l1)), some (.int (I l2)), none] [] SH S (rX e SH1 S1) ∧ r = rX e SH1 S1))) → G sc MX10_advise 0 [some (.ref 0), some (.int (I l1)), some (.int (I l2)), some (.int (I l3)), some (.int (I l4)), u5, u6, u7] [] SH S r := by
  refine tt_ld (M := MX10_advise) (pc := 0) dX10_advise_0 rfl rfl rfl rfl rfl ?_
  refine tt_ld (M := MX10_advise) (pc := 1) dX10_advise_1 rfl rfl rfl rfl rfl ?_
  refine tt_ld (M := MX10_advise) (pc := 2) dX10_advise_2 rfl rfl rfl rfl rfl ?_
  refine tt_vcI (M := MX10_advise) (pc := 3) dX10_advise_3 rfl rfl [] rfl rfl ⟨rfl, by decide, Nat.le_of_ble_eq_true rfl⟩ h0.1 rfl fun v101 S102 => ?_
  refine tt_st (M := MX10_advise) (pc := 6) [some (.ref 0), some (.int (I l1)), some (.int (I l2)), some (.int (I l3)), some (.int (I l4)), some (.int (I v101)), u6, u7] dX10_advise_6 rfl rfl rfl rfl rfl rfl ?_
  refine tt_ld (M := MX10_advise) (pc := 8) dX10_advise_8 rfl rfl rfl rfl rfl ?_
  refine tt_ld (M := MX10_advise) (pc := 9) dX10_advise_9 rfl rfl rfl rfl rfl ?_
  refine tt_ld (M := MX10_advise) (pc := 10) dX10_advise_10 rfl rfl rfl rfl rfl ?_
  refine tt_vcI (M := MX10_advise) (pc := 11) dX10_advise_11 rfl rfl [] rfl rfl ⟨rfl, by decide, Nat.le_of_ble_eq_true rfl⟩ h0.1 rfl fun v103 S104 => ?_
  refine tt_st (M := MX10_advise) (pc := 14) [some (.ref 0), some (.int (I l1)), some (.int (I l2)), some (.int (I l3)), some (.int (I l4)), some (.int (I v101)), some (.int (I v103)), u7] dX10_advise_14 rfl rfl rfl rfl rfl rfl ?_
  refine tt_ld (M := MX10_advise) (pc := 16) dX10_advise_16 rfl rfl rfl rfl rfl ?_
  refine tt_getR (M := MX10_advise) (pc := 17) dX10_advise_17 rfl h0.1 rfl ?_
  refine tt_getR (M := MX10_advise) (pc := 20) dX10_advise_20 rfl h0.2.2.2.1.1 rfl ?_
  refine tt_ld (M := MX10_advise) (pc := 23) dX10_advise_23 rfl rfl rfl rfl rfl ?_
  refine tt_getR (M := MX10_advise) (pc := 24) dX10_advise_24 rfl h0.1 rfl ?_
  refine tt_getR (M := MX10_advise) (pc := 27) dX10_advise_27 rfl h0.2.2.2.1.1 rfl ?_
  refine tt_vcVA (Q := (fun SH => sGP SH)) (M := MX10_advise) (pc := 30) dX10_advise_30 rfl rfl [] rfl rfl ⟨rfl, by decide, Nat.le_of_ble_eq_true rfl⟩ h0.2.2.2.1.2.2.2.2.2 fun SH106 S105 hSH106 => ?_
  refine tt_ld (M := MX10_advise) (pc := 33) dX10_advise_33 rfl rfl rfl rfl rfl ?_
  refine tt_if_eq (M := MX10_advise) (pc := 35) 55 dX10_advise_35 rfl ?_ ?_
  · refine tt_ld (M := MX10_advise) (pc := 55) dX10_advise_55 rfl rfl rfl rfl rfl ?_
    refine tt_getR (M := MX10_advise) (pc := 56) dX10_advise_56 rfl hSH106.1 rfl ?_
    refine tt_getR (M := MX10_advise) (pc := 59) dX10_advise_59 rfl hSH106.2.2.2.1.1 rfl ?_
    refine tt_ld (M := MX10_advise) (pc := 62) dX10_advise_62 rfl rfl rfl rfl rfl ?_
    refine tt_ld (M := MX10_advise) (pc := 64) dX10_advise_64 rfl rfl rfl rfl rfl ?_
    refine tt_vcIN (M := MX10_advise) (pc := 66) dX10_advise_66 rfl rfl [] rfl rfl ⟨rfl, by decide, Nat.le_of_ble_eq_true rfl⟩ hSH106.2.2.2.1.2.2.2.2.1.1 fun v107 S108 => ?_
    refine tt_st (M := MX10_advise) (pc := 69) [some (.ref 0), some (.int (I l1)), some (.int (I l2)), some (.int (I l3)), some (.int (I l4)), some (.int (I v101)), some (.int (I v103)), some (.int (I v107))] dX10_advise_69 rfl rfl rfl rfl rfl rfl ?_
    refine tt_ld (M := MX10_advise) (pc := 71) dX10_advise_71 rfl rfl rfl rfl rfl ?_
    refine tt_ld (M := MX10_advise) (pc := 72) dX10_advise_72 rfl rfl rfl rfl rfl ?_
    refine tt_if_ne (M := MX10_advise) (pc := 74) 81 dX10_advise_74 rfl ?_ ?_
    · refine tt_ld (M := MX10_advise) (pc := 81) dX10_advise_81 rfl rfl rfl rfl rfl ?_
      refine tt_vcIN (M := MX10_advise) (pc := 83) dX10_advise_83 rfl rfl [] rfl rfl ⟨rfl, by decide, Nat.le_of_ble_eq_true rfl⟩ hSH106.1 fun v109 S110 => ?_
      exact tt_iret (M := MX10_advise) (pc := 86) dX10_advise_86 rfl
    · refine tt_iconst (M := MX10_advise) (pc := 77) dX10_advise_77 ?_
      refine tt_goto (M := MX10_advise) (pc := 78) 83 dX10_advise_78 rfl ?_
      refine tt_vcIN (M := MX10_advise) (pc := 83) dX10_advise_83 rfl rfl [] rfl rfl ⟨rfl, by decide, Nat.le_of_ble_eq_true rfl⟩ hSH106.1 fun v111 S112 => ?_
      exact tt_iret (M := MX10_advise) (pc := 86) dX10_advise_86 rfl
  · refine tt_ld (M := MX10_advise) (pc := 38) dX10_advise_38 rfl rfl rfl rfl rfl ?_
    refine tt_getR (M := MX10_advise) (pc := 39) dX10_advise_39 rfl hSH106.1 rfl ?_
    refine tt_getR (M := MX10_advise) (pc := 42) dX10_advise_42 rfl hSH106.2.2.2.1.1 rfl ?_
    refine tt_ld (M := MX10_advise) (pc := 45) dX10_advise_45 rfl rfl rfl rfl rfl ?_
    refine tt_ld (M := MX10_advise) (pc := 47) dX10_advise_47 rfl rfl rfl rfl rfl ?_
    refine tt_vcIN (M := MX10_advise) (pc := 49) dX10_advise_49 rfl rfl [] rfl rfl ⟨rfl, by decide, Nat.le_of_ble_eq_true rfl⟩ hSH106.2.2.2.1.2.2.2.2.1.1 fun v113 S114 => ?_
    refine tt_goto (M := MX10_advise) (pc := 52) 69 dX10_advise_52 rfl ?_
    refine tt_st (M := MX10_advise) (pc := 69) [some (.ref 0), some (.int (I l1)), some (.int (I l2)), some (.int (I l3)), some (.int (I l4)), some (.int (I v101)), some (.int (I v103)), some (.int (I v113))] dX10_advise_69 rfl rfl rfl rfl rfl rfl ?_
    refine tt_ld (M := MX10_advise) (pc := 71) dX10_advise_71 rfl rfl rfl rfl rfl ?_
    refine tt_ld (M := MX10_advise) (pc := 72) dX10_advise_72 rfl rfl rfl rfl rfl ?_
    refine tt_if_ne (M := MX10_advise) (pc := 74) 81 dX10_advise_74 rfl ?_ ?_
    · refine tt_ld (M := MX10_advise) (pc := 81) dX10_advise_81 rfl rfl rfl rfl rfl ?_
      refine tt_vcIN (M := MX10_advise) (pc := 83) dX10_advise_83 rfl rfl [] rfl rfl ⟨rfl, by decide, Nat.le_of_ble_eq_true rfl⟩ hSH106.1 fun v115 S116 => ?_
      exact tt_iret (M := MX10_advise) (pc := 86) dX10_advise_86 rfl
    · refine tt_iconst (M := MX10_advise) (pc := 77) dX10_advise_77 ?_
      refine tt_goto (M := MX10_advise) (pc := 78) 83 dX10_advise_78 rfl ?_
      refine tt_vcIN (M := MX10_advise) (pc := 83) dX10_advise_83 rfl rfl [] rfl rfl ⟨rfl, by decide, Nat.le_of_ble_eq_true rfl⟩ hSH106.1 fun v117 S118 => ?_
      exact tt_iret (M := MX10_advise) (pc := 86) dX10_advise_86 rfl
theorem qX10_scan_0 {sc : Nat × (Nat → Int32)} {SH : List mCell} {S : mStore} {r : mR × mW} (h0 : sGP SH) {l1 : Int} : ((if I l1 < I 1 then (∃ v101 S102, G sc MX10_refused 0 [some (.ref 0)] [] SH S (rI v101 SH S102) ∧ r = rI v101 SH S102) else (if I l1 ≤ I 100 then (∃ SH104 S103, sGP SH104 ∧ G sc MX0_ahead 0 [some (.ref 37), some (.ref 17)] [] SH S (rV SH104 S103) ∧ (∃ v105 S106, G sc MX7_scanMany 0 [some (.ref 17), some (.int (I l1)), none, none] [] SH104 S103 (rI v105 SH104 S106) ∧ (∃ v107 S108, G sc MX10_acted 0 [some (.ref 0), some (.int (I v105))] [] SH104 S106 (rI v107 SH104 S108) ∧ r = rI v107 SH104 S108))) else (∃ v109 S110, G sc MX10_refused 0 [some (.ref 0)] [] SH S (rI v109 SH S110) ∧ r = rI v109 SH S110)))) → G sc MX10_scan 0 [some (.ref 0), some (.int (I l1))] [] SH S r := by
  refine tt_ld (M := MX10_scan) (pc := 0) dX10_scan_0 rfl rfl rfl rfl rfl ?_
  refine tt_iconst (M := MX10_scan) (pc := 1) dX10_scan_1 ?_
  refine tt_ic_lt (M := MX10_scan) (pc := 2) 11 dX10_scan_2 rfl ?_ ?_
  · refine tt_ld (M := MX10_scan) (pc := 11) dX10_scan_11 rfl rfl rfl rfl rfl ?_
    refine tt_vcIN (M := MX10_scan) (pc := 12) dX10_scan_12 rfl rfl [] rfl rfl ⟨rfl, by decide, Nat.le_of_ble_eq_true rfl⟩ h0.1 fun v101 S102 => ?_
    exact tt_iret (M := MX10_scan) (pc := 15) dX10_scan_15 rfl
  · refine tt_ld (M := MX10_scan) (pc := 5) dX10_scan_5 rfl rfl rfl rfl rfl ?_
    refine tt_bipush (M := MX10_scan) (pc := 6) dX10_scan_6 (by decide) ?_
    refine tt_ic_le (M := MX10_scan) (pc := 8) 16 dX10_scan_8 rfl ?_ ?_
    · refine tt_ld (M := MX10_scan) (pc := 16) dX10_scan_16 rfl rfl rfl rfl rfl ?_
      refine tt_getR (M := MX10_scan) (pc := 17) dX10_scan_17 rfl h0.1 rfl ?_
      refine tt_getR (M := MX10_scan) (pc := 20) dX10_scan_20 rfl h0.2.2.2.1.1 rfl ?_
      refine tt_ld (M := MX10_scan) (pc := 23) dX10_scan_23 rfl rfl rfl rfl rfl ?_
      refine tt_getR (M := MX10_scan) (pc := 24) dX10_scan_24 rfl h0.1 rfl ?_
      refine tt_getR (M := MX10_scan) (pc := 27) dX10_scan_27 rfl h0.2.2.2.1.1 rfl ?_
      refine tt_vcVA (Q := (fun SH => sGP SH)) (M := MX10_scan) (pc := 30) dX10_scan_30 rfl rfl [] rfl rfl ⟨rfl, by decide, Nat.le_of_ble_eq_true rfl⟩ h0.2.2.2.1.2.2.2.2.2 fun SH104 S103 hSH104 => ?_
      refine tt_ld (M := MX10_scan) (pc := 33) dX10_scan_33 rfl rfl rfl rfl rfl ?_
      refine tt_ld (M := MX10_scan) (pc := 34) dX10_scan_34 rfl rfl rfl rfl rfl ?_
      refine tt_getR (M := MX10_scan) (pc := 35) dX10_scan_35 rfl hSH104.1 rfl ?_
      refine tt_getR (M := MX10_scan) (pc := 38) dX10_scan_38 rfl hSH104.2.2.2.1.1 rfl ?_
      refine tt_ld (M := MX10_scan) (pc := 41) dX10_scan_41 rfl rfl rfl rfl rfl ?_
      refine tt_vcIN (M := MX10_scan) (pc := 42) dX10_scan_42 rfl rfl [.ref 0] rfl rfl ⟨rfl, by decide, Nat.le_of_ble_eq_true rfl⟩ hSH104.2.2.2.1.2.2.2.2.1.1 fun v105 S106 => ?_
      refine tt_vcIN (M := MX10_scan) (pc := 45) dX10_scan_45 rfl rfl [] rfl rfl ⟨rfl, by decide, Nat.le_of_ble_eq_true rfl⟩ hSH104.1 fun v107 S108 => ?_
      exact tt_iret (M := MX10_scan) (pc := 48) dX10_scan_48 rfl
    · refine tt_ld (M := MX10_scan) (pc := 11) dX10_scan_11 rfl rfl rfl rfl rfl ?_
      refine tt_vcIN (M := MX10_scan) (pc := 12) dX10_scan_12 rfl rfl [] rfl rfl ⟨rfl, by decide, Nat.le_of_ble_eq_true rfl⟩ h0.1 fun v109 S110 => ?_
      exact tt_iret (M := MX10_scan) (pc := 15) dX10_scan_15 rfl
theorem qX10_ticks_0 {sc : Nat × (Nat → Int32)} {SH : List mCell} {S : mStore} {r : mR × mW} (h0 : sGP SH) {l1 : Int} : ((if I l1 < I 1 then (∃ v101 S102, G sc MX10_refused 0 [some (.ref 0)] [] SH S (rI v101 SH S102) ∧ r = rI v101 SH S102) else (if I 20 < I l1 then (∃ v103 S104, G sc MX10_refused 0 [some (.ref 0)] [] SH S (rI v103 SH S104) ∧ r = rI v103 SH S104) else (∃ v105 S106, G sc MX7_hasTimeFor 0 [some (.ref 17), some (.int (I l1))] [] SH S (rI v105 SH S106) ∧ (if I v105 = I 0 then (∃ v113 S114, G sc MX10_refused 0 [some (.ref 0)] [] SH S106 (rI v113 SH S114) ∧ r = rI v113 SH S114) else (∃ SH108 S107, sGP SH108 ∧ G sc MX0_ahead 0 [some (.ref 37), some (.ref 17)] [] SH S106 (rV SH108 S107) ∧ (∃ v109 S110, G sc MX7_tick 0 [some (.ref 17), some (.int (I l1)), none, none, none, none] [] SH108 S107 (rI v109 SH108 S110) ∧ (((0 : Int) ≤ 2 ∧ (2 : Int) < 12) ∧ (∃ v111 S112, G sc MX10_acted 0 [some (.ref 0), some (.int (I (S110 (17 + 19) 2)))] [] SH108 S110 (rI v111 SH108 S112) ∧ r = rI v111 SH108 S112))))))))) → G sc MX10_ticks 0 [some (.ref 0), some (.int (I l1))] [] SH S r := by
  refine tt_ld (M := MX10_ticks) (pc := 0) dX10_ticks_0 rfl rfl rfl rfl rfl ?_
  refine tt_iconst (M := MX10_ticks) (pc := 1) dX10_ticks_1 ?_
  refine tt_ic_lt (M := MX10_ticks) (pc := 2) 25 dX10_ticks_2 rfl ?_ ?_
  · refine tt_ld (M := MX10_ticks) (pc := 25) dX10_ticks_25 rfl rfl rfl rfl rfl ?_
    refine tt_vcIN (M := MX10_ticks) (pc := 26) dX10_ticks_26 rfl rfl [] rfl rfl ⟨rfl, by decide, Nat.le_of_ble_eq_true rfl⟩ h0.1 fun v101 S102 => ?_
    exact tt_iret (M := MX10_ticks) (pc := 29) dX10_ticks_29 rfl
  · refine tt_ld (M := MX10_ticks) (pc := 5) dX10_ticks_5 rfl rfl rfl rfl rfl ?_
    refine tt_bipush (M := MX10_ticks) (pc := 6) dX10_ticks_6 (by decide) ?_
    refine tt_ic_gt (M := MX10_ticks) (pc := 8) 25 dX10_ticks_8 rfl ?_ ?_
    · refine tt_ld (M := MX10_ticks) (pc := 25) dX10_ticks_25 rfl rfl rfl rfl rfl ?_
      refine tt_vcIN (M := MX10_ticks) (pc := 26) dX10_ticks_26 rfl rfl [] rfl rfl ⟨rfl, by decide, Nat.le_of_ble_eq_true rfl⟩ h0.1 fun v103 S104 => ?_
      exact tt_iret (M := MX10_ticks) (pc := 29) dX10_ticks_29 rfl
    · refine tt_ld (M := MX10_ticks) (pc := 11) dX10_ticks_11 rfl rfl rfl rfl rfl ?_
      refine tt_getR (M := MX10_ticks) (pc := 12) dX10_ticks_12 rfl h0.1 rfl ?_
      refine tt_getR (M := MX10_ticks) (pc := 15) dX10_ticks_15 rfl h0.2.2.2.1.1 rfl ?_
      refine tt_ld (M := MX10_ticks) (pc := 18) dX10_ticks_18 rfl rfl rfl rfl rfl ?_
      refine tt_vcIN (M := MX10_ticks) (pc := 19) dX10_ticks_19 rfl rfl [] rfl rfl ⟨rfl, by decide, Nat.le_of_ble_eq_true rfl⟩ h0.2.2.2.1.2.2.2.2.1.1 fun v105 S106 => ?_
      refine tt_if_ne (M := MX10_ticks) (pc := 22) 30 dX10_ticks_22 rfl ?_ ?_
      · refine tt_ld (M := MX10_ticks) (pc := 30) dX10_ticks_30 rfl rfl rfl rfl rfl ?_
        refine tt_getR (M := MX10_ticks) (pc := 31) dX10_ticks_31 rfl h0.1 rfl ?_
        refine tt_getR (M := MX10_ticks) (pc := 34) dX10_ticks_34 rfl h0.2.2.2.1.1 rfl ?_
        refine tt_ld (M := MX10_ticks) (pc := 37) dX10_ticks_37 rfl rfl rfl rfl rfl ?_
        refine tt_getR (M := MX10_ticks) (pc := 38) dX10_ticks_38 rfl h0.1 rfl ?_
        refine tt_getR (M := MX10_ticks) (pc := 41) dX10_ticks_41 rfl h0.2.2.2.1.1 rfl ?_
        refine tt_vcVA (Q := (fun SH => sGP SH)) (M := MX10_ticks) (pc := 44) dX10_ticks_44 rfl rfl [] rfl rfl ⟨rfl, by decide, Nat.le_of_ble_eq_true rfl⟩ h0.2.2.2.1.2.2.2.2.2 fun SH108 S107 hSH108 => ?_
        refine tt_ld (M := MX10_ticks) (pc := 47) dX10_ticks_47 rfl rfl rfl rfl rfl ?_
        refine tt_getR (M := MX10_ticks) (pc := 48) dX10_ticks_48 rfl hSH108.1 rfl ?_
        refine tt_getR (M := MX10_ticks) (pc := 51) dX10_ticks_51 rfl hSH108.2.2.2.1.1 rfl ?_
        refine tt_ld (M := MX10_ticks) (pc := 54) dX10_ticks_54 rfl rfl rfl rfl rfl ?_
        refine tt_vcIN (M := MX10_ticks) (pc := 55) dX10_ticks_55 rfl rfl [] rfl rfl ⟨rfl, by decide, Nat.le_of_ble_eq_true rfl⟩ hSH108.2.2.2.1.2.2.2.2.1.1 fun v109 S110 => ?_
        refine tt_pop (M := MX10_ticks) (pc := 58) dX10_ticks_58 rfl ?_
        refine tt_ld (M := MX10_ticks) (pc := 59) dX10_ticks_59 rfl rfl rfl rfl rfl ?_
        refine tt_ld (M := MX10_ticks) (pc := 60) dX10_ticks_60 rfl rfl rfl rfl rfl ?_
        refine tt_getR (M := MX10_ticks) (pc := 61) dX10_ticks_61 rfl hSH108.1 rfl ?_
        refine tt_getR (M := MX10_ticks) (pc := 64) dX10_ticks_64 rfl hSH108.2.2.2.1.1 rfl ?_
        refine tt_getR (M := MX10_ticks) (pc := 67) dX10_ticks_67 rfl hSH108.2.2.2.1.2.2.2.2.1.1 rfl ?_
        refine tt_iconst (M := MX10_ticks) (pc := 70) dX10_ticks_70 ?_
        refine tt_iaload (M := MX10_ticks) (pc := 71) dX10_ticks_71 hSH108.2.2.2.1.2.2.2.2.1.2.2.2.2.2.2.2.2.2.2.2.1 rfl ?_
        refine tt_vcIN (M := MX10_ticks) (pc := 72) dX10_ticks_72 rfl rfl [] rfl rfl ⟨rfl, by decide, Nat.le_of_ble_eq_true rfl⟩ hSH108.1 fun v111 S112 => ?_
        exact tt_iret (M := MX10_ticks) (pc := 75) dX10_ticks_75 rfl
      · refine tt_ld (M := MX10_ticks) (pc := 25) dX10_ticks_25 rfl rfl rfl rfl rfl ?_
        refine tt_vcIN (M := MX10_ticks) (pc := 26) dX10_ticks_26 rfl rfl [] rfl rfl ⟨rfl, by decide, Nat.le_of_ble_eq_true rfl⟩ h0.1 fun v113 S114 => ?_
        exact tt_iret (M := MX10_ticks) (pc := 29) dX10_ticks_29 rfl
theorem qX10_rate_0 {sc : Nat × (Nat → Int32)} {SH : List mCell} {S : mStore} {r : mR × mW} (h0 : sGP SH) {l1 : Int} {u2 : Option Value} : ((((0 : Int) ≤ 0 ∧ (0 : Int) < 12) ∧ (if I l1 < I (S 1 2) then (∃ v101 S102, G sc MX10_refused 0 [some (.ref 0)] [] SH S (rI v101 SH S102) ∧ r = rI v101 SH S102) else (if I (S 1 3) < I l1 then (∃ v103 S104, G sc MX10_refused 0 [some (.ref 0)] [] SH S (rI v103 SH S104) ∧ r = rI v103 SH S104) else (if I l1 = I (S (17 + 19) 0) then (∃ v109 S110, G sc MX10_refused 0 [some (.ref 0)] [] SH S (rI v109 SH S110) ∧ r = rI v109 SH S110) else (∃ SH106 S105, sGP SH106 ∧ G sc MX0_ahead 0 [some (.ref 37), some (.ref 17)] [] SH S (rV SH106 S105) ∧ (((0 : Int) ≤ 0 ∧ (0 : Int) < 12) ∧ (∃ v107 S108, G sc MX10_acted 0 [some (.ref 0), some (.int (I (S (17 + 19) 0)))] [] SH106 (up S105 (17 + 19) 0 l1) (rI v107 SH106 S108) ∧ r = rI v107 SH106 S108)))))))) → G sc MX10_rate 0 [some (.ref 0), some (.int (I l1)), u2] [] SH S r := by
  refine tt_ld (M := MX10_rate) (pc := 0) dX10_rate_0 rfl rfl rfl rfl rfl ?_
  refine tt_getR (M := MX10_rate) (pc := 1) dX10_rate_1 rfl h0.1 rfl ?_
  refine tt_getR (M := MX10_rate) (pc := 4) dX10_rate_4 rfl h0.2.2.2.1.1 rfl ?_
  refine tt_getR (M := MX10_rate) (pc := 7) dX10_rate_7 rfl h0.2.2.2.1.2.2.2.2.1.1 rfl ?_
  refine tt_iconst (M := MX10_rate) (pc := 10) dX10_rate_10 ?_
  refine tt_iaload (M := MX10_rate) (pc := 11) dX10_rate_11 h0.2.2.2.1.2.2.2.2.1.2.2.2.2.2.2.2.2.2.2.2.1 rfl ?_
  refine tt_st (M := MX10_rate) (pc := 12) [some (.ref 0), some (.int (I l1)), some (.int (I (S (17 + 19) 0)))] dX10_rate_12 rfl rfl rfl rfl rfl rfl ?_
  refine tt_ld (M := MX10_rate) (pc := 13) dX10_rate_13 rfl rfl rfl rfl rfl ?_
  refine tt_ld (M := MX10_rate) (pc := 14) dX10_rate_14 rfl rfl rfl rfl rfl ?_
  refine tt_getR (M := MX10_rate) (pc := 15) dX10_rate_15 rfl h0.1 rfl ?_
  refine tt_getI (M := MX10_rate) (pc := 18) dX10_rate_18 rfl h0.2.2.2.1.2.2.2.2.1.2.2.2.2.2.2.2.2.2.2.2.2.1 rfl ?_
  refine tt_ic_lt (M := MX10_rate) (pc := 21) 40 dX10_rate_21 rfl ?_ ?_
  · refine tt_ld (M := MX10_rate) (pc := 40) dX10_rate_40 rfl rfl rfl rfl rfl ?_
    refine tt_vcIN (M := MX10_rate) (pc := 41) dX10_rate_41 rfl rfl [] rfl rfl ⟨rfl, by decide, Nat.le_of_ble_eq_true rfl⟩ h0.1 fun v101 S102 => ?_
    exact tt_iret (M := MX10_rate) (pc := 44) dX10_rate_44 rfl
  · refine tt_ld (M := MX10_rate) (pc := 24) dX10_rate_24 rfl rfl rfl rfl rfl ?_
    refine tt_ld (M := MX10_rate) (pc := 25) dX10_rate_25 rfl rfl rfl rfl rfl ?_
    refine tt_getR (M := MX10_rate) (pc := 26) dX10_rate_26 rfl h0.1 rfl ?_
    refine tt_getI (M := MX10_rate) (pc := 29) dX10_rate_29 rfl h0.2.2.2.1.2.2.2.2.1.2.2.2.2.2.2.2.2.2.2.2.2.1 rfl ?_
    refine tt_ic_gt (M := MX10_rate) (pc := 32) 40 dX10_rate_32 rfl ?_ ?_
    · refine tt_ld (M := MX10_rate) (pc := 40) dX10_rate_40 rfl rfl rfl rfl rfl ?_
      refine tt_vcIN (M := MX10_rate) (pc := 41) dX10_rate_41 rfl rfl [] rfl rfl ⟨rfl, by decide, Nat.le_of_ble_eq_true rfl⟩ h0.1 fun v103 S104 => ?_
      exact tt_iret (M := MX10_rate) (pc := 44) dX10_rate_44 rfl
    · refine tt_ld (M := MX10_rate) (pc := 35) dX10_rate_35 rfl rfl rfl rfl rfl ?_
      refine tt_ld (M := MX10_rate) (pc := 36) dX10_rate_36 rfl rfl rfl rfl rfl ?_
      refine tt_ic_ne (M := MX10_rate) (pc := 37) 45 dX10_rate_37 rfl ?_ ?_
      · refine tt_ld (M := MX10_rate) (pc := 45) dX10_rate_45 rfl rfl rfl rfl rfl ?_
        refine tt_getR (M := MX10_rate) (pc := 46) dX10_rate_46 rfl h0.1 rfl ?_
        refine tt_getR (M := MX10_rate) (pc := 49) dX10_rate_49 rfl h0.2.2.2.1.1 rfl ?_
        refine tt_ld (M := MX10_rate) (pc := 52) dX10_rate_52 rfl rfl rfl rfl rfl ?_
        refine tt_getR (M := MX10_rate) (pc := 53) dX10_rate_53 rfl h0.1 rfl ?_
        refine tt_getR (M := MX10_rate) (pc := 56) dX10_rate_56 rfl h0.2.2.2.1.1 rfl ?_
        refine tt_vcVA (Q := (fun SH => sGP SH)) (M := MX10_rate) (pc := 59) dX10_rate_59 rfl rfl [] rfl rfl ⟨rfl, by decide, Nat.le_of_ble_eq_true rfl⟩ h0.2.2.2.1.2.2.2.2.2 fun SH106 S105 hSH106 => ?_
        refine tt_ld (M := MX10_rate) (pc := 62) dX10_rate_62 rfl rfl rfl rfl rfl ?_
        refine tt_getR (M := MX10_rate) (pc := 63) dX10_rate_63 rfl hSH106.1 rfl ?_
        refine tt_getR (M := MX10_rate) (pc := 66) dX10_rate_66 rfl hSH106.2.2.2.1.1 rfl ?_
        refine tt_getR (M := MX10_rate) (pc := 69) dX10_rate_69 rfl hSH106.2.2.2.1.2.2.2.2.1.1 rfl ?_
        refine tt_iconst (M := MX10_rate) (pc := 72) dX10_rate_72 ?_
        refine tt_ld (M := MX10_rate) (pc := 73) dX10_rate_73 rfl rfl rfl rfl rfl ?_
        refine tt_iastore (M := MX10_rate) (pc := 74) dX10_rate_74 hSH106.2.2.2.1.2.2.2.2.1.2.2.2.2.2.2.2.2.2.2.2.1 rfl ?_
        refine tt_ld (M := MX10_rate) (pc := 75) dX10_rate_75 rfl rfl rfl rfl rfl ?_
        refine tt_ld (M := MX10_rate) (pc := 76) dX10_rate_76 rfl rfl rfl rfl rfl ?_
        refine tt_vcIN (M := MX10_rate) (pc := 77) dX10_rate_77 rfl rfl [] rfl rfl ⟨rfl, by decide, Nat.le_of_ble_eq_true rfl⟩ hSH106.1 fun v107 S108 => ?_
        exact tt_iret (M := MX10_rate) (pc := 80) dX10_rate_80 rfl
      · refine tt_ld (M := MX10_rate) (pc := 40) dX10_rate_40 rfl rfl rfl rfl rfl ?_
        refine tt_vcIN (M := MX10_rate) (pc := 41) dX10_rate_41 rfl rfl [] rfl rfl ⟨rfl, by decide, Nat.le_of_ble_eq_true rfl⟩ h0.1 fun v109 S110 => ?_
        exact tt_iret (M := MX10_rate) (pc := 44) dX10_rate_44 rfl
theorem qX10_undo_0 {sc : Nat × (Nat → Int32)} {SH : List mCell} {S : mStore} {r : mR × mW} (h0 : sGP SH) : ((∃ v101 SH103 S102, sGP SH103 ∧ G sc MX0_back 0 [some (.ref 37), some (.ref 17)] [] SH S (rI v101 SH103 S102) ∧ (if I v101 = I 0 then r = rI (-1) SH103 S102 else r = rI (S102 37 3) SH103 S102))) → G sc MX10_undo 0 [some (.ref 0)] [] SH S r := by
  refine tt_ld (M := MX10_undo) (pc := 0) dX10_undo_0 rfl rfl rfl rfl rfl ?_
  refine tt_getR (M := MX10_undo) (pc := 1) dX10_undo_1 rfl h0.1 rfl ?_
  refine tt_getR (M := MX10_undo) (pc := 4) dX10_undo_4 rfl h0.2.2.2.1.1 rfl ?_
  refine tt_ld (M := MX10_undo) (pc := 7) dX10_undo_7 rfl rfl rfl rfl rfl ?_
  refine tt_getR (M := MX10_undo) (pc := 8) dX10_undo_8 rfl h0.1 rfl ?_
  refine tt_getR (M := MX10_undo) (pc := 11) dX10_undo_11 rfl h0.2.2.2.1.1 rfl ?_
  refine tt_vcIA (Q := (fun SH => sGP SH)) (M := MX10_undo) (pc := 14) dX10_undo_14 rfl rfl [] rfl rfl ⟨rfl, by decide, Nat.le_of_ble_eq_true rfl⟩ h0.2.2.2.1.2.2.2.2.2 fun v101 SH103 S102 hSH103 => ?_
  refine tt_if_eq (M := MX10_undo) (pc := 17) 33 dX10_undo_17 rfl ?_ ?_
  · refine tt_iconst (M := MX10_undo) (pc := 33) dX10_undo_33 ?_
    exact tt_iret (M := MX10_undo) (pc := 34) dX10_undo_34 rfl
  · refine tt_ld (M := MX10_undo) (pc := 20) dX10_undo_20 rfl rfl rfl rfl rfl ?_
    refine tt_getR (M := MX10_undo) (pc := 21) dX10_undo_21 rfl hSH103.1 rfl ?_
    refine tt_getR (M := MX10_undo) (pc := 24) dX10_undo_24 rfl hSH103.2.2.2.1.1 rfl ?_
    refine tt_getI (M := MX10_undo) (pc := 27) dX10_undo_27 rfl hSH103.2.2.2.1.2.2.2.2.2 rfl ?_
    refine tt_goto (M := MX10_undo) (pc := 30) 34 dX10_undo_30 rfl ?_
    exact tt_iret (M := MX10_undo) (pc := 34) dX10_undo_34 rfl
theorem qX10_then_0 {sc : Nat × (Nat → Int32)} {SH : List mCell} {S : mStore} {r : mR × mW} (h0 : sGP SH) {l1 : Int} {l2 : Int} : ((if I l2 < I 0 then ((∃ S101, G sc MX10_mustBe 0 [some (.int (I 0))] [] SH S (rV SH S101) ∧ (if I l1 < I 0 then G sc MX10_then 32 [some (.ref 0), some (.int (I l1)), some (.int (I l2))] [.int (I 0)] SH S101 r else (if I 60 < I l1 then G sc MX10_then 32 [some (.ref 0), some (.int (I l1)), some (.int (I l2))] [.int (I 0)] SH S101 r else G sc MX10_then 32 [some (.ref 0), some (.int (I l1)), some (.int (I l2))] [.int (I 1)] SH S101 r))) ∨ (∃ e SH1 S1, G sc MX10_mustBe 0 [some (.int (I 0))] [] SH S (rX e SH1 S1) ∧ r = rX e SH1 S1)) else (if I 5 < I l2 then ((∃ S102, G sc MX10_mustBe 0 [some (.int (I 0))] [] SH S (rV SH S102) ∧ (if I l1 < I 0 then G sc MX10_then 32 [some (.ref 0), some (.int (I l1)), some (.int (I l2))] [.int (I 0)] SH S102 r else (if I 60 < I l1 then G sc MX10_then 32 [some (.ref 0), some (.int (I l1)), some (.int (I l2))] [.int (I 0)] SH S102 r else G sc MX10_then 32 [some (.ref 0), some (.int (I l1)), some (.int (I l2))] [.int (I 1)] SH S102 r))) ∨ (∃ e SH1 S1, G sc MX10_mustBe 0 [some (.int (I 0))] [] SH S (rX e SH1 S1) ∧ r = rX e SH1 S1)) else ((∃ S103, G sc MX10_mustBe 0 [some (.int (I 1))] [] SH S (rV SH S103) ∧ (if I l1 < I 0 then G sc MX10_then 32 [some (.ref 0), some (.int (I l1)), some (.int (I l2))] [.int (I 0)] SH S103 r else (if I 60 < I l1 then G sc MX10_then 32 [some (.ref 0), some (.int (I l1)), some (.int (I l2))] [.int (I 0)] SH S103 r else G sc MX10_then 32 [some (.ref 0), some (.int (I l1)), some (.int (I l2))] [.int (I 1)] SH S103 r))) ∨ (∃ e SH1 S1, G sc MX10_mustBe 0 [some (.int (I 1))] [] SH S (rX e SH1 S1) ∧ r = rX e SH1 S1))))) → G sc MX10_then 0 [some (.ref 0), some (.int (I l1)), some (.int (I l2))] [] SH S r := by
  refine tt_ld (M := MX10_then) (pc := 0) dX10_then_0 rfl rfl rfl rfl rfl ?_
  refine tt_if_lt (M := MX10_then) (pc := 1) 13 dX10_then_1 rfl ?_ ?_
  · refine tt_iconst (M := MX10_then) (pc := 13) dX10_then_13 ?_
    refine tt_scV (M := MX10_then) (pc := 14) dX10_then_14 rfl [] rfl rfl ⟨rfl, by decide, Nat.le_of_ble_eq_true rfl⟩ rfl fun S101 => ?_
    refine tt_ld (M := MX10_then) (pc := 17) dX10_then_17 rfl rfl rfl rfl rfl ?_
    refine tt_if_lt (M := MX10_then) (pc := 18) 31 dX10_then_18 rfl ?_ ?_
    · refine tt_iconst (M := MX10_then) (pc := 31) dX10_then_31 ?_
      exact id
    · refine tt_ld (M := MX10_then) (pc := 21) dX10_then_21 rfl rfl rfl rfl rfl ?_
      refine tt_bipush (M := MX10_then) (pc := 22) dX10_then_22 (by decide) ?_
      refine tt_ic_gt (M := MX10_then) (pc := 24) 31 dX10_then_24 rfl ?_ ?_
      · refine tt_iconst (M := MX10_then) (pc := 31) dX10_then_31 ?_
        exact id
      · refine tt_iconst (M := MX10_then) (pc := 27) dX10_then_27 ?_
        refine tt_goto (M := MX10_then) (pc := 28) 32 dX10_then_28 rfl ?_
        exact id
  · refine tt_ld (M := MX10_then) (pc := 4) dX10_then_4 rfl rfl rfl rfl rfl ?_
    refine tt_iconst (M := MX10_then) (pc := 5) dX10_then_5 ?_
    refine tt_ic_gt (M := MX10_then) (pc := 6) 13 dX10_then_6 rfl ?_ ?_
    · refine tt_iconst (M := MX10_then) (pc := 13) dX10_then_13 ?_
      refine tt_scV (M := MX10_then) (pc := 14) dX10_then_14 rfl [] rfl rfl ⟨rfl, by decide, Nat.le_of_ble_eq_true rfl⟩ rfl fun S102 => ?_
      refine tt_ld (M := MX10_then) (pc := 17) dX10_then_17 rfl rfl rfl rfl rfl ?_
      refine tt_if_lt (M := MX10_then) (pc := 18) 31 dX10_then_18 rfl ?_ ?_
      · refine tt_iconst (M := MX10_then) (pc := 31) dX10_then_31 ?_
        exact id
      · refine tt_ld (M := MX10_then) (pc := 21) dX10_then_21 rfl rfl rfl rfl rfl ?_
        refine tt_bipush (M := MX10_then) (pc := 22) dX10_then_22 (by decide) ?_
        refine tt_ic_gt (M := MX10_then) (pc := 24) 31 dX10_then_24 rfl ?_ ?_
        · refine tt_iconst (M := MX10_then) (pc := 31) dX10_then_31 ?_
          exact id
        · refine tt_iconst (M := MX10_then) (pc := 27) dX10_then_27 ?_
          refine tt_goto (M := MX10_then) (pc := 28) 32 dX10_then_28 rfl ?_
          exact id
    · refine tt_iconst (M := MX10_then) (pc := 9) dX10_then_9 ?_
      refine tt_goto (M := MX10_then) (pc := 10) 14 dX10_then_10 rfl ?_
      refine tt_scV (M := MX10_then) (pc := 14) dX10_then_14 rfl [] rfl rfl ⟨rfl, by decide, Nat.le_of_ble_eq_true rfl⟩ rfl fun S103 => ?_
      refine tt_ld (M := MX10_then) (pc := 17) dX10_then_17 rfl rfl rfl rfl rfl ?_
      refine tt_if_lt (M := MX10_then) (pc := 18) 31 dX10_then_18 rfl ?_ ?_
      · refine tt_iconst (M := MX10_then) (pc := 31) dX10_then_31 ?_
        exact id
      · refine tt_ld (M := MX10_then) (pc := 21) dX10_then_21 rfl rfl rfl rfl rfl ?_
        refine tt_bipush (M := MX10_then) (pc := 22) dX10_then_22 (by decide) ?_
        refine tt_ic_gt (M := MX10_then) (pc := 24) 31 dX10_then_24 rfl ?_ ?_
        · refine tt_iconst (M := MX10_then) (pc := 31) dX10_then_31 ?_
          exact id
        · refine tt_iconst (M := MX10_then) (pc := 27) dX10_then_27 ?_
          refine tt_goto (M := MX10_then) (pc := 28) 32 dX10_then_28 rfl ?_
          exact id
theorem qX10_then_32 {sc : Nat × (Nat → Int32)} {SH : List mCell} {S : mStore} {r : mR × mW} (h0 : sGP SH) {l1 : Int} {l2 : Int} {s0 : Int} : (((∃ S101, G sc MX10_mustFit 0 [some (.int (I s0))] [] SH S (rV SH S101) ∧ (∃ S102, G sc MX7_become 0 [some (.ref 65), some (.ref 17)] [] SH S101 (rV SH S102) ∧ (∃ v103 S104, G sc MX7_tick 0 [some (.ref 65), some (.int (I l1)), none, none, none, none] [] SH S102 (rI v103 SH S104) ∧ (swp l2 0 (((0 : Int) ≤ 1 ∧ (1 : Int) < 12) ∧ r = rI (S104 (65 + 19) 1) SH S104) [(∃ v105 S106, G sc MX7_used 0 [some (.ref 65), none, none] [] SH S104 (rI v105 SH S106) ∧ r = rI v105 SH S106), (∃ v107 S108, G sc MX7_mergedPages 0 [some (.ref 65), some (.int (I 0)), some (.int (I (S104 1 7))), none, none] [] SH S104 (rI v107 SH S108) ∧ r = rI v107 SH S108), (∃ v109 S110, G sc MX9_size 0 [some (.ref (65 + 11)), none, none] [] SH S104 (rI v109 SH S110) ∧ r = rI v109 SH S110), (((0 : Int) ≤ 0 ∧ (0 : Int) < 12) ∧ r = rI (S104 (65 + 19) 0) SH S104), (((0 : Int) ≤ 3 ∧ (3 : Int) < 12) ∧ r = rI (S104 (65 + 19) 3) SH S104)])))) ∨ (∃ e SH1 S1, G sc MX10_mustFit 0 [some (.int (I s0))] [] SH S (rX e SH1 S1) ∧ r = rX e SH1 S1))) → G sc MX10_then 32 [some (.ref 0), some (.int (I l1)), some (.int (I l2))] [.int (I s0)] SH S r := by
  refine tt_scV (M := MX10_then) (pc := 32) dX10_then_32 rfl [] rfl rfl ⟨rfl, by decide, Nat.le_of_ble_eq_true rfl⟩ rfl fun S101 => ?_
  refine tt_ld (M := MX10_then) (pc := 35) dX10_then_35 rfl rfl rfl rfl rfl ?_
  refine tt_getR (M := MX10_then) (pc := 36) dX10_then_36 rfl h0.1 rfl ?_
  refine tt_ld (M := MX10_then) (pc := 39) dX10_then_39 rfl rfl rfl rfl rfl ?_
  refine tt_getR (M := MX10_then) (pc := 40) dX10_then_40 rfl h0.1 rfl ?_
  refine tt_getR (M := MX10_then) (pc := 43) dX10_then_43 rfl h0.2.2.2.1.1 rfl ?_
  refine tt_vcVN (M := MX10_then) (pc := 46) dX10_then_46 rfl rfl [] rfl rfl ⟨rfl, by decide, Nat.le_of_ble_eq_true rfl⟩ h0.2.2.2.2.2.1.1 fun S102 => ?_
  refine tt_ld (M := MX10_then) (pc := 49) dX10_then_49 rfl rfl rfl rfl rfl ?_
  refine tt_getR (M := MX10_then) (pc := 50) dX10_then_50 rfl h0.1 rfl ?_
  refine tt_ld (M := MX10_then) (pc := 53) dX10_then_53 rfl rfl rfl rfl rfl ?_
  refine tt_vcIN (M := MX10_then) (pc := 54) dX10_then_54 rfl rfl [] rfl rfl ⟨rfl, by decide, Nat.le_of_ble_eq_true rfl⟩ h0.2.2.2.2.2.1.1 fun v103 S104 => ?_
  refine tt_pop (M := MX10_then) (pc := 57) dX10_then_57 rfl ?_
  refine tt_ld (M := MX10_then) (pc := 58) dX10_then_58 rfl rfl rfl rfl rfl ?_
  refine tt_switch (M := MX10_then) (pc := 59) 147 dX10_then_59 ⟨by decide, by simp only [List.length_cons, List.length_nil]; omega⟩ rfl rfl ?_ ?_
  · refine tt_ld (M := MX10_then) (pc := 147) dX10_then_147 rfl rfl rfl rfl rfl ?_
    refine tt_getR (M := MX10_then) (pc := 148) dX10_then_148 rfl h0.1 rfl ?_
    refine tt_getR (M := MX10_then) (pc := 151) dX10_then_151 rfl h0.2.2.2.2.2.1.1 rfl ?_
    refine tt_iconst (M := MX10_then) (pc := 154) dX10_then_154 ?_
    refine tt_iaload (M := MX10_then) (pc := 155) dX10_then_155 h0.2.2.2.2.2.1.2.2.2.2.2.2.2.2.2.2.2.1 rfl ?_
    exact tt_iret (M := MX10_then) (pc := 156) dX10_then_156 rfl
  · refine ⟨⟨92, rfl, ?_⟩, ⟨⟨100, rfl, ?_⟩, ⟨⟨116, rfl, ?_⟩, ⟨⟨127, rfl, ?_⟩, ⟨⟨137, rfl, ?_⟩, trivial⟩⟩⟩⟩⟩
    · refine tt_ld (M := MX10_then) (pc := 92) dX10_then_92 rfl rfl rfl rfl rfl ?_
      refine tt_getR (M := MX10_then) (pc := 93) dX10_then_93 rfl h0.1 rfl ?_
      refine tt_vcIN (M := MX10_then) (pc := 96) dX10_then_96 rfl rfl [] rfl rfl ⟨rfl, by decide, Nat.le_of_ble_eq_true rfl⟩ h0.2.2.2.2.2.1.1 fun v105 S106 => ?_
      exact tt_iret (M := MX10_then) (pc := 99) dX10_then_99 rfl
    · refine tt_ld (M := MX10_then) (pc := 100) dX10_then_100 rfl rfl rfl rfl rfl ?_
      refine tt_getR (M := MX10_then) (pc := 101) dX10_then_101 rfl h0.1 rfl ?_
      refine tt_iconst (M := MX10_then) (pc := 104) dX10_then_104 ?_
      refine tt_ld (M := MX10_then) (pc := 105) dX10_then_105 rfl rfl rfl rfl rfl ?_
      refine tt_getR (M := MX10_then) (pc := 106) dX10_then_106 rfl h0.1 rfl ?_
      refine tt_getI (M := MX10_then) (pc := 109) dX10_then_109 rfl h0.2.2.2.1.2.2.2.2.1.2.2.2.2.2.2.2.2.2.2.2.2.1 rfl ?_
      refine tt_vcIN (M := MX10_then) (pc := 112) dX10_then_112 rfl rfl [] rfl rfl ⟨rfl, by decide, Nat.le_of_ble_eq_true rfl⟩ h0.2.2.2.2.2.1.1 fun v107 S108 => ?_
      exact tt_iret (M := MX10_then) (pc := 115) dX10_then_115 rfl
    · refine tt_ld (M := MX10_then) (pc := 116) dX10_then_116 rfl rfl rfl rfl rfl ?_
      refine tt_getR (M := MX10_then) (pc := 117) dX10_then_117 rfl h0.1 rfl ?_
      refine tt_getR (M := MX10_then) (pc := 120) dX10_then_120 rfl h0.2.2.2.2.2.1.1 rfl ?_
      refine tt_vcIN (M := MX10_then) (pc := 123) dX10_then_123 rfl rfl [] rfl rfl ⟨rfl, by decide, Nat.le_of_ble_eq_true rfl⟩ h0.2.2.2.2.2.1.2.2.2.2.1.1 fun v109 S110 => ?_
      exact tt_iret (M := MX10_then) (pc := 126) dX10_then_126 rfl
    · refine tt_ld (M := MX10_then) (pc := 127) dX10_then_127 rfl rfl rfl rfl rfl ?_
      refine tt_getR (M := MX10_then) (pc := 128) dX10_then_128 rfl h0.1 rfl ?_
      refine tt_getR (M := MX10_then) (pc := 131) dX10_then_131 rfl h0.2.2.2.2.2.1.1 rfl ?_
      refine tt_iconst (M := MX10_then) (pc := 134) dX10_then_134 ?_
      refine tt_iaload (M := MX10_then) (pc := 135) dX10_then_135 h0.2.2.2.2.2.1.2.2.2.2.2.2.2.2.2.2.2.1 rfl ?_
      exact tt_iret (M := MX10_then) (pc := 136) dX10_then_136 rfl
    · refine tt_ld (M := MX10_then) (pc := 137) dX10_then_137 rfl rfl rfl rfl rfl ?_
      refine tt_getR (M := MX10_then) (pc := 138) dX10_then_138 rfl h0.1 rfl ?_
      refine tt_getR (M := MX10_then) (pc := 141) dX10_then_141 rfl h0.2.2.2.2.2.1.1 rfl ?_
      refine tt_iconst (M := MX10_then) (pc := 144) dX10_then_144 ?_
      refine tt_iaload (M := MX10_then) (pc := 145) dX10_then_145 h0.2.2.2.2.2.1.2.2.2.2.2.2.2.2.2.2.2.1 rfl ?_
      exact tt_iret (M := MX10_then) (pc := 146) dX10_then_146 rfl
theorem qX10_quiet_0 {sc : Nat × (Nat → Int32)} {SH : List mCell} {S : mStore} {r : mR × mW} (h0 : sGP SH) {u1 : Option Value} {u2 : Option Value} : ((∃ S101, G sc MX7_become 0 [some (.ref 65), some (.ref 17)] [] SH S (rV SH S101) ∧ G sc MX10_quiet 18 [some (.ref 0), some (.int (I 0)), some (.int (I 1))] [] SH S101 r)) → G sc MX10_quiet 0 [some (.ref 0), u1, u2] [] SH S r := by
  refine tt_ld (M := MX10_quiet) (pc := 0) dX10_quiet_0 rfl rfl rfl rfl rfl ?_
  refine tt_getR (M := MX10_quiet) (pc := 1) dX10_quiet_1 rfl h0.1 rfl ?_
  refine tt_ld (M := MX10_quiet) (pc := 4) dX10_quiet_4 rfl rfl rfl rfl rfl ?_
  refine tt_getR (M := MX10_quiet) (pc := 5) dX10_quiet_5 rfl h0.1 rfl ?_
  refine tt_getR (M := MX10_quiet) (pc := 8) dX10_quiet_8 rfl h0.2.2.2.1.1 rfl ?_
  refine tt_vcVN (M := MX10_quiet) (pc := 11) dX10_quiet_11 rfl rfl [] rfl rfl ⟨rfl, by decide, Nat.le_of_ble_eq_true rfl⟩ h0.2.2.2.2.2.1.1 fun S101 => ?_
  refine tt_iconst (M := MX10_quiet) (pc := 14) dX10_quiet_14 ?_
  refine tt_st (M := MX10_quiet) (pc := 15) [some (.ref 0), some (.int (I 0)), u2] dX10_quiet_15 rfl rfl rfl rfl rfl rfl ?_
  refine tt_iconst (M := MX10_quiet) (pc := 16) dX10_quiet_16 ?_
  refine tt_st (M := MX10_quiet) (pc := 17) [some (.ref 0), some (.int (I 0)), some (.int (I 1))] dX10_quiet_17 rfl rfl rfl rfl rfl rfl ?_
  exact id
theorem qX10_quiet_18 {sc : Nat × (Nat → Int32)} {SH : List mCell} {S : mStore} {r : mR × mW} (h0 : sGP SH) {l1 : Int} {l2 : Int} : ((if I 60 < I l2 then r = rI l1 SH S else (∃ v101 S102, G sc MX7_tick 0 [some (.ref 65), some (.int (I 1)), none, none, none, none] [] SH S (rI v101 SH S102) ∧ (if I v101 ≤ I 0 then G sc MX10_quiet 18 [some (.ref 0), some (.int (I l1)), some (.int (I (l2 + 1)))] [] SH S102 r else G sc MX10_quiet 18 [some (.ref 0), some (.int (I l2)), some (.int (I (l2 + 1)))] [] SH S102 r)))) → G sc MX10_quiet 18 [some (.ref 0), some (.int (I l1)), some (.int (I l2))] [] SH S r := by
  refine tt_ld (M := MX10_quiet) (pc := 18) dX10_quiet_18 rfl rfl rfl rfl rfl ?_
  refine tt_bipush (M := MX10_quiet) (pc := 19) dX10_quiet_19 (by decide) ?_
  refine tt_ic_gt (M := MX10_quiet) (pc := 21) 43 dX10_quiet_21 rfl ?_ ?_
  · refine tt_ld (M := MX10_quiet) (pc := 43) dX10_quiet_43 rfl rfl rfl rfl rfl ?_
    exact tt_iret (M := MX10_quiet) (pc := 44) dX10_quiet_44 rfl
  · refine tt_ld (M := MX10_quiet) (pc := 24) dX10_quiet_24 rfl rfl rfl rfl rfl ?_
    refine tt_getR (M := MX10_quiet) (pc := 25) dX10_quiet_25 rfl h0.1 rfl ?_
    refine tt_iconst (M := MX10_quiet) (pc := 28) dX10_quiet_28 ?_
    refine tt_vcIN (M := MX10_quiet) (pc := 29) dX10_quiet_29 rfl rfl [] rfl rfl ⟨rfl, by decide, Nat.le_of_ble_eq_true rfl⟩ h0.2.2.2.2.2.1.1 fun v101 S102 => ?_
    refine tt_if_le (M := MX10_quiet) (pc := 32) 37 dX10_quiet_32 rfl ?_ ?_
    · refine tt_iinc (M := MX10_quiet) (pc := 37) [some (.ref 0), some (.int (I l1)), some (.int (I (l2 + 1)))] dX10_quiet_37 rfl rfl ?_
      refine tt_goto (M := MX10_quiet) (pc := 40) 18 dX10_quiet_40 rfl ?_
      exact id
    · refine tt_ld (M := MX10_quiet) (pc := 35) dX10_quiet_35 rfl rfl rfl rfl rfl ?_
      refine tt_st (M := MX10_quiet) (pc := 36) [some (.ref 0), some (.int (I l2)), some (.int (I l2))] dX10_quiet_36 rfl rfl rfl rfl rfl rfl ?_
      refine tt_iinc (M := MX10_quiet) (pc := 37) [some (.ref 0), some (.int (I l2)), some (.int (I (l2 + 1)))] dX10_quiet_37 rfl rfl ?_
      refine tt_goto (M := MX10_quiet) (pc := 40) 18 dX10_quiet_40 rfl ?_
      exact id
theorem qX10_merges_0 {sc : Nat × (Nat → Int32)} {SH : List mCell} {S : mStore} {r : mR × mW} (h0 : sGP SH) {l1 : Int} {l2 : Int} {u3 : Option Value} {u4 : Option Value} : (((∃ v101 S102, G sc MX10_placeOf 0 [some (.ref 0), some (.int (I l1)), some (.int (I l2)), none] [] SH S (rI v101 SH S102) ∧ (∃ S103, G sc MX7_become 0 [some (.ref 65), some (.ref 17)] [] SH S102 (rV SH S103) ∧ G sc MX10_merges 24 [some (.ref 0), some (.int (I l1)), some (.int (I l2)), some (.int (I v101)), some (.int (I 0))] [] SH S103 r)) ∨ (∃ e SH1 S1, G sc MX10_placeOf 0 [some (.ref 0), some (.int (I l1)), some (.int (I l2)), none] [] SH S (rX e SH1 S1) ∧ r = rX e SH1 S1))) → G sc MX10_merges 0 [some (.ref 0), some (.int (I l1)), some (.int (I l2)), u3, u4] [] SH S r := by
  refine tt_ld (M := MX10_merges) (pc := 0) dX10_merges_0 rfl rfl rfl rfl rfl ?_
  refine tt_ld (M := MX10_merges) (pc := 1) dX10_merges_1 rfl rfl rfl rfl rfl ?_
  refine tt_ld (M := MX10_merges) (pc := 2) dX10_merges_2 rfl rfl rfl rfl rfl ?_
  refine tt_vcI (M := MX10_merges) (pc := 3) dX10_merges_3 rfl rfl [] rfl rfl ⟨rfl, by decide, Nat.le_of_ble_eq_true rfl⟩ h0.1 rfl fun v101 S102 => ?_
  refine tt_st (M := MX10_merges) (pc := 6) [some (.ref 0), some (.int (I l1)), some (.int (I l2)), some (.int (I v101)), u4] dX10_merges_6 rfl rfl rfl rfl rfl rfl ?_
  refine tt_ld (M := MX10_merges) (pc := 7) dX10_merges_7 rfl rfl rfl rfl rfl ?_
  refine tt_getR (M := MX10_merges) (pc := 8) dX10_merges_8 rfl h0.1 rfl ?_
  refine tt_ld (M := MX10_merges) (pc := 11) dX10_merges_11 rfl rfl rfl rfl rfl ?_
  refine tt_getR (M := MX10_merges) (pc := 12) dX10_merges_12 rfl h0.1 rfl ?_
  refine tt_getR (M := MX10_merges) (pc := 15) dX10_merges_15 rfl h0.2.2.2.1.1 rfl ?_
  refine tt_vcVN (M := MX10_merges) (pc := 18) dX10_merges_18 rfl rfl [] rfl rfl ⟨rfl, by decide, Nat.le_of_ble_eq_true rfl⟩ h0.2.2.2.2.2.1.1 fun S103 => ?_
  refine tt_iconst (M := MX10_merges) (pc := 21) dX10_merges_21 ?_
  refine tt_st (M := MX10_merges) (pc := 22) [some (.ref 0), some (.int (I l1)), some (.int (I l2)), some (.int (I v101)), some (.int (I 0))] dX10_merges_22 rfl rfl rfl rfl rfl rfl ?_
  exact id
theorem qX10_merges_24 {sc : Nat × (Nat → Int32)} {SH : List mCell} {S : mStore} {r : mR × mW} (h0 : sGP SH) {l1 : Int} {l2 : Int} {l3 : Int} {l4 : Int} : ((if I 400 < I l4 then r = rI (-1) SH S else (∃ v101 S102, G sc MX7_isMerged 0 [some (.ref 65), some (.int (I l3)), none] [] SH S (rI v101 SH S102) ∧ (if I v101 = I 0 then (∃ v103 S104, G sc MX7_scanNext 0 [some (.ref 65), none, none] [] SH S102 (rI v103 SH S104) ∧ G sc MX10_merges 24 [some (.ref 0), some (.int (I l1)), some (.int (I l2)), some (.int (I l3)), some (.int (I (l4 + 1)))] [] SH S104 r) else r = rI l4 SH S102)))) → G sc MX10_merges 24 [some (.ref 0), some (.int (I l1)), some (.int (I l2)), some (.int (I l3)), some (.int (I l4))] [] SH S r := by
  refine tt_ld (M := MX10_merges) (pc := 24) dX10_merges_24 rfl rfl rfl rfl rfl ?_
  refine tt_sipush (M := MX10_merges) (pc := 26) dX10_merges_26 (by decide) ?_
  refine tt_ic_gt (M := MX10_merges) (pc := 29) 60 dX10_merges_29 rfl ?_ ?_
  · refine tt_iconst (M := MX10_merges) (pc := 60) dX10_merges_60 ?_
    exact tt_iret (M := MX10_merges) (pc := 61) dX10_merges_61 rfl
  · refine tt_ld (M := MX10_merges) (pc := 32) dX10_merges_32 rfl rfl rfl rfl rfl ?_
    refine tt_getR (M := MX10_merges) (pc := 33) dX10_merges_33 rfl h0.1 rfl ?_
    refine tt_ld (M := MX10_merges) (pc := 36) dX10_merges_36 rfl rfl rfl rfl rfl ?_
    refine tt_vcIN (M := MX10_merges) (pc := 37) dX10_merges_37 rfl rfl [] rfl rfl ⟨rfl, by decide, Nat.le_of_ble_eq_true rfl⟩ h0.2.2.2.2.2.1.1 fun v101 S102 => ?_
    refine tt_if_eq (M := MX10_merges) (pc := 40) 46 dX10_merges_40 rfl ?_ ?_
    · refine tt_ld (M := MX10_merges) (pc := 46) dX10_merges_46 rfl rfl rfl rfl rfl ?_
      refine tt_getR (M := MX10_merges) (pc := 47) dX10_merges_47 rfl h0.1 rfl ?_
      refine tt_vcIN (M := MX10_merges) (pc := 50) dX10_merges_50 rfl rfl [] rfl rfl ⟨rfl, by decide, Nat.le_of_ble_eq_true rfl⟩ h0.2.2.2.2.2.1.1 fun v103 S104 => ?_
      refine tt_pop (M := MX10_merges) (pc := 53) dX10_merges_53 rfl ?_
      refine tt_iinc (M := MX10_merges) (pc := 54) [some (.ref 0), some (.int (I l1)), some (.int (I l2)), some (.int (I l3)), some (.int (I (l4 + 1)))] dX10_merges_54 rfl rfl ?_
      refine tt_goto (M := MX10_merges) (pc := 57) 24 dX10_merges_57 rfl ?_
      exact id
    · refine tt_ld (M := MX10_merges) (pc := 43) dX10_merges_43 rfl rfl rfl rfl rfl ?_
      exact tt_iret (M := MX10_merges) (pc := 45) dX10_merges_45 rfl
theorem qX10_ideal_0 {sc : Nat × (Nat → Int32)} {SH : List mCell} {S : mStore} {r : mR × mW} (h0 : sGP SH) {l1 : Int} : ((swp l1 0 (r = rX 0 (SH ++ [mO (12 + 0) []]) S) [(∃ v101 S102, G sc MX7_fewest 0 [some (.ref 17), none, none] [] SH S (rI v101 SH S102) ∧ r = rI v101 SH S102), (∃ v103 S104, G sc MX7_used 0 [some (.ref 17), none, none] [] SH S (rI v103 SH S104) ∧ (∃ v105 S106, G sc MX7_fewest 0 [some (.ref 17), none, none] [] SH S104 (rI v105 SH S106) ∧ r = rI (v103 - v105) SH S106)), (∃ v107 S108, G sc MX7_risk 0 [some (.ref 17), none, none, none] [] SH S (rI v107 SH S108) ∧ r = rI v107 SH S108)])) → G sc MX10_ideal 0 [some (.ref 0), some (.int (I l1))] [] SH S r := by
  refine tt_ld (M := MX10_ideal) (pc := 0) dX10_ideal_0 rfl rfl rfl rfl rfl ?_
  refine tt_switch (M := MX10_ideal) (pc := 1) 72 dX10_ideal_1 ⟨by decide, by simp only [List.length_cons, List.length_nil]; omega⟩ rfl rfl ?_ ?_
  · exact tt_throw (M := MX10_ideal) (pc := 72) 0 dX10_ideal_72 rfl rfl dX10_ideal_75 dX10_ideal_76 dX10_ideal_79 ⟨rfl, rfl, by decide, rfl⟩
  · refine ⟨⟨28, rfl, ?_⟩, ⟨⟨39, rfl, ?_⟩, ⟨⟨61, rfl, ?_⟩, trivial⟩⟩⟩
    · refine tt_ld (M := MX10_ideal) (pc := 28) dX10_ideal_28 rfl rfl rfl rfl rfl ?_
      refine tt_getR (M := MX10_ideal) (pc := 29) dX10_ideal_29 rfl h0.1 rfl ?_
      refine tt_getR (M := MX10_ideal) (pc := 32) dX10_ideal_32 rfl h0.2.2.2.1.1 rfl ?_
      refine tt_vcIN (M := MX10_ideal) (pc := 35) dX10_ideal_35 rfl rfl [] rfl rfl ⟨rfl, by decide, Nat.le_of_ble_eq_true rfl⟩ h0.2.2.2.1.2.2.2.2.1.1 fun v101 S102 => ?_
      exact tt_iret (M := MX10_ideal) (pc := 38) dX10_ideal_38 rfl
    · refine tt_ld (M := MX10_ideal) (pc := 39) dX10_ideal_39 rfl rfl rfl rfl rfl ?_
      refine tt_getR (M := MX10_ideal) (pc := 40) dX10_ideal_40 rfl h0.1 rfl ?_
      refine tt_getR (M := MX10_ideal) (pc := 43) dX10_ideal_43 rfl h0.2.2.2.1.1 rfl ?_
      refine tt_vcIN (M := MX10_ideal) (pc := 46) dX10_ideal_46 rfl rfl [] rfl rfl ⟨rfl, by decide, Nat.le_of_ble_eq_true rfl⟩ h0.2.2.2.1.2.2.2.2.1.1 fun v103 S104 => ?_
      refine tt_ld (M := MX10_ideal) (pc := 49) dX10_ideal_49 rfl rfl rfl rfl rfl ?_
      refine tt_getR (M := MX10_ideal) (pc := 50) dX10_ideal_50 rfl h0.1 rfl ?_
      refine tt_getR (M := MX10_ideal) (pc := 53) dX10_ideal_53 rfl h0.2.2.2.1.1 rfl ?_
      refine tt_vcIN (M := MX10_ideal) (pc := 56) dX10_ideal_56 rfl rfl [.int (I v103)] rfl rfl ⟨rfl, by decide, Nat.le_of_ble_eq_true rfl⟩ h0.2.2.2.1.2.2.2.2.1.1 fun v105 S106 => ?_
      refine tt_isub (M := MX10_ideal) (pc := 59) dX10_ideal_59 ?_
      exact tt_iret (M := MX10_ideal) (pc := 60) dX10_ideal_60 rfl
    · refine tt_ld (M := MX10_ideal) (pc := 61) dX10_ideal_61 rfl rfl rfl rfl rfl ?_
      refine tt_getR (M := MX10_ideal) (pc := 62) dX10_ideal_62 rfl h0.1 rfl ?_
      refine tt_getR (M := MX10_ideal) (pc := 65) dX10_ideal_65 rfl h0.2.2.2.1.1 rfl ?_
      refine tt_vcIN (M := MX10_ideal) (pc := 68) dX10_ideal_68 rfl rfl [] rfl rfl ⟨rfl, by decide, Nat.le_of_ble_eq_true rfl⟩ h0.2.2.2.1.2.2.2.2.1.1 fun v107 S108 => ?_
      exact tt_iret (M := MX10_ideal) (pc := 71) dX10_ideal_71 rfl
theorem qX10_probe_0 {sc : Nat × (Nat → Int32)} {SH : List mCell} {S : mStore} {r : mR × mW} (h0 : sGP SH) {l1 : Int} {l2 : Int} {l3 : Int} {l4 : Int} {u5 : Option Value} {u6 : Option Value} : (((∃ v101 S102, G sc MX10_placeOf 0 [some (.ref 0), some (.int (I l1)), some (.int (I l2)), none] [] SH S (rI v101 SH S102) ∧ (if I l3 < I 0 then G sc MX10_probe 36 [some (.ref 0), some (.int (I l1)), some (.int (I l2)), some (.int (I l3)), some (.int (I l4)), some (.int (I v101)), u6] [.int (I 0)] SH S102 r else (if I 65535 < I l3 then G sc MX10_probe 36 [some (.ref 0), some (.int (I l1)), some (.int (I l2)), some (.int (I l3)), some (.int (I l4)), some (.int (I v101)), u6] [.int (I 0)] SH S102 r else (if I l4 < I 0 then G sc MX10_probe 36 [some (.ref 0), some (.int (I l1)), some (.int (I l2)), some (.int (I l3)), some (.int (I l4)), some (.int (I v101)), u6] [.int (I 0)] SH S102 r else (if I 40 < I l4 then G sc MX10_probe 36 [some (.ref 0), some (.int (I l1)), some (.int (I l2)), some (.int (I l3)), some (.int (I l4)), some (.int (I v101)), u6] [.int (I 0)] SH S102 r else G sc MX10_probe 36 [some (.ref 0), some (.int (I l1)), some (.int (I l2)), some (.int (I l3)), some (.int (I l4)), some (.int (I v101)), u6] [.int (I 1)] SH S102 r))))) ∨ (∃ e SH1 S1, G sc MX10_placeOf 0 [some (.ref 0), some (.int (I l1)), some (.int (I l2)), none] [] SH S (rX e SH1 S1) ∧ r = rX e SH1 S1))) → G sc MX10_probe 0 [some (.ref 0), some (.int (I l1)), some (.int (I l2)), some (.int (I l3)), some (.int (I l4)), u5, u6] [] SH S r := by
  refine tt_ld (M := MX10_probe) (pc := 0) dX10_probe_0 rfl rfl rfl rfl rfl ?_
  refine tt_ld (M := MX10_probe) (pc := 1) dX10_probe_1 rfl rfl rfl rfl rfl ?_
  refine tt_ld (M := MX10_probe) (pc := 2) dX10_probe_2 rfl rfl rfl rfl rfl ?_
  refine tt_vcI (M := MX10_probe) (pc := 3) dX10_probe_3 rfl rfl [] rfl rfl ⟨rfl, by decide, Nat.le_of_ble_eq_true rfl⟩ h0.1 rfl fun v101 S102 => ?_
  refine tt_st (M := MX10_probe) (pc := 6) [some (.ref 0), some (.int (I l1)), some (.int (I l2)), some (.int (I l3)), some (.int (I l4)), some (.int (I v101)), u6] dX10_probe_6 rfl rfl rfl rfl rfl rfl ?_
  refine tt_ld (M := MX10_probe) (pc := 8) dX10_probe_8 rfl rfl rfl rfl rfl ?_
  refine tt_if_lt (M := MX10_probe) (pc := 9) 35 dX10_probe_9 rfl ?_ ?_
  · refine tt_iconst (M := MX10_probe) (pc := 35) dX10_probe_35 ?_
    exact id
  · refine tt_ld (M := MX10_probe) (pc := 12) dX10_probe_12 rfl rfl rfl rfl rfl ?_
    refine tt_push (M := MX10_probe) (pc := 13) 65535 dX10_probe_13 rfl (by decide +kernel) ?_
    refine tt_ic_gt (M := MX10_probe) (pc := 16) 35 dX10_probe_16 rfl ?_ ?_
    · refine tt_iconst (M := MX10_probe) (pc := 35) dX10_probe_35 ?_
      exact id
    · refine tt_ld (M := MX10_probe) (pc := 19) dX10_probe_19 rfl rfl rfl rfl rfl ?_
      refine tt_if_lt (M := MX10_probe) (pc := 21) 35 dX10_probe_21 rfl ?_ ?_
      · refine tt_iconst (M := MX10_probe) (pc := 35) dX10_probe_35 ?_
        exact id
      · refine tt_ld (M := MX10_probe) (pc := 24) dX10_probe_24 rfl rfl rfl rfl rfl ?_
        refine tt_bipush (M := MX10_probe) (pc := 26) dX10_probe_26 (by decide) ?_
        refine tt_ic_gt (M := MX10_probe) (pc := 28) 35 dX10_probe_28 rfl ?_ ?_
        · refine tt_iconst (M := MX10_probe) (pc := 35) dX10_probe_35 ?_
          exact id
        · refine tt_iconst (M := MX10_probe) (pc := 31) dX10_probe_31 ?_
          refine tt_goto (M := MX10_probe) (pc := 32) 36 dX10_probe_32 rfl ?_
          exact id
theorem qX10_probe_36 {sc : Nat × (Nat → Int32)} {SH : List mCell} {S : mStore} {r : mR × mW} (h0 : sGP SH) {l1 : Int} {l2 : Int} {l3 : Int} {l4 : Int} {l5 : Int} {u6 : Option Value} {s0 : Int} : (((∃ S101, G sc MX10_mustFit 0 [some (.int (I s0))] [] SH S (rV SH S101) ∧ (∃ S102, G sc MX7_become 0 [some (.ref 65), some (.ref 17)] [] SH S101 (rV SH S102) ∧ (∃ v103 S104, G sc MX7_put 0 [some (.ref 65), some (.int (I l5)), some (.int (I l3)), none, none] [] SH S102 (rI v103 SH S104) ∧ (if I v103 = I (-1) then r = rI (-1) SH S104 else (∃ v105 S106, G sc MX7_tick 0 [some (.ref 65), some (.int (I l4)), none, none, none, none] [] SH S104 (rI v105 SH S106) ∧ (((0 : Int) ≤ l5 ∧ l5 < 48) ∧ (if I (S106 (65 + 2) l5) = I (-1) then G sc MX10_probe 118 [some (.ref 0), some (.int (I l1)), some (.int (I l2)), some (.int (I l3)), some (.int (I l4)), some (.int (I l5)), some (.int (I (S106 (65 + 2) l5)))] [.int (I 0)] SH S106 r else (∃ v107 S108, G sc MX6_sizeOf 0 [some (.ref (65 + 1)), some (.int (I (S106 (65 + 2) l5))), none, none] [] SH S106 (rI v107 SH S108) ∧ G sc MX10_probe 118 [some (.ref 0), some (.int (I l1)), some (.int (I l2)), some (.int (I l3)), some (.int (I l4)), some (.int (I l5)), some (.int (I (S106 (65 + 2) l5)))] [.int (I (v107 - 1))] SH S108 r)))))))) ∨ (∃ e SH1 S1, G sc MX10_mustFit 0 [some (.int (I s0))] [] SH S (rX e SH1 S1) ∧ r = rX e SH1 S1))) → G sc MX10_probe 36 [some (.ref 0), some (.int (I l1)), some (.int (I l2)), some (.int (I l3)), some (.int (I l4)), some (.int (I l5)), u6] [.int (I s0)] SH S r := by
  refine tt_scV (M := MX10_probe) (pc := 36) dX10_probe_36 rfl [] rfl rfl ⟨rfl, by decide, Nat.le_of_ble_eq_true rfl⟩ rfl fun S101 => ?_
  refine tt_ld (M := MX10_probe) (pc := 39) dX10_probe_39 rfl rfl rfl rfl rfl ?_
  refine tt_getR (M := MX10_probe) (pc := 40) dX10_probe_40 rfl h0.1 rfl ?_
  refine tt_ld (M := MX10_probe) (pc := 43) dX10_probe_43 rfl rfl rfl rfl rfl ?_
  refine tt_getR (M := MX10_probe) (pc := 44) dX10_probe_44 rfl h0.1 rfl ?_
  refine tt_getR (M := MX10_probe) (pc := 47) dX10_probe_47 rfl h0.2.2.2.1.1 rfl ?_
  refine tt_vcVN (M := MX10_probe) (pc := 50) dX10_probe_50 rfl rfl [] rfl rfl ⟨rfl, by decide, Nat.le_of_ble_eq_true rfl⟩ h0.2.2.2.2.2.1.1 fun S102 => ?_
  refine tt_ld (M := MX10_probe) (pc := 53) dX10_probe_53 rfl rfl rfl rfl rfl ?_
  refine tt_getR (M := MX10_probe) (pc := 54) dX10_probe_54 rfl h0.1 rfl ?_
  refine tt_ld (M := MX10_probe) (pc := 57) dX10_probe_57 rfl rfl rfl rfl rfl ?_
  refine tt_ld (M := MX10_probe) (pc := 59) dX10_probe_59 rfl rfl rfl rfl rfl ?_
  refine tt_vcIN (M := MX10_probe) (pc := 60) dX10_probe_60 rfl rfl [] rfl rfl ⟨rfl, by decide, Nat.le_of_ble_eq_true rfl⟩ h0.2.2.2.2.2.1.1 fun v103 S104 => ?_
  refine tt_iconst (M := MX10_probe) (pc := 63) dX10_probe_63 ?_
  refine tt_ic_ne (M := MX10_probe) (pc := 64) 69 dX10_probe_64 rfl ?_ ?_
  · refine tt_ld (M := MX10_probe) (pc := 69) dX10_probe_69 rfl rfl rfl rfl rfl ?_
    refine tt_getR (M := MX10_probe) (pc := 70) dX10_probe_70 rfl h0.1 rfl ?_
    refine tt_ld (M := MX10_probe) (pc := 73) dX10_probe_73 rfl rfl rfl rfl rfl ?_
    refine tt_vcIN (M := MX10_probe) (pc := 75) dX10_probe_75 rfl rfl [] rfl rfl ⟨rfl, by decide, Nat.le_of_ble_eq_true rfl⟩ h0.2.2.2.2.2.1.1 fun v105 S106 => ?_
    refine tt_pop (M := MX10_probe) (pc := 78) dX10_probe_78 rfl ?_
    refine tt_ld (M := MX10_probe) (pc := 79) dX10_probe_79 rfl rfl rfl rfl rfl ?_
    refine tt_getR (M := MX10_probe) (pc := 80) dX10_probe_80 rfl h0.1 rfl ?_
    refine tt_getR (M := MX10_probe) (pc := 83) dX10_probe_83 rfl h0.2.2.2.2.2.1.1 rfl ?_
    refine tt_getR (M := MX10_probe) (pc := 86) dX10_probe_86 rfl h0.2.2.2.2.2.1.2.1.1 rfl ?_
    refine tt_ld (M := MX10_probe) (pc := 89) dX10_probe_89 rfl rfl rfl rfl rfl ?_
    refine tt_iaload (M := MX10_probe) (pc := 91) dX10_probe_91 h0.2.2.2.2.2.1.2.1.2.1 rfl ?_
    refine tt_st (M := MX10_probe) (pc := 92) [some (.ref 0), some (.int (I l1)), some (.int (I l2)), some (.int (I l3)), some (.int (I l4)), some (.int (I l5)), some (.int (I (S106 (65 + 2) l5)))] dX10_probe_92 rfl rfl rfl rfl rfl rfl ?_
    refine tt_ld (M := MX10_probe) (pc := 94) dX10_probe_94 rfl rfl rfl rfl rfl ?_
    refine tt_iconst (M := MX10_probe) (pc := 96) dX10_probe_96 ?_
    refine tt_ic_ne (M := MX10_probe) (pc := 97) 104 dX10_probe_97 rfl ?_ ?_
    · refine tt_ld (M := MX10_probe) (pc := 104) dX10_probe_104 rfl rfl rfl rfl rfl ?_
      refine tt_getR (M := MX10_probe) (pc := 105) dX10_probe_105 rfl h0.1 rfl ?_
      refine tt_getR (M := MX10_probe) (pc := 108) dX10_probe_108 rfl h0.2.2.2.2.2.1.1 rfl ?_
      refine tt_ld (M := MX10_probe) (pc := 111) dX10_probe_111 rfl rfl rfl rfl rfl ?_
      refine tt_vcIN (M := MX10_probe) (pc := 113) dX10_probe_113 rfl rfl [] rfl rfl ⟨rfl, by decide, Nat.le_of_ble_eq_true rfl⟩ h0.2.2.2.2.2.1.2.1.1 fun v107 S108 => ?_
      refine tt_iconst (M := MX10_probe) (pc := 116) dX10_probe_116 ?_
      refine tt_isub (M := MX10_probe) (pc := 117) dX10_probe_117 ?_
      exact id
    · refine tt_iconst (M := MX10_probe) (pc := 100) dX10_probe_100 ?_
      refine tt_goto (M := MX10_probe) (pc := 101) 118 dX10_probe_101 rfl ?_
      exact id
  · refine tt_iconst (M := MX10_probe) (pc := 67) dX10_probe_67 ?_
    exact tt_iret (M := MX10_probe) (pc := 68) dX10_probe_68 rfl
theorem qX10_probe_118 {sc : Nat × (Nat → Int32)} {SH : List mCell} {S : mStore} {r : mR × mW} (h0 : sGP SH) {l1 : Int} {l2 : Int} {l3 : Int} {l4 : Int} {l5 : Int} {l6 : Int} {s0 : Int} : (r = rI s0 SH S) → G sc MX10_probe 118 [some (.ref 0), some (.int (I l1)), some (.int (I l2)), some (.int (I l3)), some (.int (I l4)), some (.int (I l5)), some (.int (I l6))] [.int (I s0)] SH S r := by
  exact tt_iret (M := MX10_probe) (pc := 118) dX10_probe_118 rfl
