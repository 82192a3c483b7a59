-- needs: 43.tshape
/-! ===== the program as conditions (gen_vc.py) ===== -/
theorem qX10_guess_0 {sc : Nat × (Nat → Int32)} {SH : List mCell} {S : mStore} {r : mR × mW} (h0 : sGP SH) {l1 : Int} {l2 : Int} {l3 : Int} {l4 : Int} {u5 : Option Value} {u6 : Option Value} {u7 : Option Value} {u8 : Option Value} {u9 : Option Value} : (((∃ v101 S102, G sc MX10_placeOf 0 [some (.ref 0), some (.int (I l1)), some (.int (I l2)), none] [] SH S (rI v101 SH S102) ∧ ((∃ S103, G sc MX10_mustBeCell 0 [some (.int (I l3))] [] SH S102 (rV SH S103) ∧ (if I l4 < I 0 then ((∃ S104, G sc MX10_mustBe 0 [some (.int (I 0))] [] SH S103 (rV SH S104) ∧ (∃ v105 S106, G sc MX1_lastNoted 0 [some (.ref 13), none, none] [] SH S104 (rI v105 SH S106) ∧ (if I l4 = I 2 then (∃ v111 S112, G sc MX10_fits 0 [some (.ref 0), some (.int (I v101)), some (.int (I l3)), some (.int (I (-1))), some (.int (I v105)), none] [] SH S106 (rI v111 SH S112) ∧ (if I v111 = I 0 then r = rI 0 SH S112 else r = rI 1 SH S112)) else (∃ v107 S108, G sc MX7_cellsAt 0 [some (.ref 17), some (.int (I v101)), none] [] SH S106 (rI v107 SH S108) ∧ (∃ v109 S110, G sc MX10_cellOf 0 [some (.int (I v107)), some (.int (I l3))] [] SH S108 (rI v109 SH S110) ∧ G sc MX10_guess 89 [some (.ref 0), some (.int (I l1)), some (.int (I l2)), some (.int (I l3)), some (.int (I l4)), some (.int (I v101)), some (.int (I v105)), some (.int (I v109)), some (.int (I 0)), some (.int (I 0))] [] SH S110 r))))) ∨ (∃ e SH1 S1, G sc MX10_mustBe 0 [some (.int (I 0))] [] SH S103 (rX e SH1 S1) ∧ r = rX e SH1 S1)) else (if I 2 < I l4 then ((∃ S113, G sc MX10_mustBe 0 [some (.int (I 0))] [] SH S103 (rV SH S113) ∧ (∃ v114 S115, G sc MX1_lastNoted 0 [some (.ref 13), none, none] [] SH S113 (rI v114 SH S115) ∧ (if I l4 = I 2 then (∃ v120 S121, G sc MX10_fits 0 [some (.ref 0), some (.int (I v101)), some (.int (I l3)), some (.int (I (-1))), some (.int (I v114)), none] [] SH S115 (rI v120 SH S121) ∧ (if I v120 = I 0 then r = rI 0 SH S121 else r = rI 1 SH S121)) else (∃ v116 S117, G sc MX7_cellsAt 0 [some (.ref 17), some (.int (I v101)), none] [] SH S115 (rI v116 SH S117) ∧ (∃ v118 S119, G sc MX10_cellOf 0 [some (.int (I v116)), some (.int (I l3))] [] SH S117 (rI v118 SH S119) ∧ G sc MX10_guess 89 [some (.ref 0), some (.int (I l1)), some (.int (I l2)), some (.int (I l3)), some (.int (I l4)), some (.int (I v101)), some (.int (I v114)), some (.int (I v118)), some (.int (I 0)), some (.int (I 0))] [] SH S119 r))))) ∨ (∃ e SH1 S1, G sc MX10_mustBe 0 [some (.int (I 0))] [] SH S103 (rX e SH1 S1) ∧ r = rX e SH1 S1)) else ((∃ S122, G sc MX10_mustBe 0 [some (.int (I 1))] [] SH S103 (rV SH S122) ∧ (∃ v123 S124, G sc MX1_lastNoted 0 [some (.ref 13), none, none] [] SH S122 (rI v123 SH S124) ∧ (if I l4 = I 2 then (∃ v129 S130, G sc MX10_fits 0 [some (.ref 0), some (.int (I v101)), some (.int (I l3)), some (.int (I (-1))), some (.int (I v123)), none] [] SH S124 (rI v129 SH S130) ∧ (if I v129 = I 0 then r = rI 0 SH S130 else r = rI 1 SH S130)) else (∃ v125 S126, G sc MX7_cellsAt 0 [some (.ref 17), some (.int (I v101)), none] [] SH S124 (rI v125 SH S126) ∧ (∃ v127 S128, G sc MX10_cellOf 0 [some (.int (I v125)), some (.int (I l3))] [] SH S126 (rI v127 SH S128) ∧ G sc MX10_guess 89 [some (.ref 0), some (.int (I l1)), some (.int (I l2)), some (.int (I l3)), some (.int (I l4)), some (.int (I v101)), some (.int (I v123)), some (.int (I v127)), some (.int (I 0)), some (.int (I 0))] [] SH S128 r))))) ∨ (∃ e SH1 S1, G sc MX10_mustBe 0 [some (.int (I 1))] [] SH S103 (rX e SH1 S1) ∧ r = rX e SH1 S1))))) ∨ (∃ e SH1 S1, G sc MX10_mustBeCell 0 [some (.int (I l3))] [] SH S102 (rX e SH1 S1) ∧ r = rX e SH1 S1))) ∨ (∃ e SH1 S1, G sc MX10_placeOf 0 [some (.ref 0), some (.int (I l1)), some (.int (I l2)), none] [] SH S (rX e SH1 S1) ∧ r = rX e SH1 S1))) → G sc MX10_guess 0 [some (.ref 0), some (.int (I l1)), some (.int (I l2)), some (.int (I l3)), some (.int (I l4)), u5, u6, u7, u8, u9] [] SH S r := by
  refine t_ld (pc := 0) dX10_guess_0 rfl rfl rfl rfl rfl ?_
  refine t_ld (pc := 1) dX10_guess_1 rfl rfl rfl rfl rfl ?_
  refine t_ld (pc := 2) dX10_guess_2 rfl rfl rfl rfl rfl ?_
  refine t_vcI (pc := 3) dX10_guess_3 rfl rfl [] rfl rfl ⟨rfl, by decide, Nat.le_of_ble_eq_true rfl⟩ h0.1 rfl fun v101 S102 => ?_
  refine t_st (pc := 6) [some (.ref 0), some (.int (I l1)), some (.int (I l2)), some (.int (I l3)), some (.int (I l4)), some (.int (I v101)), u6, u7, u8, u9] dX10_guess_6 rfl rfl rfl rfl rfl rfl ?_
  refine t_ld (pc := 8) dX10_guess_8 rfl rfl rfl rfl rfl ?_
  refine t_scV (pc := 9) dX10_guess_9 rfl [] rfl rfl ⟨rfl, by decide, Nat.le_of_ble_eq_true rfl⟩ rfl fun S103 => ?_
  refine t_ld (pc := 12) dX10_guess_12 rfl rfl rfl rfl rfl ?_
  refine t_if_lt (pc := 14) 27 dX10_guess_14 rfl ?_ ?_
  · refine t_iconst (pc := 27) dX10_guess_27 ?_
    refine t_scV (pc := 28) dX10_guess_28 rfl [] rfl rfl ⟨rfl, by decide, Nat.le_of_ble_eq_true rfl⟩ rfl fun S104 => ?_
    refine t_ld (pc := 31) dX10_guess_31 rfl rfl rfl rfl rfl ?_
    refine t_getR (pc := 32) dX10_guess_32 rfl h0.1 rfl ?_
    refine t_vcIN (pc := 35) dX10_guess_35 rfl rfl [] rfl rfl ⟨rfl, by decide, Nat.le_of_ble_eq_true rfl⟩ h0.2.2.2.1.1 fun v105 S106 => ?_
    refine t_st (pc := 38) [some (.ref 0), some (.int (I l1)), some (.int (I l2)), some (.int (I l3)), some (.int (I l4)), some (.int (I v101)), some (.int (I v105)), u7, u8, u9] dX10_guess_38 rfl rfl rfl rfl rfl rfl ?_
    refine t_ld (pc := 40) dX10_guess_40 rfl rfl rfl rfl rfl ?_
    refine t_iconst (pc := 42) dX10_guess_42 ?_
    refine t_ic_ne (pc := 43) 65 dX10_guess_43 rfl ?_ ?_
    · refine t_ld (pc := 65) dX10_guess_65 rfl rfl rfl rfl rfl ?_
      refine t_getR (pc := 66) dX10_guess_66 rfl h0.1 rfl ?_
      refine t_getR (pc := 69) dX10_guess_69 rfl h0.2.2.2.1.1 rfl ?_
      refine t_ld (pc := 72) dX10_guess_72 rfl rfl rfl rfl rfl ?_
      refine t_vcIN (pc := 74) dX10_guess_74 rfl rfl [] rfl rfl ⟨rfl, by decide, Nat.le_of_ble_eq_true rfl⟩ h0.2.2.2.1.2.2.2.2.1.1 fun v107 S108 => ?_
      refine t_ld (pc := 77) dX10_guess_77 rfl rfl rfl rfl rfl ?_
      refine t_scIN (pc := 78) dX10_guess_78 rfl [] rfl rfl ⟨rfl, by decide, Nat.le_of_ble_eq_true rfl⟩ fun v109 S110 => ?_
      refine t_st (pc := 81) [some (.ref 0), some (.int (I l1)), some (.int (I l2)), some (.int (I l3)), some (.int (I l4)), some (.int (I v101)), some (.int (I v105)), some (.int (I v109)), u8, u9] dX10_guess_81 rfl rfl rfl rfl rfl rfl ?_
      refine t_iconst (pc := 83) dX10_guess_83 ?_
      refine t_st (pc := 84) [some (.ref 0), some (.int (I l1)), some (.int (I l2)), some (.int (I l3)), some (.int (I l4)), some (.int (I v101)), some (.int (I v105)), some (.int (I v109)), some (.int (I 0)), u9] dX10_guess_84 rfl rfl rfl rfl rfl rfl ?_
      refine t_iconst (pc := 86) dX10_guess_86 ?_
      refine t_st (pc := 87) [some (.ref 0), some (.int (I l1)), some (.int (I l2)), some (.int (I l3)), some (.int (I l4)), some (.int (I v101)), some (.int (I v105)), some (.int (I v109)), some (.int (I 0)), some (.int (I 0))] dX10_guess_87 rfl rfl rfl rfl rfl rfl ?_
      exact id
    · refine t_ld (pc := 46) dX10_guess_46 rfl rfl rfl rfl rfl ?_
      refine t_ld (pc := 47) dX10_guess_47 rfl rfl rfl rfl rfl ?_
      refine t_ld (pc := 49) dX10_guess_49 rfl rfl rfl rfl rfl ?_
      refine t_iconst (pc := 50) dX10_guess_50 ?_
      refine t_ld (pc := 51) dX10_guess_51 rfl rfl rfl rfl rfl ?_
      refine t_vcIN (pc := 53) dX10_guess_53 rfl rfl [] rfl rfl ⟨rfl, by decide, Nat.le_of_ble_eq_true rfl⟩ h0.1 fun v111 S112 => ?_
      refine t_if_eq (pc := 56) 63 dX10_guess_56 rfl ?_ ?_
      · refine t_iconst (pc := 63) dX10_guess_63 ?_
        exact t_iret (pc := 64) dX10_guess_64 rfl
      · refine t_iconst (pc := 59) dX10_guess_59 ?_
        refine t_goto (pc := 60) 64 dX10_guess_60 rfl ?_
        exact t_iret (pc := 64) dX10_guess_64 rfl
  · refine t_ld (pc := 17) dX10_guess_17 rfl rfl rfl rfl rfl ?_
    refine t_iconst (pc := 19) dX10_guess_19 ?_
    refine t_ic_gt (pc := 20) 27 dX10_guess_20 rfl ?_ ?_
    · refine t_iconst (pc := 27) dX10_guess_27 ?_
      refine t_scV (pc := 28) dX10_guess_28 rfl [] rfl rfl ⟨rfl, by decide, Nat.le_of_ble_eq_true rfl⟩ rfl fun S113 => ?_
      refine t_ld (pc := 31) dX10_guess_31 rfl rfl rfl rfl rfl ?_
      refine t_getR (pc := 32) dX10_guess_32 rfl h0.1 rfl ?_
      refine t_vcIN (pc := 35) dX10_guess_35 rfl rfl [] rfl rfl ⟨rfl, by decide, Nat.le_of_ble_eq_true rfl⟩ h0.2.2.2.1.1 fun v114 S115 => ?_
      refine t_st (pc := 38) [some (.ref 0), some (.int (I l1)), some (.int (I l2)), some (.int (I l3)), some (.int (I l4)), some (.int (I v101)), some (.int (I v114)), u7, u8, u9] dX10_guess_38 rfl rfl rfl rfl rfl rfl ?_
      refine t_ld (pc := 40) dX10_guess_40 rfl rfl rfl rfl rfl ?_
      refine t_iconst (pc := 42) dX10_guess_42 ?_
      refine t_ic_ne (pc := 43) 65 dX10_guess_43 rfl ?_ ?_
      · refine t_ld (pc := 65) dX10_guess_65 rfl rfl rfl rfl rfl ?_
        refine t_getR (pc := 66) dX10_guess_66 rfl h0.1 rfl ?_
        refine t_getR (pc := 69) dX10_guess_69 rfl h0.2.2.2.1.1 rfl ?_
        refine t_ld (pc := 72) dX10_guess_72 rfl rfl rfl rfl rfl ?_
        refine t_vcIN (pc := 74) dX10_guess_74 rfl rfl [] rfl rfl ⟨rfl, by decide, Nat.le_of_ble_eq_true rfl⟩ h0.2.2.2.1.2.2.2.2.1.1 fun v116 S117 => ?_
        refine t_ld (pc := 77) dX10_guess_77 rfl rfl rfl rfl rfl ?_
        refine t_scIN (pc := 78) dX10_guess_78 rfl [] rfl rfl ⟨rfl, by decide, Nat.le_of_ble_eq_true rfl⟩ fun v118 S119 => ?_
        refine t_st (pc := 81) [some (.ref 0), some (.int (I l1)), some (.int (I l2)), some (.int (I l3)), some (.int (I l4)), some (.int (I v101)), some (.int (I v114)), some (.int (I v118)), u8, u9] dX10_guess_81 rfl rfl rfl rfl rfl rfl ?_
        refine t_iconst (pc := 83) dX10_guess_83 ?_
        refine t_st (pc := 84) [some (.ref 0), some (.int (I l1)), some (.int (I l2)), some (.int (I l3)), some (.int (I l4)), some (.int (I v101)), some (.int (I v114)), some (.int (I v118)), some (.int (I 0)), u9] dX10_guess_84 rfl rfl rfl rfl rfl rfl ?_
        refine t_iconst (pc := 86) dX10_guess_86 ?_
        refine t_st (pc := 87) [some (.ref 0), some (.int (I l1)), some (.int (I l2)), some (.int (I l3)), some (.int (I l4)), some (.int (I v101)), some (.int (I v114)), some (.int (I v118)), some (.int (I 0)), some (.int (I 0))] dX10_guess_87 rfl rfl rfl rfl rfl rfl ?_
        exact id
      · refine t_ld (pc := 46) dX10_guess_46 rfl rfl rfl rfl rfl ?_
        refine t_ld (pc := 47) dX10_guess_47 rfl rfl rfl rfl rfl ?_
        refine t_ld (pc := 49) dX10_guess_49 rfl rfl rfl rfl rfl ?_
        refine t_iconst (pc := 50) dX10_guess_50 ?_
        refine t_ld (pc := 51) dX10_guess_51 rfl rfl rfl rfl rfl ?_
        refine t_vcIN (pc := 53) dX10_guess_53 rfl rfl [] rfl rfl ⟨rfl, by decide, Nat.le_of_ble_eq_true rfl⟩ h0.1 fun v120 S121 => ?_
        refine t_if_eq (pc := 56) 63 dX10_guess_56 rfl ?_ ?_
        · refine t_iconst (pc := 63) dX10_guess_63 ?_
          exact t_iret (pc := 64) dX10_guess_64 rfl
        · refine t_iconst (pc := 59) dX10_guess_59 ?_
          refine t_goto (pc := 60) 64 dX10_guess_60 rfl ?_
          exact t_iret (pc := 64) dX10_guess_64 rfl
    · refine t_iconst (pc := 23) dX10_guess_23 ?_
      refine t_goto (pc := 24) 28 dX10_guess_24 rfl ?_
      refine t_scV (pc := 28) dX10_guess_28 rfl [] rfl rfl ⟨rfl, by decide, Nat.le_of_ble_eq_true rfl⟩ rfl fun S122 => ?_
      refine t_ld (pc := 31) dX10_guess_31 rfl rfl rfl rfl rfl ?_
      refine t_getR (pc := 32) dX10_guess_32 rfl h0.1 rfl ?_
      refine t_vcIN (pc := 35) dX10_guess_35 rfl rfl [] rfl rfl ⟨rfl, by decide, Nat.le_of_ble_eq_true rfl⟩ h0.2.2.2.1.1 fun v123 S124 => ?_
      refine t_st (pc := 38) [some (.ref 0), some (.int (I l1)), some (.int (I l2)), some (.int (I l3)), some (.int (I l4)), some (.int (I v101)), some (.int (I v123)), u7, u8, u9] dX10_guess_38 rfl rfl rfl rfl rfl rfl ?_
      refine t_ld (pc := 40) dX10_guess_40 rfl rfl rfl rfl rfl ?_
      refine t_iconst (pc := 42) dX10_guess_42 ?_
      refine t_ic_ne (pc := 43) 65 dX10_guess_43 rfl ?_ ?_
      · refine t_ld (pc := 65) dX10_guess_65 rfl rfl rfl rfl rfl ?_
        refine t_getR (pc := 66) dX10_guess_66 rfl h0.1 rfl ?_
        refine t_getR (pc := 69) dX10_guess_69 rfl h0.2.2.2.1.1 rfl ?_
        refine t_ld (pc := 72) dX10_guess_72 rfl rfl rfl rfl rfl ?_
        refine t_vcIN (pc := 74) dX10_guess_74 rfl rfl [] rfl rfl ⟨rfl, by decide, Nat.le_of_ble_eq_true rfl⟩ h0.2.2.2.1.2.2.2.2.1.1 fun v125 S126 => ?_
        refine t_ld (pc := 77) dX10_guess_77 rfl rfl rfl rfl rfl ?_
        refine t_scIN (pc := 78) dX10_guess_78 rfl [] rfl rfl ⟨rfl, by decide, Nat.le_of_ble_eq_true rfl⟩ fun v127 S128 => ?_
        refine t_st (pc := 81) [some (.ref 0), some (.int (I l1)), some (.int (I l2)), some (.int (I l3)), some (.int (I l4)), some (.int (I v101)), some (.int (I v123)), some (.int (I v127)), u8, u9] dX10_guess_81 rfl rfl rfl rfl rfl rfl ?_
        refine t_iconst (pc := 83) dX10_guess_83 ?_
        refine t_st (pc := 84) [some (.ref 0), some (.int (I l1)), some (.int (I l2)), some (.int (I l3)), some (.int (I l4)), some (.int (I v101)), some (.int (I v123)), some (.int (I v127)), some (.int (I 0)), u9] dX10_guess_84 rfl rfl rfl rfl rfl rfl ?_
        refine t_iconst (pc := 86) dX10_guess_86 ?_
        refine t_st (pc := 87) [some (.ref 0), some (.int (I l1)), some (.int (I l2)), some (.int (I l3)), some (.int (I l4)), some (.int (I v101)), some (.int (I v123)), some (.int (I v127)), some (.int (I 0)), some (.int (I 0))] dX10_guess_87 rfl rfl rfl rfl rfl rfl ?_
        exact id
      · refine t_ld (pc := 46) dX10_guess_46 rfl rfl rfl rfl rfl ?_
        refine t_ld (pc := 47) dX10_guess_47 rfl rfl rfl rfl rfl ?_
        refine t_ld (pc := 49) dX10_guess_49 rfl rfl rfl rfl rfl ?_
        refine t_iconst (pc := 50) dX10_guess_50 ?_
        refine t_ld (pc := 51) dX10_guess_51 rfl rfl rfl rfl rfl ?_
        refine t_vcIN (pc := 53) dX10_guess_53 rfl rfl [] rfl rfl ⟨rfl, by decide, Nat.le_of_ble_eq_true rfl⟩ h0.1 fun v129 S130 => ?_
        refine t_if_eq (pc := 56) 63 dX10_guess_56 rfl ?_ ?_
        · refine t_iconst (pc := 63) dX10_guess_63 ?_
          exact t_iret (pc := 64) dX10_guess_64 rfl
        · refine t_iconst (pc := 59) dX10_guess_59 ?_
          refine t_goto (pc := 60) 64 dX10_guess_60 rfl ?_
          exact t_iret (pc := 64) dX10_guess_64 rfl
theorem qX10_guess_89 {sc : Nat × (Nat → Int32)} {SH : List mCell} {S : mStore} {r : mR × mW} (h0 : sGP SH) {l1 : Int} {l2 : Int} {l3 : Int} {l4 : Int} {l5 : Int} {l6 : Int} {l7 : Int} {l8 : Int} {l9 : Int} : ((if I 15 < I l9 then (if I l4 = I 0 then r = rI l8 SH S else r = rI (-1) SH S) else (if I l9 = I l7 then G sc MX10_guess 89 [some (.ref 0), some (.int (I l1)), some (.int (I l2)), some (.int (I l3)), some (.int (I l4)), some (.int (I l5)), some (.int (I l6)), some (.int (I l7)), some (.int (I l8)), some (.int (I (l9 + 1)))] [] SH S r else (∃ v101 S102, G sc MX10_fits 0 [some (.ref 0), some (.int (I l5)), some (.int (I l3)), some (.int (I l9)), some (.int (I l6)), none] [] SH S (rI v101 SH S102) ∧ (if I v101 = I 0 then G sc MX10_guess 89 [some (.ref 0), some (.int (I l1)), some (.int (I l2)), some (.int (I l3)), some (.int (I l4)), some (.int (I l5)), some (.int (I l6)), some (.int (I l7)), some (.int (I l8)), some (.int (I (l9 + 1)))] [] SH S102 r else (if I l4 = I 1 then r = rI l9 SH S102 else G sc MX10_guess 89 [some (.ref 0), some (.int (I l1)), some (.int (I l2)), some (.int (I l3)), some (.int (I l4)), some (.int (I l5)), some (.int (I l6)), some (.int (I l7)), some (.int (I (l8 + 1))), some (.int (I (l9 + 1)))] [] SH S102 r)))))) → G sc MX10_guess 89 [some (.ref 0), some (.int (I l1)), some (.int (I l2)), some (.int (I l3)), some (.int (I l4)), some (.int (I l5)), some (.int (I l6)), some (.int (I l7)), some (.int (I l8)), some (.int (I l9))] [] SH S r := by
  refine t_ld (pc := 89) dX10_guess_89 rfl rfl rfl rfl rfl ?_
  refine t_bipush (pc := 91) dX10_guess_91 (by decide) ?_
  refine t_ic_gt (pc := 93) 138 dX10_guess_93 rfl ?_ ?_
  · refine t_ld (pc := 138) dX10_guess_138 rfl rfl rfl rfl rfl ?_
    refine t_if_ne (pc := 140) 148 dX10_guess_140 rfl ?_ ?_
    · refine t_iconst (pc := 148) dX10_guess_148 ?_
      exact t_iret (pc := 149) dX10_guess_149 rfl
    · refine t_ld (pc := 143) dX10_guess_143 rfl rfl rfl rfl rfl ?_
      refine t_goto (pc := 145) 149 dX10_guess_145 rfl ?_
      exact t_iret (pc := 149) dX10_guess_149 rfl
  · refine t_ld (pc := 96) dX10_guess_96 rfl rfl rfl rfl rfl ?_
    refine t_ld (pc := 98) dX10_guess_98 rfl rfl rfl rfl rfl ?_
    refine t_ic_eq (pc := 100) 132 dX10_guess_100 rfl ?_ ?_
    · refine t_iinc (pc := 132) [some (.ref 0), some (.int (I l1)), some (.int (I l2)), some (.int (I l3)), some (.int (I l4)), some (.int (I l5)), some (.int (I l6)), some (.int (I l7)), some (.int (I l8)), some (.int (I (l9 + 1)))] dX10_guess_132 rfl rfl ?_
      refine t_goto (pc := 135) 89 dX10_guess_135 rfl ?_
      exact id
    · refine t_ld (pc := 103) dX10_guess_103 rfl rfl rfl rfl rfl ?_
      refine t_ld (pc := 104) dX10_guess_104 rfl rfl rfl rfl rfl ?_
      refine t_ld (pc := 106) dX10_guess_106 rfl rfl rfl rfl rfl ?_
      refine t_ld (pc := 107) dX10_guess_107 rfl rfl rfl rfl rfl ?_
      refine t_ld (pc := 109) dX10_guess_109 rfl rfl rfl rfl rfl ?_
      refine t_vcIN (pc := 111) dX10_guess_111 rfl rfl [] rfl rfl ⟨rfl, by decide, Nat.le_of_ble_eq_true rfl⟩ h0.1 fun v101 S102 => ?_
      refine t_if_ne (pc := 114) 120 dX10_guess_114 rfl ?_ ?_
      · refine t_ld (pc := 120) dX10_guess_120 rfl rfl rfl rfl rfl ?_
        refine t_iconst (pc := 122) dX10_guess_122 ?_
        refine t_ic_ne (pc := 123) 129 dX10_guess_123 rfl ?_ ?_
        · refine t_iinc (pc := 129) [some (.ref 0), some (.int (I l1)), some (.int (I l2)), some (.int (I l3)), some (.int (I l4)), some (.int (I l5)), some (.int (I l6)), some (.int (I l7)), some (.int (I (l8 + 1))), some (.int (I l9))] dX10_guess_129 rfl rfl ?_
          refine t_iinc (pc := 132) [some (.ref 0), some (.int (I l1)), some (.int (I l2)), some (.int (I l3)), some (.int (I l4)), some (.int (I l5)), some (.int (I l6)), some (.int (I l7)), some (.int (I (l8 + 1))), some (.int (I (l9 + 1)))] dX10_guess_132 rfl rfl ?_
          refine t_goto (pc := 135) 89 dX10_guess_135 rfl ?_
          exact id
        · refine t_ld (pc := 126) dX10_guess_126 rfl rfl rfl rfl rfl ?_
          exact t_iret (pc := 128) dX10_guess_128 rfl
      · refine t_goto (pc := 117) 132 dX10_guess_117 rfl ?_
        refine t_iinc (pc := 132) [some (.ref 0), some (.int (I l1)), some (.int (I l2)), some (.int (I l3)), some (.int (I l4)), some (.int (I l5)), some (.int (I l6)), some (.int (I l7)), some (.int (I l8)), some (.int (I (l9 + 1)))] dX10_guess_132 rfl rfl ?_
        refine t_goto (pc := 135) 89 dX10_guess_135 rfl ?_
        exact id
theorem qX10_look_0 {sc : Nat × (Nat → Int32)} {SH : List mCell} {S : mStore} {r : mR × mW} (h0 : sGP SH) {l1 : Int} {l2 : Int} {l3 : Int} {l4 : Int} {u5 : Option Value} {u6 : Option Value} {u7 : Option Value} {u8 : Option Value} {u9 : Option Value} {u10 : Option Value} : (((∃ v101 S102, G sc MX10_placeOf 0 [some (.ref 0), some (.int (I l1)), some (.int (I l2)), none] [] SH S (rI v101 SH S102) ∧ ((∃ S103, G sc MX10_mustBeCell 0 [some (.int (I l3))] [] SH S102 (rV SH S103) ∧ (if I l4 = I 0 then ((∃ S104, G sc MX10_mustBe 0 [some (.int (I 1))] [] SH S103 (rV SH S104) ∧ (∃ v105 S106, G sc MX7_cellsAt 0 [some (.ref 17), some (.int (I v101)), none] [] SH S104 (rI v105 SH S106) ∧ (∃ v107 S108, G sc MX10_cellOf 0 [some (.int (I v105)), some (.int (I l3))] [] SH S106 (rI v107 SH S108) ∧ (∃ S109, G sc MJ7_fill_d0a16 0 [some (.ref 89), some (.long 0), none, none, none] [] SH S108 (rV SH S109) ∧ G sc MX10_look 60 [some (.ref 0), some (.int (I l1)), some (.int (I l2)), some (.int (I l3)), some (.int (I l4)), some (.int (I v101)), some (.int (I v107)), some (.int (I 0)), u8, u9, u10] [] SH S109 r)))) ∨ (∃ e SH1 S1, G sc MX10_mustBe 0 [some (.int (I 1))] [] SH S103 (rX e SH1 S1) ∧ r = rX e SH1 S1)) else (if I l4 = I 1 then ((∃ S116, G sc MX10_mustBe 0 [some (.int (I 1))] [] SH S103 (rV SH S116) ∧ (∃ v117 S118, G sc MX7_cellsAt 0 [some (.ref 17), some (.int (I v101)), none] [] SH S116 (rI v117 SH S118) ∧ (∃ v119 S120, G sc MX10_cellOf 0 [some (.int (I v117)), some (.int (I l3))] [] SH S118 (rI v119 SH S120) ∧ (∃ S121, G sc MJ7_fill_d0a16 0 [some (.ref 89), some (.long 0), none, none, none] [] SH S120 (rV SH S121) ∧ G sc MX10_look 60 [some (.ref 0), some (.int (I l1)), some (.int (I l2)), some (.int (I l3)), some (.int (I l4)), some (.int (I v101)), some (.int (I v119)), some (.int (I 0)), u8, u9, u10] [] SH S121 r)))) ∨ (∃ e SH1 S1, G sc MX10_mustBe 0 [some (.int (I 1))] [] SH S103 (rX e SH1 S1) ∧ r = rX e SH1 S1)) else ((∃ S110, G sc MX10_mustBe 0 [some (.int (I 0))] [] SH S103 (rV SH S110) ∧ (∃ v111 S112, G sc MX7_cellsAt 0 [some (.ref 17), some (.int (I v101)), none] [] SH S110 (rI v111 SH S112) ∧ (∃ v113 S114, G sc MX10_cellOf 0 [some (.int (I v111)), some (.int (I l3))] [] SH S112 (rI v113 SH S114) ∧ (∃ S115, G sc MJ7_fill_d0a16 0 [some (.ref 89), some (.long 0), none, none, none] [] SH S114 (rV SH S115) ∧ G sc MX10_look 60 [some (.ref 0), some (.int (I l1)), some (.int (I l2)), some (.int (I l3)), some (.int (I l4)), some (.int (I v101)), some (.int (I v113)), some (.int (I 0)), u8, u9, u10] [] SH S115 r)))) ∨ (∃ e SH1 S1, G sc MX10_mustBe 0 [some (.int (I 0))] [] SH S103 (rX e SH1 S1) ∧ r = rX e SH1 S1))))) ∨ (∃ e SH1 S1, G sc MX10_mustBeCell 0 [some (.int (I l3))] [] SH S102 (rX e SH1 S1) ∧ r = rX e SH1 S1))) ∨ (∃ e SH1 S1, G sc MX10_placeOf 0 [some (.ref 0), some (.int (I l1)), some (.int (I l2)), none] [] SH S (rX e SH1 S1) ∧ r = rX e SH1 S1))) → G sc MX10_look 0 [some (.ref 0), some (.int (I l1)), some (.int (I l2)), some (.int (I l3)), some (.int (I l4)), u5, u6, u7, u8, u9, u10] [] SH S r := by
  refine t_ld (pc := 0) dX10_look_0 rfl rfl rfl rfl rfl ?_
  refine t_ld (pc := 1) dX10_look_1 rfl rfl rfl rfl rfl ?_
  refine t_ld (pc := 2) dX10_look_2 rfl rfl rfl rfl rfl ?_
  refine t_vcI (pc := 3) dX10_look_3 rfl rfl [] rfl rfl ⟨rfl, by decide, Nat.le_of_ble_eq_true rfl⟩ h0.1 rfl fun v101 S102 => ?_
  refine t_st (pc := 6) [some (.ref 0), some (.int (I l1)), some (.int (I l2)), some (.int (I l3)), some (.int (I l4)), some (.int (I v101)), u6, u7, u8, u9, u10] dX10_look_6 rfl rfl rfl rfl rfl rfl ?_
  refine t_ld (pc := 8) dX10_look_8 rfl rfl rfl rfl rfl ?_
  refine t_scV (pc := 9) dX10_look_9 rfl [] rfl rfl ⟨rfl, by decide, Nat.le_of_ble_eq_true rfl⟩ rfl fun S103 => ?_
  refine t_ld (pc := 12) dX10_look_12 rfl rfl rfl rfl rfl ?_
  refine t_if_eq (pc := 14) 23 dX10_look_14 rfl ?_ ?_
  · refine t_iconst (pc := 23) dX10_look_23 ?_
    refine t_goto (pc := 24) 28 dX10_look_24 rfl ?_
    refine t_scV (pc := 28) dX10_look_28 rfl [] rfl rfl ⟨rfl, by decide, Nat.le_of_ble_eq_true rfl⟩ rfl fun S104 => ?_
    refine t_ld (pc := 31) dX10_look_31 rfl rfl rfl rfl rfl ?_
    refine t_getR (pc := 32) dX10_look_32 rfl h0.1 rfl ?_
    refine t_getR (pc := 35) dX10_look_35 rfl h0.2.2.2.1.1 rfl ?_
    refine t_ld (pc := 38) dX10_look_38 rfl rfl rfl rfl rfl ?_
    refine t_vcIN (pc := 40) dX10_look_40 rfl rfl [] rfl rfl ⟨rfl, by decide, Nat.le_of_ble_eq_true rfl⟩ h0.2.2.2.1.2.2.2.2.1.1 fun v105 S106 => ?_
    refine t_ld (pc := 43) dX10_look_43 rfl rfl rfl rfl rfl ?_
    refine t_scIN (pc := 44) dX10_look_44 rfl [] rfl rfl ⟨rfl, by decide, Nat.le_of_ble_eq_true rfl⟩ fun v107 S108 => ?_
    refine t_st (pc := 47) [some (.ref 0), some (.int (I l1)), some (.int (I l2)), some (.int (I l3)), some (.int (I l4)), some (.int (I v101)), some (.int (I v107)), u7, u8, u9, u10] dX10_look_47 rfl rfl rfl rfl rfl rfl ?_
    refine t_ld (pc := 49) dX10_look_49 rfl rfl rfl rfl rfl ?_
    refine t_getR (pc := 50) dX10_look_50 rfl h0.1 rfl ?_
    refine t_pushv (pc := 53) (.long 0) dX10_look_53 rfl rfl ?_
    refine t_scVN (pc := 54) dX10_look_54 rfl [] rfl rfl ⟨rfl, by decide, Nat.le_of_ble_eq_true rfl⟩ fun S109 => ?_
    refine t_iconst (pc := 57) dX10_look_57 ?_
    refine t_st (pc := 58) [some (.ref 0), some (.int (I l1)), some (.int (I l2)), some (.int (I l3)), some (.int (I l4)), some (.int (I v101)), some (.int (I v107)), some (.int (I 0)), u8, u9, u10] dX10_look_58 rfl rfl rfl rfl rfl rfl ?_
    exact id
  · refine t_ld (pc := 17) dX10_look_17 rfl rfl rfl rfl rfl ?_
    refine t_iconst (pc := 19) dX10_look_19 ?_
    refine t_ic_ne (pc := 20) 27 dX10_look_20 rfl ?_ ?_
    · refine t_iconst (pc := 27) dX10_look_27 ?_
      refine t_scV (pc := 28) dX10_look_28 rfl [] rfl rfl ⟨rfl, by decide, Nat.le_of_ble_eq_true rfl⟩ rfl fun S110 => ?_
      refine t_ld (pc := 31) dX10_look_31 rfl rfl rfl rfl rfl ?_
      refine t_getR (pc := 32) dX10_look_32 rfl h0.1 rfl ?_
      refine t_getR (pc := 35) dX10_look_35 rfl h0.2.2.2.1.1 rfl ?_
      refine t_ld (pc := 38) dX10_look_38 rfl rfl rfl rfl rfl ?_
      refine t_vcIN (pc := 40) dX10_look_40 rfl rfl [] rfl rfl ⟨rfl, by decide, Nat.le_of_ble_eq_true rfl⟩ h0.2.2.2.1.2.2.2.2.1.1 fun v111 S112 => ?_
      refine t_ld (pc := 43) dX10_look_43 rfl rfl rfl rfl rfl ?_
      refine t_scIN (pc := 44) dX10_look_44 rfl [] rfl rfl ⟨rfl, by decide, Nat.le_of_ble_eq_true rfl⟩ fun v113 S114 => ?_
      refine t_st (pc := 47) [some (.ref 0), some (.int (I l1)), some (.int (I l2)), some (.int (I l3)), some (.int (I l4)), some (.int (I v101)), some (.int (I v113)), u7, u8, u9, u10] dX10_look_47 rfl rfl rfl rfl rfl rfl ?_
      refine t_ld (pc := 49) dX10_look_49 rfl rfl rfl rfl rfl ?_
      refine t_getR (pc := 50) dX10_look_50 rfl h0.1 rfl ?_
      refine t_pushv (pc := 53) (.long 0) dX10_look_53 rfl rfl ?_
      refine t_scVN (pc := 54) dX10_look_54 rfl [] rfl rfl ⟨rfl, by decide, Nat.le_of_ble_eq_true rfl⟩ fun S115 => ?_
      refine t_iconst (pc := 57) dX10_look_57 ?_
      refine t_st (pc := 58) [some (.ref 0), some (.int (I l1)), some (.int (I l2)), some (.int (I l3)), some (.int (I l4)), some (.int (I v101)), some (.int (I v113)), some (.int (I 0)), u8, u9, u10] dX10_look_58 rfl rfl rfl rfl rfl rfl ?_
      exact id
    · refine t_iconst (pc := 23) dX10_look_23 ?_
      refine t_goto (pc := 24) 28 dX10_look_24 rfl ?_
      refine t_scV (pc := 28) dX10_look_28 rfl [] rfl rfl ⟨rfl, by decide, Nat.le_of_ble_eq_true rfl⟩ rfl fun S116 => ?_
      refine t_ld (pc := 31) dX10_look_31 rfl rfl rfl rfl rfl ?_
      refine t_getR (pc := 32) dX10_look_32 rfl h0.1 rfl ?_
      refine t_getR (pc := 35) dX10_look_35 rfl h0.2.2.2.1.1 rfl ?_
      refine t_ld (pc := 38) dX10_look_38 rfl rfl rfl rfl rfl ?_
      refine t_vcIN (pc := 40) dX10_look_40 rfl rfl [] rfl rfl ⟨rfl, by decide, Nat.le_of_ble_eq_true rfl⟩ h0.2.2.2.1.2.2.2.2.1.1 fun v117 S118 => ?_
      refine t_ld (pc := 43) dX10_look_43 rfl rfl rfl rfl rfl ?_
      refine t_scIN (pc := 44) dX10_look_44 rfl [] rfl rfl ⟨rfl, by decide, Nat.le_of_ble_eq_true rfl⟩ fun v119 S120 => ?_
      refine t_st (pc := 47) [some (.ref 0), some (.int (I l1)), some (.int (I l2)), some (.int (I l3)), some (.int (I l4)), some (.int (I v101)), some (.int (I v119)), u7, u8, u9, u10] dX10_look_47 rfl rfl rfl rfl rfl rfl ?_
      refine t_ld (pc := 49) dX10_look_49 rfl rfl rfl rfl rfl ?_
      refine t_getR (pc := 50) dX10_look_50 rfl h0.1 rfl ?_
      refine t_pushv (pc := 53) (.long 0) dX10_look_53 rfl rfl ?_
      refine t_scVN (pc := 54) dX10_look_54 rfl [] rfl rfl ⟨rfl, by decide, Nat.le_of_ble_eq_true rfl⟩ fun S121 => ?_
      refine t_iconst (pc := 57) dX10_look_57 ?_
      refine t_st (pc := 58) [some (.ref 0), some (.int (I l1)), some (.int (I l2)), some (.int (I l3)), some (.int (I l4)), some (.int (I v101)), some (.int (I v119)), some (.int (I 0)), u8, u9, u10] dX10_look_58 rfl rfl rfl rfl rfl rfl ?_
      exact id
theorem qX10_look_60 {sc : Nat × (Nat → Int32)} {SH : List mCell} {S : mStore} {r : mR × mW} (h0 : sGP SH) {l1 : Int} {l2 : Int} {l3 : Int} {l4 : Int} {l5 : Int} {l6 : Int} {l7 : Int} {u8 : Option Value} {u9 : Option Value} {u10 : Option Value} : ((if I 15 < I l7 then G sc MX10_look 138 [some (.ref 0), some (.int (I l1)), some (.int (I l2)), some (.int (I l3)), some (.int (I l4)), some (.int (I l5)), some (.int (I l6)), some (.int (I (-1))), some (.int (I 0)), some (.int (I 1)), u10] [] SH S r else (if I l7 = I l6 then G sc MX10_look 60 [some (.ref 0), some (.int (I l1)), some (.int (I l2)), some (.int (I l3)), some (.int (I l4)), some (.int (I l5)), some (.int (I l6)), some (.int (I (l7 + 1))), u8, u9, u10] [] SH S r else (∃ v101 S102, G sc MX10_fits 0 [some (.ref 0), some (.int (I l5)), some (.int (I l3)), some (.int (I l7)), some (.int (I 20)), none] [] SH S (rI v101 SH S102) ∧ (if I v101 = I 0 then G sc MX10_look 60 [some (.ref 0), some (.int (I l1)), some (.int (I l2)), some (.int (I l3)), some (.int (I l4)), some (.int (I l5)), some (.int (I l6)), some (.int (I (l7 + 1))), u8, u9, u10] [] SH S102 r else G sc MX10_look 91 [some (.ref 0), some (.int (I l1)), some (.int (I l2)), some (.int (I l3)), some (.int (I l4)), some (.int (I l5)), some (.int (I l6)), some (.int (I l7)), some (.int (I 1)), u9, u10] [] SH S102 r))))) → G sc MX10_look 60 [some (.ref 0), some (.int (I l1)), some (.int (I l2)), some (.int (I l3)), some (.int (I l4)), some (.int (I l5)), some (.int (I l6)), some (.int (I l7)), u8, u9, u10] [] SH S r := by
  refine t_ld (pc := 60) dX10_look_60 rfl rfl rfl rfl rfl ?_
  refine t_bipush (pc := 62) dX10_look_62 (by decide) ?_
  refine t_ic_gt (pc := 64) 129 dX10_look_64 rfl ?_ ?_
  · refine t_iconst (pc := 129) dX10_look_129 ?_
    refine t_st (pc := 130) [some (.ref 0), some (.int (I l1)), some (.int (I l2)), some (.int (I l3)), some (.int (I l4)), some (.int (I l5)), some (.int (I l6)), some (.int (I (-1))), u8, u9, u10] dX10_look_130 rfl rfl rfl rfl rfl rfl ?_
    refine t_iconst (pc := 132) dX10_look_132 ?_
    refine t_st (pc := 133) [some (.ref 0), some (.int (I l1)), some (.int (I l2)), some (.int (I l3)), some (.int (I l4)), some (.int (I l5)), some (.int (I l6)), some (.int (I (-1))), some (.int (I 0)), u9, u10] dX10_look_133 rfl rfl rfl rfl rfl rfl ?_
    refine t_iconst (pc := 135) dX10_look_135 ?_
    refine t_st (pc := 136) [some (.ref 0), some (.int (I l1)), some (.int (I l2)), some (.int (I l3)), some (.int (I l4)), some (.int (I l5)), some (.int (I l6)), some (.int (I (-1))), some (.int (I 0)), some (.int (I 1)), u10] dX10_look_136 rfl rfl rfl rfl rfl rfl ?_
    exact id
  · refine t_ld (pc := 67) dX10_look_67 rfl rfl rfl rfl rfl ?_
    refine t_ld (pc := 69) dX10_look_69 rfl rfl rfl rfl rfl ?_
    refine t_ic_eq (pc := 71) 123 dX10_look_71 rfl ?_ ?_
    · refine t_iinc (pc := 123) [some (.ref 0), some (.int (I l1)), some (.int (I l2)), some (.int (I l3)), some (.int (I l4)), some (.int (I l5)), some (.int (I l6)), some (.int (I (l7 + 1))), u8, u9, u10] dX10_look_123 rfl rfl ?_
      refine t_goto (pc := 126) 60 dX10_look_126 rfl ?_
      exact id
    · refine t_ld (pc := 74) dX10_look_74 rfl rfl rfl rfl rfl ?_
      refine t_ld (pc := 75) dX10_look_75 rfl rfl rfl rfl rfl ?_
      refine t_ld (pc := 77) dX10_look_77 rfl rfl rfl rfl rfl ?_
      refine t_ld (pc := 78) dX10_look_78 rfl rfl rfl rfl rfl ?_
      refine t_bipush (pc := 80) dX10_look_80 (by decide) ?_
      refine t_vcIN (pc := 82) dX10_look_82 rfl rfl [] rfl rfl ⟨rfl, by decide, Nat.le_of_ble_eq_true rfl⟩ h0.1 fun v101 S102 => ?_
      refine t_if_eq (pc := 85) 123 dX10_look_85 rfl ?_ ?_
      · refine t_iinc (pc := 123) [some (.ref 0), some (.int (I l1)), some (.int (I l2)), some (.int (I l3)), some (.int (I l4)), some (.int (I l5)), some (.int (I l6)), some (.int (I (l7 + 1))), u8, u9, u10] dX10_look_123 rfl rfl ?_
        refine t_goto (pc := 126) 60 dX10_look_126 rfl ?_
        exact id
      · refine t_iconst (pc := 88) dX10_look_88 ?_
        refine t_st (pc := 89) [some (.ref 0), some (.int (I l1)), some (.int (I l2)), some (.int (I l3)), some (.int (I l4)), some (.int (I l5)), some (.int (I l6)), some (.int (I l7)), some (.int (I 1)), u9, u10] dX10_look_89 rfl rfl rfl rfl rfl rfl ?_
        exact id
theorem qX10_look_91 {sc : Nat × (Nat → Int32)} {SH : List mCell} {S : mStore} {r : mR × mW} (h0 : sGP SH) {l1 : Int} {l2 : Int} {l3 : Int} {l4 : Int} {l5 : Int} {l6 : Int} {l7 : Int} {l8 : Int} {u9 : Option Value} {u10 : Option Value} : ((if I 20 < I l8 then G sc MX10_look 60 [some (.ref 0), some (.int (I l1)), some (.int (I l2)), some (.int (I l3)), some (.int (I l4)), some (.int (I l5)), some (.int (I l6)), some (.int (I (l7 + 1))), some (.int (I l8)), u9, u10] [] SH S r else ((0 ≤ l8 ∧ l8 < 21) ∧ ((0 ≤ l8 ∧ l8 < 21) ∧ ((0 ≤ l8 ∧ l8 < 21) ∧ G sc MX10_look 91 [some (.ref 0), some (.int (I l1)), some (.int (I l2)), some (.int (I l3)), some (.int (I l4)), some (.int (I l5)), some (.int (I l6)), some (.int (I l7)), some (.int (I (l8 + 1))), u9, u10] [] SH (up S 89 l8 ((Int64.ofInt (S 89 l8)) ||| (jsl 1 (S 88 l8))).toInt) r))))) → G sc MX10_look 91 [some (.ref 0), some (.int (I l1)), some (.int (I l2)), some (.int (I l3)), some (.int (I l4)), some (.int (I l5)), some (.int (I l6)), some (.int (I l7)), some (.int (I l8)), u9, u10] [] SH S r := by
  refine t_ld (pc := 91) dX10_look_91 rfl rfl rfl rfl rfl ?_
  refine t_bipush (pc := 93) dX10_look_93 (by decide) ?_
  refine t_ic_gt (pc := 95) 123 dX10_look_95 rfl ?_ ?_
  · refine t_iinc (pc := 123) [some (.ref 0), some (.int (I l1)), some (.int (I l2)), some (.int (I l3)), some (.int (I l4)), some (.int (I l5)), some (.int (I l6)), some (.int (I (l7 + 1))), some (.int (I l8)), u9, u10] dX10_look_123 rfl rfl ?_
    refine t_goto (pc := 126) 60 dX10_look_126 rfl ?_
    exact id
  · refine t_ld (pc := 98) dX10_look_98 rfl rfl rfl rfl rfl ?_
    refine t_getR (pc := 99) dX10_look_99 rfl h0.1 rfl ?_
    refine t_ld (pc := 102) dX10_look_102 rfl rfl rfl rfl rfl ?_
    refine t_dup2 (pc := 104) dX10_look_104 rfl rfl ?_
    refine t_laload (pc := 105) dX10_look_105 h0.2.2.2.2.2.2.2.2.2.2 ?_
    refine t_pushv (pc := 106) (.long 1) dX10_look_106 rfl rfl ?_
    refine t_ld (pc := 107) dX10_look_107 rfl rfl rfl rfl rfl ?_
    refine t_getR (pc := 108) dX10_look_108 rfl h0.1 rfl ?_
    refine t_ld (pc := 111) dX10_look_111 rfl rfl rfl rfl rfl ?_
    refine t_iaload (pc := 113) dX10_look_113 h0.2.2.2.2.2.2.2.2.2.1 ?_
    refine t_lshl (pc := 114) dX10_look_114 ?_
    refine t_lor (pc := 115) dX10_look_115 ?_
    refine t_lastore (pc := 116) dX10_look_116 h0.2.2.2.2.2.2.2.2.2.2 ?_
    refine t_iinc (pc := 117) [some (.ref 0), some (.int (I l1)), some (.int (I l2)), some (.int (I l3)), some (.int (I l4)), some (.int (I l5)), some (.int (I l6)), some (.int (I l7)), some (.int (I (l8 + 1))), u9, u10] dX10_look_117 rfl rfl ?_
    refine t_goto (pc := 120) 91 dX10_look_120 rfl ?_
    exact id
theorem qX10_look_138 {sc : Nat × (Nat → Int32)} {SH : List mCell} {S : mStore} {r : mR × mW} (h0 : sGP SH) {l1 : Int} {l2 : Int} {l3 : Int} {l4 : Int} {l5 : Int} {l6 : Int} {l7 : Int} {l8 : Int} {l9 : Int} {u10 : Option Value} : ((if I 20 < I l9 then (if I l4 = I 0 then r = rI l7 SH S else r = rI l8 SH S) else ((0 ≤ l9 ∧ l9 < 21) ∧ (∃ v101 S102, G sc MJ13_bitCount_95d88 0 [some (.long (Int64.ofInt (S 89 l9))), none] [] SH S (rI v101 SH S102) ∧ (if I v101 ≤ I l8 then G sc MX10_look 138 [some (.ref 0), some (.int (I l1)), some (.int (I l2)), some (.int (I l3)), some (.int (I l4)), some (.int (I l5)), some (.int (I l6)), some (.int (I l7)), some (.int (I l8)), some (.int (I (l9 + 1))), some (.int (I v101))] [] SH S102 r else G sc MX10_look 138 [some (.ref 0), some (.int (I l1)), some (.int (I l2)), some (.int (I l3)), some (.int (I l4)), some (.int (I l5)), some (.int (I l6)), some (.int (I l9)), some (.int (I v101)), some (.int (I (l9 + 1))), some (.int (I v101))] [] SH S102 r))))) → G sc MX10_look 138 [some (.ref 0), some (.int (I l1)), some (.int (I l2)), some (.int (I l3)), some (.int (I l4)), some (.int (I l5)), some (.int (I l6)), some (.int (I l7)), some (.int (I l8)), some (.int (I l9)), u10] [] SH S r := by
  refine t_ld (pc := 138) dX10_look_138 rfl rfl rfl rfl rfl ?_
  refine t_bipush (pc := 140) dX10_look_140 (by decide) ?_
  refine t_ic_gt (pc := 142) 178 dX10_look_142 rfl ?_ ?_
  · refine t_ld (pc := 178) dX10_look_178 rfl rfl rfl rfl rfl ?_
    refine t_if_ne (pc := 180) 188 dX10_look_180 rfl ?_ ?_
    · refine t_ld (pc := 188) dX10_look_188 rfl rfl rfl rfl rfl ?_
      exact t_iret (pc := 190) dX10_look_190 rfl
    · refine t_ld (pc := 183) dX10_look_183 rfl rfl rfl rfl rfl ?_
      refine t_goto (pc := 185) 190 dX10_look_185 rfl ?_
      exact t_iret (pc := 190) dX10_look_190 rfl
  · refine t_ld (pc := 145) dX10_look_145 rfl rfl rfl rfl rfl ?_
    refine t_getR (pc := 146) dX10_look_146 rfl h0.1 rfl ?_
    refine t_ld (pc := 149) dX10_look_149 rfl rfl rfl rfl rfl ?_
    refine t_laload (pc := 151) dX10_look_151 h0.2.2.2.2.2.2.2.2.2.2 ?_
    refine t_scIN (pc := 152) dX10_look_152 rfl [] rfl rfl ⟨rfl, by decide, Nat.le_of_ble_eq_true rfl⟩ fun v101 S102 => ?_
    refine t_st (pc := 155) [some (.ref 0), some (.int (I l1)), some (.int (I l2)), some (.int (I l3)), some (.int (I l4)), some (.int (I l5)), some (.int (I l6)), some (.int (I l7)), some (.int (I l8)), some (.int (I l9)), some (.int (I v101))] dX10_look_155 rfl rfl rfl rfl rfl rfl ?_
    refine t_ld (pc := 157) dX10_look_157 rfl rfl rfl rfl rfl ?_
    refine t_ld (pc := 159) dX10_look_159 rfl rfl rfl rfl rfl ?_
    refine t_ic_le (pc := 161) 172 dX10_look_161 rfl ?_ ?_
    · refine t_iinc (pc := 172) [some (.ref 0), some (.int (I l1)), some (.int (I l2)), some (.int (I l3)), some (.int (I l4)), some (.int (I l5)), some (.int (I l6)), some (.int (I l7)), some (.int (I l8)), some (.int (I (l9 + 1))), some (.int (I v101))] dX10_look_172 rfl rfl ?_
      refine t_goto (pc := 175) 138 dX10_look_175 rfl ?_
      exact id
    · refine t_ld (pc := 164) dX10_look_164 rfl rfl rfl rfl rfl ?_
      refine t_st (pc := 166) [some (.ref 0), some (.int (I l1)), some (.int (I l2)), some (.int (I l3)), some (.int (I l4)), some (.int (I l5)), some (.int (I l6)), some (.int (I l9)), some (.int (I l8)), some (.int (I l9)), some (.int (I v101))] dX10_look_166 rfl rfl rfl rfl rfl rfl ?_
      refine t_ld (pc := 168) dX10_look_168 rfl rfl rfl rfl rfl ?_
      refine t_st (pc := 170) [some (.ref 0), some (.int (I l1)), some (.int (I l2)), some (.int (I l3)), some (.int (I l4)), some (.int (I l5)), some (.int (I l6)), some (.int (I l9)), some (.int (I v101)), some (.int (I l9)), some (.int (I v101))] dX10_look_170 rfl rfl rfl rfl rfl rfl ?_
      refine t_iinc (pc := 172) [some (.ref 0), some (.int (I l1)), some (.int (I l2)), some (.int (I l3)), some (.int (I l4)), some (.int (I l5)), some (.int (I l6)), some (.int (I l9)), some (.int (I v101)), some (.int (I (l9 + 1))), some (.int (I v101))] dX10_look_172 rfl rfl ?_
      refine t_goto (pc := 175) 138 dX10_look_175 rfl ?_
      exact id
theorem qX10_forget_0 {sc : Nat × (Nat → Int32)} {SH : List mCell} {S : mStore} {r : mR × mW} (h0 : sGP SH) : (r = rV SH (up S 13 5 0)) → G sc MX10_forget 0 [some (.ref 0)] [] SH S r := by
  refine t_ld (pc := 0) dX10_forget_0 rfl rfl rfl rfl rfl ?_
  refine t_getR (pc := 1) dX10_forget_1 rfl h0.1 rfl ?_
  refine t_iconst (pc := 4) dX10_forget_4 ?_
  refine t_putI (pc := 5) dX10_forget_5 rfl rfl (Or.inl rfl) h0.2.2.2.1.1 rfl ?_
  exact t_ret (pc := 8) dX10_forget_8 rfl
theorem qX10_dirt_0 {sc : Nat × (Nat → Int32)} {SH : List mCell} {S : mStore} {r : mR × mW} (h0 : sGP SH) {l1 : Int} {l2 : Int} {l3 : Int} {l4 : Int} {l5 : Int} {u6 : Option Value} {u7 : Option Value} {u8 : Option Value} {u9 : Option Value} {u10 : Option Value} : (((∃ v101 S102, G sc MX10_placeOf 0 [some (.ref 0), some (.int (I l1)), some (.int (I l2)), none] [] SH S (rI v101 SH S102) ∧ (if I l3 < I 1 then ((∃ S103, G sc MX10_mustFit 0 [some (.int (I 0))] [] SH S102 (rV SH S103) ∧ G sc MX10_dirt 44 [some (.ref 0), some (.int (I l1)), some (.int (I l2)), some (.int (I l3)), some (.int (I l4)), some (.int (I l5)), some (.int (I v101)), some (.int (I 0)), some (.int (I 0)), u9, u10] [] SH S103 r) ∨ (∃ e SH1 S1, G sc MX10_mustFit 0 [some (.int (I 0))] [] SH S102 (rX e SH1 S1) ∧ r = rX e SH1 S1)) else (if I 4 < I l3 then ((∃ S104, G sc MX10_mustFit 0 [some (.int (I 0))] [] SH S102 (rV SH S104) ∧ G sc MX10_dirt 44 [some (.ref 0), some (.int (I l1)), some (.int (I l2)), some (.int (I l3)), some (.int (I l4)), some (.int (I l5)), some (.int (I v101)), some (.int (I 0)), some (.int (I 0)), u9, u10] [] SH S104 r) ∨ (∃ e SH1 S1, G sc MX10_mustFit 0 [some (.int (I 0))] [] SH S102 (rX e SH1 S1) ∧ r = rX e SH1 S1)) else (if I l4 < I 0 then ((∃ S105, G sc MX10_mustFit 0 [some (.int (I 0))] [] SH S102 (rV SH S105) ∧ G sc MX10_dirt 44 [some (.ref 0), some (.int (I l1)), some (.int (I l2)), some (.int (I l3)), some (.int (I l4)), some (.int (I l5)), some (.int (I v101)), some (.int (I 0)), some (.int (I 0)), u9, u10] [] SH S105 r) ∨ (∃ e SH1 S1, G sc MX10_mustFit 0 [some (.int (I 0))] [] SH S102 (rX e SH1 S1) ∧ r = rX e SH1 S1)) else (if I 10 < I l4 then ((∃ S106, G sc MX10_mustFit 0 [some (.int (I 0))] [] SH S102 (rV SH S106) ∧ G sc MX10_dirt 44 [some (.ref 0), some (.int (I l1)), some (.int (I l2)), some (.int (I l3)), some (.int (I l4)), some (.int (I l5)), some (.int (I v101)), some (.int (I 0)), some (.int (I 0)), u9, u10] [] SH S106 r) ∨ (∃ e SH1 S1, G sc MX10_mustFit 0 [some (.int (I 0))] [] SH S102 (rX e SH1 S1) ∧ r = rX e SH1 S1)) else ((∃ S107, G sc MX10_mustFit 0 [some (.int (I 1))] [] SH S102 (rV SH S107) ∧ G sc MX10_dirt 44 [some (.ref 0), some (.int (I l1)), some (.int (I l2)), some (.int (I l3)), some (.int (I l4)), some (.int (I l5)), some (.int (I v101)), some (.int (I 0)), some (.int (I 0)), u9, u10] [] SH S107 r) ∨ (∃ e SH1 S1, G sc MX10_mustFit 0 [some (.int (I 1))] [] SH S102 (rX e SH1 S1) ∧ r = rX e SH1 S1))))))) ∨ (∃ e SH1 S1, G sc MX10_placeOf 0 [some (.ref 0), some (.int (I l1)), some (.int (I l2)), none] [] SH S (rX e SH1 S1) ∧ r = rX e SH1 S1))) → G sc MX10_dirt 0 [some (.ref 0), some (.int (I l1)), some (.int (I l2)), some (.int (I l3)), some (.int (I l4)), some (.int (I l5)), u6, u7, u8, u9, u10] [] SH S r := by
  refine t_ld (pc := 0) dX10_dirt_0 rfl rfl rfl rfl rfl ?_
  refine t_ld (pc := 1) dX10_dirt_1 rfl rfl rfl rfl rfl ?_
  refine t_ld (pc := 2) dX10_dirt_2 rfl rfl rfl rfl rfl ?_
  refine t_vcI (pc := 3) dX10_dirt_3 rfl rfl [] rfl rfl ⟨rfl, by decide, Nat.le_of_ble_eq_true rfl⟩ h0.1 rfl fun v101 S102 => ?_
  refine t_st (pc := 6) [some (.ref 0), some (.int (I l1)), some (.int (I l2)), some (.int (I l3)), some (.int (I l4)), some (.int (I l5)), some (.int (I v101)), u7, u8, u9, u10] dX10_dirt_6 rfl rfl rfl rfl rfl rfl ?_
  refine t_ld (pc := 8) dX10_dirt_8 rfl rfl rfl rfl rfl ?_
  refine t_iconst (pc := 9) dX10_dirt_9 ?_
  refine t_ic_lt (pc := 10) 34 dX10_dirt_10 rfl ?_ ?_
  · refine t_iconst (pc := 34) dX10_dirt_34 ?_
    refine t_scV (pc := 35) dX10_dirt_35 rfl [] rfl rfl ⟨rfl, by decide, Nat.le_of_ble_eq_true rfl⟩ rfl fun S103 => ?_
    refine t_iconst (pc := 38) dX10_dirt_38 ?_
    refine t_st (pc := 39) [some (.ref 0), some (.int (I l1)), some (.int (I l2)), some (.int (I l3)), some (.int (I l4)), some (.int (I l5)), some (.int (I v101)), some (.int (I 0)), u8, u9, u10] dX10_dirt_39 rfl rfl rfl rfl rfl rfl ?_
    refine t_iconst (pc := 41) dX10_dirt_41 ?_
    refine t_st (pc := 42) [some (.ref 0), some (.int (I l1)), some (.int (I l2)), some (.int (I l3)), some (.int (I l4)), some (.int (I l5)), some (.int (I v101)), some (.int (I 0)), some (.int (I 0)), u9, u10] dX10_dirt_42 rfl rfl rfl rfl rfl rfl ?_
    exact id
  · refine t_ld (pc := 13) dX10_dirt_13 rfl rfl rfl rfl rfl ?_
    refine t_iconst (pc := 14) dX10_dirt_14 ?_
    refine t_ic_gt (pc := 15) 34 dX10_dirt_15 rfl ?_ ?_
    · refine t_iconst (pc := 34) dX10_dirt_34 ?_
      refine t_scV (pc := 35) dX10_dirt_35 rfl [] rfl rfl ⟨rfl, by decide, Nat.le_of_ble_eq_true rfl⟩ rfl fun S104 => ?_
      refine t_iconst (pc := 38) dX10_dirt_38 ?_
      refine t_st (pc := 39) [some (.ref 0), some (.int (I l1)), some (.int (I l2)), some (.int (I l3)), some (.int (I l4)), some (.int (I l5)), some (.int (I v101)), some (.int (I 0)), u8, u9, u10] dX10_dirt_39 rfl rfl rfl rfl rfl rfl ?_
      refine t_iconst (pc := 41) dX10_dirt_41 ?_
      refine t_st (pc := 42) [some (.ref 0), some (.int (I l1)), some (.int (I l2)), some (.int (I l3)), some (.int (I l4)), some (.int (I l5)), some (.int (I v101)), some (.int (I 0)), some (.int (I 0)), u9, u10] dX10_dirt_42 rfl rfl rfl rfl rfl rfl ?_
      exact id
    · refine t_ld (pc := 18) dX10_dirt_18 rfl rfl rfl rfl rfl ?_
      refine t_if_lt (pc := 20) 34 dX10_dirt_20 rfl ?_ ?_
      · refine t_iconst (pc := 34) dX10_dirt_34 ?_
        refine t_scV (pc := 35) dX10_dirt_35 rfl [] rfl rfl ⟨rfl, by decide, Nat.le_of_ble_eq_true rfl⟩ rfl fun S105 => ?_
        refine t_iconst (pc := 38) dX10_dirt_38 ?_
        refine t_st (pc := 39) [some (.ref 0), some (.int (I l1)), some (.int (I l2)), some (.int (I l3)), some (.int (I l4)), some (.int (I l5)), some (.int (I v101)), some (.int (I 0)), u8, u9, u10] dX10_dirt_39 rfl rfl rfl rfl rfl rfl ?_
        refine t_iconst (pc := 41) dX10_dirt_41 ?_
        refine t_st (pc := 42) [some (.ref 0), some (.int (I l1)), some (.int (I l2)), some (.int (I l3)), some (.int (I l4)), some (.int (I l5)), some (.int (I v101)), some (.int (I 0)), some (.int (I 0)), u9, u10] dX10_dirt_42 rfl rfl rfl rfl rfl rfl ?_
        exact id
      · refine t_ld (pc := 23) dX10_dirt_23 rfl rfl rfl rfl rfl ?_
        refine t_bipush (pc := 25) dX10_dirt_25 (by decide) ?_
        refine t_ic_gt (pc := 27) 34 dX10_dirt_27 rfl ?_ ?_
        · refine t_iconst (pc := 34) dX10_dirt_34 ?_
          refine t_scV (pc := 35) dX10_dirt_35 rfl [] rfl rfl ⟨rfl, by decide, Nat.le_of_ble_eq_true rfl⟩ rfl fun S106 => ?_
          refine t_iconst (pc := 38) dX10_dirt_38 ?_
          refine t_st (pc := 39) [some (.ref 0), some (.int (I l1)), some (.int (I l2)), some (.int (I l3)), some (.int (I l4)), some (.int (I l5)), some (.int (I v101)), some (.int (I 0)), u8, u9, u10] dX10_dirt_39 rfl rfl rfl rfl rfl rfl ?_
          refine t_iconst (pc := 41) dX10_dirt_41 ?_
          refine t_st (pc := 42) [some (.ref 0), some (.int (I l1)), some (.int (I l2)), some (.int (I l3)), some (.int (I l4)), some (.int (I l5)), some (.int (I v101)), some (.int (I 0)), some (.int (I 0)), u9, u10] dX10_dirt_42 rfl rfl rfl rfl rfl rfl ?_
          exact id
        · refine t_iconst (pc := 30) dX10_dirt_30 ?_
          refine t_goto (pc := 31) 35 dX10_dirt_31 rfl ?_
          refine t_scV (pc := 35) dX10_dirt_35 rfl [] rfl rfl ⟨rfl, by decide, Nat.le_of_ble_eq_true rfl⟩ rfl fun S107 => ?_
          refine t_iconst (pc := 38) dX10_dirt_38 ?_
          refine t_st (pc := 39) [some (.ref 0), some (.int (I l1)), some (.int (I l2)), some (.int (I l3)), some (.int (I l4)), some (.int (I l5)), some (.int (I v101)), some (.int (I 0)), u8, u9, u10] dX10_dirt_39 rfl rfl rfl rfl rfl rfl ?_
          refine t_iconst (pc := 41) dX10_dirt_41 ?_
          refine t_st (pc := 42) [some (.ref 0), some (.int (I l1)), some (.int (I l2)), some (.int (I l3)), some (.int (I l4)), some (.int (I l5)), some (.int (I v101)), some (.int (I 0)), some (.int (I 0)), u9, u10] dX10_dirt_42 rfl rfl rfl rfl rfl rfl ?_
          exact id
theorem qX10_dirt_44 {sc : Nat × (Nat → Int32)} {SH : List mCell} {S : mStore} {r : mR × mW} (h0 : sGP SH) {l1 : Int} {l2 : Int} {l3 : Int} {l4 : Int} {l5 : Int} {l6 : Int} {l7 : Int} {l8 : Int} {u9 : Option Value} {u10 : Option Value} : ((if I (isl 1 l3) ≤ I l8 then r = rI l7 SH S else G sc MX10_dirt 58 [some (.ref 0), some (.int (I l1)), some (.int (I l2)), some (.int (I l3)), some (.int (I l4)), some (.int (I l5)), some (.int (I l6)), some (.int (I l7)), some (.int (I l8)), some (.int (I 1)), some (.int (I 0))] [] SH S r)) → G sc MX10_dirt 44 [some (.ref 0), some (.int (I l1)), some (.int (I l2)), some (.int (I l3)), some (.int (I l4)), some (.int (I l5)), some (.int (I l6)), some (.int (I l7)), some (.int (I l8)), u9, u10] [] SH S r := by
  refine t_ld (pc := 44) dX10_dirt_44 rfl rfl rfl rfl rfl ?_
  refine t_iconst (pc := 46) dX10_dirt_46 ?_
  refine t_ld (pc := 47) dX10_dirt_47 rfl rfl rfl rfl rfl ?_
  refine t_ishl (pc := 48) dX10_dirt_48 ?_
  refine t_ic_ge (pc := 49) 128 dX10_dirt_49 rfl ?_ ?_
  · refine t_ld (pc := 128) dX10_dirt_128 rfl rfl rfl rfl rfl ?_
    exact t_iret (pc := 130) dX10_dirt_130 rfl
  · refine t_iconst (pc := 52) dX10_dirt_52 ?_
    refine t_st (pc := 53) [some (.ref 0), some (.int (I l1)), some (.int (I l2)), some (.int (I l3)), some (.int (I l4)), some (.int (I l5)), some (.int (I l6)), some (.int (I l7)), some (.int (I l8)), some (.int (I 1)), u10] dX10_dirt_53 rfl rfl rfl rfl rfl rfl ?_
    refine t_iconst (pc := 55) dX10_dirt_55 ?_
    refine t_st (pc := 56) [some (.ref 0), some (.int (I l1)), some (.int (I l2)), some (.int (I l3)), some (.int (I l4)), some (.int (I l5)), some (.int (I l6)), some (.int (I l7)), some (.int (I l8)), some (.int (I 1)), some (.int (I 0))] dX10_dirt_56 rfl rfl rfl rfl rfl rfl ?_
    exact id
theorem qX10_dirt_58 {sc : Nat × (Nat → Int32)} {SH : List mCell} {S : mStore} {r : mR × mW} (h0 : sGP SH) {l1 : Int} {l2 : Int} {l3 : Int} {l4 : Int} {l5 : Int} {l6 : Int} {l7 : Int} {l8 : Int} {l9 : Int} {l10 : Int} : ((if I l3 ≤ I l10 then (if I l9 ≤ I 0 then G sc MX10_dirt 44 [some (.ref 0), some (.int (I l1)), some (.int (I l2)), some (.int (I l3)), some (.int (I l4)), some (.int (I l5)), some (.int (I l6)), some (.int (I l7)), some (.int (I (l8 + 1))), some (.int (I l9)), some (.int (I l10))] [] SH S r else (∃ v101 S102, G sc MX10_usedBy 0 [some (.ref 0), some (.int (I l6)), some (.int (I l3)), some (.int (I l8)), none] [] SH S (rI v101 SH S102) ∧ (if I l5 < I v101 then G sc MX10_dirt 44 [some (.ref 0), some (.int (I l1)), some (.int (I l2)), some (.int (I l3)), some (.int (I l4)), some (.int (I l5)), some (.int (I l6)), some (.int (I l7)), some (.int (I (l8 + 1))), some (.int (I l9)), some (.int (I l10))] [] SH S102 r else G sc MX10_dirt 44 [some (.ref 0), some (.int (I l1)), some (.int (I l2)), some (.int (I l3)), some (.int (I l4)), some (.int (I l5)), some (.int (I l6)), some (.int (I (l7 + l9))), some (.int (I (l8 + 1))), some (.int (I l9)), some (.int (I l10))] [] SH S102 r))) else (if I (ian (isr l8 l10) 1) = I 1 then G sc MX10_dirt 58 [some (.ref 0), some (.int (I l1)), some (.int (I l2)), some (.int (I l3)), some (.int (I l4)), some (.int (I l5)), some (.int (I l6)), some (.int (I l7)), some (.int (I l8)), some (.int (I (l9 * l4))), some (.int (I (l10 + 1)))] [] SH S r else G sc MX10_dirt 58 [some (.ref 0), some (.int (I l1)), some (.int (I l2)), some (.int (I l3)), some (.int (I l4)), some (.int (I l5)), some (.int (I l6)), some (.int (I l7)), some (.int (I l8)), some (.int (I (l9 * (10 - l4)))), some (.int (I (l10 + 1)))] [] SH S r))) → G sc MX10_dirt 58 [some (.ref 0), some (.int (I l1)), some (.int (I l2)), some (.int (I l3)), some (.int (I l4)), some (.int (I l5)), some (.int (I l6)), some (.int (I l7)), some (.int (I l8)), some (.int (I l9)), some (.int (I l10))] [] SH S r := by
  refine t_ld (pc := 58) dX10_dirt_58 rfl rfl rfl rfl rfl ?_
  refine t_ld (pc := 60) dX10_dirt_60 rfl rfl rfl rfl rfl ?_
  refine t_ic_ge (pc := 61) 96 dX10_dirt_61 rfl ?_ ?_
  · refine t_ld (pc := 96) dX10_dirt_96 rfl rfl rfl rfl rfl ?_
    refine t_if_le (pc := 98) 122 dX10_dirt_98 rfl ?_ ?_
    · refine t_iinc (pc := 122) [some (.ref 0), some (.int (I l1)), some (.int (I l2)), some (.int (I l3)), some (.int (I l4)), some (.int (I l5)), some (.int (I l6)), some (.int (I l7)), some (.int (I (l8 + 1))), some (.int (I l9)), some (.int (I l10))] dX10_dirt_122 rfl rfl ?_
      refine t_goto (pc := 125) 44 dX10_dirt_125 rfl ?_
      exact id
    · refine t_ld (pc := 101) dX10_dirt_101 rfl rfl rfl rfl rfl ?_
      refine t_ld (pc := 102) dX10_dirt_102 rfl rfl rfl rfl rfl ?_
      refine t_ld (pc := 104) dX10_dirt_104 rfl rfl rfl rfl rfl ?_
      refine t_ld (pc := 105) dX10_dirt_105 rfl rfl rfl rfl rfl ?_
      refine t_vcIN (pc := 107) dX10_dirt_107 rfl rfl [] rfl rfl ⟨rfl, by decide, Nat.le_of_ble_eq_true rfl⟩ h0.1 fun v101 S102 => ?_
      refine t_ld (pc := 110) dX10_dirt_110 rfl rfl rfl rfl rfl ?_
      refine t_ic_gt (pc := 112) 122 dX10_dirt_112 rfl ?_ ?_
      · refine t_iinc (pc := 122) [some (.ref 0), some (.int (I l1)), some (.int (I l2)), some (.int (I l3)), some (.int (I l4)), some (.int (I l5)), some (.int (I l6)), some (.int (I l7)), some (.int (I (l8 + 1))), some (.int (I l9)), some (.int (I l10))] dX10_dirt_122 rfl rfl ?_
        refine t_goto (pc := 125) 44 dX10_dirt_125 rfl ?_
        exact id
      · refine t_ld (pc := 115) dX10_dirt_115 rfl rfl rfl rfl rfl ?_
        refine t_ld (pc := 117) dX10_dirt_117 rfl rfl rfl rfl rfl ?_
        refine t_iadd (pc := 119) dX10_dirt_119 ?_
        refine t_st (pc := 120) [some (.ref 0), some (.int (I l1)), some (.int (I l2)), some (.int (I l3)), some (.int (I l4)), some (.int (I l5)), some (.int (I l6)), some (.int (I (l7 + l9))), some (.int (I l8)), some (.int (I l9)), some (.int (I l10))] dX10_dirt_120 rfl rfl rfl rfl rfl rfl ?_
        refine t_iinc (pc := 122) [some (.ref 0), some (.int (I l1)), some (.int (I l2)), some (.int (I l3)), some (.int (I l4)), some (.int (I l5)), some (.int (I l6)), some (.int (I (l7 + l9))), some (.int (I (l8 + 1))), some (.int (I l9)), some (.int (I l10))] dX10_dirt_122 rfl rfl ?_
        refine t_goto (pc := 125) 44 dX10_dirt_125 rfl ?_
        exact id
  · refine t_ld (pc := 64) dX10_dirt_64 rfl rfl rfl rfl rfl ?_
    refine t_ld (pc := 66) dX10_dirt_66 rfl rfl rfl rfl rfl ?_
    refine t_ld (pc := 68) dX10_dirt_68 rfl rfl rfl rfl rfl ?_
    refine t_ishr (pc := 70) dX10_dirt_70 ?_
    refine t_iconst (pc := 71) dX10_dirt_71 ?_
    refine t_iand (pc := 72) dX10_dirt_72 ?_
    refine t_iconst (pc := 73) dX10_dirt_73 ?_
    refine t_ic_ne (pc := 74) 82 dX10_dirt_74 rfl ?_ ?_
    · refine t_bipush (pc := 82) dX10_dirt_82 (by decide) ?_
      refine t_ld (pc := 84) dX10_dirt_84 rfl rfl rfl rfl rfl ?_
      refine t_isub (pc := 86) dX10_dirt_86 ?_
      refine t_imul (pc := 87) dX10_dirt_87 ?_
      refine t_st (pc := 88) [some (.ref 0), some (.int (I l1)), some (.int (I l2)), some (.int (I l3)), some (.int (I l4)), some (.int (I l5)), some (.int (I l6)), some (.int (I l7)), some (.int (I l8)), some (.int (I (l9 * (10 - l4)))), some (.int (I l10))] dX10_dirt_88 rfl rfl rfl rfl rfl rfl ?_
      refine t_iinc (pc := 90) [some (.ref 0), some (.int (I l1)), some (.int (I l2)), some (.int (I l3)), some (.int (I l4)), some (.int (I l5)), some (.int (I l6)), some (.int (I l7)), some (.int (I l8)), some (.int (I (l9 * (10 - l4)))), some (.int (I (l10 + 1)))] dX10_dirt_90 rfl rfl ?_
      refine t_goto (pc := 93) 58 dX10_dirt_93 rfl ?_
      exact id
    · refine t_ld (pc := 77) dX10_dirt_77 rfl rfl rfl rfl rfl ?_
      refine t_goto (pc := 79) 87 dX10_dirt_79 rfl ?_
      refine t_imul (pc := 87) dX10_dirt_87 ?_
      refine t_st (pc := 88) [some (.ref 0), some (.int (I l1)), some (.int (I l2)), some (.int (I l3)), some (.int (I l4)), some (.int (I l5)), some (.int (I l6)), some (.int (I l7)), some (.int (I l8)), some (.int (I (l9 * l4))), some (.int (I l10))] dX10_dirt_88 rfl rfl rfl rfl rfl rfl ?_
      refine t_iinc (pc := 90) [some (.ref 0), some (.int (I l1)), some (.int (I l2)), some (.int (I l3)), some (.int (I l4)), some (.int (I l5)), some (.int (I l6)), some (.int (I l7)), some (.int (I l8)), some (.int (I (l9 * l4))), some (.int (I (l10 + 1)))] dX10_dirt_90 rfl rfl ?_
      refine t_goto (pc := 93) 58 dX10_dirt_93 rfl ?_
      exact id
theorem qX10_years_0 {sc : Nat × (Nat → Int32)} {SH : List mCell} {S : mStore} {r : mR × mW} (h0 : sGP SH) {l1 : Int} {l2 : Int} {l3 : Int} {u4 : Option Value} {u5 : Option Value} {u6 : Option Value} : ((if I l3 < I 0 then ((∃ S101, G sc MX10_mustBe 0 [some (.int (I 0))] [] SH S (rV SH S101) ∧ (if I l2 < I 0 then G sc MX10_years 32 [some (.ref 0), some (.int (I l1)), some (.int (I l2)), some (.int (I l3)), u4, u5, u6] [.int (I 0)] SH S101 r else (if I 60 < I l2 then G sc MX10_years 32 [some (.ref 0), some (.int (I l1)), some (.int (I l2)), some (.int (I l3)), u4, u5, u6] [.int (I 0)] SH S101 r else G sc MX10_years 32 [some (.ref 0), some (.int (I l1)), some (.int (I l2)), some (.int (I l3)), u4, u5, u6] [.int (I 1)] SH S101 r))) ∨ (∃ e SH1 S1, G sc MX10_mustBe 0 [some (.int (I 0))] [] SH S (rX e SH1 S1) ∧ r = rX e SH1 S1)) else (if I 2 < I l3 then ((∃ S102, G sc MX10_mustBe 0 [some (.int (I 0))] [] SH S (rV SH S102) ∧ (if I l2 < I 0 then G sc MX10_years 32 [some (.ref 0), some (.int (I l1)), some (.int (I l2)), some (.int (I l3)), u4, u5, u6] [.int (I 0)] SH S102 r else (if I 60 < I l2 then G sc MX10_years 32 [some (.ref 0), some (.int (I l1)), some (.int (I l2)), some (.int (I l3)), u4, u5, u6] [.int (I 0)] SH S102 r else G sc MX10_years 32 [some (.ref 0), some (.int (I l1)), some (.int (I l2)), some (.int (I l3)), u4, u5, u6] [.int (I 1)] SH S102 r))) ∨ (∃ e SH1 S1, G sc MX10_mustBe 0 [some (.int (I 0))] [] SH S (rX e SH1 S1) ∧ r = rX e SH1 S1)) else ((∃ S103, G sc MX10_mustBe 0 [some (.int (I 1))] [] SH S (rV SH S103) ∧ (if I l2 < I 0 then G sc MX10_years 32 [some (.ref 0), some (.int (I l1)), some (.int (I l2)), some (.int (I l3)), u4, u5, u6] [.int (I 0)] SH S103 r else (if I 60 < I l2 then G sc MX10_years 32 [some (.ref 0), some (.int (I l1)), some (.int (I l2)), some (.int (I l3)), u4, u5, u6] [.int (I 0)] SH S103 r else G sc MX10_years 32 [some (.ref 0), some (.int (I l1)), some (.int (I l2)), some (.int (I l3)), u4, u5, u6] [.int (I 1)] SH S103 r))) ∨ (∃ e SH1 S1, G sc MX10_mustBe 0 [some (.int (I 1))] [] SH S (rX e SH1 S1) ∧ r = rX e SH1 S1))))) → G sc MX10_years 0 [some (.ref 0), some (.int (I l1)), some (.int (I l2)), some (.int (I l3)), u4, u5, u6] [] SH S r := by
  refine t_ld (pc := 0) dX10_years_0 rfl rfl rfl rfl rfl ?_
  refine t_if_lt (pc := 1) 13 dX10_years_1 rfl ?_ ?_
  · refine t_iconst (pc := 13) dX10_years_13 ?_
    refine t_scV (pc := 14) dX10_years_14 rfl [] rfl rfl ⟨rfl, by decide, Nat.le_of_ble_eq_true rfl⟩ rfl fun S101 => ?_
    refine t_ld (pc := 17) dX10_years_17 rfl rfl rfl rfl rfl ?_
    refine t_if_lt (pc := 18) 31 dX10_years_18 rfl ?_ ?_
    · refine t_iconst (pc := 31) dX10_years_31 ?_
      exact id
    · refine t_ld (pc := 21) dX10_years_21 rfl rfl rfl rfl rfl ?_
      refine t_bipush (pc := 22) dX10_years_22 (by decide) ?_
      refine t_ic_gt (pc := 24) 31 dX10_years_24 rfl ?_ ?_
      · refine t_iconst (pc := 31) dX10_years_31 ?_
        exact id
      · refine t_iconst (pc := 27) dX10_years_27 ?_
        refine t_goto (pc := 28) 32 dX10_years_28 rfl ?_
        exact id
  · refine t_ld (pc := 4) dX10_years_4 rfl rfl rfl rfl rfl ?_
    refine t_iconst (pc := 5) dX10_years_5 ?_
    refine t_ic_gt (pc := 6) 13 dX10_years_6 rfl ?_ ?_
    · refine t_iconst (pc := 13) dX10_years_13 ?_
      refine t_scV (pc := 14) dX10_years_14 rfl [] rfl rfl ⟨rfl, by decide, Nat.le_of_ble_eq_true rfl⟩ rfl fun S102 => ?_
      refine t_ld (pc := 17) dX10_years_17 rfl rfl rfl rfl rfl ?_
      refine t_if_lt (pc := 18) 31 dX10_years_18 rfl ?_ ?_
      · refine t_iconst (pc := 31) dX10_years_31 ?_
        exact id
      · refine t_ld (pc := 21) dX10_years_21 rfl rfl rfl rfl rfl ?_
        refine t_bipush (pc := 22) dX10_years_22 (by decide) ?_
        refine t_ic_gt (pc := 24) 31 dX10_years_24 rfl ?_ ?_
        · refine t_iconst (pc := 31) dX10_years_31 ?_
          exact id
        · refine t_iconst (pc := 27) dX10_years_27 ?_
          refine t_goto (pc := 28) 32 dX10_years_28 rfl ?_
          exact id
    · refine t_iconst (pc := 9) dX10_years_9 ?_
      refine t_goto (pc := 10) 14 dX10_years_10 rfl ?_
      refine t_scV (pc := 14) dX10_years_14 rfl [] rfl rfl ⟨rfl, by decide, Nat.le_of_ble_eq_true rfl⟩ rfl fun S103 => ?_
      refine t_ld (pc := 17) dX10_years_17 rfl rfl rfl rfl rfl ?_
      refine t_if_lt (pc := 18) 31 dX10_years_18 rfl ?_ ?_
      · refine t_iconst (pc := 31) dX10_years_31 ?_
        exact id
      · refine t_ld (pc := 21) dX10_years_21 rfl rfl rfl rfl rfl ?_
        refine t_bipush (pc := 22) dX10_years_22 (by decide) ?_
        refine t_ic_gt (pc := 24) 31 dX10_years_24 rfl ?_ ?_
        · refine t_iconst (pc := 31) dX10_years_31 ?_
          exact id
        · refine t_iconst (pc := 27) dX10_years_27 ?_
          refine t_goto (pc := 28) 32 dX10_years_28 rfl ?_
          exact id
theorem qX10_years_32 {sc : Nat × (Nat → Int32)} {SH : List mCell} {S : mStore} {r : mR × mW} (h0 : sGP SH) {l1 : Int} {l2 : Int} {l3 : Int} {u4 : Option Value} {u5 : Option Value} {u6 : Option Value} {s0 : Int} : (((∃ S101, G sc MX10_mustFit 0 [some (.int (I s0))] [] SH S (rV SH S101) ∧ (∃ S102, G sc MX7_become 0 [some (.ref 65), some (.ref 17)] [] SH S101 (rV SH S102) ∧ G sc MX10_years 66 [some (.ref 0), some (.int (I l1)), some (.int (I l2)), some (.int (I l3)), some (.int (I 0)), some (.int (I 0)), some (.int (I 0))] [] SH (up S102 87 0 l1) r)) ∨ (∃ e SH1 S1, G sc MX10_mustFit 0 [some (.int (I s0))] [] SH S (rX e SH1 S1) ∧ r = rX e SH1 S1))) → G sc MX10_years 32 [some (.ref 0), some (.int (I l1)), some (.int (I l2)), some (.int (I l3)), u4, u5, u6] [.int (I s0)] SH S r := by
  refine t_scV (pc := 32) dX10_years_32 rfl [] rfl rfl ⟨rfl, by decide, Nat.le_of_ble_eq_true rfl⟩ rfl fun S101 => ?_
  refine t_ld (pc := 35) dX10_years_35 rfl rfl rfl rfl rfl ?_
  refine t_getR (pc := 36) dX10_years_36 rfl h0.1 rfl ?_
  refine t_ld (pc := 39) dX10_years_39 rfl rfl rfl rfl rfl ?_
  refine t_getR (pc := 40) dX10_years_40 rfl h0.1 rfl ?_
  refine t_getR (pc := 43) dX10_years_43 rfl h0.2.2.2.1.1 rfl ?_
  refine t_vcVN (pc := 46) dX10_years_46 rfl rfl [] rfl rfl ⟨rfl, by decide, Nat.le_of_ble_eq_true rfl⟩ h0.2.2.2.2.2.1.1 fun S102 => ?_
  refine t_ld (pc := 49) dX10_years_49 rfl rfl rfl rfl rfl ?_
  refine t_getR (pc := 50) dX10_years_50 rfl h0.1 rfl ?_
  refine t_ld (pc := 53) dX10_years_53 rfl rfl rfl rfl rfl ?_
  refine t_putI (pc := 54) dX10_years_54 rfl rfl (Or.inl rfl) h0.2.2.2.2.2.2.2.2.1 rfl ?_
  refine t_iconst (pc := 57) dX10_years_57 ?_
  refine t_st (pc := 58) [some (.ref 0), some (.int (I l1)), some (.int (I l2)), some (.int (I l3)), some (.int (I 0)), u5, u6] dX10_years_58 rfl rfl rfl rfl rfl rfl ?_
  refine t_iconst (pc := 60) dX10_years_60 ?_
  refine t_st (pc := 61) [some (.ref 0), some (.int (I l1)), some (.int (I l2)), some (.int (I l3)), some (.int (I 0)), some (.int (I 0)), u6] dX10_years_61 rfl rfl rfl rfl rfl rfl ?_
  refine t_iconst (pc := 63) dX10_years_63 ?_
  refine t_st (pc := 64) [some (.ref 0), some (.int (I l1)), some (.int (I l2)), some (.int (I l3)), some (.int (I 0)), some (.int (I 0)), some (.int (I 0))] dX10_years_64 rfl rfl rfl rfl rfl rfl ?_
  exact id
theorem qX10_years_66 {sc : Nat × (Nat → Int32)} {SH : List mCell} {S : mStore} {r : mR × mW} (h0 : sGP SH) {l1 : Int} {l2 : Int} {l3 : Int} {l4 : Int} {l5 : Int} {l6 : Int} : ((if I l2 ≤ I l6 then (if I l3 = I 1 then (∃ v101 S102, G sc MX7_used 0 [some (.ref 65), none, none] [] SH S (rI v101 SH S102) ∧ r = rI v101 SH S102) else (if I l3 = I 0 then r = rI l4 SH S else r = rI l5 SH S)) else (∃ v103 S104, G sc MX10_befallsByChance 0 [some (.ref 0), none, none, none] [] SH S (rI v103 SH S104) ∧ (if I v103 = I (-1) then (∃ v107 S108, G sc MX7_tick 0 [some (.ref 65), some (.int (I 1)), none, none, none, none] [] SH S104 (rI v107 SH S108) ∧ G sc MX10_years 66 [some (.ref 0), some (.int (I l1)), some (.int (I l2)), some (.int (I l3)), some (.int (I (l4 + v107))), some (.int (I (l5 + 1))), some (.int (I (l6 + 1)))] [] SH S108 r) else (∃ v105 S106, G sc MX7_tick 0 [some (.ref 65), some (.int (I 1)), none, none, none, none] [] SH S104 (rI v105 SH S106) ∧ G sc MX10_years 66 [some (.ref 0), some (.int (I l1)), some (.int (I l2)), some (.int (I l3)), some (.int (I (l4 + v105))), some (.int (I l5)), some (.int (I (l6 + 1)))] [] SH S106 r))))) → G sc MX10_years 66 [some (.ref 0), some (.int (I l1)), some (.int (I l2)), some (.int (I l3)), some (.int (I l4)), some (.int (I l5)), some (.int (I l6))] [] SH S r := by
  refine t_ld (pc := 66) dX10_years_66 rfl rfl rfl rfl rfl ?_
  refine t_ld (pc := 68) dX10_years_68 rfl rfl rfl rfl rfl ?_
  refine t_ic_ge (pc := 69) 102 dX10_years_69 rfl ?_ ?_
  · refine t_ld (pc := 102) dX10_years_102 rfl rfl rfl rfl rfl ?_
    refine t_iconst (pc := 103) dX10_years_103 ?_
    refine t_ic_ne (pc := 104) 115 dX10_years_104 rfl ?_ ?_
    · refine t_ld (pc := 115) dX10_years_115 rfl rfl rfl rfl rfl ?_
      refine t_if_ne (pc := 116) 124 dX10_years_116 rfl ?_ ?_
      · refine t_ld (pc := 124) dX10_years_124 rfl rfl rfl rfl rfl ?_
        exact t_iret (pc := 126) dX10_years_126 rfl
      · refine t_ld (pc := 119) dX10_years_119 rfl rfl rfl rfl rfl ?_
        refine t_goto (pc := 121) 126 dX10_years_121 rfl ?_
        exact t_iret (pc := 126) dX10_years_126 rfl
    · refine t_ld (pc := 107) dX10_years_107 rfl rfl rfl rfl rfl ?_
      refine t_getR (pc := 108) dX10_years_108 rfl h0.1 rfl ?_
      refine t_vcIN (pc := 111) dX10_years_111 rfl rfl [] rfl rfl ⟨rfl, by decide, Nat.le_of_ble_eq_true rfl⟩ h0.2.2.2.2.2.1.1 fun v101 S102 => ?_
      exact t_iret (pc := 114) dX10_years_114 rfl
  · refine t_ld (pc := 72) dX10_years_72 rfl rfl rfl rfl rfl ?_
    refine t_vcIN (pc := 73) dX10_years_73 rfl rfl [] rfl rfl ⟨rfl, by decide, Nat.le_of_ble_eq_true rfl⟩ h0.1 fun v103 S104 => ?_
    refine t_iconst (pc := 76) dX10_years_76 ?_
    refine t_ic_ne (pc := 77) 83 dX10_years_77 rfl ?_ ?_
    · refine t_ld (pc := 83) dX10_years_83 rfl rfl rfl rfl rfl ?_
      refine t_ld (pc := 85) dX10_years_85 rfl rfl rfl rfl rfl ?_
      refine t_getR (pc := 86) dX10_years_86 rfl h0.1 rfl ?_
      refine t_iconst (pc := 89) dX10_years_89 ?_
      refine t_vcIN (pc := 90) dX10_years_90 rfl rfl [.int (I l4)] rfl rfl ⟨rfl, by decide, Nat.le_of_ble_eq_true rfl⟩ h0.2.2.2.2.2.1.1 fun v105 S106 => ?_
      refine t_iadd (pc := 93) dX10_years_93 ?_
      refine t_st (pc := 94) [some (.ref 0), some (.int (I l1)), some (.int (I l2)), some (.int (I l3)), some (.int (I (l4 + v105))), some (.int (I l5)), some (.int (I l6))] dX10_years_94 rfl rfl rfl rfl rfl rfl ?_
      refine t_iinc (pc := 96) [some (.ref 0), some (.int (I l1)), some (.int (I l2)), some (.int (I l3)), some (.int (I (l4 + v105))), some (.int (I l5)), some (.int (I (l6 + 1)))] dX10_years_96 rfl rfl ?_
      refine t_goto (pc := 99) 66 dX10_years_99 rfl ?_
      exact id
    · refine t_iinc (pc := 80) [some (.ref 0), some (.int (I l1)), some (.int (I l2)), some (.int (I l3)), some (.int (I l4)), some (.int (I (l5 + 1))), some (.int (I l6))] dX10_years_80 rfl rfl ?_
      refine t_ld (pc := 83) dX10_years_83 rfl rfl rfl rfl rfl ?_
      refine t_ld (pc := 85) dX10_years_85 rfl rfl rfl rfl rfl ?_
      refine t_getR (pc := 86) dX10_years_86 rfl h0.1 rfl ?_
      refine t_iconst (pc := 89) dX10_years_89 ?_
      refine t_vcIN (pc := 90) dX10_years_90 rfl rfl [.int (I l4)] rfl rfl ⟨rfl, by decide, Nat.le_of_ble_eq_true rfl⟩ h0.2.2.2.2.2.1.1 fun v107 S108 => ?_
      refine t_iadd (pc := 93) dX10_years_93 ?_
      refine t_st (pc := 94) [some (.ref 0), some (.int (I l1)), some (.int (I l2)), some (.int (I l3)), some (.int (I (l4 + v107))), some (.int (I (l5 + 1))), some (.int (I l6))] dX10_years_94 rfl rfl rfl rfl rfl rfl ?_
      refine t_iinc (pc := 96) [some (.ref 0), some (.int (I l1)), some (.int (I l2)), some (.int (I l3)), some (.int (I (l4 + v107))), some (.int (I (l5 + 1))), some (.int (I (l6 + 1)))] dX10_years_96 rfl rfl ?_
      refine t_goto (pc := 99) 66 dX10_years_99 rfl ?_
      exact id
theorem qX10_image_0 {sc : Nat × (Nat → Int32)} {SH : List mCell} {S : mStore} {r : mR × mW} (h0 : sGP SH) : ((∃ SH102 S101, sGP SH102 ∧ G sc MX1_become 0 [some (.ref 39), some (.ref 13)] [] SH S (rV SH102 S101) ∧ ((I 1 = I 0 ∨ I 1 = I 1) ∧ r = rV SH102 (up S101 0 11 1)))) → G sc MX10_image 0 [some (.ref 0)] [] SH S r := by
  refine t_ld (pc := 0) dX10_image_0 rfl rfl rfl rfl rfl ?_
  refine t_getR (pc := 1) dX10_image_1 rfl h0.1 rfl ?_
  refine t_ld (pc := 4) dX10_image_4 rfl rfl rfl rfl rfl ?_
  refine t_getR (pc := 5) dX10_image_5 rfl h0.1 rfl ?_
  refine t_vcVA (Q := (fun SH => sGP SH)) (pc := 8) dX10_image_8 rfl rfl [] rfl rfl ⟨rfl, by decide, Nat.le_of_ble_eq_true rfl⟩ h0.2.2.2.2.1.1 fun SH102 S101 hSH102 => ?_
  refine t_ld (pc := 11) dX10_image_11 rfl rfl rfl rfl rfl ?_
  refine t_iconst (pc := 12) dX10_image_12 ?_
  refine t_putZ (pc := 13) dX10_image_13 rfl rfl (Or.inl rfl) hSH102.1 rfl ?_
  exact t_ret (pc := 16) dX10_image_16 rfl
theorem qX10_restore_0 {sc : Nat × (Nat → Int32)} {SH : List mCell} {S : mStore} {r : mR × mW} (h0 : sGP SH) : ((if I (S 0 11) = I 0 then ((I 0 = I 0 ∨ I 0 = I 1) ∧ r = rI 0 SH S) else (∃ SH102 S101, sGP SH102 ∧ G sc MX1_become 0 [some (.ref 13), some (.ref 39)] [] SH S (rV SH102 S101) ∧ ((I 1 = I 0 ∨ I 1 = I 1) ∧ r = rI 1 SH102 S101)))) → G sc MX10_restore 0 [some (.ref 0)] [] SH S r := by
  refine t_ld (pc := 0) dX10_restore_0 rfl rfl rfl rfl rfl ?_
  refine t_getI (pc := 1) dX10_restore_1 rfl h0.1 rfl ?_
  refine t_if_ne (pc := 4) 9 dX10_restore_4 rfl ?_ ?_
  · refine t_ld (pc := 9) dX10_restore_9 rfl rfl rfl rfl rfl ?_
    refine t_getR (pc := 10) dX10_restore_10 rfl h0.1 rfl ?_
    refine t_ld (pc := 13) dX10_restore_13 rfl rfl rfl rfl rfl ?_
    refine t_getR (pc := 14) dX10_restore_14 rfl h0.1 rfl ?_
    refine t_vcVA (Q := (fun SH => sGP SH)) (pc := 17) dX10_restore_17 rfl rfl [] rfl rfl ⟨rfl, by decide, Nat.le_of_ble_eq_true rfl⟩ h0.2.2.2.1.1 fun SH102 S101 hSH102 => ?_
    refine t_iconst (pc := 20) dX10_restore_20 ?_
    exact t_zret (pc := 21) dX10_restore_21 rfl
  · refine t_iconst (pc := 7) dX10_restore_7 ?_
    exact t_zret (pc := 8) dX10_restore_8 rfl
theorem qX10_mustBe_0 {sc : Nat × (Nat → Int32)} {SH : List mCell} {S : mStore} {r : mR × mW} {l0 : Int} : ((if I l0 = I 0 then r = rX 0 (SH ++ [mO (12 + 0) []]) S else r = rV SH S)) → G sc MX10_mustBe 0 [some (.int (I l0))] [] SH S r := by
  refine t_ld (pc := 0) dX10_mustBe_0 rfl rfl rfl rfl rfl ?_
  refine t_if_ne (pc := 1) 12 dX10_mustBe_1 rfl ?_ ?_
  · exact t_ret (pc := 12) dX10_mustBe_12 rfl
  · exact t_throw (pc := 4) 0 dX10_mustBe_4 rfl rfl dX10_mustBe_7 dX10_mustBe_8 dX10_mustBe_11 ⟨rfl, rfl, by decide, rfl⟩
theorem qX10_mustFit_0 {sc : Nat × (Nat → Int32)} {SH : List mCell} {S : mStore} {r : mR × mW} {l0 : Int} : ((if I l0 = I 0 then r = rX 1 (SH ++ [mO (12 + 1) []]) S else r = rV SH S)) → G sc MX10_mustFit 0 [some (.int (I l0))] [] SH S r := by
  refine t_ld (pc := 0) dX10_mustFit_0 rfl rfl rfl rfl rfl ?_
  refine t_if_ne (pc := 1) 12 dX10_mustFit_1 rfl ?_ ?_
  · exact t_ret (pc := 12) dX10_mustFit_12 rfl
  · exact t_throw (pc := 4) 1 dX10_mustFit_4 rfl rfl dX10_mustFit_7 dX10_mustFit_8 dX10_mustFit_11 ⟨rfl, rfl, by decide, rfl⟩
theorem qX10_mustBeCell_0 {sc : Nat × (Nat → Int32)} {SH : List mCell} {S : mStore} {r : mR × mW} {l0 : Int} : ((if I l0 < I 0 then ((∃ S101, G sc MX10_mustBe 0 [some (.int (I 0))] [] SH S (rV SH S101) ∧ r = rV SH S101) ∨ (∃ e SH1 S1, G sc MX10_mustBe 0 [some (.int (I 0))] [] SH S (rX e SH1 S1) ∧ r = rX e SH1 S1)) else (if I 4 ≤ I l0 then ((∃ S102, G sc MX10_mustBe 0 [some (.int (I 0))] [] SH S (rV SH S102) ∧ r = rV SH S102) ∨ (∃ e SH1 S1, G sc MX10_mustBe 0 [some (.int (I 0))] [] SH S (rX e SH1 S1) ∧ r = rX e SH1 S1)) else ((∃ S103, G sc MX10_mustBe 0 [some (.int (I 1))] [] SH S (rV SH S103) ∧ r = rV SH S103) ∨ (∃ e SH1 S1, G sc MX10_mustBe 0 [some (.int (I 1))] [] SH S (rX e SH1 S1) ∧ r = rX e SH1 S1))))) → G sc MX10_mustBeCell 0 [some (.int (I l0))] [] SH S r := by
  refine t_ld (pc := 0) dX10_mustBeCell_0 rfl rfl rfl rfl rfl ?_
  refine t_if_lt (pc := 1) 13 dX10_mustBeCell_1 rfl ?_ ?_
  · refine t_iconst (pc := 13) dX10_mustBeCell_13 ?_
    refine t_scV (pc := 14) dX10_mustBeCell_14 rfl [] rfl rfl ⟨rfl, by decide, Nat.le_of_ble_eq_true rfl⟩ rfl fun S101 => ?_
    exact t_ret (pc := 17) dX10_mustBeCell_17 rfl
  · refine t_ld (pc := 4) dX10_mustBeCell_4 rfl rfl rfl rfl rfl ?_
    refine t_iconst (pc := 5) dX10_mustBeCell_5 ?_
    refine t_ic_ge (pc := 6) 13 dX10_mustBeCell_6 rfl ?_ ?_
    · refine t_iconst (pc := 13) dX10_mustBeCell_13 ?_
      refine t_scV (pc := 14) dX10_mustBeCell_14 rfl [] rfl rfl ⟨rfl, by decide, Nat.le_of_ble_eq_true rfl⟩ rfl fun S102 => ?_
      exact t_ret (pc := 17) dX10_mustBeCell_17 rfl
    · refine t_iconst (pc := 9) dX10_mustBeCell_9 ?_
      refine t_goto (pc := 10) 14 dX10_mustBeCell_10 rfl ?_
      refine t_scV (pc := 14) dX10_mustBeCell_14 rfl [] rfl rfl ⟨rfl, by decide, Nat.le_of_ble_eq_true rfl⟩ rfl fun S103 => ?_
      exact t_ret (pc := 17) dX10_mustBeCell_17 rfl
theorem qX10_placeOf_0 {sc : Nat × (Nat → Int32)} {SH : List mCell} {S : mStore} {r : mR × mW} (h0 : sGP SH) {l1 : Int} {l2 : Int} {u3 : Option Value} : ((∃ v101 S102, G sc MX5_placeAt 0 [some (.ref 1), some (.int (I l1)), some (.int (I l2))] [] SH S (rI v101 SH S102) ∧ (if I v101 = I (-1) then ((∃ S103, G sc MX10_mustBe 0 [some (.int (I 0))] [] SH S102 (rV SH S103) ∧ r = rI v101 SH S103) ∨ (∃ e SH1 S1, G sc MX10_mustBe 0 [some (.int (I 0))] [] SH S102 (rX e SH1 S1) ∧ r = rX e SH1 S1)) else ((∃ S104, G sc MX10_mustBe 0 [some (.int (I 1))] [] SH S102 (rV SH S104) ∧ r = rI v101 SH S104) ∨ (∃ e SH1 S1, G sc MX10_mustBe 0 [some (.int (I 1))] [] SH S102 (rX e SH1 S1) ∧ r = rX e SH1 S1))))) → G sc MX10_placeOf 0 [some (.ref 0), some (.int (I l1)), some (.int (I l2)), u3] [] SH S r := by
  refine t_ld (pc := 0) dX10_placeOf_0 rfl rfl rfl rfl rfl ?_
  refine t_getR (pc := 1) dX10_placeOf_1 rfl h0.1 rfl ?_
  refine t_ld (pc := 4) dX10_placeOf_4 rfl rfl rfl rfl rfl ?_
  refine t_ld (pc := 5) dX10_placeOf_5 rfl rfl rfl rfl rfl ?_
  refine t_vcIN (pc := 6) dX10_placeOf_6 rfl rfl [] rfl rfl ⟨rfl, by decide, Nat.le_of_ble_eq_true rfl⟩ h0.2.2.2.1.2.2.2.2.1.2.2.2.2.2.2.2.2.2.2.2.2.1 fun v101 S102 => ?_
  refine t_st (pc := 9) [some (.ref 0), some (.int (I l1)), some (.int (I l2)), some (.int (I v101))] dX10_placeOf_9 rfl rfl rfl rfl rfl rfl ?_
  refine t_ld (pc := 10) dX10_placeOf_10 rfl rfl rfl rfl rfl ?_
  refine t_iconst (pc := 11) dX10_placeOf_11 ?_
  refine t_ic_eq (pc := 12) 19 dX10_placeOf_12 rfl ?_ ?_
  · refine t_iconst (pc := 19) dX10_placeOf_19 ?_
    refine t_scV (pc := 20) dX10_placeOf_20 rfl [] rfl rfl ⟨rfl, by decide, Nat.le_of_ble_eq_true rfl⟩ rfl fun S103 => ?_
    refine t_ld (pc := 23) dX10_placeOf_23 rfl rfl rfl rfl rfl ?_
    exact t_iret (pc := 24) dX10_placeOf_24 rfl
  · refine t_iconst (pc := 15) dX10_placeOf_15 ?_
    refine t_goto (pc := 16) 20 dX10_placeOf_16 rfl ?_
    refine t_scV (pc := 20) dX10_placeOf_20 rfl [] rfl rfl ⟨rfl, by decide, Nat.le_of_ble_eq_true rfl⟩ rfl fun S104 => ?_
    refine t_ld (pc := 23) dX10_placeOf_23 rfl rfl rfl rfl rfl ?_
    exact t_iret (pc := 24) dX10_placeOf_24 rfl
theorem qX10_cellOf_0 {sc : Nat × (Nat → Int32)} {SH : List mCell} {S : mStore} {r : mR × mW} {l0 : Int} {l1 : Int} : (r = rI (ian (isr l0 (12 - (4 * l1))) 15) SH S) → G sc MX10_cellOf 0 [some (.int (I l0)), some (.int (I l1))] [] SH S r := by
  refine t_ld (pc := 0) dX10_cellOf_0 rfl rfl rfl rfl rfl ?_
  refine t_bipush (pc := 1) dX10_cellOf_1 (by decide) ?_
  refine t_iconst (pc := 3) dX10_cellOf_3 ?_
  refine t_ld (pc := 4) dX10_cellOf_4 rfl rfl rfl rfl rfl ?_
  refine t_imul (pc := 5) dX10_cellOf_5 ?_
  refine t_isub (pc := 6) dX10_cellOf_6 ?_
  refine t_ishr (pc := 7) dX10_cellOf_7 ?_
  refine t_bipush (pc := 8) dX10_cellOf_8 (by decide) ?_
  refine t_iand (pc := 10) dX10_cellOf_10 ?_
  exact t_iret (pc := 11) dX10_cellOf_11 rfl
theorem qX10_refused_0 {sc : Nat × (Nat → Int32)} {SH : List mCell} {S : mStore} {r : mR × mW} (h0 : sGP SH) : (((0 ≤ 1 ∧ 1 < 3) ∧ ((0 ≤ 1 ∧ 1 < 3) ∧ r = rI (-1) SH (up S 16 1 ((S 16 1) + 1))))) → G sc MX10_refused 0 [some (.ref 0)] [] SH S r := by
  refine t_ld (pc := 0) dX10_refused_0 rfl rfl rfl rfl rfl ?_
  refine t_getR (pc := 1) dX10_refused_1 rfl h0.1 rfl ?_
  refine t_getR (pc := 4) dX10_refused_4 rfl h0.2.2.2.1.1 rfl ?_
  refine t_iconst (pc := 7) dX10_refused_7 ?_
  refine t_dup2 (pc := 8) dX10_refused_8 rfl rfl ?_
  refine t_iaload (pc := 9) dX10_refused_9 h0.2.2.2.1.2.2.2.1 ?_
  refine t_iconst (pc := 10) dX10_refused_10 ?_
  refine t_iadd (pc := 11) dX10_refused_11 ?_
  refine t_iastore (pc := 12) dX10_refused_12 h0.2.2.2.1.2.2.2.1 ?_
  refine t_iconst (pc := 13) dX10_refused_13 ?_
  exact t_iret (pc := 14) dX10_refused_14 rfl
theorem qX10_acted_0 {sc : Nat × (Nat → Int32)} {SH : List mCell} {S : mStore} {r : mR × mW} (h0 : sGP SH) {l1 : Int} : ((if I l1 = I (-1) then (∃ v102 S103, G sc MX10_refused 0 [some (.ref 0)] [] SH S (rI v102 SH S103) ∧ r = rI v102 SH S103) else (∃ S101, G sc MX0_stand 0 [some (.ref 37)] [] SH S (rV SH S101) ∧ r = rI l1 SH S101))) → G sc MX10_acted 0 [some (.ref 0), some (.int (I l1))] [] SH S r := by
  refine t_ld (pc := 0) dX10_acted_0 rfl rfl rfl rfl rfl ?_
  refine t_iconst (pc := 1) dX10_acted_1 ?_
  refine t_ic_ne (pc := 2) 10 dX10_acted_2 rfl ?_ ?_
  · refine t_ld (pc := 10) dX10_acted_10 rfl rfl rfl rfl rfl ?_
    refine t_getR (pc := 11) dX10_acted_11 rfl h0.1 rfl ?_
    refine t_getR (pc := 14) dX10_acted_14 rfl h0.2.2.2.1.1 rfl ?_
    refine t_vcVN (pc := 17) dX10_acted_17 rfl rfl [] rfl rfl ⟨rfl, by decide, Nat.le_of_ble_eq_true rfl⟩ h0.2.2.2.1.2.2.2.2.2 fun S101 => ?_
    refine t_ld (pc := 20) dX10_acted_20 rfl rfl rfl rfl rfl ?_
    exact t_iret (pc := 21) dX10_acted_21 rfl
  · refine t_ld (pc := 5) dX10_acted_5 rfl rfl rfl rfl rfl ?_
    refine t_vcIN (pc := 6) dX10_acted_6 rfl rfl [] rfl rfl ⟨rfl, by decide, Nat.le_of_ble_eq_true rfl⟩ h0.1 fun v102 S103 => ?_
    exact t_iret (pc := 9) dX10_acted_9 rfl
theorem qX10_openText_0 {sc : Nat × (Nat → Int32)} {SH : List mCell} {S : mStore} {r : mR × mW} (h0 : sGP SH) {l1 : Int} : ((if I l1 < I 0 then ((∃ S101, G sc MX10_mustFit 0 [some (.int (I 0))] [] SH S (rV SH S101) ∧ (∃ S102, G sc MX8_begin 0 [some (.ref 11), some (.int (I l1))] [] SH S101 (rV SH S102) ∧ r = rV SH S102)) ∨ (∃ e SH1 S1, G sc MX10_mustFit 0 [some (.int (I 0))] [] SH S (rX e SH1 S1) ∧ r = rX e SH1 S1)) else (if I (S 11 1) < I l1 then ((∃ S103, G sc MX10_mustFit 0 [some (.int (I 0))] [] SH S (rV SH S103) ∧ (∃ S104, G sc MX8_begin 0 [some (.ref 11), some (.int (I l1))] [] SH S103 (rV SH S104) ∧ r = rV SH S104)) ∨ (∃ e SH1 S1, G sc MX10_mustFit 0 [some (.int (I 0))] [] SH S (rX e SH1 S1) ∧ r = rX e SH1 S1)) else ((∃ S105, G sc MX10_mustFit 0 [some (.int (I 1))] [] SH S (rV SH S105) ∧ (∃ S106, G sc MX8_begin 0 [some (.ref 11), some (.int (I l1))] [] SH S105 (rV SH S106) ∧ r = rV SH S106)) ∨ (∃ e SH1 S1, G sc MX10_mustFit 0 [some (.int (I 1))] [] SH S (rX e SH1 S1) ∧ r = rX e SH1 S1))))) → G sc MX10_openText 0 [some (.ref 0), some (.int (I l1))] [] SH S r := by
  refine t_ld (pc := 0) dX10_openText_0 rfl rfl rfl rfl rfl ?_
  refine t_if_lt (pc := 1) 19 dX10_openText_1 rfl ?_ ?_
  · refine t_iconst (pc := 19) dX10_openText_19 ?_
    refine t_scV (pc := 20) dX10_openText_20 rfl [] rfl rfl ⟨rfl, by decide, Nat.le_of_ble_eq_true rfl⟩ rfl fun S101 => ?_
    refine t_ld (pc := 23) dX10_openText_23 rfl rfl rfl rfl rfl ?_
    refine t_getR (pc := 24) dX10_openText_24 rfl h0.1 rfl ?_
    refine t_ld (pc := 27) dX10_openText_27 rfl rfl rfl rfl rfl ?_
    refine t_vcVN (pc := 28) dX10_openText_28 rfl rfl [] rfl rfl ⟨rfl, by decide, Nat.le_of_ble_eq_true rfl⟩ h0.2.2.1.1 fun S102 => ?_
    exact t_ret (pc := 31) dX10_openText_31 rfl
  · refine t_ld (pc := 4) dX10_openText_4 rfl rfl rfl rfl rfl ?_
    refine t_ld (pc := 5) dX10_openText_5 rfl rfl rfl rfl rfl ?_
    refine t_getR (pc := 6) dX10_openText_6 rfl h0.1 rfl ?_
    refine t_getI (pc := 9) dX10_openText_9 rfl h0.2.2.1.1 rfl ?_
    refine t_ic_gt (pc := 12) 19 dX10_openText_12 rfl ?_ ?_
    · refine t_iconst (pc := 19) dX10_openText_19 ?_
      refine t_scV (pc := 20) dX10_openText_20 rfl [] rfl rfl ⟨rfl, by decide, Nat.le_of_ble_eq_true rfl⟩ rfl fun S103 => ?_
      refine t_ld (pc := 23) dX10_openText_23 rfl rfl rfl rfl rfl ?_
      refine t_getR (pc := 24) dX10_openText_24 rfl h0.1 rfl ?_
      refine t_ld (pc := 27) dX10_openText_27 rfl rfl rfl rfl rfl ?_
      refine t_vcVN (pc := 28) dX10_openText_28 rfl rfl [] rfl rfl ⟨rfl, by decide, Nat.le_of_ble_eq_true rfl⟩ h0.2.2.1.1 fun S104 => ?_
      exact t_ret (pc := 31) dX10_openText_31 rfl
    · refine t_iconst (pc := 15) dX10_openText_15 ?_
      refine t_goto (pc := 16) 20 dX10_openText_16 rfl ?_
      refine t_scV (pc := 20) dX10_openText_20 rfl [] rfl rfl ⟨rfl, by decide, Nat.le_of_ble_eq_true rfl⟩ rfl fun S105 => ?_
      refine t_ld (pc := 23) dX10_openText_23 rfl rfl rfl rfl rfl ?_
      refine t_getR (pc := 24) dX10_openText_24 rfl h0.1 rfl ?_
      refine t_ld (pc := 27) dX10_openText_27 rfl rfl rfl rfl rfl ?_
      refine t_vcVN (pc := 28) dX10_openText_28 rfl rfl [] rfl rfl ⟨rfl, by decide, Nat.le_of_ble_eq_true rfl⟩ h0.2.2.1.1 fun S106 => ?_
      exact t_ret (pc := 31) dX10_openText_31 rfl
theorem qX10_closeText_0 {sc : Nat × (Nat → Int32)} {SH : List mCell} {S : mStore} {r : mR × mW} (h0 : sGP SH) : ((if I ((up (up S 11 1 0) 0 12 (-1)) 11 6) = I 0 then r = rV SH (up (up S 11 1 0) 0 12 (-1)) else ((0 ≤ 0 ∧ 0 < 3) ∧ ((0 ≤ 0 ∧ 0 < 3) ∧ r = rV SH (up (up (up (up S 11 1 0) 0 12 (-1)) 0 12 ((up (up S 11 1 0) 0 12 (-1)) 11 7)) 16 0 (((up (up (up S 11 1 0) 0 12 (-1)) 0 12 ((up (up S 11 1 0) 0 12 (-1)) 11 7)) 16 0) + 1)))))) → G sc MX10_closeText 0 [some (.ref 0)] [] SH S r := by
  refine t_ld (pc := 0) dX10_closeText_0 rfl rfl rfl rfl rfl ?_
  refine t_getR (pc := 1) dX10_closeText_1 rfl h0.1 rfl ?_
  refine t_iconst (pc := 4) dX10_closeText_4 ?_
  refine t_putI (pc := 5) dX10_closeText_5 rfl rfl (Or.inl rfl) h0.2.2.1.1 rfl ?_
  refine t_ld (pc := 8) dX10_closeText_8 rfl rfl rfl rfl rfl ?_
  refine t_iconst (pc := 9) dX10_closeText_9 ?_
  refine t_putI (pc := 10) dX10_closeText_10 rfl rfl (Or.inl rfl) h0.1 rfl ?_
  refine t_ld (pc := 13) dX10_closeText_13 rfl rfl rfl rfl rfl ?_
  refine t_getR (pc := 14) dX10_closeText_14 rfl h0.1 rfl ?_
  refine t_getI (pc := 17) dX10_closeText_17 rfl h0.2.2.1.1 rfl ?_
  refine t_if_eq (pc := 20) 47 dX10_closeText_20 rfl ?_ ?_
  · exact t_ret (pc := 47) dX10_closeText_47 rfl
  · refine t_ld (pc := 23) dX10_closeText_23 rfl rfl rfl rfl rfl ?_
    refine t_ld (pc := 24) dX10_closeText_24 rfl rfl rfl rfl rfl ?_
    refine t_getR (pc := 25) dX10_closeText_25 rfl h0.1 rfl ?_
    refine t_getI (pc := 28) dX10_closeText_28 rfl h0.2.2.1.1 rfl ?_
    refine t_putI (pc := 31) dX10_closeText_31 rfl rfl (Or.inl rfl) h0.1 rfl ?_
    refine t_ld (pc := 34) dX10_closeText_34 rfl rfl rfl rfl rfl ?_
    refine t_getR (pc := 35) dX10_closeText_35 rfl h0.1 rfl ?_
    refine t_getR (pc := 38) dX10_closeText_38 rfl h0.2.2.2.1.1 rfl ?_
    refine t_iconst (pc := 41) dX10_closeText_41 ?_
    refine t_dup2 (pc := 42) dX10_closeText_42 rfl rfl ?_
    refine t_iaload (pc := 43) dX10_closeText_43 h0.2.2.2.1.2.2.2.1 ?_
    refine t_iconst (pc := 44) dX10_closeText_44 ?_
    refine t_iadd (pc := 45) dX10_closeText_45 ?_
    refine t_iastore (pc := 46) dX10_closeText_46 h0.2.2.2.1.2.2.2.1 ?_
    exact t_ret (pc := 47) dX10_closeText_47 rfl
theorem qX10_obey_0 {sc : Nat × (Nat → Int32)} {SH : List mCell} {S : mStore} {r : mR × mW} (h0 : sGP SH) {u1 : Option Value} : ((swp (S 86 2) 0 (r = rI (-1) SH S) [(∃ v101 S102, G sc MX7_putCell 0 [some (.ref 17), some (.int (I (S 86 3))), some (.int (I (S 86 5))), some (.int (I (S 86 6))), none] [] SH S (rI v101 SH S102) ∧ r = rI v101 SH S102), (∃ v103 S104, G sc MX7_cellsAt 0 [some (.ref 17), some (.int (I (S 86 4))), none] [] SH S (rI v103 SH S104) ∧ (∃ v105 S106, G sc MX7_put 0 [some (.ref 17), some (.int (I (S 86 3))), some (.int (I v103)), none, none] [] SH S104 (rI v105 SH S106) ∧ r = rI v105 SH S106)), (∃ v107 S108, G sc MX7_dropPage 0 [some (.ref 17), some (.int (I (S 86 3))), none] [] SH S (rI v107 SH S108) ∧ r = rI v107 SH S108), (∃ v109 S110, G sc MX7_scanMany 0 [some (.ref 17), some (.int (I (S 86 5))), none, none] [] SH S (rI v109 SH S110) ∧ r = rI v109 SH S110), (∃ v111 S112, G sc MX7_hasTimeFor 0 [some (.ref 17), some (.int (I (S 86 5)))] [] SH S (rI v111 SH S112) ∧ (if I v111 = I 0 then r = rI (-1) SH S112 else (∃ v113 S114, G sc MX7_tick 0 [some (.ref 17), some (.int (I (S112 86 5))), none, none, none, none] [] SH S112 (rI v113 SH S114) ∧ r = rI v113 SH S114)))])) → G sc MX10_obey 0 [some (.ref 0), u1] [] SH S r := by
  refine t_ld (pc := 0) dX10_obey_0 rfl rfl rfl rfl rfl ?_
  refine t_getR (pc := 1) dX10_obey_1 rfl h0.1 rfl ?_
  refine t_getR (pc := 4) dX10_obey_4 rfl h0.2.2.2.1.1 rfl ?_
  refine t_st (pc := 7) [some (.ref 0), some (.ref 17)] dX10_obey_7 rfl rfl rfl rfl rfl rfl ?_
  refine t_ld (pc := 8) dX10_obey_8 rfl rfl rfl rfl rfl ?_
  refine t_getR (pc := 9) dX10_obey_9 rfl h0.1 rfl ?_
  refine t_getI (pc := 12) dX10_obey_12 rfl h0.2.2.2.2.2.2.2.1 rfl ?_
  refine t_switch (pc := 15) 151 dX10_obey_15 (by decide) rfl rfl ?_ ?_
  · refine t_iconst (pc := 151) dX10_obey_151 ?_
    exact t_iret (pc := 152) dX10_obey_152 rfl
  · refine ⟨⟨48, rfl, ?_⟩, ⟨⟨74, rfl, ?_⟩, ⟨⟨97, rfl, ?_⟩, ⟨⟨109, rfl, ?_⟩, ⟨⟨121, rfl, ?_⟩, trivial⟩⟩⟩⟩⟩
    · refine t_ld (pc := 48) dX10_obey_48 rfl rfl rfl rfl rfl ?_
      refine t_ld (pc := 49) dX10_obey_49 rfl rfl rfl rfl rfl ?_
      refine t_getR (pc := 50) dX10_obey_50 rfl h0.1 rfl ?_
      refine t_getI (pc := 53) dX10_obey_53 rfl h0.2.2.2.2.2.2.2.1 rfl ?_
      refine t_ld (pc := 56) dX10_obey_56 rfl rfl rfl rfl rfl ?_
      refine t_getR (pc := 57) dX10_obey_57 rfl h0.1 rfl ?_
      refine t_getI (pc := 60) dX10_obey_60 rfl h0.2.2.2.2.2.2.2.1 rfl ?_
      refine t_ld (pc := 63) dX10_obey_63 rfl rfl rfl rfl rfl ?_
      refine t_getR (pc := 64) dX10_obey_64 rfl h0.1 rfl ?_
      refine t_getI (pc := 67) dX10_obey_67 rfl h0.2.2.2.2.2.2.2.1 rfl ?_
      refine t_vcIN (pc := 70) dX10_obey_70 rfl rfl [] rfl rfl ⟨rfl, by decide, Nat.le_of_ble_eq_true rfl⟩ h0.2.2.2.1.2.2.2.2.1.1 fun v101 S102 => ?_
      exact t_iret (pc := 73) dX10_obey_73 rfl
    · refine t_ld (pc := 74) dX10_obey_74 rfl rfl rfl rfl rfl ?_
      refine t_ld (pc := 75) dX10_obey_75 rfl rfl rfl rfl rfl ?_
      refine t_getR (pc := 76) dX10_obey_76 rfl h0.1 rfl ?_
      refine t_getI (pc := 79) dX10_obey_79 rfl h0.2.2.2.2.2.2.2.1 rfl ?_
      refine t_ld (pc := 82) dX10_obey_82 rfl rfl rfl rfl rfl ?_
      refine t_ld (pc := 83) dX10_obey_83 rfl rfl rfl rfl rfl ?_
      refine t_getR (pc := 84) dX10_obey_84 rfl h0.1 rfl ?_
      refine t_getI (pc := 87) dX10_obey_87 rfl h0.2.2.2.2.2.2.2.1 rfl ?_
      refine t_vcIN (pc := 90) dX10_obey_90 rfl rfl [.int (I (S 86 3)), .ref 17] rfl rfl ⟨rfl, by decide, Nat.le_of_ble_eq_true rfl⟩ h0.2.2.2.1.2.2.2.2.1.1 fun v103 S104 => ?_
      refine t_vcIN (pc := 93) dX10_obey_93 rfl rfl [] rfl rfl ⟨rfl, by decide, Nat.le_of_ble_eq_true rfl⟩ h0.2.2.2.1.2.2.2.2.1.1 fun v105 S106 => ?_
      exact t_iret (pc := 96) dX10_obey_96 rfl
    · refine t_ld (pc := 97) dX10_obey_97 rfl rfl rfl rfl rfl ?_
      refine t_ld (pc := 98) dX10_obey_98 rfl rfl rfl rfl rfl ?_
      refine t_getR (pc := 99) dX10_obey_99 rfl h0.1 rfl ?_
      refine t_getI (pc := 102) dX10_obey_102 rfl h0.2.2.2.2.2.2.2.1 rfl ?_
      refine t_vcIN (pc := 105) dX10_obey_105 rfl rfl [] rfl rfl ⟨rfl, by decide, Nat.le_of_ble_eq_true rfl⟩ h0.2.2.2.1.2.2.2.2.1.1 fun v107 S108 => ?_
      exact t_iret (pc := 108) dX10_obey_108 rfl
    · refine t_ld (pc := 109) dX10_obey_109 rfl rfl rfl rfl rfl ?_
      refine t_ld (pc := 110) dX10_obey_110 rfl rfl rfl rfl rfl ?_
      refine t_getR (pc := 111) dX10_obey_111 rfl h0.1 rfl ?_
      refine t_getI (pc := 114) dX10_obey_114 rfl h0.2.2.2.2.2.2.2.1 rfl ?_
      refine t_vcIN (pc := 117) dX10_obey_117 rfl rfl [] rfl rfl ⟨rfl, by decide, Nat.le_of_ble_eq_true rfl⟩ h0.2.2.2.1.2.2.2.2.1.1 fun v109 S110 => ?_
      exact t_iret (pc := 120) dX10_obey_120 rfl
    · refine t_ld (pc := 121) dX10_obey_121 rfl rfl rfl rfl rfl ?_
      refine t_ld (pc := 122) dX10_obey_122 rfl rfl rfl rfl rfl ?_
      refine t_getR (pc := 123) dX10_obey_123 rfl h0.1 rfl ?_
      refine t_getI (pc := 126) dX10_obey_126 rfl h0.2.2.2.2.2.2.2.1 rfl ?_
      refine t_vcIN (pc := 129) dX10_obey_129 rfl rfl [] rfl rfl ⟨rfl, by decide, Nat.le_of_ble_eq_true rfl⟩ h0.2.2.2.1.2.2.2.2.1.1 fun v111 S112 => ?_
      refine t_if_eq (pc := 132) 149 dX10_obey_132 rfl ?_ ?_
      · refine t_iconst (pc := 149) dX10_obey_149 ?_
        exact t_iret (pc := 150) dX10_obey_150 rfl
      · refine t_ld (pc := 135) dX10_obey_135 rfl rfl rfl rfl rfl ?_
        refine t_ld (pc := 136) dX10_obey_136 rfl rfl rfl rfl rfl ?_
        refine t_getR (pc := 137) dX10_obey_137 rfl h0.1 rfl ?_
        refine t_getI (pc := 140) dX10_obey_140 rfl h0.2.2.2.2.2.2.2.1 rfl ?_
        refine t_vcIN (pc := 143) dX10_obey_143 rfl rfl [] rfl rfl ⟨rfl, by decide, Nat.le_of_ble_eq_true rfl⟩ h0.2.2.2.1.2.2.2.2.1.1 fun v113 S114 => ?_
        refine t_goto (pc := 146) 150 dX10_obey_146 rfl ?_
        exact t_iret (pc := 150) dX10_obey_150 rfl
theorem qX10_fits_0 {sc : Nat × (Nat → Int32)} {SH : List mCell} {S : mStore} {r : mR × mW} (h0 : sGP SH) {l1 : Int} {l2 : Int} {l3 : Int} {l4 : Int} {u5 : Option Value} : ((∃ S101, G sc MX7_become 0 [some (.ref 65), some (.ref 17)] [] SH S (rV SH S101) ∧ (if I l3 = I (-1) then G sc MX10_fits 38 [some (.ref 0), some (.int (I l1)), some (.int (I l2)), some (.int (I l3)), some (.int (I l4)), some (.int (I 0))] [] SH S101 r else (∃ v102 S103, G sc MX7_putCell 0 [some (.ref 65), some (.int (I l1)), some (.int (I l2)), some (.int (I l3)), none] [] SH S101 (rI v102 SH S103) ∧ (if I v102 = I (-1) then ((I 0 = I 0 ∨ I 0 = I 1) ∧ r = rI 0 SH S103) else G sc MX10_fits 38 [some (.ref 0), some (.int (I l1)), some (.int (I l2)), some (.int (I l3)), some (.int (I l4)), some (.int (I 0))] [] SH S103 r))))) → G sc MX10_fits 0 [some (.ref 0), some (.int (I l1)), some (.int (I l2)), some (.int (I l3)), some (.int (I l4)), u5] [] SH S r := by
  refine t_ld (pc := 0) dX10_fits_0 rfl rfl rfl rfl rfl ?_
  refine t_getR (pc := 1) dX10_fits_1 rfl h0.1 rfl ?_
  refine t_ld (pc := 4) dX10_fits_4 rfl rfl rfl rfl rfl ?_
  refine t_getR (pc := 5) dX10_fits_5 rfl h0.1 rfl ?_
  refine t_getR (pc := 8) dX10_fits_8 rfl h0.2.2.2.1.1 rfl ?_
  refine t_vcVN (pc := 11) dX10_fits_11 rfl rfl [] rfl rfl ⟨rfl, by decide, Nat.le_of_ble_eq_true rfl⟩ h0.2.2.2.2.2.1.1 fun S101 => ?_
  refine t_ld (pc := 14) dX10_fits_14 rfl rfl rfl rfl rfl ?_
  refine t_iconst (pc := 15) dX10_fits_15 ?_
  refine t_ic_eq (pc := 16) 35 dX10_fits_16 rfl ?_ ?_
  · refine t_iconst (pc := 35) dX10_fits_35 ?_
    refine t_st (pc := 36) [some (.ref 0), some (.int (I l1)), some (.int (I l2)), some (.int (I l3)), some (.int (I l4)), some (.int (I 0))] dX10_fits_36 rfl rfl rfl rfl rfl rfl ?_
    exact id
  · refine t_ld (pc := 19) dX10_fits_19 rfl rfl rfl rfl rfl ?_
    refine t_getR (pc := 20) dX10_fits_20 rfl h0.1 rfl ?_
    refine t_ld (pc := 23) dX10_fits_23 rfl rfl rfl rfl rfl ?_
    refine t_ld (pc := 24) dX10_fits_24 rfl rfl rfl rfl rfl ?_
    refine t_ld (pc := 25) dX10_fits_25 rfl rfl rfl rfl rfl ?_
    refine t_vcIN (pc := 26) dX10_fits_26 rfl rfl [] rfl rfl ⟨rfl, by decide, Nat.le_of_ble_eq_true rfl⟩ h0.2.2.2.2.2.1.1 fun v102 S103 => ?_
    refine t_iconst (pc := 29) dX10_fits_29 ?_
    refine t_ic_ne (pc := 30) 35 dX10_fits_30 rfl ?_ ?_
    · refine t_iconst (pc := 35) dX10_fits_35 ?_
      refine t_st (pc := 36) [some (.ref 0), some (.int (I l1)), some (.int (I l2)), some (.int (I l3)), some (.int (I l4)), some (.int (I 0))] dX10_fits_36 rfl rfl rfl rfl rfl rfl ?_
      exact id
    · refine t_iconst (pc := 33) dX10_fits_33 ?_
      exact t_zret (pc := 34) dX10_fits_34 rfl
theorem qX10_fits_38 {sc : Nat × (Nat → Int32)} {SH : List mCell} {S : mStore} {r : mR × mW} (h0 : sGP SH) {l1 : Int} {l2 : Int} {l3 : Int} {l4 : Int} {l5 : Int} : ((if I l4 < I l5 then G sc MX10_fits 92 [some (.ref 0), some (.int (I l1)), some (.int (I l2)), some (.int (I l3)), some (.int (I l4)), some (.int (I 0))] [] SH S r else (if I 21 ≤ I l5 then G sc MX10_fits 92 [some (.ref 0), some (.int (I l1)), some (.int (I l2)), some (.int (I l3)), some (.int (I l4)), some (.int (I 0))] [] SH S r else (if I l5 ≤ I 0 then (∃ v101 S102, G sc MX7_used 0 [some (.ref 65), none, none] [] SH S (rI v101 SH S102) ∧ ((0 ≤ l5 ∧ l5 < 21) ∧ G sc MX10_fits 38 [some (.ref 0), some (.int (I l1)), some (.int (I l2)), some (.int (I l3)), some (.int (I l4)), some (.int (I (l5 + 1)))] [] SH (up S102 88 l5 v101) r)) else (∃ v103 S104, G sc MX7_tick 0 [some (.ref 65), some (.int (I 1)), none, none, none, none] [] SH S (rI v103 SH S104) ∧ (∃ v105 S106, G sc MX7_used 0 [some (.ref 65), none, none] [] SH S104 (rI v105 SH S106) ∧ ((0 ≤ l5 ∧ l5 < 21) ∧ G sc MX10_fits 38 [some (.ref 0), some (.int (I l1)), some (.int (I l2)), some (.int (I l3)), some (.int (I l4)), some (.int (I (l5 + 1)))] [] SH (up S106 88 l5 v105) r))))))) → G sc MX10_fits 38 [some (.ref 0), some (.int (I l1)), some (.int (I l2)), some (.int (I l3)), some (.int (I l4)), some (.int (I l5))] [] SH S r := by
  refine t_ld (pc := 38) dX10_fits_38 rfl rfl rfl rfl rfl ?_
  refine t_ld (pc := 40) dX10_fits_40 rfl rfl rfl rfl rfl ?_
  refine t_ic_gt (pc := 42) 89 dX10_fits_42 rfl ?_ ?_
  · refine t_iconst (pc := 89) dX10_fits_89 ?_
    refine t_st (pc := 90) [some (.ref 0), some (.int (I l1)), some (.int (I l2)), some (.int (I l3)), some (.int (I l4)), some (.int (I 0))] dX10_fits_90 rfl rfl rfl rfl rfl rfl ?_
    exact id
  · refine t_ld (pc := 45) dX10_fits_45 rfl rfl rfl rfl rfl ?_
    refine t_ld (pc := 47) dX10_fits_47 rfl rfl rfl rfl rfl ?_
    refine t_getR (pc := 48) dX10_fits_48 rfl h0.1 rfl ?_
    refine t_len (pc := 51) dX10_fits_51 h0.2.2.2.2.2.2.2.2.2.1 ?_
    refine t_ic_ge (pc := 52) 89 dX10_fits_52 rfl ?_ ?_
    · refine t_iconst (pc := 89) dX10_fits_89 ?_
      refine t_st (pc := 90) [some (.ref 0), some (.int (I l1)), some (.int (I l2)), some (.int (I l3)), some (.int (I l4)), some (.int (I 0))] dX10_fits_90 rfl rfl rfl rfl rfl rfl ?_
      exact id
    · refine t_ld (pc := 55) dX10_fits_55 rfl rfl rfl rfl rfl ?_
      refine t_if_le (pc := 57) 69 dX10_fits_57 rfl ?_ ?_
      · refine t_ld (pc := 69) dX10_fits_69 rfl rfl rfl rfl rfl ?_
        refine t_getR (pc := 70) dX10_fits_70 rfl h0.1 rfl ?_
        refine t_ld (pc := 73) dX10_fits_73 rfl rfl rfl rfl rfl ?_
        refine t_ld (pc := 75) dX10_fits_75 rfl rfl rfl rfl rfl ?_
        refine t_getR (pc := 76) dX10_fits_76 rfl h0.1 rfl ?_
        refine t_vcIN (pc := 79) dX10_fits_79 rfl rfl [.int (I l5), .ref 88] rfl rfl ⟨rfl, by decide, Nat.le_of_ble_eq_true rfl⟩ h0.2.2.2.2.2.1.1 fun v101 S102 => ?_
        refine t_iastore (pc := 82) dX10_fits_82 h0.2.2.2.2.2.2.2.2.2.1 ?_
        refine t_iinc (pc := 83) [some (.ref 0), some (.int (I l1)), some (.int (I l2)), some (.int (I l3)), some (.int (I l4)), some (.int (I (l5 + 1)))] dX10_fits_83 rfl rfl ?_
        refine t_goto (pc := 86) 38 dX10_fits_86 rfl ?_
        exact id
      · refine t_ld (pc := 60) dX10_fits_60 rfl rfl rfl rfl rfl ?_
        refine t_getR (pc := 61) dX10_fits_61 rfl h0.1 rfl ?_
        refine t_iconst (pc := 64) dX10_fits_64 ?_
        refine t_vcIN (pc := 65) dX10_fits_65 rfl rfl [] rfl rfl ⟨rfl, by decide, Nat.le_of_ble_eq_true rfl⟩ h0.2.2.2.2.2.1.1 fun v103 S104 => ?_
        refine t_pop (pc := 68) dX10_fits_68 rfl ?_
        refine t_ld (pc := 69) dX10_fits_69 rfl rfl rfl rfl rfl ?_
        refine t_getR (pc := 70) dX10_fits_70 rfl h0.1 rfl ?_
        refine t_ld (pc := 73) dX10_fits_73 rfl rfl rfl rfl rfl ?_
        refine t_ld (pc := 75) dX10_fits_75 rfl rfl rfl rfl rfl ?_
        refine t_getR (pc := 76) dX10_fits_76 rfl h0.1 rfl ?_
        refine t_vcIN (pc := 79) dX10_fits_79 rfl rfl [.int (I l5), .ref 88] rfl rfl ⟨rfl, by decide, Nat.le_of_ble_eq_true rfl⟩ h0.2.2.2.2.2.1.1 fun v105 S106 => ?_
        refine t_iastore (pc := 82) dX10_fits_82 h0.2.2.2.2.2.2.2.2.2.1 ?_
        refine t_iinc (pc := 83) [some (.ref 0), some (.int (I l1)), some (.int (I l2)), some (.int (I l3)), some (.int (I l4)), some (.int (I (l5 + 1)))] dX10_fits_83 rfl rfl ?_
        refine t_goto (pc := 86) 38 dX10_fits_86 rfl ?_
        exact id
theorem qX10_fits_92 {sc : Nat × (Nat → Int32)} {SH : List mCell} {S : mStore} {r : mR × mW} (h0 : sGP SH) {l1 : Int} {l2 : Int} {l3 : Int} {l4 : Int} {l5 : Int} : ((if I (S 13 5) ≤ I l5 then ((I 1 = I 0 ∨ I 1 = I 1) ∧ r = rI 1 SH S) else ((0 ≤ l5 ∧ l5 < 8) ∧ ((0 ≤ S 14 l5 ∧ S 14 l5 < 21) ∧ ((0 ≤ l5 ∧ l5 < 8) ∧ (if I (S 88 (S 14 l5)) = I (S 15 l5) then G sc MX10_fits 92 [some (.ref 0), some (.int (I l1)), some (.int (I l2)), some (.int (I l3)), some (.int (I l4)), some (.int (I (l5 + 1)))] [] SH S r else ((I 0 = I 0 ∨ I 0 = I 1) ∧ r = rI 0 SH S))))))) → G sc MX10_fits 92 [some (.ref 0), some (.int (I l1)), some (.int (I l2)), some (.int (I l3)), some (.int (I l4)), some (.int (I l5))] [] SH S r := by
  refine t_ld (pc := 92) dX10_fits_92 rfl rfl rfl rfl rfl ?_
  refine t_ld (pc := 94) dX10_fits_94 rfl rfl rfl rfl rfl ?_
  refine t_getR (pc := 95) dX10_fits_95 rfl h0.1 rfl ?_
  refine t_getI (pc := 98) dX10_fits_98 rfl h0.2.2.2.1.1 rfl ?_
  refine t_ic_ge (pc := 101) 140 dX10_fits_101 rfl ?_ ?_
  · refine t_iconst (pc := 140) dX10_fits_140 ?_
    exact t_zret (pc := 141) dX10_fits_141 rfl
  · refine t_ld (pc := 104) dX10_fits_104 rfl rfl rfl rfl rfl ?_
    refine t_getR (pc := 105) dX10_fits_105 rfl h0.1 rfl ?_
    refine t_ld (pc := 108) dX10_fits_108 rfl rfl rfl rfl rfl ?_
    refine t_getR (pc := 109) dX10_fits_109 rfl h0.1 rfl ?_
    refine t_getR (pc := 112) dX10_fits_112 rfl h0.2.2.2.1.1 rfl ?_
    refine t_ld (pc := 115) dX10_fits_115 rfl rfl rfl rfl rfl ?_
    refine t_iaload (pc := 117) dX10_fits_117 h0.2.2.2.1.2.1 ?_
    refine t_iaload (pc := 118) dX10_fits_118 h0.2.2.2.2.2.2.2.2.2.1 ?_
    refine t_ld (pc := 119) dX10_fits_119 rfl rfl rfl rfl rfl ?_
    refine t_getR (pc := 120) dX10_fits_120 rfl h0.1 rfl ?_
    refine t_getR (pc := 123) dX10_fits_123 rfl h0.2.2.2.1.1 rfl ?_
    refine t_ld (pc := 126) dX10_fits_126 rfl rfl rfl rfl rfl ?_
    refine t_iaload (pc := 128) dX10_fits_128 h0.2.2.2.1.2.2.1 ?_
    refine t_ic_eq (pc := 129) 134 dX10_fits_129 rfl ?_ ?_
    · refine t_iinc (pc := 134) [some (.ref 0), some (.int (I l1)), some (.int (I l2)), some (.int (I l3)), some (.int (I l4)), some (.int (I (l5 + 1)))] dX10_fits_134 rfl rfl ?_
      refine t_goto (pc := 137) 92 dX10_fits_137 rfl ?_
      exact id
    · refine t_iconst (pc := 132) dX10_fits_132 ?_
      exact t_zret (pc := 133) dX10_fits_133 rfl
