-- needs: 43.tshape
/-! ===== the program as conditions (gen_vc.py) ===== -/
theorem qX10_usedBy_0 {sc : Nat × (Nat → Int32)} {SH : List mCell} {S : mStore} {r : mR × mW} (h0 : sGP SH) {l1 : Int} {l2 : Int} {l3 : Int} {u4 : Option Value} : ((∃ S101, G sc MX7_become 0 [some (.ref 65), some (.ref 17)] [] SH S (rV SH S101) ∧ G sc MX10_usedBy 17 [some (.ref 0), some (.int (I l1)), some (.int (I l2)), some (.int (I l3)), some (.int (I 0))] [] SH S101 r)) → G sc MX10_usedBy 0 [some (.ref 0), some (.int (I l1)), some (.int (I l2)), some (.int (I l3)), u4] [] SH S r := by
  refine t_ld (pc := 0) dX10_usedBy_0 rfl rfl rfl rfl rfl ?_
  refine t_getR (pc := 1) dX10_usedBy_1 rfl h0.1 rfl ?_
  refine t_ld (pc := 4) dX10_usedBy_4 rfl rfl rfl rfl rfl ?_
  refine t_getR (pc := 5) dX10_usedBy_5 rfl h0.1 rfl ?_
  refine t_getR (pc := 8) dX10_usedBy_8 rfl h0.2.2.2.1.1 rfl ?_
  refine t_vcVN (pc := 11) dX10_usedBy_11 rfl rfl [] rfl rfl ⟨rfl, by decide, Nat.le_of_ble_eq_true rfl⟩ h0.2.2.2.2.2.1.1 fun S101 => ?_
  refine t_iconst (pc := 14) dX10_usedBy_14 ?_
  refine t_st (pc := 15) [some (.ref 0), some (.int (I l1)), some (.int (I l2)), some (.int (I l3)), some (.int (I 0))] dX10_usedBy_15 rfl rfl rfl rfl rfl rfl ?_
  exact id
theorem qX10_usedBy_17 {sc : Nat × (Nat → Int32)} {SH : List mCell} {S : mStore} {r : mR × mW} (h0 : sGP SH) {l1 : Int} {l2 : Int} {l3 : Int} {l4 : Int} : ((if I l2 ≤ I l4 then (∃ v101 S102, G sc MX7_used 0 [some (.ref 65), none, none] [] SH S (rI v101 SH S102) ∧ r = rI v101 SH S102) else (if I (ian (isr l3 l4) 1) = I 1 then (∃ v105 S106, G sc MX7_cellsAt 0 [some (.ref 65), some (.int (I l1)), none] [] SH S (rI v105 SH S106) ∧ (∃ v107 S108, G sc MX10_cellOf 0 [some (.int (I v105)), some (.int (I 0))] [] SH S106 (rI v107 SH S108) ∧ (∃ v109 S110, G sc MX7_putCell 0 [some (.ref 65), some (.int (I l1)), some (.int (I 0)), some (.int (I (ian (v107 + 1) 15))), none] [] SH S108 (rI v109 SH S110) ∧ (∃ v111 S112, G sc MX7_tick 0 [some (.ref 65), some (.int (I 1)), none, none, none, none] [] SH S110 (rI v111 SH S112) ∧ G sc MX10_usedBy 17 [some (.ref 0), some (.int (I l1)), some (.int (I l2)), some (.int (I l3)), some (.int (I (l4 + 1)))] [] SH S112 r)))) else (∃ v103 S104, G sc MX7_tick 0 [some (.ref 65), some (.int (I 1)), none, none, none, none] [] SH S (rI v103 SH S104) ∧ G sc MX10_usedBy 17 [some (.ref 0), some (.int (I l1)), some (.int (I l2)), some (.int (I l3)), some (.int (I (l4 + 1)))] [] SH S104 r)))) → G sc MX10_usedBy 17 [some (.ref 0), some (.int (I l1)), some (.int (I l2)), some (.int (I l3)), some (.int (I l4))] [] SH S r := by
  refine t_ld (pc := 17) dX10_usedBy_17 rfl rfl rfl rfl rfl ?_
  refine t_ld (pc := 19) dX10_usedBy_19 rfl rfl rfl rfl rfl ?_
  refine t_ic_ge (pc := 20) 75 dX10_usedBy_20 rfl ?_ ?_
  · refine t_ld (pc := 75) dX10_usedBy_75 rfl rfl rfl rfl rfl ?_
    refine t_getR (pc := 76) dX10_usedBy_76 rfl h0.1 rfl ?_
    refine t_vcIN (pc := 79) dX10_usedBy_79 rfl rfl [] rfl rfl ⟨rfl, by decide, Nat.le_of_ble_eq_true rfl⟩ h0.2.2.2.2.2.1.1 fun v101 S102 => ?_
    exact t_iret (pc := 82) dX10_usedBy_82 rfl
  · refine t_ld (pc := 23) dX10_usedBy_23 rfl rfl rfl rfl rfl ?_
    refine t_ld (pc := 24) dX10_usedBy_24 rfl rfl rfl rfl rfl ?_
    refine t_ishr (pc := 26) dX10_usedBy_26 ?_
    refine t_iconst (pc := 27) dX10_usedBy_27 ?_
    refine t_iand (pc := 28) dX10_usedBy_28 ?_
    refine t_iconst (pc := 29) dX10_usedBy_29 ?_
    refine t_ic_ne (pc := 30) 60 dX10_usedBy_30 rfl ?_ ?_
    · refine t_ld (pc := 60) dX10_usedBy_60 rfl rfl rfl rfl rfl ?_
      refine t_getR (pc := 61) dX10_usedBy_61 rfl h0.1 rfl ?_
      refine t_iconst (pc := 64) dX10_usedBy_64 ?_
      refine t_vcIN (pc := 65) dX10_usedBy_65 rfl rfl [] rfl rfl ⟨rfl, by decide, Nat.le_of_ble_eq_true rfl⟩ h0.2.2.2.2.2.1.1 fun v103 S104 => ?_
      refine t_pop (pc := 68) dX10_usedBy_68 rfl ?_
      refine t_iinc (pc := 69) [some (.ref 0), some (.int (I l1)), some (.int (I l2)), some (.int (I l3)), some (.int (I (l4 + 1)))] dX10_usedBy_69 rfl rfl ?_
      refine t_goto (pc := 72) 17 dX10_usedBy_72 rfl ?_
      exact id
    · refine t_ld (pc := 33) dX10_usedBy_33 rfl rfl rfl rfl rfl ?_
      refine t_getR (pc := 34) dX10_usedBy_34 rfl h0.1 rfl ?_
      refine t_ld (pc := 37) dX10_usedBy_37 rfl rfl rfl rfl rfl ?_
      refine t_iconst (pc := 38) dX10_usedBy_38 ?_
      refine t_ld (pc := 39) dX10_usedBy_39 rfl rfl rfl rfl rfl ?_
      refine t_getR (pc := 40) dX10_usedBy_40 rfl h0.1 rfl ?_
      refine t_ld (pc := 43) dX10_usedBy_43 rfl rfl rfl rfl rfl ?_
      refine t_vcIN (pc := 44) dX10_usedBy_44 rfl rfl [.int (I 0), .int (I l1), .ref 65] rfl rfl ⟨rfl, by decide, Nat.le_of_ble_eq_true rfl⟩ h0.2.2.2.2.2.1.1 fun v105 S106 => ?_
      refine t_iconst (pc := 47) dX10_usedBy_47 ?_
      refine t_scIN (pc := 48) dX10_usedBy_48 rfl [.int (I 0), .int (I l1), .ref 65] rfl rfl ⟨rfl, by decide, Nat.le_of_ble_eq_true rfl⟩ fun v107 S108 => ?_
      refine t_iconst (pc := 51) dX10_usedBy_51 ?_
      refine t_iadd (pc := 52) dX10_usedBy_52 ?_
      refine t_bipush (pc := 53) dX10_usedBy_53 (by decide) ?_
      refine t_iand (pc := 55) dX10_usedBy_55 ?_
      refine t_vcIN (pc := 56) dX10_usedBy_56 rfl rfl [] rfl rfl ⟨rfl, by decide, Nat.le_of_ble_eq_true rfl⟩ h0.2.2.2.2.2.1.1 fun v109 S110 => ?_
      refine t_pop (pc := 59) dX10_usedBy_59 rfl ?_
      refine t_ld (pc := 60) dX10_usedBy_60 rfl rfl rfl rfl rfl ?_
      refine t_getR (pc := 61) dX10_usedBy_61 rfl h0.1 rfl ?_
      refine t_iconst (pc := 64) dX10_usedBy_64 ?_
      refine t_vcIN (pc := 65) dX10_usedBy_65 rfl rfl [] rfl rfl ⟨rfl, by decide, Nat.le_of_ble_eq_true rfl⟩ h0.2.2.2.2.2.1.1 fun v111 S112 => ?_
      refine t_pop (pc := 68) dX10_usedBy_68 rfl ?_
      refine t_iinc (pc := 69) [some (.ref 0), some (.int (I l1)), some (.int (I l2)), some (.int (I l3)), some (.int (I (l4 + 1)))] dX10_usedBy_69 rfl rfl ?_
      refine t_goto (pc := 72) 17 dX10_usedBy_72 rfl ?_
      exact id
theorem qX10_befallsByChance_0 {sc : Nat × (Nat → Int32)} {SH : List mCell} {S : mStore} {r : mR × mW} (h0 : sGP SH) {u1 : Option Value} {u2 : Option Value} {u3 : Option Value} : ((∃ v101 S102, G sc MX2_drawOf 0 [some (.ref 87), some (.int (I 4))] [] SH S (rI v101 SH S102) ∧ (if I v101 = I 3 then r = rI 0 SH S102 else (if I (S102 1 7) = I 0 then r = rI 0 SH S102 else (∃ v103 S104, G sc MX2_drawOf 0 [some (.ref 87), some (.int (I (S102 1 7)))] [] SH S102 (rI v103 SH S104) ∧ (if I v101 = I 0 then (∃ v113 S114, G sc MX2_drawOf 0 [some (.ref 87), some (.int (I 4))] [] SH S104 (rI v113 SH S114) ∧ (∃ v115 S116, G sc MX2_drawOf 0 [some (.ref 87), some (.int (I 4))] [] SH S114 (rI v115 SH S116) ∧ (∃ v117 S118, G sc MX7_putCell 0 [some (.ref 65), some (.int (I v103)), some (.int (I v113)), some (.int (I v115)), none] [] SH S116 (rI v117 SH S118) ∧ r = rI v117 SH S118))) else (if I v101 = I 1 then (∃ v107 S108, G sc MX2_drawOf 0 [some (.ref 87), some (.int (I (S104 1 7)))] [] SH S104 (rI v107 SH S108) ∧ (∃ v109 S110, G sc MX7_cellsAt 0 [some (.ref 65), some (.int (I v107)), none] [] SH S108 (rI v109 SH S110) ∧ (∃ v111 S112, G sc MX7_put 0 [some (.ref 65), some (.int (I v103)), some (.int (I v109)), none, none] [] SH S110 (rI v111 SH S112) ∧ r = rI v111 SH S112))) else (∃ v105 S106, G sc MX7_dropPage 0 [some (.ref 65), some (.int (I v103)), none] [] SH S104 (rI v105 SH S106) ∧ r = rI 0 SH S106)))))))) → G sc MX10_befallsByChance 0 [some (.ref 0), u1, u2, u3] [] SH S r := by
  refine t_ld (pc := 0) dX10_befallsByChance_0 rfl rfl rfl rfl rfl ?_
  refine t_getR (pc := 1) dX10_befallsByChance_1 rfl h0.1 rfl ?_
  refine t_iconst (pc := 4) dX10_befallsByChance_4 ?_
  refine t_vcIN (pc := 5) dX10_befallsByChance_5 rfl rfl [] rfl rfl ⟨rfl, by decide, Nat.le_of_ble_eq_true rfl⟩ h0.2.2.2.2.2.2.2.2.1 fun v101 S102 => ?_
  refine t_st (pc := 8) [some (.ref 0), some (.int (I v101)), u2, u3] dX10_befallsByChance_8 rfl rfl rfl rfl rfl rfl ?_
  refine t_ld (pc := 9) dX10_befallsByChance_9 rfl rfl rfl rfl rfl ?_
  refine t_iconst (pc := 10) dX10_befallsByChance_10 ?_
  refine t_ic_eq (pc := 11) 24 dX10_befallsByChance_11 rfl ?_ ?_
  · refine t_iconst (pc := 24) dX10_befallsByChance_24 ?_
    exact t_iret (pc := 25) dX10_befallsByChance_25 rfl
  · refine t_ld (pc := 14) dX10_befallsByChance_14 rfl rfl rfl rfl rfl ?_
    refine t_getR (pc := 15) dX10_befallsByChance_15 rfl h0.1 rfl ?_
    refine t_getI (pc := 18) dX10_befallsByChance_18 rfl h0.2.2.2.1.2.2.2.2.1.2.2.2.2.2.2.2.2.2.2.2.2.1 rfl ?_
    refine t_if_ne (pc := 21) 26 dX10_befallsByChance_21 rfl ?_ ?_
    · refine t_ld (pc := 26) dX10_befallsByChance_26 rfl rfl rfl rfl rfl ?_
      refine t_getR (pc := 27) dX10_befallsByChance_27 rfl h0.1 rfl ?_
      refine t_ld (pc := 30) dX10_befallsByChance_30 rfl rfl rfl rfl rfl ?_
      refine t_getR (pc := 31) dX10_befallsByChance_31 rfl h0.1 rfl ?_
      refine t_getI (pc := 34) dX10_befallsByChance_34 rfl h0.2.2.2.1.2.2.2.2.1.2.2.2.2.2.2.2.2.2.2.2.2.1 rfl ?_
      refine t_vcIN (pc := 37) dX10_befallsByChance_37 rfl rfl [] rfl rfl ⟨rfl, by decide, Nat.le_of_ble_eq_true rfl⟩ h0.2.2.2.2.2.2.2.2.1 fun v103 S104 => ?_
      refine t_st (pc := 40) [some (.ref 0), some (.int (I v101)), some (.int (I v103)), u3] dX10_befallsByChance_40 rfl rfl rfl rfl rfl rfl ?_
      refine t_ld (pc := 41) dX10_befallsByChance_41 rfl rfl rfl rfl rfl ?_
      refine t_if_ne (pc := 42) 72 dX10_befallsByChance_42 rfl ?_ ?_
      · refine t_ld (pc := 72) dX10_befallsByChance_72 rfl rfl rfl rfl rfl ?_
        refine t_iconst (pc := 73) dX10_befallsByChance_73 ?_
        refine t_ic_ne (pc := 74) 107 dX10_befallsByChance_74 rfl ?_ ?_
        · refine t_ld (pc := 107) dX10_befallsByChance_107 rfl rfl rfl rfl rfl ?_
          refine t_getR (pc := 108) dX10_befallsByChance_108 rfl h0.1 rfl ?_
          refine t_ld (pc := 111) dX10_befallsByChance_111 rfl rfl rfl rfl rfl ?_
          refine t_vcIN (pc := 112) dX10_befallsByChance_112 rfl rfl [] rfl rfl ⟨rfl, by decide, Nat.le_of_ble_eq_true rfl⟩ h0.2.2.2.2.2.1.1 fun v105 S106 => ?_
          refine t_pop (pc := 115) dX10_befallsByChance_115 rfl ?_
          refine t_iconst (pc := 116) dX10_befallsByChance_116 ?_
          exact t_iret (pc := 117) dX10_befallsByChance_117 rfl
        · refine t_ld (pc := 77) dX10_befallsByChance_77 rfl rfl rfl rfl rfl ?_
          refine t_getR (pc := 78) dX10_befallsByChance_78 rfl h0.1 rfl ?_
          refine t_ld (pc := 81) dX10_befallsByChance_81 rfl rfl rfl rfl rfl ?_
          refine t_ld (pc := 82) dX10_befallsByChance_82 rfl rfl rfl rfl rfl ?_
          refine t_getR (pc := 83) dX10_befallsByChance_83 rfl h0.1 rfl ?_
          refine t_ld (pc := 86) dX10_befallsByChance_86 rfl rfl rfl rfl rfl ?_
          refine t_getR (pc := 87) dX10_befallsByChance_87 rfl h0.1 rfl ?_
          refine t_ld (pc := 90) dX10_befallsByChance_90 rfl rfl rfl rfl rfl ?_
          refine t_getR (pc := 91) dX10_befallsByChance_91 rfl h0.1 rfl ?_
          refine t_getI (pc := 94) dX10_befallsByChance_94 rfl h0.2.2.2.1.2.2.2.2.1.2.2.2.2.2.2.2.2.2.2.2.2.1 rfl ?_
          refine t_vcIN (pc := 97) dX10_befallsByChance_97 rfl rfl [.ref 65, .int (I v103), .ref 65] rfl rfl ⟨rfl, by decide, Nat.le_of_ble_eq_true rfl⟩ h0.2.2.2.2.2.2.2.2.1 fun v107 S108 => ?_
          refine t_vcIN (pc := 100) dX10_befallsByChance_100 rfl rfl [.int (I v103), .ref 65] rfl rfl ⟨rfl, by decide, Nat.le_of_ble_eq_true rfl⟩ h0.2.2.2.2.2.1.1 fun v109 S110 => ?_
          refine t_vcIN (pc := 103) dX10_befallsByChance_103 rfl rfl [] rfl rfl ⟨rfl, by decide, Nat.le_of_ble_eq_true rfl⟩ h0.2.2.2.2.2.1.1 fun v111 S112 => ?_
          exact t_iret (pc := 106) dX10_befallsByChance_106 rfl
      · refine t_ld (pc := 45) dX10_befallsByChance_45 rfl rfl rfl rfl rfl ?_
        refine t_getR (pc := 46) dX10_befallsByChance_46 rfl h0.1 rfl ?_
        refine t_iconst (pc := 49) dX10_befallsByChance_49 ?_
        refine t_vcIN (pc := 50) dX10_befallsByChance_50 rfl rfl [] rfl rfl ⟨rfl, by decide, Nat.le_of_ble_eq_true rfl⟩ h0.2.2.2.2.2.2.2.2.1 fun v113 S114 => ?_
        refine t_st (pc := 53) [some (.ref 0), some (.int (I v101)), some (.int (I v103)), some (.int (I v113))] dX10_befallsByChance_53 rfl rfl rfl rfl rfl rfl ?_
        refine t_ld (pc := 54) dX10_befallsByChance_54 rfl rfl rfl rfl rfl ?_
        refine t_getR (pc := 55) dX10_befallsByChance_55 rfl h0.1 rfl ?_
        refine t_ld (pc := 58) dX10_befallsByChance_58 rfl rfl rfl rfl rfl ?_
        refine t_ld (pc := 59) dX10_befallsByChance_59 rfl rfl rfl rfl rfl ?_
        refine t_ld (pc := 60) dX10_befallsByChance_60 rfl rfl rfl rfl rfl ?_
        refine t_getR (pc := 61) dX10_befallsByChance_61 rfl h0.1 rfl ?_
        refine t_iconst (pc := 64) dX10_befallsByChance_64 ?_
        refine t_vcIN (pc := 65) dX10_befallsByChance_65 rfl rfl [.int (I v113), .int (I v103), .ref 65] rfl rfl ⟨rfl, by decide, Nat.le_of_ble_eq_true rfl⟩ h0.2.2.2.2.2.2.2.2.1 fun v115 S116 => ?_
        refine t_vcIN (pc := 68) dX10_befallsByChance_68 rfl rfl [] rfl rfl ⟨rfl, by decide, Nat.le_of_ble_eq_true rfl⟩ h0.2.2.2.2.2.1.1 fun v117 S118 => ?_
        exact t_iret (pc := 71) dX10_befallsByChance_71 rfl
    · refine t_iconst (pc := 24) dX10_befallsByChance_24 ?_
      exact t_iret (pc := 25) dX10_befallsByChance_25 rfl
