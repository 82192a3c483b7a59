-- needs: 43.tshape
/-! ===== the program as conditions (gen_vc.py) ===== -/
theorem qX11_scansPage_0 {sc : Nat × (Nat → Int32)} {SH : List mCell} {S : mStore} {r : mR × mW} (h0 : sMod SH) {l1 : Int} {l2 : Int} {u3 : Option Value} {u4 : Option Value} : ((((0 : Int) ≤ l1 + 4 ∧ l1 + 4 < 137400) ∧ (((0 : Int) ≤ l1 + 4 ∧ l1 + 4 < 137400) ∧ (((0 : Int) ≤ l1 + 11 ∧ l1 + 11 < 137400) ∧ (((0 : Int) ≤ l1 + 11 ∧ l1 + 11 < 137400) ∧ (∃ v101 S102, G sc MX11_befalls 0 [some (.ref 90), some (.int (I l1)), some (.int (I l2))] [] SH (up (up S 91 (l1 + 4) ((S 91 (l1 + 4)) + 1)) 91 (l1 + 11) (((up S 91 (l1 + 4) ((S 91 (l1 + 4)) + 1)) 91 (l1 + 11)) + 1)) (rI v101 SH S102) ∧ (((0 : Int) ≤ (l1 + 112) + l2 ∧ (l1 + 112) + l2 < 137400) ∧ (if I v101 = I 4 then (∃ v103 S104, G sc MX11_drops 0 [some (.ref 90), some (.int (I l1)), some (.int (I l2)), none] [] SH (up S102 91 ((l1 + 112) + l2) v101) (rI v103 SH S104) ∧ (if I v101 = I 1 then (((0 : Int) ≤ (l1 + 160) + l2 ∧ (l1 + 160) + l2 < 137400) ∧ G sc MX11_scansPage 79 [some (.ref 90), some (.int (I l1)), some (.int (I l2)), some (.int (I v101)), u4] [] SH (up S104 91 ((l1 + 160) + l2) (-1)) r) else (if I v101 = I 4 then (((0 : Int) ≤ (l1 + 160) + l2 ∧ (l1 + 160) + l2 < 137400) ∧ G sc MX11_scansPage 79 [some (.ref 90), some (.int (I l1)), some (.int (I l2)), some (.int (I v101)), u4] [] SH (up S104 91 ((l1 + 160) + l2) (-1)) r) else G sc MX11_scansPage 79 [some (.ref 90), some (.int (I l1)), some (.int (I l2)), some (.int (I v101)), u4] [] SH S104 r))) else (if I v101 = I 1 then (((0 : Int) ≤ (l1 + 160) + l2 ∧ (l1 + 160) + l2 < 137400) ∧ G sc MX11_scansPage 79 [some (.ref 90), some (.int (I l1)), some (.int (I l2)), some (.int (I v101)), u4] [] SH (up (up S102 91 ((l1 + 112) + l2) v101) 91 ((l1 + 160) + l2) (-1)) r) else (if I v101 = I 4 then (((0 : Int) ≤ (l1 + 160) + l2 ∧ (l1 + 160) + l2 < 137400) ∧ G sc MX11_scansPage 79 [some (.ref 90), some (.int (I l1)), some (.int (I l2)), some (.int (I v101)), u4] [] SH (up (up S102 91 ((l1 + 112) + l2) v101) 91 ((l1 + 160) + l2) (-1)) r) else G sc MX11_scansPage 79 [some (.ref 90), some (.int (I l1)), some (.int (I l2)), some (.int (I v101)), u4] [] SH (up S102 91 ((l1 + 112) + l2) v101) r)))))))))) → G sc MX11_scansPage 0 [some (.ref 90), some (.int (I l1)), some (.int (I l2)), u3, u4] [] SH S r := by
  refine tt_ld (M := MX11_scansPage) (pc := 0) dX11_scansPage_0 rfl rfl rfl rfl rfl ?_
  refine tt_getR (M := MX11_scansPage) (pc := 1) dX11_scansPage_1 rfl h0.1 rfl ?_
  refine tt_ld (M := MX11_scansPage) (pc := 4) dX11_scansPage_4 rfl rfl rfl rfl rfl ?_
  refine tt_iconst (M := MX11_scansPage) (pc := 5) dX11_scansPage_5 ?_
  refine tt_iadd (M := MX11_scansPage) (pc := 6) dX11_scansPage_6 ?_
  refine tt_dup2 (M := MX11_scansPage) (pc := 7) dX11_scansPage_7 rfl rfl ?_
  refine tt_iaload (M := MX11_scansPage) (pc := 8) dX11_scansPage_8 h0.2.1 rfl ?_
  refine tt_iconst (M := MX11_scansPage) (pc := 9) dX11_scansPage_9 ?_
  refine tt_iadd (M := MX11_scansPage) (pc := 10) dX11_scansPage_10 ?_
  refine tt_iastore (M := MX11_scansPage) (pc := 11) dX11_scansPage_11 h0.2.1 rfl ?_
  refine tt_ld (M := MX11_scansPage) (pc := 12) dX11_scansPage_12 rfl rfl rfl rfl rfl ?_
  refine tt_getR (M := MX11_scansPage) (pc := 13) dX11_scansPage_13 rfl h0.1 rfl ?_
  refine tt_ld (M := MX11_scansPage) (pc := 16) dX11_scansPage_16 rfl rfl rfl rfl rfl ?_
  refine tt_bipush (M := MX11_scansPage) (pc := 17) dX11_scansPage_17 (by decide) ?_
  refine tt_iadd (M := MX11_scansPage) (pc := 19) dX11_scansPage_19 ?_
  refine tt_dup2 (M := MX11_scansPage) (pc := 20) dX11_scansPage_20 rfl rfl ?_
  refine tt_iaload (M := MX11_scansPage) (pc := 21) dX11_scansPage_21 h0.2.1 rfl ?_
  refine tt_iconst (M := MX11_scansPage) (pc := 22) dX11_scansPage_22 ?_
  refine tt_iadd (M := MX11_scansPage) (pc := 23) dX11_scansPage_23 ?_
  refine tt_iastore (M := MX11_scansPage) (pc := 24) dX11_scansPage_24 h0.2.1 rfl ?_
  refine tt_ld (M := MX11_scansPage) (pc := 25) dX11_scansPage_25 rfl rfl rfl rfl rfl ?_
  refine tt_ld (M := MX11_scansPage) (pc := 26) dX11_scansPage_26 rfl rfl rfl rfl rfl ?_
  refine tt_ld (M := MX11_scansPage) (pc := 27) dX11_scansPage_27 rfl rfl rfl rfl rfl ?_
  refine tt_vcIN (M := MX11_scansPage) (pc := 28) dX11_scansPage_28 rfl rfl [] rfl rfl ⟨rfl, by decide, Nat.le_of_ble_eq_true rfl⟩ h0.1 fun v101 S102 => ?_
  refine tt_st (M := MX11_scansPage) (pc := 31) [some (.ref 90), some (.int (I l1)), some (.int (I l2)), some (.int (I v101)), u4] dX11_scansPage_31 rfl rfl rfl rfl rfl rfl ?_
  refine tt_ld (M := MX11_scansPage) (pc := 32) dX11_scansPage_32 rfl rfl rfl rfl rfl ?_
  refine tt_getR (M := MX11_scansPage) (pc := 33) dX11_scansPage_33 rfl h0.1 rfl ?_
  refine tt_ld (M := MX11_scansPage) (pc := 36) dX11_scansPage_36 rfl rfl rfl rfl rfl ?_
  refine tt_bipush (M := MX11_scansPage) (pc := 37) dX11_scansPage_37 (by decide) ?_
  refine tt_iadd (M := MX11_scansPage) (pc := 39) dX11_scansPage_39 ?_
  refine tt_ld (M := MX11_scansPage) (pc := 40) dX11_scansPage_40 rfl rfl rfl rfl rfl ?_
  refine tt_iadd (M := MX11_scansPage) (pc := 41) dX11_scansPage_41 ?_
  refine tt_ld (M := MX11_scansPage) (pc := 42) dX11_scansPage_42 rfl rfl rfl rfl rfl ?_
  refine tt_iastore (M := MX11_scansPage) (pc := 43) dX11_scansPage_43 h0.2.1 rfl ?_
  refine tt_ld (M := MX11_scansPage) (pc := 44) dX11_scansPage_44 rfl rfl rfl rfl rfl ?_
  refine tt_iconst (M := MX11_scansPage) (pc := 45) dX11_scansPage_45 ?_
  refine tt_ic_ne (M := MX11_scansPage) (pc := 46) 56 dX11_scansPage_46 rfl ?_ ?_
  · refine tt_ld (M := MX11_scansPage) (pc := 56) dX11_scansPage_56 rfl rfl rfl rfl rfl ?_
    refine tt_iconst (M := MX11_scansPage) (pc := 57) dX11_scansPage_57 ?_
    refine tt_ic_eq (M := MX11_scansPage) (pc := 58) 66 dX11_scansPage_58 rfl ?_ ?_
    · refine tt_ld (M := MX11_scansPage) (pc := 66) dX11_scansPage_66 rfl rfl rfl rfl rfl ?_
      refine tt_getR (M := MX11_scansPage) (pc := 67) dX11_scansPage_67 rfl h0.1 rfl ?_
      refine tt_ld (M := MX11_scansPage) (pc := 70) dX11_scansPage_70 rfl rfl rfl rfl rfl ?_
      refine tt_sipush (M := MX11_scansPage) (pc := 71) dX11_scansPage_71 (by decide) ?_
      refine tt_iadd (M := MX11_scansPage) (pc := 74) dX11_scansPage_74 ?_
      refine tt_ld (M := MX11_scansPage) (pc := 75) dX11_scansPage_75 rfl rfl rfl rfl rfl ?_
      refine tt_iadd (M := MX11_scansPage) (pc := 76) dX11_scansPage_76 ?_
      refine tt_iconst (M := MX11_scansPage) (pc := 77) dX11_scansPage_77 ?_
      refine tt_iastore (M := MX11_scansPage) (pc := 78) dX11_scansPage_78 h0.2.1 rfl ?_
      exact id
    · refine tt_ld (M := MX11_scansPage) (pc := 61) dX11_scansPage_61 rfl rfl rfl rfl rfl ?_
      refine tt_iconst (M := MX11_scansPage) (pc := 62) dX11_scansPage_62 ?_
      refine tt_ic_ne (M := MX11_scansPage) (pc := 63) 79 dX11_scansPage_63 rfl ?_ ?_
      · exact id
      · refine tt_ld (M := MX11_scansPage) (pc := 66) dX11_scansPage_66 rfl rfl rfl rfl rfl ?_
        refine tt_getR (M := MX11_scansPage) (pc := 67) dX11_scansPage_67 rfl h0.1 rfl ?_
        refine tt_ld (M := MX11_scansPage) (pc := 70) dX11_scansPage_70 rfl rfl rfl rfl rfl ?_
        refine tt_sipush (M := MX11_scansPage) (pc := 71) dX11_scansPage_71 (by decide) ?_
        refine tt_iadd (M := MX11_scansPage) (pc := 74) dX11_scansPage_74 ?_
        refine tt_ld (M := MX11_scansPage) (pc := 75) dX11_scansPage_75 rfl rfl rfl rfl rfl ?_
        refine tt_iadd (M := MX11_scansPage) (pc := 76) dX11_scansPage_76 ?_
        refine tt_iconst (M := MX11_scansPage) (pc := 77) dX11_scansPage_77 ?_
        refine tt_iastore (M := MX11_scansPage) (pc := 78) dX11_scansPage_78 h0.2.1 rfl ?_
        exact id
  · refine tt_ld (M := MX11_scansPage) (pc := 49) dX11_scansPage_49 rfl rfl rfl rfl rfl ?_
    refine tt_ld (M := MX11_scansPage) (pc := 50) dX11_scansPage_50 rfl rfl rfl rfl rfl ?_
    refine tt_ld (M := MX11_scansPage) (pc := 51) dX11_scansPage_51 rfl rfl rfl rfl rfl ?_
    refine tt_vcIN (M := MX11_scansPage) (pc := 52) dX11_scansPage_52 rfl rfl [] rfl rfl ⟨rfl, by decide, Nat.le_of_ble_eq_true rfl⟩ h0.1 fun v103 S104 => ?_
    refine tt_pop (M := MX11_scansPage) (pc := 55) dX11_scansPage_55 rfl ?_
    refine tt_ld (M := MX11_scansPage) (pc := 56) dX11_scansPage_56 rfl rfl rfl rfl rfl ?_
    refine tt_iconst (M := MX11_scansPage) (pc := 57) dX11_scansPage_57 ?_
    refine tt_ic_eq (M := MX11_scansPage) (pc := 58) 66 dX11_scansPage_58 rfl ?_ ?_
    · refine tt_ld (M := MX11_scansPage) (pc := 66) dX11_scansPage_66 rfl rfl rfl rfl rfl ?_
      refine tt_getR (M := MX11_scansPage) (pc := 67) dX11_scansPage_67 rfl h0.1 rfl ?_
      refine tt_ld (M := MX11_scansPage) (pc := 70) dX11_scansPage_70 rfl rfl rfl rfl rfl ?_
      refine tt_sipush (M := MX11_scansPage) (pc := 71) dX11_scansPage_71 (by decide) ?_
      refine tt_iadd (M := MX11_scansPage) (pc := 74) dX11_scansPage_74 ?_
      refine tt_ld (M := MX11_scansPage) (pc := 75) dX11_scansPage_75 rfl rfl rfl rfl rfl ?_
      refine tt_iadd (M := MX11_scansPage) (pc := 76) dX11_scansPage_76 ?_
      refine tt_iconst (M := MX11_scansPage) (pc := 77) dX11_scansPage_77 ?_
      refine tt_iastore (M := MX11_scansPage) (pc := 78) dX11_scansPage_78 h0.2.1 rfl ?_
      exact id
    · refine tt_ld (M := MX11_scansPage) (pc := 61) dX11_scansPage_61 rfl rfl rfl rfl rfl ?_
      refine tt_iconst (M := MX11_scansPage) (pc := 62) dX11_scansPage_62 ?_
      refine tt_ic_ne (M := MX11_scansPage) (pc := 63) 79 dX11_scansPage_63 rfl ?_ ?_
      · exact id
      · refine tt_ld (M := MX11_scansPage) (pc := 66) dX11_scansPage_66 rfl rfl rfl rfl rfl ?_
        refine tt_getR (M := MX11_scansPage) (pc := 67) dX11_scansPage_67 rfl h0.1 rfl ?_
        refine tt_ld (M := MX11_scansPage) (pc := 70) dX11_scansPage_70 rfl rfl rfl rfl rfl ?_
        refine tt_sipush (M := MX11_scansPage) (pc := 71) dX11_scansPage_71 (by decide) ?_
        refine tt_iadd (M := MX11_scansPage) (pc := 74) dX11_scansPage_74 ?_
        refine tt_ld (M := MX11_scansPage) (pc := 75) dX11_scansPage_75 rfl rfl rfl rfl rfl ?_
        refine tt_iadd (M := MX11_scansPage) (pc := 76) dX11_scansPage_76 ?_
        refine tt_iconst (M := MX11_scansPage) (pc := 77) dX11_scansPage_77 ?_
        refine tt_iastore (M := MX11_scansPage) (pc := 78) dX11_scansPage_78 h0.2.1 rfl ?_
        exact id
theorem qX11_scansPage_79 {sc : Nat × (Nat → Int32)} {SH : List mCell} {S : mStore} {r : mR × mW} (h0 : sMod SH) {l1 : Int} {l2 : Int} {l3 : Int} {u4 : Option Value} : ((((0 : Int) ≤ l1 + 7 ∧ l1 + 7 < 137400) ∧ (if I l3 = I 4 then G sc MX11_scansPage 99 [some (.ref 90), some (.int (I l1)), some (.int (I l2)), some (.int (I l3)), u4] [.int (I 1), .int (I (S 91 (l1 + 7))), .int (I (l1 + 7)), .ref 91] SH S r else G sc MX11_scansPage 99 [some (.ref 90), some (.int (I l1)), some (.int (I l2)), some (.int (I l3)), u4] [.int (I 0), .int (I (S 91 (l1 + 7))), .int (I (l1 + 7)), .ref 91] SH S r))) → G sc MX11_scansPage 79 [some (.ref 90), some (.int (I l1)), some (.int (I l2)), some (.int (I l3)), u4] [] SH S r := by
  refine tt_ld (M := MX11_scansPage) (pc := 79) dX11_scansPage_79 rfl rfl rfl rfl rfl ?_
  refine tt_getR (M := MX11_scansPage) (pc := 80) dX11_scansPage_80 rfl h0.1 rfl ?_
  refine tt_ld (M := MX11_scansPage) (pc := 83) dX11_scansPage_83 rfl rfl rfl rfl rfl ?_
  refine tt_bipush (M := MX11_scansPage) (pc := 84) dX11_scansPage_84 (by decide) ?_
  refine tt_iadd (M := MX11_scansPage) (pc := 86) dX11_scansPage_86 ?_
  refine tt_dup2 (M := MX11_scansPage) (pc := 87) dX11_scansPage_87 rfl rfl ?_
  refine tt_iaload (M := MX11_scansPage) (pc := 88) dX11_scansPage_88 h0.2.1 rfl ?_
  refine tt_ld (M := MX11_scansPage) (pc := 89) dX11_scansPage_89 rfl rfl rfl rfl rfl ?_
  refine tt_iconst (M := MX11_scansPage) (pc := 90) dX11_scansPage_90 ?_
  refine tt_ic_ne (M := MX11_scansPage) (pc := 91) 98 dX11_scansPage_91 rfl ?_ ?_
  · refine tt_iconst (M := MX11_scansPage) (pc := 98) dX11_scansPage_98 ?_
    exact id
  · refine tt_iconst (M := MX11_scansPage) (pc := 94) dX11_scansPage_94 ?_
    refine tt_goto (M := MX11_scansPage) (pc := 95) 99 dX11_scansPage_95 rfl ?_
    exact id
theorem qX11_scansPage_99 {sc : Nat × (Nat → Int32)} {SH : List mCell} {S : mStore} {r : mR × mW} (h0 : sMod SH) {l1 : Int} {l2 : Int} {l3 : Int} {u4 : Option Value} {s0 : Int} {s1 : Int} {s2 : Int} : ((((0 : Int) ≤ s2 ∧ s2 < 137400) ∧ (((0 : Int) ≤ l1 + 5 ∧ l1 + 5 < 137400) ∧ (if I l3 = I 5 then G sc MX11_scansPage 120 [some (.ref 90), some (.int (I l1)), some (.int (I l2)), some (.int (I l3)), u4] [.int (I 1), .int (I ((up S 91 s2 (s1 + s0)) 91 (l1 + 5))), .int (I (l1 + 5)), .ref 91] SH (up S 91 s2 (s1 + s0)) r else G sc MX11_scansPage 120 [some (.ref 90), some (.int (I l1)), some (.int (I l2)), some (.int (I l3)), u4] [.int (I 0), .int (I ((up S 91 s2 (s1 + s0)) 91 (l1 + 5))), .int (I (l1 + 5)), .ref 91] SH (up S 91 s2 (s1 + s0)) r)))) → G sc MX11_scansPage 99 [some (.ref 90), some (.int (I l1)), some (.int (I l2)), some (.int (I l3)), u4] [.int (I s0), .int (I s1), .int (I s2), .ref 91] SH S r := by
  refine tt_iadd (M := MX11_scansPage) (pc := 99) dX11_scansPage_99 ?_
  refine tt_iastore (M := MX11_scansPage) (pc := 100) dX11_scansPage_100 h0.2.1 rfl ?_
  refine tt_ld (M := MX11_scansPage) (pc := 101) dX11_scansPage_101 rfl rfl rfl rfl rfl ?_
  refine tt_getR (M := MX11_scansPage) (pc := 102) dX11_scansPage_102 rfl h0.1 rfl ?_
  refine tt_ld (M := MX11_scansPage) (pc := 105) dX11_scansPage_105 rfl rfl rfl rfl rfl ?_
  refine tt_iconst (M := MX11_scansPage) (pc := 106) dX11_scansPage_106 ?_
  refine tt_iadd (M := MX11_scansPage) (pc := 107) dX11_scansPage_107 ?_
  refine tt_dup2 (M := MX11_scansPage) (pc := 108) dX11_scansPage_108 rfl rfl ?_
  refine tt_iaload (M := MX11_scansPage) (pc := 109) dX11_scansPage_109 h0.2.1 rfl ?_
  refine tt_ld (M := MX11_scansPage) (pc := 110) dX11_scansPage_110 rfl rfl rfl rfl rfl ?_
  refine tt_iconst (M := MX11_scansPage) (pc := 111) dX11_scansPage_111 ?_
  refine tt_ic_ne (M := MX11_scansPage) (pc := 112) 119 dX11_scansPage_112 rfl ?_ ?_
  · refine tt_iconst (M := MX11_scansPage) (pc := 119) dX11_scansPage_119 ?_
    exact id
  · refine tt_iconst (M := MX11_scansPage) (pc := 115) dX11_scansPage_115 ?_
    refine tt_goto (M := MX11_scansPage) (pc := 116) 120 dX11_scansPage_116 rfl ?_
    exact id
theorem qX11_scansPage_120 {sc : Nat × (Nat → Int32)} {SH : List mCell} {S : mStore} {r : mR × mW} (h0 : sMod SH) {l1 : Int} {l2 : Int} {l3 : Int} {u4 : Option Value} {s0 : Int} {s1 : Int} {s2 : Int} : ((((0 : Int) ≤ s2 ∧ s2 < 137400) ∧ (((0 : Int) ≤ l1 + 6 ∧ l1 + 6 < 137400) ∧ (if I l3 = I 8 then G sc MX11_scansPage 143 [some (.ref 90), some (.int (I l1)), some (.int (I l2)), some (.int (I l3)), u4] [.int (I 1), .int (I ((up S 91 s2 (s1 + s0)) 91 (l1 + 6))), .int (I (l1 + 6)), .ref 91] SH (up S 91 s2 (s1 + s0)) r else G sc MX11_scansPage 143 [some (.ref 90), some (.int (I l1)), some (.int (I l2)), some (.int (I l3)), u4] [.int (I 0), .int (I ((up S 91 s2 (s1 + s0)) 91 (l1 + 6))), .int (I (l1 + 6)), .ref 91] SH (up S 91 s2 (s1 + s0)) r)))) → G sc MX11_scansPage 120 [some (.ref 90), some (.int (I l1)), some (.int (I l2)), some (.int (I l3)), u4] [.int (I s0), .int (I s1), .int (I s2), .ref 91] SH S r := by
  refine tt_iadd (M := MX11_scansPage) (pc := 120) dX11_scansPage_120 ?_
  refine tt_iastore (M := MX11_scansPage) (pc := 121) dX11_scansPage_121 h0.2.1 rfl ?_
  refine tt_ld (M := MX11_scansPage) (pc := 122) dX11_scansPage_122 rfl rfl rfl rfl rfl ?_
  refine tt_getR (M := MX11_scansPage) (pc := 123) dX11_scansPage_123 rfl h0.1 rfl ?_
  refine tt_ld (M := MX11_scansPage) (pc := 126) dX11_scansPage_126 rfl rfl rfl rfl rfl ?_
  refine tt_bipush (M := MX11_scansPage) (pc := 127) dX11_scansPage_127 (by decide) ?_
  refine tt_iadd (M := MX11_scansPage) (pc := 129) dX11_scansPage_129 ?_
  refine tt_dup2 (M := MX11_scansPage) (pc := 130) dX11_scansPage_130 rfl rfl ?_
  refine tt_iaload (M := MX11_scansPage) (pc := 131) dX11_scansPage_131 h0.2.1 rfl ?_
  refine tt_ld (M := MX11_scansPage) (pc := 132) dX11_scansPage_132 rfl rfl rfl rfl rfl ?_
  refine tt_bipush (M := MX11_scansPage) (pc := 133) dX11_scansPage_133 (by decide) ?_
  refine tt_ic_ne (M := MX11_scansPage) (pc := 135) 142 dX11_scansPage_135 rfl ?_ ?_
  · refine tt_iconst (M := MX11_scansPage) (pc := 142) dX11_scansPage_142 ?_
    exact id
  · refine tt_iconst (M := MX11_scansPage) (pc := 138) dX11_scansPage_138 ?_
    refine tt_goto (M := MX11_scansPage) (pc := 139) 143 dX11_scansPage_139 rfl ?_
    exact id
theorem qX11_scansPage_143 {sc : Nat × (Nat → Int32)} {SH : List mCell} {S : mStore} {r : mR × mW} (h0 : sMod SH) {l1 : Int} {l2 : Int} {l3 : Int} {u4 : Option Value} {s0 : Int} {s1 : Int} {s2 : Int} : ((((0 : Int) ≤ s2 ∧ s2 < 137400) ∧ (if I l3 = I 3 then (((0 : Int) ≤ (l1 + 256) + l2 ∧ (l1 + 256) + l2 < 137400) ∧ (((0 : Int) ≤ (l1 + 256) + l2 ∧ (l1 + 256) + l2 < 137400) ∧ G sc MX11_scansPage 238 [some (.ref 90), some (.int (I l1)), some (.int (I l2)), some (.int (I l3)), u4] [] SH (up (up S 91 s2 (s1 + s0)) 91 ((l1 + 256) + l2) (((up S 91 s2 (s1 + s0)) 91 ((l1 + 256) + l2)) - 1)) r)) else (if I l3 = I 7 then G sc MX11_scansPage 192 [some (.ref 90), some (.int (I l1)), some (.int (I l2)), some (.int (I l3)), u4] [.int (I ((l1 + 208) + l2)), .ref 91] SH (up S 91 s2 (s1 + s0)) r else (if I l3 = I 9 then G sc MX11_scansPage 192 [some (.ref 90), some (.int (I l1)), some (.int (I l2)), some (.int (I l3)), u4] [.int (I ((l1 + 208) + l2)), .ref 91] SH (up S 91 s2 (s1 + s0)) r else G sc MX11_scansPage 210 [some (.ref 90), some (.int (I l1)), some (.int (I l2)), some (.int (I l3)), u4] [.int (I 0), .int (I ((l1 + 208) + l2)), .ref 91] SH (up S 91 s2 (s1 + s0)) r))))) → G sc MX11_scansPage 143 [some (.ref 90), some (.int (I l1)), some (.int (I l2)), some (.int (I l3)), u4] [.int (I s0), .int (I s1), .int (I s2), .ref 91] SH S r := by
  refine tt_iadd (M := MX11_scansPage) (pc := 143) dX11_scansPage_143 ?_
  refine tt_iastore (M := MX11_scansPage) (pc := 144) dX11_scansPage_144 h0.2.1 rfl ?_
  refine tt_ld (M := MX11_scansPage) (pc := 145) dX11_scansPage_145 rfl rfl rfl rfl rfl ?_
  refine tt_iconst (M := MX11_scansPage) (pc := 146) dX11_scansPage_146 ?_
  refine tt_ic_ne (M := MX11_scansPage) (pc := 147) 169 dX11_scansPage_147 rfl ?_ ?_
  · refine tt_ld (M := MX11_scansPage) (pc := 169) dX11_scansPage_169 rfl rfl rfl rfl rfl ?_
    refine tt_getR (M := MX11_scansPage) (pc := 170) dX11_scansPage_170 rfl h0.1 rfl ?_
    refine tt_ld (M := MX11_scansPage) (pc := 173) dX11_scansPage_173 rfl rfl rfl rfl rfl ?_
    refine tt_sipush (M := MX11_scansPage) (pc := 174) dX11_scansPage_174 (by decide) ?_
    refine tt_iadd (M := MX11_scansPage) (pc := 177) dX11_scansPage_177 ?_
    refine tt_ld (M := MX11_scansPage) (pc := 178) dX11_scansPage_178 rfl rfl rfl rfl rfl ?_
    refine tt_iadd (M := MX11_scansPage) (pc := 179) dX11_scansPage_179 ?_
    refine tt_ld (M := MX11_scansPage) (pc := 180) dX11_scansPage_180 rfl rfl rfl rfl rfl ?_
    refine tt_bipush (M := MX11_scansPage) (pc := 181) dX11_scansPage_181 (by decide) ?_
    refine tt_ic_eq (M := MX11_scansPage) (pc := 183) 192 dX11_scansPage_183 rfl ?_ ?_
    · exact id
    · refine tt_ld (M := MX11_scansPage) (pc := 186) dX11_scansPage_186 rfl rfl rfl rfl rfl ?_
      refine tt_bipush (M := MX11_scansPage) (pc := 187) dX11_scansPage_187 (by decide) ?_
      refine tt_ic_ne (M := MX11_scansPage) (pc := 189) 209 dX11_scansPage_189 rfl ?_ ?_
      · refine tt_iconst (M := MX11_scansPage) (pc := 209) dX11_scansPage_209 ?_
        exact id
      · exact id
  · refine tt_ld (M := MX11_scansPage) (pc := 150) dX11_scansPage_150 rfl rfl rfl rfl rfl ?_
    refine tt_getR (M := MX11_scansPage) (pc := 151) dX11_scansPage_151 rfl h0.1 rfl ?_
    refine tt_ld (M := MX11_scansPage) (pc := 154) dX11_scansPage_154 rfl rfl rfl rfl rfl ?_
    refine tt_sipush (M := MX11_scansPage) (pc := 155) dX11_scansPage_155 (by decide) ?_
    refine tt_iadd (M := MX11_scansPage) (pc := 158) dX11_scansPage_158 ?_
    refine tt_ld (M := MX11_scansPage) (pc := 159) dX11_scansPage_159 rfl rfl rfl rfl rfl ?_
    refine tt_iadd (M := MX11_scansPage) (pc := 160) dX11_scansPage_160 ?_
    refine tt_dup2 (M := MX11_scansPage) (pc := 161) dX11_scansPage_161 rfl rfl ?_
    refine tt_iaload (M := MX11_scansPage) (pc := 162) dX11_scansPage_162 h0.2.1 rfl ?_
    refine tt_iconst (M := MX11_scansPage) (pc := 163) dX11_scansPage_163 ?_
    refine tt_isub (M := MX11_scansPage) (pc := 164) dX11_scansPage_164 ?_
    refine tt_iastore (M := MX11_scansPage) (pc := 165) dX11_scansPage_165 h0.2.1 rfl ?_
    refine tt_goto (M := MX11_scansPage) (pc := 166) 238 dX11_scansPage_166 rfl ?_
    exact id
theorem qX11_scansPage_192 {sc : Nat × (Nat → Int32)} {SH : List mCell} {S : mStore} {r : mR × mW} (h0 : sMod SH) {l1 : Int} {l2 : Int} {l3 : Int} {u4 : Option Value} {s0 : Int} : ((((0 : Int) ≤ (l1 + 208) + l2 ∧ (l1 + 208) + l2 < 137400) ∧ G sc MX11_scansPage 210 [some (.ref 90), some (.int (I l1)), some (.int (I l2)), some (.int (I l3)), u4] [.int (I ((S 91 ((l1 + 208) + l2)) + 1)), .int (I s0), .ref 91] SH S r)) → G sc MX11_scansPage 192 [some (.ref 90), some (.int (I l1)), some (.int (I l2)), some (.int (I l3)), u4] [.int (I s0), .ref 91] SH S r := by
  refine tt_ld (M := MX11_scansPage) (pc := 192) dX11_scansPage_192 rfl rfl rfl rfl rfl ?_
  refine tt_getR (M := MX11_scansPage) (pc := 193) dX11_scansPage_193 rfl h0.1 rfl ?_
  refine tt_ld (M := MX11_scansPage) (pc := 196) dX11_scansPage_196 rfl rfl rfl rfl rfl ?_
  refine tt_sipush (M := MX11_scansPage) (pc := 197) dX11_scansPage_197 (by decide) ?_
  refine tt_iadd (M := MX11_scansPage) (pc := 200) dX11_scansPage_200 ?_
  refine tt_ld (M := MX11_scansPage) (pc := 201) dX11_scansPage_201 rfl rfl rfl rfl rfl ?_
  refine tt_iadd (M := MX11_scansPage) (pc := 202) dX11_scansPage_202 ?_
  refine tt_iaload (M := MX11_scansPage) (pc := 203) dX11_scansPage_203 h0.2.1 rfl ?_
  refine tt_iconst (M := MX11_scansPage) (pc := 204) dX11_scansPage_204 ?_
  refine tt_iadd (M := MX11_scansPage) (pc := 205) dX11_scansPage_205 ?_
  refine tt_goto (M := MX11_scansPage) (pc := 206) 210 dX11_scansPage_206 rfl ?_
  exact id
theorem qX11_scansPage_210 {sc : Nat × (Nat → Int32)} {SH : List mCell} {S : mStore} {r : mR × mW} (h0 : sMod SH) {l1 : Int} {l2 : Int} {l3 : Int} {u4 : Option Value} {s0 : Int} {s1 : Int} : ((((0 : Int) ≤ s1 ∧ s1 < 137400) ∧ (((0 : Int) ≤ (l1 + 208) + l2 ∧ (l1 + 208) + l2 < 137400) ∧ (∃ v101 S102, G sc MX11_restOf 0 [some (.int (I ((up S 91 s1 s0) 91 ((l1 + 208) + l2))))] [] SH (up S 91 s1 s0) (rI v101 SH S102) ∧ (((0 : Int) ≤ (l1 + 256) + l2 ∧ (l1 + 256) + l2 < 137400) ∧ G sc MX11_scansPage 238 [some (.ref 90), some (.int (I l1)), some (.int (I l2)), some (.int (I l3)), u4] [] SH (up S102 91 ((l1 + 256) + l2) v101) r))))) → G sc MX11_scansPage 210 [some (.ref 90), some (.int (I l1)), some (.int (I l2)), some (.int (I l3)), u4] [.int (I s0), .int (I s1), .ref 91] SH S r := by
  refine tt_iastore (M := MX11_scansPage) (pc := 210) dX11_scansPage_210 h0.2.1 rfl ?_
  refine tt_ld (M := MX11_scansPage) (pc := 211) dX11_scansPage_211 rfl rfl rfl rfl rfl ?_
  refine tt_getR (M := MX11_scansPage) (pc := 212) dX11_scansPage_212 rfl h0.1 rfl ?_
  refine tt_ld (M := MX11_scansPage) (pc := 215) dX11_scansPage_215 rfl rfl rfl rfl rfl ?_
  refine tt_sipush (M := MX11_scansPage) (pc := 216) dX11_scansPage_216 (by decide) ?_
  refine tt_iadd (M := MX11_scansPage) (pc := 219) dX11_scansPage_219 ?_
  refine tt_ld (M := MX11_scansPage) (pc := 220) dX11_scansPage_220 rfl rfl rfl rfl rfl ?_
  refine tt_iadd (M := MX11_scansPage) (pc := 221) dX11_scansPage_221 ?_
  refine tt_ld (M := MX11_scansPage) (pc := 222) dX11_scansPage_222 rfl rfl rfl rfl rfl ?_
  refine tt_getR (M := MX11_scansPage) (pc := 223) dX11_scansPage_223 rfl h0.1 rfl ?_
  refine tt_ld (M := MX11_scansPage) (pc := 226) dX11_scansPage_226 rfl rfl rfl rfl rfl ?_
  refine tt_sipush (M := MX11_scansPage) (pc := 227) dX11_scansPage_227 (by decide) ?_
  refine tt_iadd (M := MX11_scansPage) (pc := 230) dX11_scansPage_230 ?_
  refine tt_ld (M := MX11_scansPage) (pc := 231) dX11_scansPage_231 rfl rfl rfl rfl rfl ?_
  refine tt_iadd (M := MX11_scansPage) (pc := 232) dX11_scansPage_232 ?_
  refine tt_iaload (M := MX11_scansPage) (pc := 233) dX11_scansPage_233 h0.2.1 rfl ?_
  refine tt_scIN (M := MX11_scansPage) (pc := 234) dX11_scansPage_234 rfl [.int (I ((l1 + 256) + l2)), .ref 91] rfl rfl ⟨rfl, by decide, Nat.le_of_ble_eq_true rfl⟩ fun v101 S102 => ?_
  refine tt_iastore (M := MX11_scansPage) (pc := 237) dX11_scansPage_237 h0.2.1 rfl ?_
  exact id
theorem qX11_scansPage_238 {sc : Nat × (Nat → Int32)} {SH : List mCell} {S : mStore} {r : mR × mW} (h0 : sMod SH) {l1 : Int} {l2 : Int} {l3 : Int} {u4 : Option Value} : ((if I l3 = I 4 then G sc MX11_scansPage 254 [some (.ref 90), some (.int (I l1)), some (.int (I l2)), some (.int (I l3)), u4] [] SH S r else (if I l3 = I 5 then G sc MX11_scansPage 254 [some (.ref 90), some (.int (I l1)), some (.int (I l2)), some (.int (I l3)), u4] [] SH S r else (if I l3 = I 8 then G sc MX11_scansPage 254 [some (.ref 90), some (.int (I l1)), some (.int (I l2)), some (.int (I l3)), u4] [] SH S r else G sc MX11_scansPage 259 [some (.ref 90), some (.int (I l1)), some (.int (I l2)), some (.int (I l3)), u4] [.int (I 0)] SH S r)))) → G sc MX11_scansPage 238 [some (.ref 90), some (.int (I l1)), some (.int (I l2)), some (.int (I l3)), u4] [] SH S r := by
  refine tt_ld (M := MX11_scansPage) (pc := 238) dX11_scansPage_238 rfl rfl rfl rfl rfl ?_
  refine tt_iconst (M := MX11_scansPage) (pc := 239) dX11_scansPage_239 ?_
  refine tt_ic_eq (M := MX11_scansPage) (pc := 240) 254 dX11_scansPage_240 rfl ?_ ?_
  · exact id
  · refine tt_ld (M := MX11_scansPage) (pc := 243) dX11_scansPage_243 rfl rfl rfl rfl rfl ?_
    refine tt_iconst (M := MX11_scansPage) (pc := 244) dX11_scansPage_244 ?_
    refine tt_ic_eq (M := MX11_scansPage) (pc := 245) 254 dX11_scansPage_245 rfl ?_ ?_
    · exact id
    · refine tt_ld (M := MX11_scansPage) (pc := 248) dX11_scansPage_248 rfl rfl rfl rfl rfl ?_
      refine tt_bipush (M := MX11_scansPage) (pc := 249) dX11_scansPage_249 (by decide) ?_
      refine tt_ic_ne (M := MX11_scansPage) (pc := 251) 258 dX11_scansPage_251 rfl ?_ ?_
      · refine tt_iconst (M := MX11_scansPage) (pc := 258) dX11_scansPage_258 ?_
        exact id
      · exact id
theorem qX11_scansPage_254 {sc : Nat × (Nat → Int32)} {SH : List mCell} {S : mStore} {r : mR × mW} (h0 : sMod SH) {l1 : Int} {l2 : Int} {l3 : Int} {u4 : Option Value} : (G sc MX11_scansPage 259 [some (.ref 90), some (.int (I l1)), some (.int (I l2)), some (.int (I l3)), u4] [.int (I 1)] SH S r) → G sc MX11_scansPage 254 [some (.ref 90), some (.int (I l1)), some (.int (I l2)), some (.int (I l3)), u4] [] SH S r := by
  refine tt_iconst (M := MX11_scansPage) (pc := 254) dX11_scansPage_254 ?_
  refine tt_goto (M := MX11_scansPage) (pc := 255) 259 dX11_scansPage_255 rfl ?_
  exact id
theorem qX11_scansPage_259 {sc : Nat × (Nat → Int32)} {SH : List mCell} {S : mStore} {r : mR × mW} (h0 : sMod SH) {l1 : Int} {l2 : Int} {l3 : Int} {u4 : Option Value} {s0 : Int} : ((((0 : Int) ≤ l1 + 10 ∧ l1 + 10 < 137400) ∧ (((0 : Int) ≤ l1 + 10 ∧ l1 + 10 < 137400) ∧ r = rI s0 SH (up S 91 (l1 + 10) ((S 91 (l1 + 10)) + s0))))) → G sc MX11_scansPage 259 [some (.ref 90), some (.int (I l1)), some (.int (I l2)), some (.int (I l3)), u4] [.int (I s0)] SH S r := by
  refine tt_st (M := MX11_scansPage) (pc := 259) [some (.ref 90), some (.int (I l1)), some (.int (I l2)), some (.int (I l3)), some (.int (I s0))] dX11_scansPage_259 rfl rfl rfl rfl rfl rfl ?_
  refine tt_ld (M := MX11_scansPage) (pc := 261) dX11_scansPage_261 rfl rfl rfl rfl rfl ?_
  refine tt_getR (M := MX11_scansPage) (pc := 262) dX11_scansPage_262 rfl h0.1 rfl ?_
  refine tt_ld (M := MX11_scansPage) (pc := 265) dX11_scansPage_265 rfl rfl rfl rfl rfl ?_
  refine tt_bipush (M := MX11_scansPage) (pc := 266) dX11_scansPage_266 (by decide) ?_
  refine tt_iadd (M := MX11_scansPage) (pc := 268) dX11_scansPage_268 ?_
  refine tt_dup2 (M := MX11_scansPage) (pc := 269) dX11_scansPage_269 rfl rfl ?_
  refine tt_iaload (M := MX11_scansPage) (pc := 270) dX11_scansPage_270 h0.2.1 rfl ?_
  refine tt_ld (M := MX11_scansPage) (pc := 271) dX11_scansPage_271 rfl rfl rfl rfl rfl ?_
  refine tt_iadd (M := MX11_scansPage) (pc := 273) dX11_scansPage_273 ?_
  refine tt_iastore (M := MX11_scansPage) (pc := 274) dX11_scansPage_274 h0.2.1 rfl ?_
  refine tt_ld (M := MX11_scansPage) (pc := 275) dX11_scansPage_275 rfl rfl rfl rfl rfl ?_
  exact tt_iret (M := MX11_scansPage) (pc := 277) dX11_scansPage_277 rfl
theorem qX11_scans_0 {sc : Nat × (Nat → Int32)} {SH : List mCell} {S : mStore} {r : mR × mW} (h0 : sMod SH) {l1 : Int} {l2 : Int} {u3 : Option Value} {u4 : Option Value} {u5 : Option Value} : (G sc MX11_scans 5 [some (.ref 90), some (.int (I l1)), some (.int (I l2)), some (.int (I 0)), some (.int (I 0)), u5] [] SH S r) → G sc MX11_scans 0 [some (.ref 90), some (.int (I l1)), some (.int (I l2)), u3, u4, u5] [] SH S r := by
  refine tt_iconst (M := MX11_scans) (pc := 0) dX11_scans_0 ?_
  refine tt_st (M := MX11_scans) (pc := 1) [some (.ref 90), some (.int (I l1)), some (.int (I l2)), some (.int (I 0)), u4, u5] dX11_scans_1 rfl rfl rfl rfl rfl rfl ?_
  refine tt_iconst (M := MX11_scans) (pc := 2) dX11_scans_2 ?_
  refine tt_st (M := MX11_scans) (pc := 3) [some (.ref 90), some (.int (I l1)), some (.int (I l2)), some (.int (I 0)), some (.int (I 0)), u5] dX11_scans_3 rfl rfl rfl rfl rfl rfl ?_
  exact id
theorem qX11_scans_5 {sc : Nat × (Nat → Int32)} {SH : List mCell} {S : mStore} {r : mR × mW} (h0 : sMod SH) {l1 : Int} {l2 : Int} {l3 : Int} {l4 : Int} {u5 : Option Value} : ((if I l2 ≤ I l4 then r = rI l3 SH S else (((0 : Int) ≤ l1 + 9 ∧ l1 + 9 < 137400) ∧ (∃ v101 S102, G sc MX11_nextAdvised 0 [some (.ref 90), some (.int (I l1)), some (.int (I (S 91 (l1 + 9)))), none] [] SH S (rI v101 SH S102) ∧ (if I v101 = I (-1) then (∃ v105 S106, G sc MX11_nextAdvised 0 [some (.ref 90), some (.int (I l1)), some (.int (I 0)), none] [] SH S102 (rI v105 SH S106) ∧ (if I v105 = I (-1) then r = rI l3 SH S106 else (∃ S107, G sc MX11_endsRound 0 [some (.ref 90), some (.int (I l1)), none] [] SH S106 (rV SH S107) ∧ (((0 : Int) ≤ l1 + 9 ∧ l1 + 9 < 137400) ∧ (∃ v108 S109, G sc MX11_scansPage 0 [some (.ref 90), some (.int (I l1)), some (.int (I v105)), none, none] [] SH (up S107 91 (l1 + 9) (v105 + 1)) (rI v108 SH S109) ∧ G sc MX11_scans 5 [some (.ref 90), some (.int (I l1)), some (.int (I l2)), some (.int (I (l3 + v108))), some (.int (I (l4 + 1))), some (.int (I v105))] [] SH S109 r))))) else (((0 : Int) ≤ l1 + 9 ∧ l1 + 9 < 137400) ∧ (∃ v103 S104, G sc MX11_scansPage 0 [some (.ref 90), some (.int (I l1)), some (.int (I v101)), none, none] [] SH (up S102 91 (l1 + 9) (v101 + 1)) (rI v103 SH S104) ∧ G sc MX11_scans 5 [some (.ref 90), some (.int (I l1)), some (.int (I l2)), some (.int (I (l3 + v103))), some (.int (I (l4 + 1))), some (.int (I v101))] [] SH S104 r))))))) → G sc MX11_scans 5 [some (.ref 90), some (.int (I l1)), some (.int (I l2)), some (.int (I l3)), some (.int (I l4)), u5] [] SH S r := by
  refine tt_ld (M := MX11_scans) (pc := 5) dX11_scans_5 rfl rfl rfl rfl rfl ?_
  refine tt_ld (M := MX11_scans) (pc := 7) dX11_scans_7 rfl rfl rfl rfl rfl ?_
  refine tt_ic_ge (M := MX11_scans) (pc := 8) 83 dX11_scans_8 rfl ?_ ?_
  · refine tt_ld (M := MX11_scans) (pc := 83) dX11_scans_83 rfl rfl rfl rfl rfl ?_
    exact tt_iret (M := MX11_scans) (pc := 84) dX11_scans_84 rfl
  · refine tt_ld (M := MX11_scans) (pc := 11) dX11_scans_11 rfl rfl rfl rfl rfl ?_
    refine tt_ld (M := MX11_scans) (pc := 12) dX11_scans_12 rfl rfl rfl rfl rfl ?_
    refine tt_ld (M := MX11_scans) (pc := 13) dX11_scans_13 rfl rfl rfl rfl rfl ?_
    refine tt_getR (M := MX11_scans) (pc := 14) dX11_scans_14 rfl h0.1 rfl ?_
    refine tt_ld (M := MX11_scans) (pc := 17) dX11_scans_17 rfl rfl rfl rfl rfl ?_
    refine tt_bipush (M := MX11_scans) (pc := 18) dX11_scans_18 (by decide) ?_
    refine tt_iadd (M := MX11_scans) (pc := 20) dX11_scans_20 ?_
    refine tt_iaload (M := MX11_scans) (pc := 21) dX11_scans_21 h0.2.1 rfl ?_
    refine tt_vcIN (M := MX11_scans) (pc := 22) dX11_scans_22 rfl rfl [] rfl rfl ⟨rfl, by decide, Nat.le_of_ble_eq_true rfl⟩ h0.1 fun v101 S102 => ?_
    refine tt_st (M := MX11_scans) (pc := 25) [some (.ref 90), some (.int (I l1)), some (.int (I l2)), some (.int (I l3)), some (.int (I l4)), some (.int (I v101))] dX11_scans_25 rfl rfl rfl rfl rfl rfl ?_
    refine tt_ld (M := MX11_scans) (pc := 27) dX11_scans_27 rfl rfl rfl rfl rfl ?_
    refine tt_iconst (M := MX11_scans) (pc := 29) dX11_scans_29 ?_
    refine tt_ic_ne (M := MX11_scans) (pc := 30) 54 dX11_scans_30 rfl ?_ ?_
    · refine tt_ld (M := MX11_scans) (pc := 54) dX11_scans_54 rfl rfl rfl rfl rfl ?_
      refine tt_getR (M := MX11_scans) (pc := 55) dX11_scans_55 rfl h0.1 rfl ?_
      refine tt_ld (M := MX11_scans) (pc := 58) dX11_scans_58 rfl rfl rfl rfl rfl ?_
      refine tt_bipush (M := MX11_scans) (pc := 59) dX11_scans_59 (by decide) ?_
      refine tt_iadd (M := MX11_scans) (pc := 61) dX11_scans_61 ?_
      refine tt_ld (M := MX11_scans) (pc := 62) dX11_scans_62 rfl rfl rfl rfl rfl ?_
      refine tt_iconst (M := MX11_scans) (pc := 64) dX11_scans_64 ?_
      refine tt_iadd (M := MX11_scans) (pc := 65) dX11_scans_65 ?_
      refine tt_iastore (M := MX11_scans) (pc := 66) dX11_scans_66 h0.2.1 rfl ?_
      refine tt_ld (M := MX11_scans) (pc := 67) dX11_scans_67 rfl rfl rfl rfl rfl ?_
      refine tt_ld (M := MX11_scans) (pc := 68) dX11_scans_68 rfl rfl rfl rfl rfl ?_
      refine tt_ld (M := MX11_scans) (pc := 69) dX11_scans_69 rfl rfl rfl rfl rfl ?_
      refine tt_ld (M := MX11_scans) (pc := 70) dX11_scans_70 rfl rfl rfl rfl rfl ?_
      refine tt_vcIN (M := MX11_scans) (pc := 72) dX11_scans_72 rfl rfl [.int (I l3)] rfl rfl ⟨rfl, by decide, Nat.le_of_ble_eq_true rfl⟩ h0.1 fun v103 S104 => ?_
      refine tt_iadd (M := MX11_scans) (pc := 75) dX11_scans_75 ?_
      refine tt_st (M := MX11_scans) (pc := 76) [some (.ref 90), some (.int (I l1)), some (.int (I l2)), some (.int (I (l3 + v103))), some (.int (I l4)), some (.int (I v101))] dX11_scans_76 rfl rfl rfl rfl rfl rfl ?_
      refine tt_iinc (M := MX11_scans) (pc := 77) [some (.ref 90), some (.int (I l1)), some (.int (I l2)), some (.int (I (l3 + v103))), some (.int (I (l4 + 1))), some (.int (I v101))] dX11_scans_77 rfl rfl ?_
      refine tt_goto (M := MX11_scans) (pc := 80) 5 dX11_scans_80 rfl ?_
      exact id
    · refine tt_ld (M := MX11_scans) (pc := 33) dX11_scans_33 rfl rfl rfl rfl rfl ?_
      refine tt_ld (M := MX11_scans) (pc := 34) dX11_scans_34 rfl rfl rfl rfl rfl ?_
      refine tt_iconst (M := MX11_scans) (pc := 35) dX11_scans_35 ?_
      refine tt_vcIN (M := MX11_scans) (pc := 36) dX11_scans_36 rfl rfl [] rfl rfl ⟨rfl, by decide, Nat.le_of_ble_eq_true rfl⟩ h0.1 fun v105 S106 => ?_
      refine tt_st (M := MX11_scans) (pc := 39) [some (.ref 90), some (.int (I l1)), some (.int (I l2)), some (.int (I l3)), some (.int (I l4)), some (.int (I v105))] dX11_scans_39 rfl rfl rfl rfl rfl rfl ?_
      refine tt_ld (M := MX11_scans) (pc := 41) dX11_scans_41 rfl rfl rfl rfl rfl ?_
      refine tt_iconst (M := MX11_scans) (pc := 43) dX11_scans_43 ?_
      refine tt_ic_ne (M := MX11_scans) (pc := 44) 49 dX11_scans_44 rfl ?_ ?_
      · refine tt_ld (M := MX11_scans) (pc := 49) dX11_scans_49 rfl rfl rfl rfl rfl ?_
        refine tt_ld (M := MX11_scans) (pc := 50) dX11_scans_50 rfl rfl rfl rfl rfl ?_
        refine tt_vcVN (M := MX11_scans) (pc := 51) dX11_scans_51 rfl rfl [] rfl rfl ⟨rfl, by decide, Nat.le_of_ble_eq_true rfl⟩ h0.1 fun S107 => ?_
        refine tt_ld (M := MX11_scans) (pc := 54) dX11_scans_54 rfl rfl rfl rfl rfl ?_
        refine tt_getR (M := MX11_scans) (pc := 55) dX11_scans_55 rfl h0.1 rfl ?_
        refine tt_ld (M := MX11_scans) (pc := 58) dX11_scans_58 rfl rfl rfl rfl rfl ?_
        refine tt_bipush (M := MX11_scans) (pc := 59) dX11_scans_59 (by decide) ?_
        refine tt_iadd (M := MX11_scans) (pc := 61) dX11_scans_61 ?_
        refine tt_ld (M := MX11_scans) (pc := 62) dX11_scans_62 rfl rfl rfl rfl rfl ?_
        refine tt_iconst (M := MX11_scans) (pc := 64) dX11_scans_64 ?_
        refine tt_iadd (M := MX11_scans) (pc := 65) dX11_scans_65 ?_
        refine tt_iastore (M := MX11_scans) (pc := 66) dX11_scans_66 h0.2.1 rfl ?_
        refine tt_ld (M := MX11_scans) (pc := 67) dX11_scans_67 rfl rfl rfl rfl rfl ?_
        refine tt_ld (M := MX11_scans) (pc := 68) dX11_scans_68 rfl rfl rfl rfl rfl ?_
        refine tt_ld (M := MX11_scans) (pc := 69) dX11_scans_69 rfl rfl rfl rfl rfl ?_
        refine tt_ld (M := MX11_scans) (pc := 70) dX11_scans_70 rfl rfl rfl rfl rfl ?_
        refine tt_vcIN (M := MX11_scans) (pc := 72) dX11_scans_72 rfl rfl [.int (I l3)] rfl rfl ⟨rfl, by decide, Nat.le_of_ble_eq_true rfl⟩ h0.1 fun v108 S109 => ?_
        refine tt_iadd (M := MX11_scans) (pc := 75) dX11_scans_75 ?_
        refine tt_st (M := MX11_scans) (pc := 76) [some (.ref 90), some (.int (I l1)), some (.int (I l2)), some (.int (I (l3 + v108))), some (.int (I l4)), some (.int (I v105))] dX11_scans_76 rfl rfl rfl rfl rfl rfl ?_
        refine tt_iinc (M := MX11_scans) (pc := 77) [some (.ref 90), some (.int (I l1)), some (.int (I l2)), some (.int (I (l3 + v108))), some (.int (I (l4 + 1))), some (.int (I v105))] dX11_scans_77 rfl rfl ?_
        refine tt_goto (M := MX11_scans) (pc := 80) 5 dX11_scans_80 rfl ?_
        exact id
      · refine tt_ld (M := MX11_scans) (pc := 47) dX11_scans_47 rfl rfl rfl rfl rfl ?_
        exact tt_iret (M := MX11_scans) (pc := 48) dX11_scans_48 rfl
theorem qX11_ticksOf_0 {sc : Nat × (Nat → Int32)} {SH : List mCell} {S : mStore} {r : mR × mW} (h0 : sMod SH) {l1 : Int} {l2 : Int} {u3 : Option Value} {u4 : Option Value} : (G sc MX11_ticksOf 5 [some (.ref 90), some (.int (I l1)), some (.int (I l2)), some (.int (I 0)), some (.int (I 0))] [] SH S r) → G sc MX11_ticksOf 0 [some (.ref 90), some (.int (I l1)), some (.int (I l2)), u3, u4] [] SH S r := by
  refine tt_iconst (M := MX11_ticksOf) (pc := 0) dX11_ticksOf_0 ?_
  refine tt_st (M := MX11_ticksOf) (pc := 1) [some (.ref 90), some (.int (I l1)), some (.int (I l2)), some (.int (I 0)), u4] dX11_ticksOf_1 rfl rfl rfl rfl rfl rfl ?_
  refine tt_iconst (M := MX11_ticksOf) (pc := 2) dX11_ticksOf_2 ?_
  refine tt_st (M := MX11_ticksOf) (pc := 3) [some (.ref 90), some (.int (I l1)), some (.int (I l2)), some (.int (I 0)), some (.int (I 0))] dX11_ticksOf_3 rfl rfl rfl rfl rfl rfl ?_
  exact id
theorem qX11_ticksOf_5 {sc : Nat × (Nat → Int32)} {SH : List mCell} {S : mStore} {r : mR × mW} (h0 : sMod SH) {l1 : Int} {l2 : Int} {l3 : Int} {l4 : Int} : ((if I l2 ≤ I l4 then r = rI l3 SH S else (((0 : Int) ≤ l1 + 0 ∧ l1 + 0 < 137400) ∧ (∃ v101 S102, G sc MX11_scans 0 [some (.ref 90), some (.int (I l1)), some (.int (I (S 91 (l1 + 0)))), none, none, none] [] SH S (rI v101 SH S102) ∧ (((0 : Int) ≤ l1 + 2 ∧ l1 + 2 < 137400) ∧ (((0 : Int) ≤ l1 + 2 ∧ l1 + 2 < 137400) ∧ G sc MX11_ticksOf 5 [some (.ref 90), some (.int (I l1)), some (.int (I l2)), some (.int (I (l3 + v101))), some (.int (I (l4 + 1)))] [] SH (up S102 91 (l1 + 2) ((S102 91 (l1 + 2)) + 1)) r)))))) → G sc MX11_ticksOf 5 [some (.ref 90), some (.int (I l1)), some (.int (I l2)), some (.int (I l3)), some (.int (I l4))] [] SH S r := by
  refine tt_ld (M := MX11_ticksOf) (pc := 5) dX11_ticksOf_5 rfl rfl rfl rfl rfl ?_
  refine tt_ld (M := MX11_ticksOf) (pc := 7) dX11_ticksOf_7 rfl rfl rfl rfl rfl ?_
  refine tt_ic_ge (M := MX11_ticksOf) (pc := 8) 45 dX11_ticksOf_8 rfl ?_ ?_
  · refine tt_ld (M := MX11_ticksOf) (pc := 45) dX11_ticksOf_45 rfl rfl rfl rfl rfl ?_
    exact tt_iret (M := MX11_ticksOf) (pc := 46) dX11_ticksOf_46 rfl
  · refine tt_ld (M := MX11_ticksOf) (pc := 11) dX11_ticksOf_11 rfl rfl rfl rfl rfl ?_
    refine tt_ld (M := MX11_ticksOf) (pc := 12) dX11_ticksOf_12 rfl rfl rfl rfl rfl ?_
    refine tt_ld (M := MX11_ticksOf) (pc := 13) dX11_ticksOf_13 rfl rfl rfl rfl rfl ?_
    refine tt_ld (M := MX11_ticksOf) (pc := 14) dX11_ticksOf_14 rfl rfl rfl rfl rfl ?_
    refine tt_getR (M := MX11_ticksOf) (pc := 15) dX11_ticksOf_15 rfl h0.1 rfl ?_
    refine tt_ld (M := MX11_ticksOf) (pc := 18) dX11_ticksOf_18 rfl rfl rfl rfl rfl ?_
    refine tt_iconst (M := MX11_ticksOf) (pc := 19) dX11_ticksOf_19 ?_
    refine tt_iadd (M := MX11_ticksOf) (pc := 20) dX11_ticksOf_20 ?_
    refine tt_iaload (M := MX11_ticksOf) (pc := 21) dX11_ticksOf_21 h0.2.1 rfl ?_
    refine tt_vcIN (M := MX11_ticksOf) (pc := 22) dX11_ticksOf_22 rfl rfl [.int (I l3)] rfl rfl ⟨rfl, by decide, Nat.le_of_ble_eq_true rfl⟩ h0.1 fun v101 S102 => ?_
    refine tt_iadd (M := MX11_ticksOf) (pc := 25) dX11_ticksOf_25 ?_
    refine tt_st (M := MX11_ticksOf) (pc := 26) [some (.ref 90), some (.int (I l1)), some (.int (I l2)), some (.int (I (l3 + v101))), some (.int (I l4))] dX11_ticksOf_26 rfl rfl rfl rfl rfl rfl ?_
    refine tt_ld (M := MX11_ticksOf) (pc := 27) dX11_ticksOf_27 rfl rfl rfl rfl rfl ?_
    refine tt_getR (M := MX11_ticksOf) (pc := 28) dX11_ticksOf_28 rfl h0.1 rfl ?_
    refine tt_ld (M := MX11_ticksOf) (pc := 31) dX11_ticksOf_31 rfl rfl rfl rfl rfl ?_
    refine tt_iconst (M := MX11_ticksOf) (pc := 32) dX11_ticksOf_32 ?_
    refine tt_iadd (M := MX11_ticksOf) (pc := 33) dX11_ticksOf_33 ?_
    refine tt_dup2 (M := MX11_ticksOf) (pc := 34) dX11_ticksOf_34 rfl rfl ?_
    refine tt_iaload (M := MX11_ticksOf) (pc := 35) dX11_ticksOf_35 h0.2.1 rfl ?_
    refine tt_iconst (M := MX11_ticksOf) (pc := 36) dX11_ticksOf_36 ?_
    refine tt_iadd (M := MX11_ticksOf) (pc := 37) dX11_ticksOf_37 ?_
    refine tt_iastore (M := MX11_ticksOf) (pc := 38) dX11_ticksOf_38 h0.2.1 rfl ?_
    refine tt_iinc (M := MX11_ticksOf) (pc := 39) [some (.ref 90), some (.int (I l1)), some (.int (I l2)), some (.int (I (l3 + v101))), some (.int (I (l4 + 1)))] dX11_ticksOf_39 rfl rfl ?_
    refine tt_goto (M := MX11_ticksOf) (pc := 42) 5 dX11_ticksOf_42 rfl ?_
    exact id
theorem qX11_isLetter_0 {sc : Nat × (Nat → Int32)} {SH : List mCell} {S : mStore} {r : mR × mW} {l0 : Int} : ((if I l0 < I 97 then ((I 0 = I 0 ∨ I 0 = I 1) ∧ r = rI 0 SH S) else (if I 122 < I l0 then ((I 0 = I 0 ∨ I 0 = I 1) ∧ r = rI 0 SH S) else ((I 1 = I 0 ∨ I 1 = I 1) ∧ r = rI 1 SH S)))) → G sc MX11_isLetter 0 [some (.int (I l0))] [] SH S r := by
  refine tt_ld (M := MX11_isLetter) (pc := 0) dX11_isLetter_0 rfl rfl rfl rfl rfl ?_
  refine tt_bipush (M := MX11_isLetter) (pc := 1) dX11_isLetter_1 (by decide) ?_
  refine tt_ic_lt (M := MX11_isLetter) (pc := 3) 16 dX11_isLetter_3 rfl ?_ ?_
  · refine tt_iconst (M := MX11_isLetter) (pc := 16) dX11_isLetter_16 ?_
    exact tt_zret (M := MX11_isLetter) (pc := 17) dX11_isLetter_17 rfl
  · refine tt_ld (M := MX11_isLetter) (pc := 6) dX11_isLetter_6 rfl rfl rfl rfl rfl ?_
    refine tt_bipush (M := MX11_isLetter) (pc := 7) dX11_isLetter_7 (by decide) ?_
    refine tt_ic_gt (M := MX11_isLetter) (pc := 9) 16 dX11_isLetter_9 rfl ?_ ?_
    · refine tt_iconst (M := MX11_isLetter) (pc := 16) dX11_isLetter_16 ?_
      exact tt_zret (M := MX11_isLetter) (pc := 17) dX11_isLetter_17 rfl
    · refine tt_iconst (M := MX11_isLetter) (pc := 12) dX11_isLetter_12 ?_
      refine tt_goto (M := MX11_isLetter) (pc := 13) 17 dX11_isLetter_13 rfl ?_
      exact tt_zret (M := MX11_isLetter) (pc := 17) dX11_isLetter_17 rfl
theorem qX11_byteAt_0 {sc : Nat × (Nat → Int32)} {SH : List mCell} {S : mStore} {r : mR × mW} (h0 : sMod SH) {l1 : Int} : ((if I (S 90 35) ≤ I l1 then r = rI 0 SH S else (((0 : Int) ≤ l1 ∧ l1 < 700) ∧ r = rI (ian (S 99 l1) 255) SH S))) → G sc MX11_byteAt 0 [some (.ref 90), some (.int (I l1))] [] SH S r := by
  refine tt_ld (M := MX11_byteAt) (pc := 0) dX11_byteAt_0 rfl rfl rfl rfl rfl ?_
  refine tt_ld (M := MX11_byteAt) (pc := 1) dX11_byteAt_1 rfl rfl rfl rfl rfl ?_
  refine tt_getI (M := MX11_byteAt) (pc := 2) dX11_byteAt_2 rfl h0.1 rfl ?_
  refine tt_ic_ge (M := MX11_byteAt) (pc := 5) 21 dX11_byteAt_5 rfl ?_ ?_
  · refine tt_iconst (M := MX11_byteAt) (pc := 21) dX11_byteAt_21 ?_
    exact tt_iret (M := MX11_byteAt) (pc := 22) dX11_byteAt_22 rfl
  · refine tt_ld (M := MX11_byteAt) (pc := 8) dX11_byteAt_8 rfl rfl rfl rfl rfl ?_
    refine tt_getR (M := MX11_byteAt) (pc := 9) dX11_byteAt_9 rfl h0.1 rfl ?_
    refine tt_ld (M := MX11_byteAt) (pc := 12) dX11_byteAt_12 rfl rfl rfl rfl rfl ?_
    refine tt_iaload (M := MX11_byteAt) (pc := 13) dX11_byteAt_13 h0.2.2.2.2.2.2.2.2.2.1 rfl ?_
    refine tt_sipush (M := MX11_byteAt) (pc := 14) dX11_byteAt_14 (by decide) ?_
    refine tt_iand (M := MX11_byteAt) (pc := 17) dX11_byteAt_17 ?_
    refine tt_goto (M := MX11_byteAt) (pc := 18) 22 dX11_byteAt_18 rfl ?_
    exact tt_iret (M := MX11_byteAt) (pc := 22) dX11_byteAt_22 rfl
theorem qX11_wordOf_0 {sc : Nat × (Nat → Int32)} {SH : List mCell} {S : mStore} {r : mR × mW} (h0 : sMod SH) {l1 : Int} {l2 : Int} {u3 : Option Value} {u4 : Option Value} {u5 : Option Value} {u6 : Option Value} : (G sc MX11_wordOf 11 [some (.ref 90), some (.int (I l1)), some (.int (I l2)), some (.int (I 0)), some (.int (I l1)), some (.int (I 1)), some (.int (I 0))] [] SH S r) → G sc MX11_wordOf 0 [some (.ref 90), some (.int (I l1)), some (.int (I l2)), u3, u4, u5, u6] [] SH S r := by
  refine tt_iconst (M := MX11_wordOf) (pc := 0) dX11_wordOf_0 ?_
  refine tt_st (M := MX11_wordOf) (pc := 1) [some (.ref 90), some (.int (I l1)), some (.int (I l2)), some (.int (I 0)), u4, u5, u6] dX11_wordOf_1 rfl rfl rfl rfl rfl rfl ?_
  refine tt_ld (M := MX11_wordOf) (pc := 2) dX11_wordOf_2 rfl rfl rfl rfl rfl ?_
  refine tt_st (M := MX11_wordOf) (pc := 3) [some (.ref 90), some (.int (I l1)), some (.int (I l2)), some (.int (I 0)), some (.int (I l1)), u5, u6] dX11_wordOf_3 rfl rfl rfl rfl rfl rfl ?_
  refine tt_iconst (M := MX11_wordOf) (pc := 5) dX11_wordOf_5 ?_
  refine tt_st (M := MX11_wordOf) (pc := 6) [some (.ref 90), some (.int (I l1)), some (.int (I l2)), some (.int (I 0)), some (.int (I l1)), some (.int (I 1)), u6] dX11_wordOf_6 rfl rfl rfl rfl rfl rfl ?_
  refine tt_iconst (M := MX11_wordOf) (pc := 8) dX11_wordOf_8 ?_
  refine tt_st (M := MX11_wordOf) (pc := 9) [some (.ref 90), some (.int (I l1)), some (.int (I l2)), some (.int (I 0)), some (.int (I l1)), some (.int (I 1)), some (.int (I 0))] dX11_wordOf_9 rfl rfl rfl rfl rfl rfl ?_
  exact id
theorem qX11_wordOf_11 {sc : Nat × (Nat → Int32)} {SH : List mCell} {S : mStore} {r : mR × mW} (h0 : sMod SH) {l1 : Int} {l2 : Int} {l3 : Int} {l4 : Int} {l5 : Int} {l6 : Int} : ((if I 73 ≤ I l6 then r = rI (-1) SH S else (((0 : Int) ≤ l6 ∧ l6 < 73) ∧ (if I ((mwords.getD (l6).toNat 0).toInt) = I 32 then (if I l5 = I 0 then G sc MX11_wordOf 11 [some (.ref 90), some (.int (I l1)), some (.int (I l2)), some (.int (I (l3 + 1))), some (.int (I l1)), some (.int (I 1)), some (.int (I (l6 + 1)))] [] SH S r else (if I l4 = I l2 then r = rI l3 SH S else G sc MX11_wordOf 11 [some (.ref 90), some (.int (I l1)), some (.int (I l2)), some (.int (I (l3 + 1))), some (.int (I l1)), some (.int (I 1)), some (.int (I (l6 + 1)))] [] SH S r)) else (if I l5 = I 0 then G sc MX11_wordOf 11 [some (.ref 90), some (.int (I l1)), some (.int (I l2)), some (.int (I l3)), some (.int (I (l4 + 1))), some (.int (I 0)), some (.int (I (l6 + 1)))] [] SH S r else (if I l2 ≤ I l4 then G sc MX11_wordOf 11 [some (.ref 90), some (.int (I l1)), some (.int (I l2)), some (.int (I l3)), some (.int (I (l4 + 1))), some (.int (I 0)), some (.int (I (l6 + 1)))] [] SH S r else (∃ v101 S102, G sc MX11_byteAt 0 [some (.ref 90), some (.int (I l4))] [] SH S (rI v101 SH S102) ∧ (((0 : Int) ≤ l6 ∧ l6 < 73) ∧ (if I v101 = I ((mwords.getD (l6).toNat 0).toInt) then G sc MX11_wordOf 11 [some (.ref 90), some (.int (I l1)), some (.int (I l2)), some (.int (I l3)), some (.int (I (l4 + 1))), some (.int (I 1)), some (.int (I (l6 + 1)))] [] SH S102 r else G sc MX11_wordOf 11 [some (.ref 90), some (.int (I l1)), some (.int (I l2)), some (.int (I l3)), some (.int (I (l4 + 1))), some (.int (I 0)), some (.int (I (l6 + 1)))] [] SH S102 r))))))))) → G sc MX11_wordOf 11 [some (.ref 90), some (.int (I l1)), some (.int (I l2)), some (.int (I l3)), some (.int (I l4)), some (.int (I l5)), some (.int (I l6))] [] SH S r := by
  refine tt_ld (M := MX11_wordOf) (pc := 11) dX11_wordOf_11 rfl rfl rfl rfl rfl ?_
  refine tt_getS (M := MX11_wordOf) (pc := 13) dX11_wordOf_13 rfl ?_
  refine tt_lenK (n := 73) (M := MX11_wordOf) (pc := 16) dX11_wordOf_16 rfl ?_
  refine tt_ic_ge (M := MX11_wordOf) (pc := 17) 98 dX11_wordOf_17 rfl ?_ ?_
  · refine tt_iconst (M := MX11_wordOf) (pc := 98) dX11_wordOf_98 ?_
    exact tt_iret (M := MX11_wordOf) (pc := 99) dX11_wordOf_99 rfl
  · refine tt_getS (M := MX11_wordOf) (pc := 20) dX11_wordOf_20 rfl ?_
    refine tt_ld (M := MX11_wordOf) (pc := 23) dX11_wordOf_23 rfl rfl rfl rfl rfl ?_
    refine tt_wdload (M := MX11_wordOf) (pc := 25) dX11_wordOf_25 ?_
    refine tt_bipush (M := MX11_wordOf) (pc := 26) dX11_wordOf_26 (by decide) ?_
    refine tt_ic_ne (M := MX11_wordOf) (pc := 28) 56 dX11_wordOf_28 rfl ?_ ?_
    · refine tt_ld (M := MX11_wordOf) (pc := 56) dX11_wordOf_56 rfl rfl rfl rfl rfl ?_
      refine tt_if_eq (M := MX11_wordOf) (pc := 58) 86 dX11_wordOf_58 rfl ?_ ?_
      · refine tt_iconst (M := MX11_wordOf) (pc := 86) dX11_wordOf_86 ?_
        refine tt_st (M := MX11_wordOf) (pc := 87) [some (.ref 90), some (.int (I l1)), some (.int (I l2)), some (.int (I l3)), some (.int (I l4)), some (.int (I 0)), some (.int (I l6))] dX11_wordOf_87 rfl rfl rfl rfl rfl rfl ?_
        refine tt_iinc (M := MX11_wordOf) (pc := 89) [some (.ref 90), some (.int (I l1)), some (.int (I l2)), some (.int (I l3)), some (.int (I (l4 + 1))), some (.int (I 0)), some (.int (I l6))] dX11_wordOf_89 rfl rfl ?_
        refine tt_iinc (M := MX11_wordOf) (pc := 92) [some (.ref 90), some (.int (I l1)), some (.int (I l2)), some (.int (I l3)), some (.int (I (l4 + 1))), some (.int (I 0)), some (.int (I (l6 + 1)))] dX11_wordOf_92 rfl rfl ?_
        refine tt_goto (M := MX11_wordOf) (pc := 95) 11 dX11_wordOf_95 rfl ?_
        exact id
      · refine tt_ld (M := MX11_wordOf) (pc := 61) dX11_wordOf_61 rfl rfl rfl rfl rfl ?_
        refine tt_ld (M := MX11_wordOf) (pc := 63) dX11_wordOf_63 rfl rfl rfl rfl rfl ?_
        refine tt_ic_ge (M := MX11_wordOf) (pc := 64) 86 dX11_wordOf_64 rfl ?_ ?_
        · refine tt_iconst (M := MX11_wordOf) (pc := 86) dX11_wordOf_86 ?_
          refine tt_st (M := MX11_wordOf) (pc := 87) [some (.ref 90), some (.int (I l1)), some (.int (I l2)), some (.int (I l3)), some (.int (I l4)), some (.int (I 0)), some (.int (I l6))] dX11_wordOf_87 rfl rfl rfl rfl rfl rfl ?_
          refine tt_iinc (M := MX11_wordOf) (pc := 89) [some (.ref 90), some (.int (I l1)), some (.int (I l2)), some (.int (I l3)), some (.int (I (l4 + 1))), some (.int (I 0)), some (.int (I l6))] dX11_wordOf_89 rfl rfl ?_
          refine tt_iinc (M := MX11_wordOf) (pc := 92) [some (.ref 90), some (.int (I l1)), some (.int (I l2)), some (.int (I l3)), some (.int (I (l4 + 1))), some (.int (I 0)), some (.int (I (l6 + 1)))] dX11_wordOf_92 rfl rfl ?_
          refine tt_goto (M := MX11_wordOf) (pc := 95) 11 dX11_wordOf_95 rfl ?_
          exact id
        · refine tt_ld (M := MX11_wordOf) (pc := 67) dX11_wordOf_67 rfl rfl rfl rfl rfl ?_
          refine tt_ld (M := MX11_wordOf) (pc := 68) dX11_wordOf_68 rfl rfl rfl rfl rfl ?_
          refine tt_vcIN (M := MX11_wordOf) (pc := 70) dX11_wordOf_70 rfl rfl [] rfl rfl ⟨rfl, by decide, Nat.le_of_ble_eq_true rfl⟩ h0.1 fun v101 S102 => ?_
          refine tt_getS (M := MX11_wordOf) (pc := 73) dX11_wordOf_73 rfl ?_
          refine tt_ld (M := MX11_wordOf) (pc := 76) dX11_wordOf_76 rfl rfl rfl rfl rfl ?_
          refine tt_wdload (M := MX11_wordOf) (pc := 78) dX11_wordOf_78 ?_
          refine tt_ic_ne (M := MX11_wordOf) (pc := 79) 86 dX11_wordOf_79 rfl ?_ ?_
          · refine tt_iconst (M := MX11_wordOf) (pc := 86) dX11_wordOf_86 ?_
            refine tt_st (M := MX11_wordOf) (pc := 87) [some (.ref 90), some (.int (I l1)), some (.int (I l2)), some (.int (I l3)), some (.int (I l4)), some (.int (I 0)), some (.int (I l6))] dX11_wordOf_87 rfl rfl rfl rfl rfl rfl ?_
            refine tt_iinc (M := MX11_wordOf) (pc := 89) [some (.ref 90), some (.int (I l1)), some (.int (I l2)), some (.int (I l3)), some (.int (I (l4 + 1))), some (.int (I 0)), some (.int (I l6))] dX11_wordOf_89 rfl rfl ?_
            refine tt_iinc (M := MX11_wordOf) (pc := 92) [some (.ref 90), some (.int (I l1)), some (.int (I l2)), some (.int (I l3)), some (.int (I (l4 + 1))), some (.int (I 0)), some (.int (I (l6 + 1)))] dX11_wordOf_92 rfl rfl ?_
            refine tt_goto (M := MX11_wordOf) (pc := 95) 11 dX11_wordOf_95 rfl ?_
            exact id
          · refine tt_iconst (M := MX11_wordOf) (pc := 82) dX11_wordOf_82 ?_
            refine tt_goto (M := MX11_wordOf) (pc := 83) 87 dX11_wordOf_83 rfl ?_
            refine tt_st (M := MX11_wordOf) (pc := 87) [some (.ref 90), some (.int (I l1)), some (.int (I l2)), some (.int (I l3)), some (.int (I l4)), some (.int (I 1)), some (.int (I l6))] dX11_wordOf_87 rfl rfl rfl rfl rfl rfl ?_
            refine tt_iinc (M := MX11_wordOf) (pc := 89) [some (.ref 90), some (.int (I l1)), some (.int (I l2)), some (.int (I l3)), some (.int (I (l4 + 1))), some (.int (I 1)), some (.int (I l6))] dX11_wordOf_89 rfl rfl ?_
            refine tt_iinc (M := MX11_wordOf) (pc := 92) [some (.ref 90), some (.int (I l1)), some (.int (I l2)), some (.int (I l3)), some (.int (I (l4 + 1))), some (.int (I 1)), some (.int (I (l6 + 1)))] dX11_wordOf_92 rfl rfl ?_
            refine tt_goto (M := MX11_wordOf) (pc := 95) 11 dX11_wordOf_95 rfl ?_
            exact id
    · refine tt_ld (M := MX11_wordOf) (pc := 31) dX11_wordOf_31 rfl rfl rfl rfl rfl ?_
      refine tt_if_eq (M := MX11_wordOf) (pc := 33) 44 dX11_wordOf_33 rfl ?_ ?_
      · refine tt_iinc (M := MX11_wordOf) (pc := 44) [some (.ref 90), some (.int (I l1)), some (.int (I l2)), some (.int (I (l3 + 1))), some (.int (I l4)), some (.int (I l5)), some (.int (I l6))] dX11_wordOf_44 rfl rfl ?_
        refine tt_ld (M := MX11_wordOf) (pc := 47) dX11_wordOf_47 rfl rfl rfl rfl rfl ?_
        refine tt_st (M := MX11_wordOf) (pc := 48) [some (.ref 90), some (.int (I l1)), some (.int (I l2)), some (.int (I (l3 + 1))), some (.int (I l1)), some (.int (I l5)), some (.int (I l6))] dX11_wordOf_48 rfl rfl rfl rfl rfl rfl ?_
        refine tt_iconst (M := MX11_wordOf) (pc := 50) dX11_wordOf_50 ?_
        refine tt_st (M := MX11_wordOf) (pc := 51) [some (.ref 90), some (.int (I l1)), some (.int (I l2)), some (.int (I (l3 + 1))), some (.int (I l1)), some (.int (I 1)), some (.int (I l6))] dX11_wordOf_51 rfl rfl rfl rfl rfl rfl ?_
        refine tt_goto (M := MX11_wordOf) (pc := 53) 92 dX11_wordOf_53 rfl ?_
        refine tt_iinc (M := MX11_wordOf) (pc := 92) [some (.ref 90), some (.int (I l1)), some (.int (I l2)), some (.int (I (l3 + 1))), some (.int (I l1)), some (.int (I 1)), some (.int (I (l6 + 1)))] dX11_wordOf_92 rfl rfl ?_
        refine tt_goto (M := MX11_wordOf) (pc := 95) 11 dX11_wordOf_95 rfl ?_
        exact id
      · refine tt_ld (M := MX11_wordOf) (pc := 36) dX11_wordOf_36 rfl rfl rfl rfl rfl ?_
        refine tt_ld (M := MX11_wordOf) (pc := 38) dX11_wordOf_38 rfl rfl rfl rfl rfl ?_
        refine tt_ic_ne (M := MX11_wordOf) (pc := 39) 44 dX11_wordOf_39 rfl ?_ ?_
        · refine tt_iinc (M := MX11_wordOf) (pc := 44) [some (.ref 90), some (.int (I l1)), some (.int (I l2)), some (.int (I (l3 + 1))), some (.int (I l4)), some (.int (I l5)), some (.int (I l6))] dX11_wordOf_44 rfl rfl ?_
          refine tt_ld (M := MX11_wordOf) (pc := 47) dX11_wordOf_47 rfl rfl rfl rfl rfl ?_
          refine tt_st (M := MX11_wordOf) (pc := 48) [some (.ref 90), some (.int (I l1)), some (.int (I l2)), some (.int (I (l3 + 1))), some (.int (I l1)), some (.int (I l5)), some (.int (I l6))] dX11_wordOf_48 rfl rfl rfl rfl rfl rfl ?_
          refine tt_iconst (M := MX11_wordOf) (pc := 50) dX11_wordOf_50 ?_
          refine tt_st (M := MX11_wordOf) (pc := 51) [some (.ref 90), some (.int (I l1)), some (.int (I l2)), some (.int (I (l3 + 1))), some (.int (I l1)), some (.int (I 1)), some (.int (I l6))] dX11_wordOf_51 rfl rfl rfl rfl rfl rfl ?_
          refine tt_goto (M := MX11_wordOf) (pc := 53) 92 dX11_wordOf_53 rfl ?_
          refine tt_iinc (M := MX11_wordOf) (pc := 92) [some (.ref 90), some (.int (I l1)), some (.int (I l2)), some (.int (I (l3 + 1))), some (.int (I l1)), some (.int (I 1)), some (.int (I (l6 + 1)))] dX11_wordOf_92 rfl rfl ?_
          refine tt_goto (M := MX11_wordOf) (pc := 95) 11 dX11_wordOf_95 rfl ?_
          exact id
        · refine tt_ld (M := MX11_wordOf) (pc := 42) dX11_wordOf_42 rfl rfl rfl rfl rfl ?_
          exact tt_iret (M := MX11_wordOf) (pc := 43) dX11_wordOf_43 rfl
theorem qX11_go_0 {sc : Nat × (Nat → Int32)} {SH : List mCell} {S : mStore} {r : mR × mW} (h0 : sMod SH) {u1 : Option Value} : ((if I (S 90 35) ≤ I (S 90 33) then G sc MX11_go 50 [some (.ref 90), u1] [] SH S r else (∃ v101 S102, G sc MX11_byteAt 0 [some (.ref 90), some (.int (I (S 90 33)))] [] SH S (rI v101 SH S102) ∧ (if I v101 = I 32 then G sc MX11_go 0 [some (.ref 90), u1] [] SH (up S102 90 33 ((S102 90 33) + 1)) r else (∃ v103 S104, G sc MX11_byteAt 0 [some (.ref 90), some (.int (I (S102 90 33)))] [] SH S102 (rI v103 SH S104) ∧ (if I v103 = I 10 then G sc MX11_go 0 [some (.ref 90), u1] [] SH (up S104 90 33 ((S104 90 33) + 1)) r else G sc MX11_go 50 [some (.ref 90), u1] [] SH S104 r)))))) → G sc MX11_go 0 [some (.ref 90), u1] [] SH S r := by
  refine tt_ld (M := MX11_go) (pc := 0) dX11_go_0 rfl rfl rfl rfl rfl ?_
  refine tt_getI (M := MX11_go) (pc := 1) dX11_go_1 rfl h0.1 rfl ?_
  refine tt_ld (M := MX11_go) (pc := 4) dX11_go_4 rfl rfl rfl rfl rfl ?_
  refine tt_getI (M := MX11_go) (pc := 5) dX11_go_5 rfl h0.1 rfl ?_
  refine tt_ic_ge (M := MX11_go) (pc := 8) 50 dX11_go_8 rfl ?_ ?_
  · exact id
  · refine tt_ld (M := MX11_go) (pc := 11) dX11_go_11 rfl rfl rfl rfl rfl ?_
    refine tt_ld (M := MX11_go) (pc := 12) dX11_go_12 rfl rfl rfl rfl rfl ?_
    refine tt_getI (M := MX11_go) (pc := 13) dX11_go_13 rfl h0.1 rfl ?_
    refine tt_vcIN (M := MX11_go) (pc := 16) dX11_go_16 rfl rfl [] rfl rfl ⟨rfl, by decide, Nat.le_of_ble_eq_true rfl⟩ h0.1 fun v101 S102 => ?_
    refine tt_bipush (M := MX11_go) (pc := 19) dX11_go_19 (by decide) ?_
    refine tt_ic_eq (M := MX11_go) (pc := 21) 37 dX11_go_21 rfl ?_ ?_
    · refine tt_ld (M := MX11_go) (pc := 37) dX11_go_37 rfl rfl rfl rfl rfl ?_
      refine tt_dup (M := MX11_go) (pc := 38) dX11_go_38 rfl ?_
      refine tt_getI (M := MX11_go) (pc := 39) dX11_go_39 rfl h0.1 rfl ?_
      refine tt_iconst (M := MX11_go) (pc := 42) dX11_go_42 ?_
      refine tt_iadd (M := MX11_go) (pc := 43) dX11_go_43 ?_
      refine tt_putI (M := MX11_go) (pc := 44) dX11_go_44 rfl rfl (Or.inl rfl) h0.1 rfl ?_
      refine tt_goto (M := MX11_go) (pc := 47) 0 dX11_go_47 rfl ?_
      exact id
    · refine tt_ld (M := MX11_go) (pc := 24) dX11_go_24 rfl rfl rfl rfl rfl ?_
      refine tt_ld (M := MX11_go) (pc := 25) dX11_go_25 rfl rfl rfl rfl rfl ?_
      refine tt_getI (M := MX11_go) (pc := 26) dX11_go_26 rfl h0.1 rfl ?_
      refine tt_vcIN (M := MX11_go) (pc := 29) dX11_go_29 rfl rfl [] rfl rfl ⟨rfl, by decide, Nat.le_of_ble_eq_true rfl⟩ h0.1 fun v103 S104 => ?_
      refine tt_bipush (M := MX11_go) (pc := 32) dX11_go_32 (by decide) ?_
      refine tt_ic_ne (M := MX11_go) (pc := 34) 50 dX11_go_34 rfl ?_ ?_
      · exact id
      · refine tt_ld (M := MX11_go) (pc := 37) dX11_go_37 rfl rfl rfl rfl rfl ?_
        refine tt_dup (M := MX11_go) (pc := 38) dX11_go_38 rfl ?_
        refine tt_getI (M := MX11_go) (pc := 39) dX11_go_39 rfl h0.1 rfl ?_
        refine tt_iconst (M := MX11_go) (pc := 42) dX11_go_42 ?_
        refine tt_iadd (M := MX11_go) (pc := 43) dX11_go_43 ?_
        refine tt_putI (M := MX11_go) (pc := 44) dX11_go_44 rfl rfl (Or.inl rfl) h0.1 rfl ?_
        refine tt_goto (M := MX11_go) (pc := 47) 0 dX11_go_47 rfl ?_
        exact id
theorem qX11_go_50 {sc : Nat × (Nat → Int32)} {SH : List mCell} {S : mStore} {r : mR × mW} (h0 : sMod SH) {u1 : Option Value} : ((∃ v101 S102, G sc MX11_byteAt 0 [some (.ref 90), some (.int (I ((up S 90 34 (S 90 33)) 90 33)))] [] SH (up S 90 34 (S 90 33)) (rI v101 SH S102) ∧ (if I ((up (up S102 90 38 (-1)) 90 37 0) 90 33) < I ((up (up S102 90 38 (-1)) 90 37 0) 90 35) then (∃ v103 S104, G sc MX11_isLetter 0 [some (.int (I v101))] [] SH (up (up S102 90 38 (-1)) 90 37 0) (rI v103 SH S104) ∧ (if I v103 = I 0 then (if I v101 < I 48 then (if I v101 = I 59 then r = rV SH (up (up S104 90 33 ((S104 90 33) + 1)) 90 36 3) else r = rV SH (up (up S104 90 33 ((S104 90 33) + 1)) 90 36 4)) else (if I 57 < I v101 then (if I v101 = I 59 then r = rV SH (up (up S104 90 33 ((S104 90 33) + 1)) 90 36 3) else r = rV SH (up (up S104 90 33 ((S104 90 33) + 1)) 90 36 4)) else G sc MX11_go 166 [some (.ref 90), some (.int (I v101))] [] SH S104 r)) else G sc MX11_go 103 [some (.ref 90), some (.int (I v101))] [] SH S104 r)) else r = rV SH (up (up (up S102 90 38 (-1)) 90 37 0) 90 36 0)))) → G sc MX11_go 50 [some (.ref 90), u1] [] SH S r := by
  refine tt_ld (M := MX11_go) (pc := 50) dX11_go_50 rfl rfl rfl rfl rfl ?_
  refine tt_ld (M := MX11_go) (pc := 51) dX11_go_51 rfl rfl rfl rfl rfl ?_
  refine tt_getI (M := MX11_go) (pc := 52) dX11_go_52 rfl h0.1 rfl ?_
  refine tt_putI (M := MX11_go) (pc := 55) dX11_go_55 rfl rfl (Or.inl rfl) h0.1 rfl ?_
  refine tt_ld (M := MX11_go) (pc := 58) dX11_go_58 rfl rfl rfl rfl rfl ?_
  refine tt_ld (M := MX11_go) (pc := 59) dX11_go_59 rfl rfl rfl rfl rfl ?_
  refine tt_getI (M := MX11_go) (pc := 60) dX11_go_60 rfl h0.1 rfl ?_
  refine tt_vcIN (M := MX11_go) (pc := 63) dX11_go_63 rfl rfl [] rfl rfl ⟨rfl, by decide, Nat.le_of_ble_eq_true rfl⟩ h0.1 fun v101 S102 => ?_
  refine tt_st (M := MX11_go) (pc := 66) [some (.ref 90), some (.int (I v101))] dX11_go_66 rfl rfl rfl rfl rfl rfl ?_
  refine tt_ld (M := MX11_go) (pc := 67) dX11_go_67 rfl rfl rfl rfl rfl ?_
  refine tt_iconst (M := MX11_go) (pc := 68) dX11_go_68 ?_
  refine tt_putI (M := MX11_go) (pc := 69) dX11_go_69 rfl rfl (Or.inl rfl) h0.1 rfl ?_
  refine tt_ld (M := MX11_go) (pc := 72) dX11_go_72 rfl rfl rfl rfl rfl ?_
  refine tt_iconst (M := MX11_go) (pc := 73) dX11_go_73 ?_
  refine tt_putI (M := MX11_go) (pc := 74) dX11_go_74 rfl rfl (Or.inl rfl) h0.1 rfl ?_
  refine tt_ld (M := MX11_go) (pc := 77) dX11_go_77 rfl rfl rfl rfl rfl ?_
  refine tt_getI (M := MX11_go) (pc := 78) dX11_go_78 rfl h0.1 rfl ?_
  refine tt_ld (M := MX11_go) (pc := 81) dX11_go_81 rfl rfl rfl rfl rfl ?_
  refine tt_getI (M := MX11_go) (pc := 82) dX11_go_82 rfl h0.1 rfl ?_
  refine tt_ic_lt (M := MX11_go) (pc := 85) 96 dX11_go_85 rfl ?_ ?_
  · refine tt_ld (M := MX11_go) (pc := 96) dX11_go_96 rfl rfl rfl rfl rfl ?_
    refine tt_scIN (M := MX11_go) (pc := 97) dX11_go_97 rfl [] rfl rfl ⟨rfl, by decide, Nat.le_of_ble_eq_true rfl⟩ fun v103 S104 => ?_
    refine tt_if_eq (M := MX11_go) (pc := 100) 154 dX11_go_100 rfl ?_ ?_
    · refine tt_ld (M := MX11_go) (pc := 154) dX11_go_154 rfl rfl rfl rfl rfl ?_
      refine tt_bipush (M := MX11_go) (pc := 155) dX11_go_155 (by decide) ?_
      refine tt_ic_lt (M := MX11_go) (pc := 157) 255 dX11_go_157 rfl ?_ ?_
      · refine tt_ld (M := MX11_go) (pc := 255) dX11_go_255 rfl rfl rfl rfl rfl ?_
        refine tt_dup (M := MX11_go) (pc := 256) dX11_go_256 rfl ?_
        refine tt_getI (M := MX11_go) (pc := 257) dX11_go_257 rfl h0.1 rfl ?_
        refine tt_iconst (M := MX11_go) (pc := 260) dX11_go_260 ?_
        refine tt_iadd (M := MX11_go) (pc := 261) dX11_go_261 ?_
        refine tt_putI (M := MX11_go) (pc := 262) dX11_go_262 rfl rfl (Or.inl rfl) h0.1 rfl ?_
        refine tt_ld (M := MX11_go) (pc := 265) dX11_go_265 rfl rfl rfl rfl rfl ?_
        refine tt_ld (M := MX11_go) (pc := 266) dX11_go_266 rfl rfl rfl rfl rfl ?_
        refine tt_bipush (M := MX11_go) (pc := 267) dX11_go_267 (by decide) ?_
        refine tt_ic_ne (M := MX11_go) (pc := 269) 276 dX11_go_269 rfl ?_ ?_
        · refine tt_iconst (M := MX11_go) (pc := 276) dX11_go_276 ?_
          refine tt_putI (M := MX11_go) (pc := 277) dX11_go_277 rfl rfl (Or.inl rfl) h0.1 rfl ?_
          exact tt_ret (M := MX11_go) (pc := 280) dX11_go_280 rfl
        · refine tt_iconst (M := MX11_go) (pc := 272) dX11_go_272 ?_
          refine tt_goto (M := MX11_go) (pc := 273) 277 dX11_go_273 rfl ?_
          refine tt_putI (M := MX11_go) (pc := 277) dX11_go_277 rfl rfl (Or.inl rfl) h0.1 rfl ?_
          exact tt_ret (M := MX11_go) (pc := 280) dX11_go_280 rfl
      · refine tt_ld (M := MX11_go) (pc := 160) dX11_go_160 rfl rfl rfl rfl rfl ?_
        refine tt_bipush (M := MX11_go) (pc := 161) dX11_go_161 (by decide) ?_
        refine tt_ic_gt (M := MX11_go) (pc := 163) 255 dX11_go_163 rfl ?_ ?_
        · refine tt_ld (M := MX11_go) (pc := 255) dX11_go_255 rfl rfl rfl rfl rfl ?_
          refine tt_dup (M := MX11_go) (pc := 256) dX11_go_256 rfl ?_
          refine tt_getI (M := MX11_go) (pc := 257) dX11_go_257 rfl h0.1 rfl ?_
          refine tt_iconst (M := MX11_go) (pc := 260) dX11_go_260 ?_
          refine tt_iadd (M := MX11_go) (pc := 261) dX11_go_261 ?_
          refine tt_putI (M := MX11_go) (pc := 262) dX11_go_262 rfl rfl (Or.inl rfl) h0.1 rfl ?_
          refine tt_ld (M := MX11_go) (pc := 265) dX11_go_265 rfl rfl rfl rfl rfl ?_
          refine tt_ld (M := MX11_go) (pc := 266) dX11_go_266 rfl rfl rfl rfl rfl ?_
          refine tt_bipush (M := MX11_go) (pc := 267) dX11_go_267 (by decide) ?_
          refine tt_ic_ne (M := MX11_go) (pc := 269) 276 dX11_go_269 rfl ?_ ?_
          · refine tt_iconst (M := MX11_go) (pc := 276) dX11_go_276 ?_
            refine tt_putI (M := MX11_go) (pc := 277) dX11_go_277 rfl rfl (Or.inl rfl) h0.1 rfl ?_
            exact tt_ret (M := MX11_go) (pc := 280) dX11_go_280 rfl
          · refine tt_iconst (M := MX11_go) (pc := 272) dX11_go_272 ?_
            refine tt_goto (M := MX11_go) (pc := 273) 277 dX11_go_273 rfl ?_
            refine tt_putI (M := MX11_go) (pc := 277) dX11_go_277 rfl rfl (Or.inl rfl) h0.1 rfl ?_
            exact tt_ret (M := MX11_go) (pc := 280) dX11_go_280 rfl
        · exact id
    · exact id
  · refine tt_ld (M := MX11_go) (pc := 88) dX11_go_88 rfl rfl rfl rfl rfl ?_
    refine tt_iconst (M := MX11_go) (pc := 89) dX11_go_89 ?_
    refine tt_putI (M := MX11_go) (pc := 90) dX11_go_90 rfl rfl (Or.inl rfl) h0.1 rfl ?_
    refine tt_goto (M := MX11_go) (pc := 93) 280 dX11_go_93 rfl ?_
    exact tt_ret (M := MX11_go) (pc := 280) dX11_go_280 rfl
theorem qX11_go_103 {sc : Nat × (Nat → Int32)} {SH : List mCell} {S : mStore} {r : mR × mW} (h0 : sMod SH) {l1 : Int} : ((∃ v101 S102, G sc MX11_byteAt 0 [some (.ref 90), some (.int (I (S 90 33)))] [] SH S (rI v101 SH S102) ∧ (∃ v103 S104, G sc MX11_isLetter 0 [some (.int (I v101))] [] SH S102 (rI v103 SH S104) ∧ (if I v103 = I 0 then (∃ v105 S106, G sc MX11_wordOf 0 [some (.ref 90), some (.int (I ((up S104 90 36 1) 90 34))), some (.int (I ((up S104 90 36 1) 90 33))), none, none, none, none] [] SH (up S104 90 36 1) (rI v105 SH S106) ∧ r = rV SH (up S106 90 38 v105)) else G sc MX11_go 103 [some (.ref 90), some (.int (I l1))] [] SH (up S104 90 33 ((S104 90 33) + 1)) r)))) → G sc MX11_go 103 [some (.ref 90), some (.int (I l1))] [] SH S r := by
  refine tt_ld (M := MX11_go) (pc := 103) dX11_go_103 rfl rfl rfl rfl rfl ?_
  refine tt_ld (M := MX11_go) (pc := 104) dX11_go_104 rfl rfl rfl rfl rfl ?_
  refine tt_getI (M := MX11_go) (pc := 105) dX11_go_105 rfl h0.1 rfl ?_
  refine tt_vcIN (M := MX11_go) (pc := 108) dX11_go_108 rfl rfl [] rfl rfl ⟨rfl, by decide, Nat.le_of_ble_eq_true rfl⟩ h0.1 fun v101 S102 => ?_
  refine tt_scIN (M := MX11_go) (pc := 111) dX11_go_111 rfl [] rfl rfl ⟨rfl, by decide, Nat.le_of_ble_eq_true rfl⟩ fun v103 S104 => ?_
  refine tt_if_eq (M := MX11_go) (pc := 114) 130 dX11_go_114 rfl ?_ ?_
  · refine tt_ld (M := MX11_go) (pc := 130) dX11_go_130 rfl rfl rfl rfl rfl ?_
    refine tt_iconst (M := MX11_go) (pc := 131) dX11_go_131 ?_
    refine tt_putI (M := MX11_go) (pc := 132) dX11_go_132 rfl rfl (Or.inl rfl) h0.1 rfl ?_
    refine tt_ld (M := MX11_go) (pc := 135) dX11_go_135 rfl rfl rfl rfl rfl ?_
    refine tt_ld (M := MX11_go) (pc := 136) dX11_go_136 rfl rfl rfl rfl rfl ?_
    refine tt_ld (M := MX11_go) (pc := 137) dX11_go_137 rfl rfl rfl rfl rfl ?_
    refine tt_getI (M := MX11_go) (pc := 138) dX11_go_138 rfl h0.1 rfl ?_
    refine tt_ld (M := MX11_go) (pc := 141) dX11_go_141 rfl rfl rfl rfl rfl ?_
    refine tt_getI (M := MX11_go) (pc := 142) dX11_go_142 rfl h0.1 rfl ?_
    refine tt_vcIN (M := MX11_go) (pc := 145) dX11_go_145 rfl rfl [.ref 90] rfl rfl ⟨rfl, by decide, Nat.le_of_ble_eq_true rfl⟩ h0.1 fun v105 S106 => ?_
    refine tt_putI (M := MX11_go) (pc := 148) dX11_go_148 rfl rfl (Or.inl rfl) h0.1 rfl ?_
    refine tt_goto (M := MX11_go) (pc := 151) 280 dX11_go_151 rfl ?_
    exact tt_ret (M := MX11_go) (pc := 280) dX11_go_280 rfl
  · refine tt_ld (M := MX11_go) (pc := 117) dX11_go_117 rfl rfl rfl rfl rfl ?_
    refine tt_dup (M := MX11_go) (pc := 118) dX11_go_118 rfl ?_
    refine tt_getI (M := MX11_go) (pc := 119) dX11_go_119 rfl h0.1 rfl ?_
    refine tt_iconst (M := MX11_go) (pc := 122) dX11_go_122 ?_
    refine tt_iadd (M := MX11_go) (pc := 123) dX11_go_123 ?_
    refine tt_putI (M := MX11_go) (pc := 124) dX11_go_124 rfl rfl (Or.inl rfl) h0.1 rfl ?_
    refine tt_goto (M := MX11_go) (pc := 127) 103 dX11_go_127 rfl ?_
    exact id
theorem qX11_go_166 {sc : Nat × (Nat → Int32)} {SH : List mCell} {S : mStore} {r : mR × mW} (h0 : sMod SH) {l1 : Int} : ((∃ v101 S102, G sc MX11_byteAt 0 [some (.ref 90), some (.int (I (S 90 33)))] [] SH S (rI v101 SH S102) ∧ (if I v101 < I 48 then G sc MX11_go 247 [some (.ref 90), some (.int (I l1))] [] SH S102 r else (∃ v103 S104, G sc MX11_byteAt 0 [some (.ref 90), some (.int (I (S102 90 33)))] [] SH S102 (rI v103 SH S104) ∧ (if I 57 < I v103 then G sc MX11_go 247 [some (.ref 90), some (.int (I l1))] [] SH S104 r else (if I 3 ≤ I ((S104 90 33) - (S104 90 34)) then G sc MX11_go 166 [some (.ref 90), some (.int (I l1))] [] SH (up (up S104 90 37 9999) 90 33 (((up S104 90 37 9999) 90 33) + 1)) r else (∃ v105 S106, G sc MX11_byteAt 0 [some (.ref 90), some (.int (I (S104 90 33)))] [] SH S104 (rI v105 SH S106) ∧ G sc MX11_go 166 [some (.ref 90), some (.int (I l1))] [] SH (up (up S106 90 37 (((10 * (S104 90 37)) + v105) - 48)) 90 33 (((up S106 90 37 (((10 * (S104 90 37)) + v105) - 48)) 90 33) + 1)) r))))))) → G sc MX11_go 166 [some (.ref 90), some (.int (I l1))] [] SH S r := by
  refine tt_ld (M := MX11_go) (pc := 166) dX11_go_166 rfl rfl rfl rfl rfl ?_
  refine tt_ld (M := MX11_go) (pc := 167) dX11_go_167 rfl rfl rfl rfl rfl ?_
  refine tt_getI (M := MX11_go) (pc := 168) dX11_go_168 rfl h0.1 rfl ?_
  refine tt_vcIN (M := MX11_go) (pc := 171) dX11_go_171 rfl rfl [] rfl rfl ⟨rfl, by decide, Nat.le_of_ble_eq_true rfl⟩ h0.1 fun v101 S102 => ?_
  refine tt_bipush (M := MX11_go) (pc := 174) dX11_go_174 (by decide) ?_
  refine tt_ic_lt (M := MX11_go) (pc := 176) 247 dX11_go_176 rfl ?_ ?_
  · exact id
  · refine tt_ld (M := MX11_go) (pc := 179) dX11_go_179 rfl rfl rfl rfl rfl ?_
    refine tt_ld (M := MX11_go) (pc := 180) dX11_go_180 rfl rfl rfl rfl rfl ?_
    refine tt_getI (M := MX11_go) (pc := 181) dX11_go_181 rfl h0.1 rfl ?_
    refine tt_vcIN (M := MX11_go) (pc := 184) dX11_go_184 rfl rfl [] rfl rfl ⟨rfl, by decide, Nat.le_of_ble_eq_true rfl⟩ h0.1 fun v103 S104 => ?_
    refine tt_bipush (M := MX11_go) (pc := 187) dX11_go_187 (by decide) ?_
    refine tt_ic_gt (M := MX11_go) (pc := 189) 247 dX11_go_189 rfl ?_ ?_
    · exact id
    · refine tt_ld (M := MX11_go) (pc := 192) dX11_go_192 rfl rfl rfl rfl rfl ?_
      refine tt_ld (M := MX11_go) (pc := 193) dX11_go_193 rfl rfl rfl rfl rfl ?_
      refine tt_getI (M := MX11_go) (pc := 194) dX11_go_194 rfl h0.1 rfl ?_
      refine tt_ld (M := MX11_go) (pc := 197) dX11_go_197 rfl rfl rfl rfl rfl ?_
      refine tt_getI (M := MX11_go) (pc := 198) dX11_go_198 rfl h0.1 rfl ?_
      refine tt_isub (M := MX11_go) (pc := 201) dX11_go_201 ?_
      refine tt_iconst (M := MX11_go) (pc := 202) dX11_go_202 ?_
      refine tt_ic_ge (M := MX11_go) (pc := 203) 228 dX11_go_203 rfl ?_ ?_
      · refine tt_sipush (M := MX11_go) (pc := 228) dX11_go_228 (by decide) ?_
        refine tt_putI (M := MX11_go) (pc := 231) dX11_go_231 rfl rfl (Or.inl rfl) h0.1 rfl ?_
        refine tt_ld (M := MX11_go) (pc := 234) dX11_go_234 rfl rfl rfl rfl rfl ?_
        refine tt_dup (M := MX11_go) (pc := 235) dX11_go_235 rfl ?_
        refine tt_getI (M := MX11_go) (pc := 236) dX11_go_236 rfl h0.1 rfl ?_
        refine tt_iconst (M := MX11_go) (pc := 239) dX11_go_239 ?_
        refine tt_iadd (M := MX11_go) (pc := 240) dX11_go_240 ?_
        refine tt_putI (M := MX11_go) (pc := 241) dX11_go_241 rfl rfl (Or.inl rfl) h0.1 rfl ?_
        refine tt_goto (M := MX11_go) (pc := 244) 166 dX11_go_244 rfl ?_
        exact id
      · refine tt_bipush (M := MX11_go) (pc := 206) dX11_go_206 (by decide) ?_
        refine tt_ld (M := MX11_go) (pc := 208) dX11_go_208 rfl rfl rfl rfl rfl ?_
        refine tt_getI (M := MX11_go) (pc := 209) dX11_go_209 rfl h0.1 rfl ?_
        refine tt_imul (M := MX11_go) (pc := 212) dX11_go_212 ?_
        refine tt_ld (M := MX11_go) (pc := 213) dX11_go_213 rfl rfl rfl rfl rfl ?_
        refine tt_ld (M := MX11_go) (pc := 214) dX11_go_214 rfl rfl rfl rfl rfl ?_
        refine tt_getI (M := MX11_go) (pc := 215) dX11_go_215 rfl h0.1 rfl ?_
        refine tt_vcIN (M := MX11_go) (pc := 218) dX11_go_218 rfl rfl [.int (I (10 * (S104 90 37))), .ref 90] rfl rfl ⟨rfl, by decide, Nat.le_of_ble_eq_true rfl⟩ h0.1 fun v105 S106 => ?_
        refine tt_iadd (M := MX11_go) (pc := 221) dX11_go_221 ?_
        refine tt_bipush (M := MX11_go) (pc := 222) dX11_go_222 (by decide) ?_
        refine tt_isub (M := MX11_go) (pc := 224) dX11_go_224 ?_
        refine tt_goto (M := MX11_go) (pc := 225) 231 dX11_go_225 rfl ?_
        refine tt_putI (M := MX11_go) (pc := 231) dX11_go_231 rfl rfl (Or.inl rfl) h0.1 rfl ?_
        refine tt_ld (M := MX11_go) (pc := 234) dX11_go_234 rfl rfl rfl rfl rfl ?_
        refine tt_dup (M := MX11_go) (pc := 235) dX11_go_235 rfl ?_
        refine tt_getI (M := MX11_go) (pc := 236) dX11_go_236 rfl h0.1 rfl ?_
        refine tt_iconst (M := MX11_go) (pc := 239) dX11_go_239 ?_
        refine tt_iadd (M := MX11_go) (pc := 240) dX11_go_240 ?_
        refine tt_putI (M := MX11_go) (pc := 241) dX11_go_241 rfl rfl (Or.inl rfl) h0.1 rfl ?_
        refine tt_goto (M := MX11_go) (pc := 244) 166 dX11_go_244 rfl ?_
        exact id
theorem qX11_go_247 {sc : Nat × (Nat → Int32)} {SH : List mCell} {S : mStore} {r : mR × mW} (h0 : sMod SH) {l1 : Int} : (r = rV SH (up S 90 36 2)) → G sc MX11_go 247 [some (.ref 90), some (.int (I l1))] [] SH S r := by
  refine tt_ld (M := MX11_go) (pc := 247) dX11_go_247 rfl rfl rfl rfl rfl ?_
  refine tt_iconst (M := MX11_go) (pc := 248) dX11_go_248 ?_
  refine tt_putI (M := MX11_go) (pc := 249) dX11_go_249 rfl rfl (Or.inl rfl) h0.1 rfl ?_
  refine tt_goto (M := MX11_go) (pc := 252) 280 dX11_go_252 rfl ?_
  exact tt_ret (M := MX11_go) (pc := 280) dX11_go_280 rfl
theorem qX11_wants_0 {sc : Nat × (Nat → Int32)} {SH : List mCell} {S : mStore} {r : mR × mW} (h0 : sMod SH) {l1 : Int} {l2 : Int} : ((if I (S 90 39) = I 0 then (if I l1 = I 0 then (if I ((up (up S 90 39 l2) 90 26 ((up S 90 39 l2) 90 34)) 90 39) = I 0 then ((I 1 = I 0 ∨ I 1 = I 1) ∧ r = rI 1 SH (up (up S 90 39 l2) 90 26 ((up S 90 39 l2) 90 34))) else ((I 0 = I 0 ∨ I 0 = I 1) ∧ r = rI 0 SH (up (up S 90 39 l2) 90 26 ((up S 90 39 l2) 90 34)))) else (if I (S 90 39) = I 0 then ((I 1 = I 0 ∨ I 1 = I 1) ∧ r = rI 1 SH S) else ((I 0 = I 0 ∨ I 0 = I 1) ∧ r = rI 0 SH S))) else (if I (S 90 39) = I 0 then ((I 1 = I 0 ∨ I 1 = I 1) ∧ r = rI 1 SH S) else ((I 0 = I 0 ∨ I 0 = I 1) ∧ r = rI 0 SH S)))) → G sc MX11_wants 0 [some (.ref 90), some (.int (I l1)), some (.int (I l2))] [] SH S r := by
  refine tt_ld (M := MX11_wants) (pc := 0) dX11_wants_0 rfl rfl rfl rfl rfl ?_
  refine tt_getI (M := MX11_wants) (pc := 1) dX11_wants_1 rfl h0.1 rfl ?_
  refine tt_if_ne (M := MX11_wants) (pc := 4) 24 dX11_wants_4 rfl ?_ ?_
  · refine tt_ld (M := MX11_wants) (pc := 24) dX11_wants_24 rfl rfl rfl rfl rfl ?_
    refine tt_getI (M := MX11_wants) (pc := 25) dX11_wants_25 rfl h0.1 rfl ?_
    refine tt_if_ne (M := MX11_wants) (pc := 28) 35 dX11_wants_28 rfl ?_ ?_
    · refine tt_iconst (M := MX11_wants) (pc := 35) dX11_wants_35 ?_
      exact tt_zret (M := MX11_wants) (pc := 36) dX11_wants_36 rfl
    · refine tt_iconst (M := MX11_wants) (pc := 31) dX11_wants_31 ?_
      refine tt_goto (M := MX11_wants) (pc := 32) 36 dX11_wants_32 rfl ?_
      exact tt_zret (M := MX11_wants) (pc := 36) dX11_wants_36 rfl
  · refine tt_ld (M := MX11_wants) (pc := 7) dX11_wants_7 rfl rfl rfl rfl rfl ?_
    refine tt_if_ne (M := MX11_wants) (pc := 8) 24 dX11_wants_8 rfl ?_ ?_
    · refine tt_ld (M := MX11_wants) (pc := 24) dX11_wants_24 rfl rfl rfl rfl rfl ?_
      refine tt_getI (M := MX11_wants) (pc := 25) dX11_wants_25 rfl h0.1 rfl ?_
      refine tt_if_ne (M := MX11_wants) (pc := 28) 35 dX11_wants_28 rfl ?_ ?_
      · refine tt_iconst (M := MX11_wants) (pc := 35) dX11_wants_35 ?_
        exact tt_zret (M := MX11_wants) (pc := 36) dX11_wants_36 rfl
      · refine tt_iconst (M := MX11_wants) (pc := 31) dX11_wants_31 ?_
        refine tt_goto (M := MX11_wants) (pc := 32) 36 dX11_wants_32 rfl ?_
        exact tt_zret (M := MX11_wants) (pc := 36) dX11_wants_36 rfl
    · refine tt_ld (M := MX11_wants) (pc := 11) dX11_wants_11 rfl rfl rfl rfl rfl ?_
      refine tt_ld (M := MX11_wants) (pc := 12) dX11_wants_12 rfl rfl rfl rfl rfl ?_
      refine tt_putI (M := MX11_wants) (pc := 13) dX11_wants_13 rfl rfl (Or.inl rfl) h0.1 rfl ?_
      refine tt_ld (M := MX11_wants) (pc := 16) dX11_wants_16 rfl rfl rfl rfl rfl ?_
      refine tt_ld (M := MX11_wants) (pc := 17) dX11_wants_17 rfl rfl rfl rfl rfl ?_
      refine tt_getI (M := MX11_wants) (pc := 18) dX11_wants_18 rfl h0.1 rfl ?_
      refine tt_putI (M := MX11_wants) (pc := 21) dX11_wants_21 rfl rfl (Or.inl rfl) h0.1 rfl ?_
      refine tt_ld (M := MX11_wants) (pc := 24) dX11_wants_24 rfl rfl rfl rfl rfl ?_
      refine tt_getI (M := MX11_wants) (pc := 25) dX11_wants_25 rfl h0.1 rfl ?_
      refine tt_if_ne (M := MX11_wants) (pc := 28) 35 dX11_wants_28 rfl ?_ ?_
      · refine tt_iconst (M := MX11_wants) (pc := 35) dX11_wants_35 ?_
        exact tt_zret (M := MX11_wants) (pc := 36) dX11_wants_36 rfl
      · refine tt_iconst (M := MX11_wants) (pc := 31) dX11_wants_31 ?_
        refine tt_goto (M := MX11_wants) (pc := 32) 36 dX11_wants_32 rfl ?_
        exact tt_zret (M := MX11_wants) (pc := 36) dX11_wants_36 rfl
theorem qX11_number_0 {sc : Nat × (Nat → Int32)} {SH : List mCell} {S : mStore} {r : mR × mW} (h0 : sMod SH) {l1 : Int} {l2 : Int} {u3 : Option Value} : ((if I (S 90 36) = I 2 then (∃ v108 S109, G sc MX11_wants 0 [some (.ref 90), some (.int (I 1)), some (.int (I 1))] [] SH S (rI v108 SH S109) ∧ (if I v108 = I 0 then r = rI 0 SH S109 else (∃ v110 S111, G sc MX11_within 0 [some (.int (I (S109 90 37))), some (.int (I l1)), some (.int (I l2))] [] SH S109 (rI v110 SH S111) ∧ (∃ v112 S113, G sc MX11_wants 0 [some (.ref 90), some (.int (I v110)), some (.int (I 2))] [] SH S111 (rI v112 SH S113) ∧ (if I v112 = I 0 then r = rI 0 SH S113 else (∃ S114, G sc MX11_go 0 [some (.ref 90), none] [] SH S113 (rV SH S114) ∧ r = rI (S113 90 37) SH S114)))))) else (∃ v101 S102, G sc MX11_wants 0 [some (.ref 90), some (.int (I 0)), some (.int (I 1))] [] SH S (rI v101 SH S102) ∧ (if I v101 = I 0 then r = rI 0 SH S102 else (∃ v103 S104, G sc MX11_within 0 [some (.int (I (S102 90 37))), some (.int (I l1)), some (.int (I l2))] [] SH S102 (rI v103 SH S104) ∧ (∃ v105 S106, G sc MX11_wants 0 [some (.ref 90), some (.int (I v103)), some (.int (I 2))] [] SH S104 (rI v105 SH S106) ∧ (if I v105 = I 0 then r = rI 0 SH S106 else (∃ S107, G sc MX11_go 0 [some (.ref 90), none] [] SH S106 (rV SH S107) ∧ r = rI (S106 90 37) SH S107)))))))) → G sc MX11_number 0 [some (.ref 90), some (.int (I l1)), some (.int (I l2)), u3] [] SH S r := by
  refine tt_ld (M := MX11_number) (pc := 0) dX11_number_0 rfl rfl rfl rfl rfl ?_
  refine tt_ld (M := MX11_number) (pc := 1) dX11_number_1 rfl rfl rfl rfl rfl ?_
  refine tt_getI (M := MX11_number) (pc := 2) dX11_number_2 rfl h0.1 rfl ?_
  refine tt_iconst (M := MX11_number) (pc := 5) dX11_number_5 ?_
  refine tt_ic_ne (M := MX11_number) (pc := 6) 13 dX11_number_6 rfl ?_ ?_
  · refine tt_iconst (M := MX11_number) (pc := 13) dX11_number_13 ?_
    refine tt_iconst (M := MX11_number) (pc := 14) dX11_number_14 ?_
    refine tt_vcIN (M := MX11_number) (pc := 15) dX11_number_15 rfl rfl [] rfl rfl ⟨rfl, by decide, Nat.le_of_ble_eq_true rfl⟩ h0.1 fun v101 S102 => ?_
    refine tt_if_eq (M := MX11_number) (pc := 18) 38 dX11_number_18 rfl ?_ ?_
    · refine tt_iconst (M := MX11_number) (pc := 38) dX11_number_38 ?_
      exact tt_iret (M := MX11_number) (pc := 39) dX11_number_39 rfl
    · refine tt_ld (M := MX11_number) (pc := 21) dX11_number_21 rfl rfl rfl rfl rfl ?_
      refine tt_ld (M := MX11_number) (pc := 22) dX11_number_22 rfl rfl rfl rfl rfl ?_
      refine tt_getI (M := MX11_number) (pc := 23) dX11_number_23 rfl h0.1 rfl ?_
      refine tt_ld (M := MX11_number) (pc := 26) dX11_number_26 rfl rfl rfl rfl rfl ?_
      refine tt_ld (M := MX11_number) (pc := 27) dX11_number_27 rfl rfl rfl rfl rfl ?_
      refine tt_scIN (M := MX11_number) (pc := 28) dX11_number_28 rfl [.ref 90] rfl rfl ⟨rfl, by decide, Nat.le_of_ble_eq_true rfl⟩ fun v103 S104 => ?_
      refine tt_iconst (M := MX11_number) (pc := 31) dX11_number_31 ?_
      refine tt_vcIN (M := MX11_number) (pc := 32) dX11_number_32 rfl rfl [] rfl rfl ⟨rfl, by decide, Nat.le_of_ble_eq_true rfl⟩ h0.1 fun v105 S106 => ?_
      refine tt_if_ne (M := MX11_number) (pc := 35) 40 dX11_number_35 rfl ?_ ?_
      · refine tt_ld (M := MX11_number) (pc := 40) dX11_number_40 rfl rfl rfl rfl rfl ?_
        refine tt_getI (M := MX11_number) (pc := 41) dX11_number_41 rfl h0.1 rfl ?_
        refine tt_st (M := MX11_number) (pc := 44) [some (.ref 90), some (.int (I l1)), some (.int (I l2)), some (.int (I (S106 90 37)))] dX11_number_44 rfl rfl rfl rfl rfl rfl ?_
        refine tt_ld (M := MX11_number) (pc := 45) dX11_number_45 rfl rfl rfl rfl rfl ?_
        refine tt_vcVN (M := MX11_number) (pc := 46) dX11_number_46 rfl rfl [] rfl rfl ⟨rfl, by decide, Nat.le_of_ble_eq_true rfl⟩ h0.1 fun S107 => ?_
        refine tt_ld (M := MX11_number) (pc := 49) dX11_number_49 rfl rfl rfl rfl rfl ?_
        exact tt_iret (M := MX11_number) (pc := 50) dX11_number_50 rfl
      · refine tt_iconst (M := MX11_number) (pc := 38) dX11_number_38 ?_
        exact tt_iret (M := MX11_number) (pc := 39) dX11_number_39 rfl
  · refine tt_iconst (M := MX11_number) (pc := 9) dX11_number_9 ?_
    refine tt_goto (M := MX11_number) (pc := 10) 14 dX11_number_10 rfl ?_
    refine tt_iconst (M := MX11_number) (pc := 14) dX11_number_14 ?_
    refine tt_vcIN (M := MX11_number) (pc := 15) dX11_number_15 rfl rfl [] rfl rfl ⟨rfl, by decide, Nat.le_of_ble_eq_true rfl⟩ h0.1 fun v108 S109 => ?_
    refine tt_if_eq (M := MX11_number) (pc := 18) 38 dX11_number_18 rfl ?_ ?_
    · refine tt_iconst (M := MX11_number) (pc := 38) dX11_number_38 ?_
      exact tt_iret (M := MX11_number) (pc := 39) dX11_number_39 rfl
    · refine tt_ld (M := MX11_number) (pc := 21) dX11_number_21 rfl rfl rfl rfl rfl ?_
      refine tt_ld (M := MX11_number) (pc := 22) dX11_number_22 rfl rfl rfl rfl rfl ?_
      refine tt_getI (M := MX11_number) (pc := 23) dX11_number_23 rfl h0.1 rfl ?_
      refine tt_ld (M := MX11_number) (pc := 26) dX11_number_26 rfl rfl rfl rfl rfl ?_
      refine tt_ld (M := MX11_number) (pc := 27) dX11_number_27 rfl rfl rfl rfl rfl ?_
      refine tt_scIN (M := MX11_number) (pc := 28) dX11_number_28 rfl [.ref 90] rfl rfl ⟨rfl, by decide, Nat.le_of_ble_eq_true rfl⟩ fun v110 S111 => ?_
      refine tt_iconst (M := MX11_number) (pc := 31) dX11_number_31 ?_
      refine tt_vcIN (M := MX11_number) (pc := 32) dX11_number_32 rfl rfl [] rfl rfl ⟨rfl, by decide, Nat.le_of_ble_eq_true rfl⟩ h0.1 fun v112 S113 => ?_
      refine tt_if_ne (M := MX11_number) (pc := 35) 40 dX11_number_35 rfl ?_ ?_
      · refine tt_ld (M := MX11_number) (pc := 40) dX11_number_40 rfl rfl rfl rfl rfl ?_
        refine tt_getI (M := MX11_number) (pc := 41) dX11_number_41 rfl h0.1 rfl ?_
        refine tt_st (M := MX11_number) (pc := 44) [some (.ref 90), some (.int (I l1)), some (.int (I l2)), some (.int (I (S113 90 37)))] dX11_number_44 rfl rfl rfl rfl rfl rfl ?_
        refine tt_ld (M := MX11_number) (pc := 45) dX11_number_45 rfl rfl rfl rfl rfl ?_
        refine tt_vcVN (M := MX11_number) (pc := 46) dX11_number_46 rfl rfl [] rfl rfl ⟨rfl, by decide, Nat.le_of_ble_eq_true rfl⟩ h0.1 fun S114 => ?_
        refine tt_ld (M := MX11_number) (pc := 49) dX11_number_49 rfl rfl rfl rfl rfl ?_
        exact tt_iret (M := MX11_number) (pc := 50) dX11_number_50 rfl
      · refine tt_iconst (M := MX11_number) (pc := 38) dX11_number_38 ?_
        exact tt_iret (M := MX11_number) (pc := 39) dX11_number_39 rfl
theorem qX11_opens_0 {sc : Nat × (Nat → Int32)} {SH : List mCell} {S : mStore} {r : mR × mW} (h0 : sMod SH) {l1 : Int} : ((∃ S101, G sc MX11_go 0 [some (.ref 90), none] [] SH (up (up (up (up S 90 35 l1) 90 33 0) 90 39 0) 90 26 (-1)) (rV SH S101) ∧ r = rV SH S101)) → G sc MX11_opens 0 [some (.ref 90), some (.int (I l1))] [] SH S r := by
  refine tt_ld (M := MX11_opens) (pc := 0) dX11_opens_0 rfl rfl rfl rfl rfl ?_
  refine tt_ld (M := MX11_opens) (pc := 1) dX11_opens_1 rfl rfl rfl rfl rfl ?_
  refine tt_putI (M := MX11_opens) (pc := 2) dX11_opens_2 rfl rfl (Or.inl rfl) h0.1 rfl ?_
  refine tt_ld (M := MX11_opens) (pc := 5) dX11_opens_5 rfl rfl rfl rfl rfl ?_
  refine tt_iconst (M := MX11_opens) (pc := 6) dX11_opens_6 ?_
  refine tt_putI (M := MX11_opens) (pc := 7) dX11_opens_7 rfl rfl (Or.inl rfl) h0.1 rfl ?_
  refine tt_ld (M := MX11_opens) (pc := 10) dX11_opens_10 rfl rfl rfl rfl rfl ?_
  refine tt_iconst (M := MX11_opens) (pc := 11) dX11_opens_11 ?_
  refine tt_putI (M := MX11_opens) (pc := 12) dX11_opens_12 rfl rfl (Or.inl rfl) h0.1 rfl ?_
  refine tt_ld (M := MX11_opens) (pc := 15) dX11_opens_15 rfl rfl rfl rfl rfl ?_
  refine tt_iconst (M := MX11_opens) (pc := 16) dX11_opens_16 ?_
  refine tt_putI (M := MX11_opens) (pc := 17) dX11_opens_17 rfl rfl (Or.inl rfl) h0.1 rfl ?_
  refine tt_ld (M := MX11_opens) (pc := 20) dX11_opens_20 rfl rfl rfl rfl rfl ?_
  refine tt_vcVN (M := MX11_opens) (pc := 21) dX11_opens_21 rfl rfl [] rfl rfl ⟨rfl, by decide, Nat.le_of_ble_eq_true rfl⟩ h0.1 fun S101 => ?_
  exact tt_ret (M := MX11_opens) (pc := 24) dX11_opens_24 rfl
theorem qX11_pageHere_0 {sc : Nat × (Nat → Int32)} {SH : List mCell} {S : mStore} {r : mR × mW} (h0 : sMod SH) {l1 : Int} {u2 : Option Value} : ((if I (S 90 36) = I 2 then (∃ v107 S108, G sc MX11_wants 0 [some (.ref 90), some (.int (I 1)), some (.int (I 1))] [] SH S (rI v107 SH S108) ∧ (if I v107 = I 0 then G sc MX11_pageHere 63 [some (.ref 90), some (.int (I l1)), u2] [] SH S108 r else (if I 4 ≤ I (S108 90 37) then (∃ v109 S110, G sc MX11_wants 0 [some (.ref 90), some (.int (I 0)), some (.int (I 2))] [] SH S108 (rI v109 SH S110) ∧ (if I v109 = I 0 then G sc MX11_pageHere 63 [some (.ref 90), some (.int (I l1)), u2] [] SH S110 r else (if I l1 ≤ I (S110 90 37) then G sc MX11_pageHere 56 [some (.ref 90), some (.int (I l1)), u2] [.int (I 0), .ref 90] SH S110 r else G sc MX11_pageHere 56 [some (.ref 90), some (.int (I l1)), u2] [.int (I 1), .ref 90] SH S110 r))) else (∃ v111 S112, G sc MX11_wants 0 [some (.ref 90), some (.int (I 1)), some (.int (I 2))] [] SH S108 (rI v111 SH S112) ∧ (if I v111 = I 0 then G sc MX11_pageHere 63 [some (.ref 90), some (.int (I l1)), u2] [] SH S112 r else (if I l1 ≤ I (S112 90 37) then G sc MX11_pageHere 56 [some (.ref 90), some (.int (I l1)), u2] [.int (I 0), .ref 90] SH S112 r else G sc MX11_pageHere 56 [some (.ref 90), some (.int (I l1)), u2] [.int (I 1), .ref 90] SH S112 r)))))) else (∃ v101 S102, G sc MX11_wants 0 [some (.ref 90), some (.int (I 0)), some (.int (I 1))] [] SH S (rI v101 SH S102) ∧ (if I v101 = I 0 then G sc MX11_pageHere 63 [some (.ref 90), some (.int (I l1)), u2] [] SH S102 r else (if I 4 ≤ I (S102 90 37) then (∃ v103 S104, G sc MX11_wants 0 [some (.ref 90), some (.int (I 0)), some (.int (I 2))] [] SH S102 (rI v103 SH S104) ∧ (if I v103 = I 0 then G sc MX11_pageHere 63 [some (.ref 90), some (.int (I l1)), u2] [] SH S104 r else (if I l1 ≤ I (S104 90 37) then G sc MX11_pageHere 56 [some (.ref 90), some (.int (I l1)), u2] [.int (I 0), .ref 90] SH S104 r else G sc MX11_pageHere 56 [some (.ref 90), some (.int (I l1)), u2] [.int (I 1), .ref 90] SH S104 r))) else (∃ v105 S106, G sc MX11_wants 0 [some (.ref 90), some (.int (I 1)), some (.int (I 2))] [] SH S102 (rI v105 SH S106) ∧ (if I v105 = I 0 then G sc MX11_pageHere 63 [some (.ref 90), some (.int (I l1)), u2] [] SH S106 r else (if I l1 ≤ I (S106 90 37) then G sc MX11_pageHere 56 [some (.ref 90), some (.int (I l1)), u2] [.int (I 0), .ref 90] SH S106 r else G sc MX11_pageHere 56 [some (.ref 90), some (.int (I l1)), u2] [.int (I 1), .ref 90] SH S106 r)))))))) → G sc MX11_pageHere 0 [some (.ref 90), some (.int (I l1)), u2] [] SH S r := by
  refine tt_ld (M := MX11_pageHere) (pc := 0) dX11_pageHere_0 rfl rfl rfl rfl rfl ?_
  refine tt_ld (M := MX11_pageHere) (pc := 1) dX11_pageHere_1 rfl rfl rfl rfl rfl ?_
  refine tt_getI (M := MX11_pageHere) (pc := 2) dX11_pageHere_2 rfl h0.1 rfl ?_
  refine tt_iconst (M := MX11_pageHere) (pc := 5) dX11_pageHere_5 ?_
  refine tt_ic_ne (M := MX11_pageHere) (pc := 6) 13 dX11_pageHere_6 rfl ?_ ?_
  · refine tt_iconst (M := MX11_pageHere) (pc := 13) dX11_pageHere_13 ?_
    refine tt_iconst (M := MX11_pageHere) (pc := 14) dX11_pageHere_14 ?_
    refine tt_vcIN (M := MX11_pageHere) (pc := 15) dX11_pageHere_15 rfl rfl [] rfl rfl ⟨rfl, by decide, Nat.le_of_ble_eq_true rfl⟩ h0.1 fun v101 S102 => ?_
    refine tt_if_eq (M := MX11_pageHere) (pc := 18) 63 dX11_pageHere_18 rfl ?_ ?_
    · exact id
    · refine tt_ld (M := MX11_pageHere) (pc := 21) dX11_pageHere_21 rfl rfl rfl rfl rfl ?_
      refine tt_ld (M := MX11_pageHere) (pc := 22) dX11_pageHere_22 rfl rfl rfl rfl rfl ?_
      refine tt_getI (M := MX11_pageHere) (pc := 23) dX11_pageHere_23 rfl h0.1 rfl ?_
      refine tt_iconst (M := MX11_pageHere) (pc := 26) dX11_pageHere_26 ?_
      refine tt_ic_ge (M := MX11_pageHere) (pc := 27) 34 dX11_pageHere_27 rfl ?_ ?_
      · refine tt_iconst (M := MX11_pageHere) (pc := 34) dX11_pageHere_34 ?_
        refine tt_iconst (M := MX11_pageHere) (pc := 35) dX11_pageHere_35 ?_
        refine tt_vcIN (M := MX11_pageHere) (pc := 36) dX11_pageHere_36 rfl rfl [] rfl rfl ⟨rfl, by decide, Nat.le_of_ble_eq_true rfl⟩ h0.1 fun v103 S104 => ?_
        refine tt_if_eq (M := MX11_pageHere) (pc := 39) 63 dX11_pageHere_39 rfl ?_ ?_
        · exact id
        · refine tt_ld (M := MX11_pageHere) (pc := 42) dX11_pageHere_42 rfl rfl rfl rfl rfl ?_
          refine tt_ld (M := MX11_pageHere) (pc := 43) dX11_pageHere_43 rfl rfl rfl rfl rfl ?_
          refine tt_getI (M := MX11_pageHere) (pc := 44) dX11_pageHere_44 rfl h0.1 rfl ?_
          refine tt_ld (M := MX11_pageHere) (pc := 47) dX11_pageHere_47 rfl rfl rfl rfl rfl ?_
          refine tt_ic_ge (M := MX11_pageHere) (pc := 48) 55 dX11_pageHere_48 rfl ?_ ?_
          · refine tt_iconst (M := MX11_pageHere) (pc := 55) dX11_pageHere_55 ?_
            exact id
          · refine tt_iconst (M := MX11_pageHere) (pc := 51) dX11_pageHere_51 ?_
            refine tt_goto (M := MX11_pageHere) (pc := 52) 56 dX11_pageHere_52 rfl ?_
            exact id
      · refine tt_iconst (M := MX11_pageHere) (pc := 30) dX11_pageHere_30 ?_
        refine tt_goto (M := MX11_pageHere) (pc := 31) 35 dX11_pageHere_31 rfl ?_
        refine tt_iconst (M := MX11_pageHere) (pc := 35) dX11_pageHere_35 ?_
        refine tt_vcIN (M := MX11_pageHere) (pc := 36) dX11_pageHere_36 rfl rfl [] rfl rfl ⟨rfl, by decide, Nat.le_of_ble_eq_true rfl⟩ h0.1 fun v105 S106 => ?_
        refine tt_if_eq (M := MX11_pageHere) (pc := 39) 63 dX11_pageHere_39 rfl ?_ ?_
        · exact id
        · refine tt_ld (M := MX11_pageHere) (pc := 42) dX11_pageHere_42 rfl rfl rfl rfl rfl ?_
          refine tt_ld (M := MX11_pageHere) (pc := 43) dX11_pageHere_43 rfl rfl rfl rfl rfl ?_
          refine tt_getI (M := MX11_pageHere) (pc := 44) dX11_pageHere_44 rfl h0.1 rfl ?_
          refine tt_ld (M := MX11_pageHere) (pc := 47) dX11_pageHere_47 rfl rfl rfl rfl rfl ?_
          refine tt_ic_ge (M := MX11_pageHere) (pc := 48) 55 dX11_pageHere_48 rfl ?_ ?_
          · refine tt_iconst (M := MX11_pageHere) (pc := 55) dX11_pageHere_55 ?_
            exact id
          · refine tt_iconst (M := MX11_pageHere) (pc := 51) dX11_pageHere_51 ?_
            refine tt_goto (M := MX11_pageHere) (pc := 52) 56 dX11_pageHere_52 rfl ?_
            exact id
  · refine tt_iconst (M := MX11_pageHere) (pc := 9) dX11_pageHere_9 ?_
    refine tt_goto (M := MX11_pageHere) (pc := 10) 14 dX11_pageHere_10 rfl ?_
    refine tt_iconst (M := MX11_pageHere) (pc := 14) dX11_pageHere_14 ?_
    refine tt_vcIN (M := MX11_pageHere) (pc := 15) dX11_pageHere_15 rfl rfl [] rfl rfl ⟨rfl, by decide, Nat.le_of_ble_eq_true rfl⟩ h0.1 fun v107 S108 => ?_
    refine tt_if_eq (M := MX11_pageHere) (pc := 18) 63 dX11_pageHere_18 rfl ?_ ?_
    · exact id
    · refine tt_ld (M := MX11_pageHere) (pc := 21) dX11_pageHere_21 rfl rfl rfl rfl rfl ?_
      refine tt_ld (M := MX11_pageHere) (pc := 22) dX11_pageHere_22 rfl rfl rfl rfl rfl ?_
      refine tt_getI (M := MX11_pageHere) (pc := 23) dX11_pageHere_23 rfl h0.1 rfl ?_
      refine tt_iconst (M := MX11_pageHere) (pc := 26) dX11_pageHere_26 ?_
      refine tt_ic_ge (M := MX11_pageHere) (pc := 27) 34 dX11_pageHere_27 rfl ?_ ?_
      · refine tt_iconst (M := MX11_pageHere) (pc := 34) dX11_pageHere_34 ?_
        refine tt_iconst (M := MX11_pageHere) (pc := 35) dX11_pageHere_35 ?_
        refine tt_vcIN (M := MX11_pageHere) (pc := 36) dX11_pageHere_36 rfl rfl [] rfl rfl ⟨rfl, by decide, Nat.le_of_ble_eq_true rfl⟩ h0.1 fun v109 S110 => ?_
        refine tt_if_eq (M := MX11_pageHere) (pc := 39) 63 dX11_pageHere_39 rfl ?_ ?_
        · exact id
        · refine tt_ld (M := MX11_pageHere) (pc := 42) dX11_pageHere_42 rfl rfl rfl rfl rfl ?_
          refine tt_ld (M := MX11_pageHere) (pc := 43) dX11_pageHere_43 rfl rfl rfl rfl rfl ?_
          refine tt_getI (M := MX11_pageHere) (pc := 44) dX11_pageHere_44 rfl h0.1 rfl ?_
          refine tt_ld (M := MX11_pageHere) (pc := 47) dX11_pageHere_47 rfl rfl rfl rfl rfl ?_
          refine tt_ic_ge (M := MX11_pageHere) (pc := 48) 55 dX11_pageHere_48 rfl ?_ ?_
          · refine tt_iconst (M := MX11_pageHere) (pc := 55) dX11_pageHere_55 ?_
            exact id
          · refine tt_iconst (M := MX11_pageHere) (pc := 51) dX11_pageHere_51 ?_
            refine tt_goto (M := MX11_pageHere) (pc := 52) 56 dX11_pageHere_52 rfl ?_
            exact id
      · refine tt_iconst (M := MX11_pageHere) (pc := 30) dX11_pageHere_30 ?_
        refine tt_goto (M := MX11_pageHere) (pc := 31) 35 dX11_pageHere_31 rfl ?_
        refine tt_iconst (M := MX11_pageHere) (pc := 35) dX11_pageHere_35 ?_
        refine tt_vcIN (M := MX11_pageHere) (pc := 36) dX11_pageHere_36 rfl rfl [] rfl rfl ⟨rfl, by decide, Nat.le_of_ble_eq_true rfl⟩ h0.1 fun v111 S112 => ?_
        refine tt_if_eq (M := MX11_pageHere) (pc := 39) 63 dX11_pageHere_39 rfl ?_ ?_
        · exact id
        · refine tt_ld (M := MX11_pageHere) (pc := 42) dX11_pageHere_42 rfl rfl rfl rfl rfl ?_
          refine tt_ld (M := MX11_pageHere) (pc := 43) dX11_pageHere_43 rfl rfl rfl rfl rfl ?_
          refine tt_getI (M := MX11_pageHere) (pc := 44) dX11_pageHere_44 rfl h0.1 rfl ?_
          refine tt_ld (M := MX11_pageHere) (pc := 47) dX11_pageHere_47 rfl rfl rfl rfl rfl ?_
          refine tt_ic_ge (M := MX11_pageHere) (pc := 48) 55 dX11_pageHere_48 rfl ?_ ?_
          · refine tt_iconst (M := MX11_pageHere) (pc := 55) dX11_pageHere_55 ?_
            exact id
          · refine tt_iconst (M := MX11_pageHere) (pc := 51) dX11_pageHere_51 ?_
            refine tt_goto (M := MX11_pageHere) (pc := 52) 56 dX11_pageHere_52 rfl ?_
            exact id
theorem qX11_pageHere_56 {sc : Nat × (Nat → Int32)} {SH : List mCell} {S : mStore} {r : mR × mW} (h0 : sMod SH) {l1 : Int} {u2 : Option Value} {s0 : Int} : ((∃ v101 S102, G sc MX11_wants 0 [some (.ref 90), some (.int (I s0)), some (.int (I 3))] [] SH S (rI v101 SH S102) ∧ (if I v101 = I 0 then G sc MX11_pageHere 63 [some (.ref 90), some (.int (I l1)), u2] [] SH S102 r else (∃ S103, G sc MX11_go 0 [some (.ref 90), none] [] SH S102 (rV SH S103) ∧ (∃ v104 S105, G sc MX11_pageOf 0 [some (.ref 90), some (.int (I (S102 90 37)))] [] SH S103 (rI v104 SH S105) ∧ r = rI v104 SH S105))))) → G sc MX11_pageHere 56 [some (.ref 90), some (.int (I l1)), u2] [.int (I s0), .ref 90] SH S r := by
  refine tt_iconst (M := MX11_pageHere) (pc := 56) dX11_pageHere_56 ?_
  refine tt_vcIN (M := MX11_pageHere) (pc := 57) dX11_pageHere_57 rfl rfl [] rfl rfl ⟨rfl, by decide, Nat.le_of_ble_eq_true rfl⟩ h0.1 fun v101 S102 => ?_
  refine tt_if_ne (M := MX11_pageHere) (pc := 60) 65 dX11_pageHere_60 rfl ?_ ?_
  · refine tt_ld (M := MX11_pageHere) (pc := 65) dX11_pageHere_65 rfl rfl rfl rfl rfl ?_
    refine tt_getI (M := MX11_pageHere) (pc := 66) dX11_pageHere_66 rfl h0.1 rfl ?_
    refine tt_st (M := MX11_pageHere) (pc := 69) [some (.ref 90), some (.int (I l1)), some (.int (I (S102 90 37)))] dX11_pageHere_69 rfl rfl rfl rfl rfl rfl ?_
    refine tt_ld (M := MX11_pageHere) (pc := 70) dX11_pageHere_70 rfl rfl rfl rfl rfl ?_
    refine tt_vcVN (M := MX11_pageHere) (pc := 71) dX11_pageHere_71 rfl rfl [] rfl rfl ⟨rfl, by decide, Nat.le_of_ble_eq_true rfl⟩ h0.1 fun S103 => ?_
    refine tt_ld (M := MX11_pageHere) (pc := 74) dX11_pageHere_74 rfl rfl rfl rfl rfl ?_
    refine tt_ld (M := MX11_pageHere) (pc := 75) dX11_pageHere_75 rfl rfl rfl rfl rfl ?_
    refine tt_vcIN (M := MX11_pageHere) (pc := 76) dX11_pageHere_76 rfl rfl [] rfl rfl ⟨rfl, by decide, Nat.le_of_ble_eq_true rfl⟩ h0.1 fun v104 S105 => ?_
    exact tt_iret (M := MX11_pageHere) (pc := 79) dX11_pageHere_79 rfl
  · exact id
theorem qX11_pageHere_63 {sc : Nat × (Nat → Int32)} {SH : List mCell} {S : mStore} {r : mR × mW} (h0 : sMod SH) {l1 : Int} {u2 : Option Value} : (r = rI (-1) SH S) → G sc MX11_pageHere 63 [some (.ref 90), some (.int (I l1)), u2] [] SH S r := by
  refine tt_iconst (M := MX11_pageHere) (pc := 63) dX11_pageHere_63 ?_
  exact tt_iret (M := MX11_pageHere) (pc := 64) dX11_pageHere_64 rfl
