-- needs: 43.tshape
/-! ===== the program as conditions (gen_vc.py) ===== -/
theorem qX11_nextAdvised_0 {sc : Nat × (Nat → Int32)} {SH : List mCell} {S : mStore} {r : mR × mW} (h0 : sMod SH) {l1 : Int} {l2 : Int} {u3 : Option Value} : (G sc MX11_nextAdvised 2 [some (.ref 90), some (.int (I l1)), some (.int (I l2)), some (.int (I l2))] [] SH S r) → G sc MX11_nextAdvised 0 [some (.ref 90), some (.int (I l1)), some (.int (I l2)), u3] [] SH S r := by
  refine tt_ld (M := MX11_nextAdvised) (pc := 0) dX11_nextAdvised_0 rfl rfl rfl rfl rfl ?_
  refine tt_st (M := MX11_nextAdvised) (pc := 1) [some (.ref 90), some (.int (I l1)), some (.int (I l2)), some (.int (I l2))] dX11_nextAdvised_1 rfl rfl rfl rfl rfl rfl ?_
  exact id
theorem qX11_nextAdvised_2 {sc : Nat × (Nat → Int32)} {SH : List mCell} {S : mStore} {r : mR × mW} (h0 : sMod SH) {l1 : Int} {l2 : Int} {l3 : Int} : ((if I (S 90 19) ≤ I l3 then G sc MX11_nextAdvised 30 [some (.ref 90), some (.int (I l1)), some (.int (I l2)), some (.int (I l3))] [] SH S r else (((0 : Int) ≤ (l1 + 64) + l3 ∧ (l1 + 64) + l3 < 137400) ∧ (if I (S 91 ((l1 + 64) + l3)) = I 0 then G sc MX11_nextAdvised 2 [some (.ref 90), some (.int (I l1)), some (.int (I l2)), some (.int (I (l3 + 1)))] [] SH S r else G sc MX11_nextAdvised 30 [some (.ref 90), some (.int (I l1)), some (.int (I l2)), some (.int (I l3))] [] SH S r)))) → G sc MX11_nextAdvised 2 [some (.ref 90), some (.int (I l1)), some (.int (I l2)), some (.int (I l3))] [] SH S r := by
  refine tt_ld (M := MX11_nextAdvised) (pc := 2) dX11_nextAdvised_2 rfl rfl rfl rfl rfl ?_
  refine tt_ld (M := MX11_nextAdvised) (pc := 3) dX11_nextAdvised_3 rfl rfl rfl rfl rfl ?_
  refine tt_getI (M := MX11_nextAdvised) (pc := 4) dX11_nextAdvised_4 rfl h0.1 rfl ?_
  refine tt_ic_ge (M := MX11_nextAdvised) (pc := 7) 30 dX11_nextAdvised_7 rfl ?_ ?_
  · exact id
  · refine tt_ld (M := MX11_nextAdvised) (pc := 10) dX11_nextAdvised_10 rfl rfl rfl rfl rfl ?_
    refine tt_getR (M := MX11_nextAdvised) (pc := 11) dX11_nextAdvised_11 rfl h0.1 rfl ?_
    refine tt_ld (M := MX11_nextAdvised) (pc := 14) dX11_nextAdvised_14 rfl rfl rfl rfl rfl ?_
    refine tt_bipush (M := MX11_nextAdvised) (pc := 15) dX11_nextAdvised_15 (by decide) ?_
    refine tt_iadd (M := MX11_nextAdvised) (pc := 17) dX11_nextAdvised_17 ?_
    refine tt_ld (M := MX11_nextAdvised) (pc := 18) dX11_nextAdvised_18 rfl rfl rfl rfl rfl ?_
    refine tt_iadd (M := MX11_nextAdvised) (pc := 19) dX11_nextAdvised_19 ?_
    refine tt_iaload (M := MX11_nextAdvised) (pc := 20) dX11_nextAdvised_20 h0.2.1 rfl ?_
    refine tt_if_ne (M := MX11_nextAdvised) (pc := 21) 30 dX11_nextAdvised_21 rfl ?_ ?_
    · exact id
    · refine tt_iinc (M := MX11_nextAdvised) (pc := 24) [some (.ref 90), some (.int (I l1)), some (.int (I l2)), some (.int (I (l3 + 1)))] dX11_nextAdvised_24 rfl rfl ?_
      refine tt_goto (M := MX11_nextAdvised) (pc := 27) 2 dX11_nextAdvised_27 rfl ?_
      exact id
theorem qX11_nextAdvised_30 {sc : Nat × (Nat → Int32)} {SH : List mCell} {S : mStore} {r : mR × mW} (h0 : sMod SH) {l1 : Int} {l2 : Int} {l3 : Int} : ((if I (S 90 19) ≤ I l3 then r = rI (-1) SH S else r = rI l3 SH S)) → G sc MX11_nextAdvised 30 [some (.ref 90), some (.int (I l1)), some (.int (I l2)), some (.int (I l3))] [] SH S r := by
  refine tt_ld (M := MX11_nextAdvised) (pc := 30) dX11_nextAdvised_30 rfl rfl rfl rfl rfl ?_
  refine tt_ld (M := MX11_nextAdvised) (pc := 31) dX11_nextAdvised_31 rfl rfl rfl rfl rfl ?_
  refine tt_getI (M := MX11_nextAdvised) (pc := 32) dX11_nextAdvised_32 rfl h0.1 rfl ?_
  refine tt_ic_ge (M := MX11_nextAdvised) (pc := 35) 42 dX11_nextAdvised_35 rfl ?_ ?_
  · refine tt_iconst (M := MX11_nextAdvised) (pc := 42) dX11_nextAdvised_42 ?_
    exact tt_iret (M := MX11_nextAdvised) (pc := 43) dX11_nextAdvised_43 rfl
  · refine tt_ld (M := MX11_nextAdvised) (pc := 38) dX11_nextAdvised_38 rfl rfl rfl rfl rfl ?_
    refine tt_goto (M := MX11_nextAdvised) (pc := 39) 43 dX11_nextAdvised_39 rfl ?_
    exact tt_iret (M := MX11_nextAdvised) (pc := 43) dX11_nextAdvised_43 rfl
theorem qX11_endsRound_0 {sc : Nat × (Nat → Int32)} {SH : List mCell} {S : mStore} {r : mR × mW} (h0 : sMod SH) {l1 : Int} {u2 : Option Value} : (G sc MX11_endsRound 2 [some (.ref 90), some (.int (I l1)), some (.int (I 0))] [] SH S r) → G sc MX11_endsRound 0 [some (.ref 90), some (.int (I l1)), u2] [] SH S r := by
  refine tt_iconst (M := MX11_endsRound) (pc := 0) dX11_endsRound_0 ?_
  refine tt_st (M := MX11_endsRound) (pc := 1) [some (.ref 90), some (.int (I l1)), some (.int (I 0))] dX11_endsRound_1 rfl rfl rfl rfl rfl rfl ?_
  exact id
theorem qX11_endsRound_2 {sc : Nat × (Nat → Int32)} {SH : List mCell} {S : mStore} {r : mR × mW} (h0 : sMod SH) {l1 : Int} {l2 : Int} : ((if I 3 ≤ I l2 then G sc MX11_endsRound 31 [some (.ref 90), some (.int (I l1)), some (.int (I 0))] [] SH S r else (((0 : Int) ≤ (l1 + 1363) + (97 * l2) ∧ (l1 + 1363) + (97 * l2) < 137400) ∧ G sc MX11_endsRound 2 [some (.ref 90), some (.int (I l1)), some (.int (I (l2 + 1)))] [] SH (up S 91 ((l1 + 1363) + (97 * l2)) 0) r))) → G sc MX11_endsRound 2 [some (.ref 90), some (.int (I l1)), some (.int (I l2))] [] SH S r := by
  refine tt_ld (M := MX11_endsRound) (pc := 2) dX11_endsRound_2 rfl rfl rfl rfl rfl ?_
  refine tt_iconst (M := MX11_endsRound) (pc := 3) dX11_endsRound_3 ?_
  refine tt_ic_ge (M := MX11_endsRound) (pc := 4) 29 dX11_endsRound_4 rfl ?_ ?_
  · refine tt_iconst (M := MX11_endsRound) (pc := 29) dX11_endsRound_29 ?_
    refine tt_st (M := MX11_endsRound) (pc := 30) [some (.ref 90), some (.int (I l1)), some (.int (I 0))] dX11_endsRound_30 rfl rfl rfl rfl rfl rfl ?_
    exact id
  · refine tt_ld (M := MX11_endsRound) (pc := 7) dX11_endsRound_7 rfl rfl rfl rfl rfl ?_
    refine tt_getR (M := MX11_endsRound) (pc := 8) dX11_endsRound_8 rfl h0.1 rfl ?_
    refine tt_ld (M := MX11_endsRound) (pc := 11) dX11_endsRound_11 rfl rfl rfl rfl rfl ?_
    refine tt_sipush (M := MX11_endsRound) (pc := 12) dX11_endsRound_12 (by decide) ?_
    refine tt_iadd (M := MX11_endsRound) (pc := 15) dX11_endsRound_15 ?_
    refine tt_bipush (M := MX11_endsRound) (pc := 16) dX11_endsRound_16 (by decide) ?_
    refine tt_ld (M := MX11_endsRound) (pc := 18) dX11_endsRound_18 rfl rfl rfl rfl rfl ?_
    refine tt_imul (M := MX11_endsRound) (pc := 19) dX11_endsRound_19 ?_
    refine tt_iadd (M := MX11_endsRound) (pc := 20) dX11_endsRound_20 ?_
    refine tt_iconst (M := MX11_endsRound) (pc := 21) dX11_endsRound_21 ?_
    refine tt_iastore (M := MX11_endsRound) (pc := 22) dX11_endsRound_22 h0.2.1 rfl ?_
    refine tt_iinc (M := MX11_endsRound) (pc := 23) [some (.ref 90), some (.int (I l1)), some (.int (I (l2 + 1)))] dX11_endsRound_23 rfl rfl ?_
    refine tt_goto (M := MX11_endsRound) (pc := 26) 2 dX11_endsRound_26 rfl ?_
    exact id
theorem qX11_endsRound_31 {sc : Nat × (Nat → Int32)} {SH : List mCell} {S : mStore} {r : mR × mW} (h0 : sMod SH) {l1 : Int} {l2 : Int} : ((if I 48 ≤ I l2 then (((0 : Int) ≤ l1 + 10 ∧ l1 + 10 < 137400) ∧ (((0 : Int) ≤ l1 + 11 ∧ l1 + 11 < 137400) ∧ (if I (4 * (S 91 (l1 + 10))) < I (S 91 (l1 + 11)) then (((0 : Int) ≤ l1 + 10 ∧ l1 + 10 < 137400) ∧ (if I (S 91 (l1 + 10)) = I 0 then (((0 : Int) ≤ l1 + 0 ∧ l1 + 0 < 137400) ∧ (∃ v101 S102, G sc MX11_greater 0 [some (.int (I (S 90 14))), some (.int (I (idv (S 91 (l1 + 0)) 2)))] [] SH S (rI v101 SH S102) ∧ (((0 : Int) ≤ l1 + 0 ∧ l1 + 0 < 137400) ∧ G sc MX11_endsRound 144 [some (.ref 90), some (.int (I l1)), some (.int (I l2))] [] SH (up S102 91 (l1 + 0) v101) r))) else G sc MX11_endsRound 144 [some (.ref 90), some (.int (I l1)), some (.int (I l2))] [] SH S r)) else (((0 : Int) ≤ l1 + 0 ∧ l1 + 0 < 137400) ∧ (∃ v103 S104, G sc MX11_lesser 0 [some (.int (I (S 90 15))), some (.int (I (2 * (S 91 (l1 + 0)))))] [] SH S (rI v103 SH S104) ∧ (((0 : Int) ≤ l1 + 0 ∧ l1 + 0 < 137400) ∧ G sc MX11_endsRound 144 [some (.ref 90), some (.int (I l1)), some (.int (I l2))] [] SH (up S104 91 (l1 + 0) v103) r)))))) else (((0 : Int) ≤ (l1 + 304) + l2 ∧ (l1 + 304) + l2 < 137400) ∧ G sc MX11_endsRound 31 [some (.ref 90), some (.int (I l1)), some (.int (I (l2 + 1)))] [] SH (up S 91 ((l1 + 304) + l2) 0) r))) → G sc MX11_endsRound 31 [some (.ref 90), some (.int (I l1)), some (.int (I l2))] [] SH S r := by
  refine tt_ld (M := MX11_endsRound) (pc := 31) dX11_endsRound_31 rfl rfl rfl rfl rfl ?_
  refine tt_bipush (M := MX11_endsRound) (pc := 32) dX11_endsRound_32 (by decide) ?_
  refine tt_ic_ge (M := MX11_endsRound) (pc := 34) 56 dX11_endsRound_34 rfl ?_ ?_
  · refine tt_iconst (M := MX11_endsRound) (pc := 56) dX11_endsRound_56 ?_
    refine tt_ld (M := MX11_endsRound) (pc := 57) dX11_endsRound_57 rfl rfl rfl rfl rfl ?_
    refine tt_getR (M := MX11_endsRound) (pc := 58) dX11_endsRound_58 rfl h0.1 rfl ?_
    refine tt_ld (M := MX11_endsRound) (pc := 61) dX11_endsRound_61 rfl rfl rfl rfl rfl ?_
    refine tt_bipush (M := MX11_endsRound) (pc := 62) dX11_endsRound_62 (by decide) ?_
    refine tt_iadd (M := MX11_endsRound) (pc := 64) dX11_endsRound_64 ?_
    refine tt_iaload (M := MX11_endsRound) (pc := 65) dX11_endsRound_65 h0.2.1 rfl ?_
    refine tt_imul (M := MX11_endsRound) (pc := 66) dX11_endsRound_66 ?_
    refine tt_ld (M := MX11_endsRound) (pc := 67) dX11_endsRound_67 rfl rfl rfl rfl rfl ?_
    refine tt_getR (M := MX11_endsRound) (pc := 68) dX11_endsRound_68 rfl h0.1 rfl ?_
    refine tt_ld (M := MX11_endsRound) (pc := 71) dX11_endsRound_71 rfl rfl rfl rfl rfl ?_
    refine tt_bipush (M := MX11_endsRound) (pc := 72) dX11_endsRound_72 (by decide) ?_
    refine tt_iadd (M := MX11_endsRound) (pc := 74) dX11_endsRound_74 ?_
    refine tt_iaload (M := MX11_endsRound) (pc := 75) dX11_endsRound_75 h0.2.1 rfl ?_
    refine tt_ic_lt (M := MX11_endsRound) (pc := 76) 107 dX11_endsRound_76 rfl ?_ ?_
    · refine tt_ld (M := MX11_endsRound) (pc := 107) dX11_endsRound_107 rfl rfl rfl rfl rfl ?_
      refine tt_getR (M := MX11_endsRound) (pc := 108) dX11_endsRound_108 rfl h0.1 rfl ?_
      refine tt_ld (M := MX11_endsRound) (pc := 111) dX11_endsRound_111 rfl rfl rfl rfl rfl ?_
      refine tt_bipush (M := MX11_endsRound) (pc := 112) dX11_endsRound_112 (by decide) ?_
      refine tt_iadd (M := MX11_endsRound) (pc := 114) dX11_endsRound_114 ?_
      refine tt_iaload (M := MX11_endsRound) (pc := 115) dX11_endsRound_115 h0.2.1 rfl ?_
      refine tt_if_ne (M := MX11_endsRound) (pc := 116) 144 dX11_endsRound_116 rfl ?_ ?_
      · exact id
      · refine tt_ld (M := MX11_endsRound) (pc := 119) dX11_endsRound_119 rfl rfl rfl rfl rfl ?_
        refine tt_getR (M := MX11_endsRound) (pc := 120) dX11_endsRound_120 rfl h0.1 rfl ?_
        refine tt_ld (M := MX11_endsRound) (pc := 123) dX11_endsRound_123 rfl rfl rfl rfl rfl ?_
        refine tt_iconst (M := MX11_endsRound) (pc := 124) dX11_endsRound_124 ?_
        refine tt_iadd (M := MX11_endsRound) (pc := 125) dX11_endsRound_125 ?_
        refine tt_ld (M := MX11_endsRound) (pc := 126) dX11_endsRound_126 rfl rfl rfl rfl rfl ?_
        refine tt_getI (M := MX11_endsRound) (pc := 127) dX11_endsRound_127 rfl h0.1 rfl ?_
        refine tt_ld (M := MX11_endsRound) (pc := 130) dX11_endsRound_130 rfl rfl rfl rfl rfl ?_
        refine tt_getR (M := MX11_endsRound) (pc := 131) dX11_endsRound_131 rfl h0.1 rfl ?_
        refine tt_ld (M := MX11_endsRound) (pc := 134) dX11_endsRound_134 rfl rfl rfl rfl rfl ?_
        refine tt_iconst (M := MX11_endsRound) (pc := 135) dX11_endsRound_135 ?_
        refine tt_iadd (M := MX11_endsRound) (pc := 136) dX11_endsRound_136 ?_
        refine tt_iaload (M := MX11_endsRound) (pc := 137) dX11_endsRound_137 h0.2.1 rfl ?_
        refine tt_iconst (M := MX11_endsRound) (pc := 138) dX11_endsRound_138 ?_
        refine tt_idiv (M := MX11_endsRound) (pc := 139) dX11_endsRound_139 (by decide) ?_
        refine tt_scIN (M := MX11_endsRound) (pc := 140) dX11_endsRound_140 rfl [.int (I (l1 + 0)), .ref 91] rfl rfl ⟨rfl, by decide, Nat.le_of_ble_eq_true rfl⟩ fun v101 S102 => ?_
        refine tt_iastore (M := MX11_endsRound) (pc := 143) dX11_endsRound_143 h0.2.1 rfl ?_
        exact id
    · refine tt_ld (M := MX11_endsRound) (pc := 79) dX11_endsRound_79 rfl rfl rfl rfl rfl ?_
      refine tt_getR (M := MX11_endsRound) (pc := 80) dX11_endsRound_80 rfl h0.1 rfl ?_
      refine tt_ld (M := MX11_endsRound) (pc := 83) dX11_endsRound_83 rfl rfl rfl rfl rfl ?_
      refine tt_iconst (M := MX11_endsRound) (pc := 84) dX11_endsRound_84 ?_
      refine tt_iadd (M := MX11_endsRound) (pc := 85) dX11_endsRound_85 ?_
      refine tt_ld (M := MX11_endsRound) (pc := 86) dX11_endsRound_86 rfl rfl rfl rfl rfl ?_
      refine tt_getI (M := MX11_endsRound) (pc := 87) dX11_endsRound_87 rfl h0.1 rfl ?_
      refine tt_iconst (M := MX11_endsRound) (pc := 90) dX11_endsRound_90 ?_
      refine tt_ld (M := MX11_endsRound) (pc := 91) dX11_endsRound_91 rfl rfl rfl rfl rfl ?_
      refine tt_getR (M := MX11_endsRound) (pc := 92) dX11_endsRound_92 rfl h0.1 rfl ?_
      refine tt_ld (M := MX11_endsRound) (pc := 95) dX11_endsRound_95 rfl rfl rfl rfl rfl ?_
      refine tt_iconst (M := MX11_endsRound) (pc := 96) dX11_endsRound_96 ?_
      refine tt_iadd (M := MX11_endsRound) (pc := 97) dX11_endsRound_97 ?_
      refine tt_iaload (M := MX11_endsRound) (pc := 98) dX11_endsRound_98 h0.2.1 rfl ?_
      refine tt_imul (M := MX11_endsRound) (pc := 99) dX11_endsRound_99 ?_
      refine tt_scIN (M := MX11_endsRound) (pc := 100) dX11_endsRound_100 rfl [.int (I (l1 + 0)), .ref 91] rfl rfl ⟨rfl, by decide, Nat.le_of_ble_eq_true rfl⟩ fun v103 S104 => ?_
      refine tt_iastore (M := MX11_endsRound) (pc := 103) dX11_endsRound_103 h0.2.1 rfl ?_
      refine tt_goto (M := MX11_endsRound) (pc := 104) 144 dX11_endsRound_104 rfl ?_
      exact id
  · refine tt_ld (M := MX11_endsRound) (pc := 37) dX11_endsRound_37 rfl rfl rfl rfl rfl ?_
    refine tt_getR (M := MX11_endsRound) (pc := 38) dX11_endsRound_38 rfl h0.1 rfl ?_
    refine tt_ld (M := MX11_endsRound) (pc := 41) dX11_endsRound_41 rfl rfl rfl rfl rfl ?_
    refine tt_sipush (M := MX11_endsRound) (pc := 42) dX11_endsRound_42 (by decide) ?_
    refine tt_iadd (M := MX11_endsRound) (pc := 45) dX11_endsRound_45 ?_
    refine tt_ld (M := MX11_endsRound) (pc := 46) dX11_endsRound_46 rfl rfl rfl rfl rfl ?_
    refine tt_iadd (M := MX11_endsRound) (pc := 47) dX11_endsRound_47 ?_
    refine tt_iconst (M := MX11_endsRound) (pc := 48) dX11_endsRound_48 ?_
    refine tt_iastore (M := MX11_endsRound) (pc := 49) dX11_endsRound_49 h0.2.1 rfl ?_
    refine tt_iinc (M := MX11_endsRound) (pc := 50) [some (.ref 90), some (.int (I l1)), some (.int (I (l2 + 1)))] dX11_endsRound_50 rfl rfl ?_
    refine tt_goto (M := MX11_endsRound) (pc := 53) 31 dX11_endsRound_53 rfl ?_
    exact id
theorem qX11_endsRound_144 {sc : Nat × (Nat → Int32)} {SH : List mCell} {S : mStore} {r : mR × mW} (h0 : sMod SH) {l1 : Int} {l2 : Int} : ((((0 : Int) ≤ l1 + 1 ∧ l1 + 1 < 137400) ∧ (((0 : Int) ≤ l1 + 1 ∧ l1 + 1 < 137400) ∧ (((0 : Int) ≤ l1 + 10 ∧ l1 + 10 < 137400) ∧ (((0 : Int) ≤ l1 + 11 ∧ l1 + 11 < 137400) ∧ (((0 : Int) ≤ l1 + 9 ∧ l1 + 9 < 137400) ∧ r = rV SH (up (up (up (up S 91 (l1 + 1) ((S 91 (l1 + 1)) + 1)) 91 (l1 + 10) 0) 91 (l1 + 11) 0) 91 (l1 + 9) 0))))))) → G sc MX11_endsRound 144 [some (.ref 90), some (.int (I l1)), some (.int (I l2))] [] SH S r := by
  refine tt_ld (M := MX11_endsRound) (pc := 144) dX11_endsRound_144 rfl rfl rfl rfl rfl ?_
  refine tt_getR (M := MX11_endsRound) (pc := 145) dX11_endsRound_145 rfl h0.1 rfl ?_
  refine tt_ld (M := MX11_endsRound) (pc := 148) dX11_endsRound_148 rfl rfl rfl rfl rfl ?_
  refine tt_iconst (M := MX11_endsRound) (pc := 149) dX11_endsRound_149 ?_
  refine tt_iadd (M := MX11_endsRound) (pc := 150) dX11_endsRound_150 ?_
  refine tt_dup2 (M := MX11_endsRound) (pc := 151) dX11_endsRound_151 rfl rfl ?_
  refine tt_iaload (M := MX11_endsRound) (pc := 152) dX11_endsRound_152 h0.2.1 rfl ?_
  refine tt_iconst (M := MX11_endsRound) (pc := 153) dX11_endsRound_153 ?_
  refine tt_iadd (M := MX11_endsRound) (pc := 154) dX11_endsRound_154 ?_
  refine tt_iastore (M := MX11_endsRound) (pc := 155) dX11_endsRound_155 h0.2.1 rfl ?_
  refine tt_ld (M := MX11_endsRound) (pc := 156) dX11_endsRound_156 rfl rfl rfl rfl rfl ?_
  refine tt_getR (M := MX11_endsRound) (pc := 157) dX11_endsRound_157 rfl h0.1 rfl ?_
  refine tt_ld (M := MX11_endsRound) (pc := 160) dX11_endsRound_160 rfl rfl rfl rfl rfl ?_
  refine tt_bipush (M := MX11_endsRound) (pc := 161) dX11_endsRound_161 (by decide) ?_
  refine tt_iadd (M := MX11_endsRound) (pc := 163) dX11_endsRound_163 ?_
  refine tt_iconst (M := MX11_endsRound) (pc := 164) dX11_endsRound_164 ?_
  refine tt_iastore (M := MX11_endsRound) (pc := 165) dX11_endsRound_165 h0.2.1 rfl ?_
  refine tt_ld (M := MX11_endsRound) (pc := 166) dX11_endsRound_166 rfl rfl rfl rfl rfl ?_
  refine tt_getR (M := MX11_endsRound) (pc := 167) dX11_endsRound_167 rfl h0.1 rfl ?_
  refine tt_ld (M := MX11_endsRound) (pc := 170) dX11_endsRound_170 rfl rfl rfl rfl rfl ?_
  refine tt_bipush (M := MX11_endsRound) (pc := 171) dX11_endsRound_171 (by decide) ?_
  refine tt_iadd (M := MX11_endsRound) (pc := 173) dX11_endsRound_173 ?_
  refine tt_iconst (M := MX11_endsRound) (pc := 174) dX11_endsRound_174 ?_
  refine tt_iastore (M := MX11_endsRound) (pc := 175) dX11_endsRound_175 h0.2.1 rfl ?_
  refine tt_ld (M := MX11_endsRound) (pc := 176) dX11_endsRound_176 rfl rfl rfl rfl rfl ?_
  refine tt_getR (M := MX11_endsRound) (pc := 177) dX11_endsRound_177 rfl h0.1 rfl ?_
  refine tt_ld (M := MX11_endsRound) (pc := 180) dX11_endsRound_180 rfl rfl rfl rfl rfl ?_
  refine tt_bipush (M := MX11_endsRound) (pc := 181) dX11_endsRound_181 (by decide) ?_
  refine tt_iadd (M := MX11_endsRound) (pc := 183) dX11_endsRound_183 ?_
  refine tt_iconst (M := MX11_endsRound) (pc := 184) dX11_endsRound_184 ?_
  refine tt_iastore (M := MX11_endsRound) (pc := 185) dX11_endsRound_185 h0.2.1 rfl ?_
  exact tt_ret (M := MX11_endsRound) (pc := 186) dX11_endsRound_186 rfl
theorem qX11_sumOf_0 {sc : Nat × (Nat → Int32)} {SH : List mCell} {S : mStore} {r : mR × mW} (h0 : sMod SH) {l1 : Int} {l2 : Int} : ((∃ v101 S102, G sc MX11_cellOf 0 [some (.ref 90), some (.int (I l1)), some (.int (I l2)), some (.int (I 0)), none] [] SH S (rI v101 SH S102) ∧ (∃ v103 S104, G sc MX11_cellOf 0 [some (.ref 90), some (.int (I l1)), some (.int (I l2)), some (.int (I 1)), none] [] SH S102 (rI v103 SH S104) ∧ (∃ v105 S106, G sc MX11_cellOf 0 [some (.ref 90), some (.int (I l1)), some (.int (I l2)), some (.int (I 2)), none] [] SH S104 (rI v105 SH S106) ∧ (∃ v107 S108, G sc MX11_cellOf 0 [some (.ref 90), some (.int (I l1)), some (.int (I l2)), some (.int (I 3)), none] [] SH S106 (rI v107 SH S108) ∧ r = rI (((((343 * v101) + (49 * v103)) + (7 * v105)) + v107) - idv ((((343 * v101) + (49 * v103)) + (7 * v105)) + v107) 64 * 64) SH S108))))) → G sc MX11_sumOf 0 [some (.ref 90), some (.int (I l1)), some (.int (I l2))] [] SH S r := by
  refine tt_sipush (M := MX11_sumOf) (pc := 0) dX11_sumOf_0 (by decide) ?_
  refine tt_ld (M := MX11_sumOf) (pc := 3) dX11_sumOf_3 rfl rfl rfl rfl rfl ?_
  refine tt_ld (M := MX11_sumOf) (pc := 4) dX11_sumOf_4 rfl rfl rfl rfl rfl ?_
  refine tt_ld (M := MX11_sumOf) (pc := 5) dX11_sumOf_5 rfl rfl rfl rfl rfl ?_
  refine tt_iconst (M := MX11_sumOf) (pc := 6) dX11_sumOf_6 ?_
  refine tt_vcIN (M := MX11_sumOf) (pc := 7) dX11_sumOf_7 rfl rfl [.int (I 343)] rfl rfl ⟨rfl, by decide, Nat.le_of_ble_eq_true rfl⟩ h0.1 fun v101 S102 => ?_
  refine tt_imul (M := MX11_sumOf) (pc := 10) dX11_sumOf_10 ?_
  refine tt_bipush (M := MX11_sumOf) (pc := 11) dX11_sumOf_11 (by decide) ?_
  refine tt_ld (M := MX11_sumOf) (pc := 13) dX11_sumOf_13 rfl rfl rfl rfl rfl ?_
  refine tt_ld (M := MX11_sumOf) (pc := 14) dX11_sumOf_14 rfl rfl rfl rfl rfl ?_
  refine tt_ld (M := MX11_sumOf) (pc := 15) dX11_sumOf_15 rfl rfl rfl rfl rfl ?_
  refine tt_iconst (M := MX11_sumOf) (pc := 16) dX11_sumOf_16 ?_
  refine tt_vcIN (M := MX11_sumOf) (pc := 17) dX11_sumOf_17 rfl rfl [.int (I 49), .int (I (343 * v101))] rfl rfl ⟨rfl, by decide, Nat.le_of_ble_eq_true rfl⟩ h0.1 fun v103 S104 => ?_
  refine tt_imul (M := MX11_sumOf) (pc := 20) dX11_sumOf_20 ?_
  refine tt_iadd (M := MX11_sumOf) (pc := 21) dX11_sumOf_21 ?_
  refine tt_bipush (M := MX11_sumOf) (pc := 22) dX11_sumOf_22 (by decide) ?_
  refine tt_ld (M := MX11_sumOf) (pc := 24) dX11_sumOf_24 rfl rfl rfl rfl rfl ?_
  refine tt_ld (M := MX11_sumOf) (pc := 25) dX11_sumOf_25 rfl rfl rfl rfl rfl ?_
  refine tt_ld (M := MX11_sumOf) (pc := 26) dX11_sumOf_26 rfl rfl rfl rfl rfl ?_
  refine tt_iconst (M := MX11_sumOf) (pc := 27) dX11_sumOf_27 ?_
  refine tt_vcIN (M := MX11_sumOf) (pc := 28) dX11_sumOf_28 rfl rfl [.int (I 7), .int (I ((343 * v101) + (49 * v103)))] rfl rfl ⟨rfl, by decide, Nat.le_of_ble_eq_true rfl⟩ h0.1 fun v105 S106 => ?_
  refine tt_imul (M := MX11_sumOf) (pc := 31) dX11_sumOf_31 ?_
  refine tt_iadd (M := MX11_sumOf) (pc := 32) dX11_sumOf_32 ?_
  refine tt_ld (M := MX11_sumOf) (pc := 33) dX11_sumOf_33 rfl rfl rfl rfl rfl ?_
  refine tt_ld (M := MX11_sumOf) (pc := 34) dX11_sumOf_34 rfl rfl rfl rfl rfl ?_
  refine tt_ld (M := MX11_sumOf) (pc := 35) dX11_sumOf_35 rfl rfl rfl rfl rfl ?_
  refine tt_iconst (M := MX11_sumOf) (pc := 36) dX11_sumOf_36 ?_
  refine tt_vcIN (M := MX11_sumOf) (pc := 37) dX11_sumOf_37 rfl rfl [.int (I (((343 * v101) + (49 * v103)) + (7 * v105)))] rfl rfl ⟨rfl, by decide, Nat.le_of_ble_eq_true rfl⟩ h0.1 fun v107 S108 => ?_
  refine tt_iadd (M := MX11_sumOf) (pc := 40) dX11_sumOf_40 ?_
  refine tt_bipush (M := MX11_sumOf) (pc := 41) dX11_sumOf_41 (by decide) ?_
  refine tt_irem (M := MX11_sumOf) (pc := 43) dX11_sumOf_43 (by decide) ?_
  exact tt_iret (M := MX11_sumOf) (pc := 44) dX11_sumOf_44 rfl
theorem qX11_roomIn_0 {sc : Nat × (Nat → Int32)} {SH : List mCell} {S : mStore} {r : mR × mW} (h0 : sMod SH) {l1 : Int} {l2 : Int} {u3 : Option Value} {u4 : Option Value} {u5 : Option Value} {u6 : Option Value} : ((∃ v101 S102, G sc MX11_framesOf 0 [some (.ref 90), some (.int (I l1)), some (.int (I l2)), none, none] [] SH S (rI v101 SH S102) ∧ G sc MX11_roomIn 13 [some (.ref 90), some (.int (I l1)), some (.int (I l2)), some (.int (I (-1))), some (.int (I v101)), some (.int (I 0)), u6] [] SH S102 r)) → G sc MX11_roomIn 0 [some (.ref 90), some (.int (I l1)), some (.int (I l2)), u3, u4, u5, u6] [] SH S r := by
  refine tt_iconst (M := MX11_roomIn) (pc := 0) dX11_roomIn_0 ?_
  refine tt_st (M := MX11_roomIn) (pc := 1) [some (.ref 90), some (.int (I l1)), some (.int (I l2)), some (.int (I (-1))), u4, u5, u6] dX11_roomIn_1 rfl rfl rfl rfl rfl rfl ?_
  refine tt_ld (M := MX11_roomIn) (pc := 2) dX11_roomIn_2 rfl rfl rfl rfl rfl ?_
  refine tt_ld (M := MX11_roomIn) (pc := 3) dX11_roomIn_3 rfl rfl rfl rfl rfl ?_
  refine tt_ld (M := MX11_roomIn) (pc := 4) dX11_roomIn_4 rfl rfl rfl rfl rfl ?_
  refine tt_vcIN (M := MX11_roomIn) (pc := 5) dX11_roomIn_5 rfl rfl [] rfl rfl ⟨rfl, by decide, Nat.le_of_ble_eq_true rfl⟩ h0.1 fun v101 S102 => ?_
  refine tt_st (M := MX11_roomIn) (pc := 8) [some (.ref 90), some (.int (I l1)), some (.int (I l2)), some (.int (I (-1))), some (.int (I v101)), u5, u6] dX11_roomIn_8 rfl rfl rfl rfl rfl rfl ?_
  refine tt_iconst (M := MX11_roomIn) (pc := 10) dX11_roomIn_10 ?_
  refine tt_st (M := MX11_roomIn) (pc := 11) [some (.ref 90), some (.int (I l1)), some (.int (I l2)), some (.int (I (-1))), some (.int (I v101)), some (.int (I 0)), u6] dX11_roomIn_11 rfl rfl rfl rfl rfl rfl ?_
  exact id
theorem qX11_roomIn_13 {sc : Nat × (Nat → Int32)} {SH : List mCell} {S : mStore} {r : mR × mW} (h0 : sMod SH) {l1 : Int} {l2 : Int} {l3 : Int} {l4 : Int} {l5 : Int} {u6 : Option Value} : ((if I l4 ≤ I l5 then r = rI l3 SH S else (∃ v101 S102, G sc MX11_frameAt 0 [some (.ref 90), some (.int (I l1)), some (.int (I l2)), some (.int (I l5)), none, none, none] [] SH S (rI v101 SH S102) ∧ (((0 : Int) ≤ (l1 + 544) + v101 ∧ (l1 + 544) + v101 < 137400) ∧ (if I (S102 90 13) ≤ I (S102 91 ((l1 + 544) + v101)) then G sc MX11_roomIn 13 [some (.ref 90), some (.int (I l1)), some (.int (I l2)), some (.int (I l3)), some (.int (I l4)), some (.int (I (l5 + 1))), some (.int (I v101))] [] SH S102 r else (if I l3 = I (-1) then G sc MX11_roomIn 13 [some (.ref 90), some (.int (I l1)), some (.int (I l2)), some (.int (I v101)), some (.int (I l4)), some (.int (I (l5 + 1))), some (.int (I v101))] [] SH S102 r else (((0 : Int) ≤ (l1 + 544) + v101 ∧ (l1 + 544) + v101 < 137400) ∧ (((0 : Int) ≤ (l1 + 544) + l3 ∧ (l1 + 544) + l3 < 137400) ∧ (if I (S102 91 ((l1 + 544) + v101)) ≤ I (S102 91 ((l1 + 544) + l3)) then G sc MX11_roomIn 13 [some (.ref 90), some (.int (I l1)), some (.int (I l2)), some (.int (I l3)), some (.int (I l4)), some (.int (I (l5 + 1))), some (.int (I v101))] [] SH S102 r else G sc MX11_roomIn 13 [some (.ref 90), some (.int (I l1)), some (.int (I l2)), some (.int (I v101)), some (.int (I l4)), some (.int (I (l5 + 1))), some (.int (I v101))] [] SH S102 r))))))))) → G sc MX11_roomIn 13 [some (.ref 90), some (.int (I l1)), some (.int (I l2)), some (.int (I l3)), some (.int (I l4)), some (.int (I l5)), u6] [] SH S r := by
  refine tt_ld (M := MX11_roomIn) (pc := 13) dX11_roomIn_13 rfl rfl rfl rfl rfl ?_
  refine tt_ld (M := MX11_roomIn) (pc := 15) dX11_roomIn_15 rfl rfl rfl rfl rfl ?_
  refine tt_ic_ge (M := MX11_roomIn) (pc := 17) 92 dX11_roomIn_17 rfl ?_ ?_
  · refine tt_ld (M := MX11_roomIn) (pc := 92) dX11_roomIn_92 rfl rfl rfl rfl rfl ?_
    exact tt_iret (M := MX11_roomIn) (pc := 93) dX11_roomIn_93 rfl
  · refine tt_ld (M := MX11_roomIn) (pc := 20) dX11_roomIn_20 rfl rfl rfl rfl rfl ?_
    refine tt_ld (M := MX11_roomIn) (pc := 21) dX11_roomIn_21 rfl rfl rfl rfl rfl ?_
    refine tt_ld (M := MX11_roomIn) (pc := 22) dX11_roomIn_22 rfl rfl rfl rfl rfl ?_
    refine tt_ld (M := MX11_roomIn) (pc := 23) dX11_roomIn_23 rfl rfl rfl rfl rfl ?_
    refine tt_vcIN (M := MX11_roomIn) (pc := 25) dX11_roomIn_25 rfl rfl [] rfl rfl ⟨rfl, by decide, Nat.le_of_ble_eq_true rfl⟩ h0.1 fun v101 S102 => ?_
    refine tt_st (M := MX11_roomIn) (pc := 28) [some (.ref 90), some (.int (I l1)), some (.int (I l2)), some (.int (I l3)), some (.int (I l4)), some (.int (I l5)), some (.int (I v101))] dX11_roomIn_28 rfl rfl rfl rfl rfl rfl ?_
    refine tt_ld (M := MX11_roomIn) (pc := 30) dX11_roomIn_30 rfl rfl rfl rfl rfl ?_
    refine tt_getR (M := MX11_roomIn) (pc := 31) dX11_roomIn_31 rfl h0.1 rfl ?_
    refine tt_ld (M := MX11_roomIn) (pc := 34) dX11_roomIn_34 rfl rfl rfl rfl rfl ?_
    refine tt_sipush (M := MX11_roomIn) (pc := 35) dX11_roomIn_35 (by decide) ?_
    refine tt_iadd (M := MX11_roomIn) (pc := 38) dX11_roomIn_38 ?_
    refine tt_ld (M := MX11_roomIn) (pc := 39) dX11_roomIn_39 rfl rfl rfl rfl rfl ?_
    refine tt_iadd (M := MX11_roomIn) (pc := 41) dX11_roomIn_41 ?_
    refine tt_iaload (M := MX11_roomIn) (pc := 42) dX11_roomIn_42 h0.2.1 rfl ?_
    refine tt_ld (M := MX11_roomIn) (pc := 43) dX11_roomIn_43 rfl rfl rfl rfl rfl ?_
    refine tt_getI (M := MX11_roomIn) (pc := 44) dX11_roomIn_44 rfl h0.1 rfl ?_
    refine tt_ic_ge (M := MX11_roomIn) (pc := 47) 86 dX11_roomIn_47 rfl ?_ ?_
    · refine tt_iinc (M := MX11_roomIn) (pc := 86) [some (.ref 90), some (.int (I l1)), some (.int (I l2)), some (.int (I l3)), some (.int (I l4)), some (.int (I (l5 + 1))), some (.int (I v101))] dX11_roomIn_86 rfl rfl ?_
      refine tt_goto (M := MX11_roomIn) (pc := 89) 13 dX11_roomIn_89 rfl ?_
      exact id
    · refine tt_ld (M := MX11_roomIn) (pc := 50) dX11_roomIn_50 rfl rfl rfl rfl rfl ?_
      refine tt_iconst (M := MX11_roomIn) (pc := 51) dX11_roomIn_51 ?_
      refine tt_ic_eq (M := MX11_roomIn) (pc := 52) 83 dX11_roomIn_52 rfl ?_ ?_
      · refine tt_ld (M := MX11_roomIn) (pc := 83) dX11_roomIn_83 rfl rfl rfl rfl rfl ?_
        refine tt_st (M := MX11_roomIn) (pc := 85) [some (.ref 90), some (.int (I l1)), some (.int (I l2)), some (.int (I v101)), some (.int (I l4)), some (.int (I l5)), some (.int (I v101))] dX11_roomIn_85 rfl rfl rfl rfl rfl rfl ?_
        refine tt_iinc (M := MX11_roomIn) (pc := 86) [some (.ref 90), some (.int (I l1)), some (.int (I l2)), some (.int (I v101)), some (.int (I l4)), some (.int (I (l5 + 1))), some (.int (I v101))] dX11_roomIn_86 rfl rfl ?_
        refine tt_goto (M := MX11_roomIn) (pc := 89) 13 dX11_roomIn_89 rfl ?_
        exact id
      · refine tt_ld (M := MX11_roomIn) (pc := 55) dX11_roomIn_55 rfl rfl rfl rfl rfl ?_
        refine tt_getR (M := MX11_roomIn) (pc := 56) dX11_roomIn_56 rfl h0.1 rfl ?_
        refine tt_ld (M := MX11_roomIn) (pc := 59) dX11_roomIn_59 rfl rfl rfl rfl rfl ?_
        refine tt_sipush (M := MX11_roomIn) (pc := 60) dX11_roomIn_60 (by decide) ?_
        refine tt_iadd (M := MX11_roomIn) (pc := 63) dX11_roomIn_63 ?_
        refine tt_ld (M := MX11_roomIn) (pc := 64) dX11_roomIn_64 rfl rfl rfl rfl rfl ?_
        refine tt_iadd (M := MX11_roomIn) (pc := 66) dX11_roomIn_66 ?_
        refine tt_iaload (M := MX11_roomIn) (pc := 67) dX11_roomIn_67 h0.2.1 rfl ?_
        refine tt_ld (M := MX11_roomIn) (pc := 68) dX11_roomIn_68 rfl rfl rfl rfl rfl ?_
        refine tt_getR (M := MX11_roomIn) (pc := 69) dX11_roomIn_69 rfl h0.1 rfl ?_
        refine tt_ld (M := MX11_roomIn) (pc := 72) dX11_roomIn_72 rfl rfl rfl rfl rfl ?_
        refine tt_sipush (M := MX11_roomIn) (pc := 73) dX11_roomIn_73 (by decide) ?_
        refine tt_iadd (M := MX11_roomIn) (pc := 76) dX11_roomIn_76 ?_
        refine tt_ld (M := MX11_roomIn) (pc := 77) dX11_roomIn_77 rfl rfl rfl rfl rfl ?_
        refine tt_iadd (M := MX11_roomIn) (pc := 78) dX11_roomIn_78 ?_
        refine tt_iaload (M := MX11_roomIn) (pc := 79) dX11_roomIn_79 h0.2.1 rfl ?_
        refine tt_ic_le (M := MX11_roomIn) (pc := 80) 86 dX11_roomIn_80 rfl ?_ ?_
        · refine tt_iinc (M := MX11_roomIn) (pc := 86) [some (.ref 90), some (.int (I l1)), some (.int (I l2)), some (.int (I l3)), some (.int (I l4)), some (.int (I (l5 + 1))), some (.int (I v101))] dX11_roomIn_86 rfl rfl ?_
          refine tt_goto (M := MX11_roomIn) (pc := 89) 13 dX11_roomIn_89 rfl ?_
          exact id
        · refine tt_ld (M := MX11_roomIn) (pc := 83) dX11_roomIn_83 rfl rfl rfl rfl rfl ?_
          refine tt_st (M := MX11_roomIn) (pc := 85) [some (.ref 90), some (.int (I l1)), some (.int (I l2)), some (.int (I v101)), some (.int (I l4)), some (.int (I l5)), some (.int (I v101))] dX11_roomIn_85 rfl rfl rfl rfl rfl rfl ?_
          refine tt_iinc (M := MX11_roomIn) (pc := 86) [some (.ref 90), some (.int (I l1)), some (.int (I l2)), some (.int (I v101)), some (.int (I l4)), some (.int (I (l5 + 1))), some (.int (I v101))] dX11_roomIn_86 rfl rfl ?_
          refine tt_goto (M := MX11_roomIn) (pc := 89) 13 dX11_roomIn_89 rfl ?_
          exact id
theorem qX11_movesTo_0 {sc : Nat × (Nat → Int32)} {SH : List mCell} {S : mStore} {r : mR × mW} (h0 : sMod SH) {l1 : Int} {l2 : Int} {l3 : Int} : ((∃ S101, G sc MX11_leavesFrame 0 [some (.ref 90), some (.int (I l1)), some (.int (I l2)), none, none, none, none] [] SH S (rV SH S101) ∧ (∃ S102, G sc MX11_liesIn 0 [some (.ref 90), some (.int (I l1)), some (.int (I l2)), some (.int (I l3))] [] SH S101 (rV SH S102) ∧ r = rV SH S102))) → G sc MX11_movesTo 0 [some (.ref 90), some (.int (I l1)), some (.int (I l2)), some (.int (I l3))] [] SH S r := by
  refine tt_ld (M := MX11_movesTo) (pc := 0) dX11_movesTo_0 rfl rfl rfl rfl rfl ?_
  refine tt_ld (M := MX11_movesTo) (pc := 1) dX11_movesTo_1 rfl rfl rfl rfl rfl ?_
  refine tt_ld (M := MX11_movesTo) (pc := 2) dX11_movesTo_2 rfl rfl rfl rfl rfl ?_
  refine tt_vcVN (M := MX11_movesTo) (pc := 3) dX11_movesTo_3 rfl rfl [] rfl rfl ⟨rfl, by decide, Nat.le_of_ble_eq_true rfl⟩ h0.1 fun S101 => ?_
  refine tt_ld (M := MX11_movesTo) (pc := 6) dX11_movesTo_6 rfl rfl rfl rfl rfl ?_
  refine tt_ld (M := MX11_movesTo) (pc := 7) dX11_movesTo_7 rfl rfl rfl rfl rfl ?_
  refine tt_ld (M := MX11_movesTo) (pc := 8) dX11_movesTo_8 rfl rfl rfl rfl rfl ?_
  refine tt_ld (M := MX11_movesTo) (pc := 9) dX11_movesTo_9 rfl rfl rfl rfl rfl ?_
  refine tt_vcVN (M := MX11_movesTo) (pc := 10) dX11_movesTo_10 rfl rfl [] rfl rfl ⟨rfl, by decide, Nat.le_of_ble_eq_true rfl⟩ h0.1 fun S102 => ?_
  exact tt_ret (M := MX11_movesTo) (pc := 13) dX11_movesTo_13 rfl
theorem qX11_isZero_0 {sc : Nat × (Nat → Int32)} {SH : List mCell} {S : mStore} {r : mR × mW} (h0 : sMod SH) {l1 : Int} {l2 : Int} : ((∃ v101 S102, G sc MX11_cellOf 0 [some (.ref 90), some (.int (I l1)), some (.int (I l2)), some (.int (I 0)), none] [] SH S (rI v101 SH S102) ∧ (∃ v103 S104, G sc MX11_cellOf 0 [some (.ref 90), some (.int (I l1)), some (.int (I l2)), some (.int (I 1)), none] [] SH S102 (rI v103 SH S104) ∧ (∃ v105 S106, G sc MX11_cellOf 0 [some (.ref 90), some (.int (I l1)), some (.int (I l2)), some (.int (I 2)), none] [] SH S104 (rI v105 SH S106) ∧ (∃ v107 S108, G sc MX11_cellOf 0 [some (.ref 90), some (.int (I l1)), some (.int (I l2)), some (.int (I 3)), none] [] SH S106 (rI v107 SH S108) ∧ (if I (((v101 + v103) + v105) + v107) = I 0 then ((I 1 = I 0 ∨ I 1 = I 1) ∧ r = rI 1 SH S108) else ((I 0 = I 0 ∨ I 0 = I 1) ∧ r = rI 0 SH S108))))))) → G sc MX11_isZero 0 [some (.ref 90), some (.int (I l1)), some (.int (I l2))] [] SH S r := by
  refine tt_ld (M := MX11_isZero) (pc := 0) dX11_isZero_0 rfl rfl rfl rfl rfl ?_
  refine tt_ld (M := MX11_isZero) (pc := 1) dX11_isZero_1 rfl rfl rfl rfl rfl ?_
  refine tt_ld (M := MX11_isZero) (pc := 2) dX11_isZero_2 rfl rfl rfl rfl rfl ?_
  refine tt_iconst (M := MX11_isZero) (pc := 3) dX11_isZero_3 ?_
  refine tt_vcIN (M := MX11_isZero) (pc := 4) dX11_isZero_4 rfl rfl [] rfl rfl ⟨rfl, by decide, Nat.le_of_ble_eq_true rfl⟩ h0.1 fun v101 S102 => ?_
  refine tt_ld (M := MX11_isZero) (pc := 7) dX11_isZero_7 rfl rfl rfl rfl rfl ?_
  refine tt_ld (M := MX11_isZero) (pc := 8) dX11_isZero_8 rfl rfl rfl rfl rfl ?_
  refine tt_ld (M := MX11_isZero) (pc := 9) dX11_isZero_9 rfl rfl rfl rfl rfl ?_
  refine tt_iconst (M := MX11_isZero) (pc := 10) dX11_isZero_10 ?_
  refine tt_vcIN (M := MX11_isZero) (pc := 11) dX11_isZero_11 rfl rfl [.int (I v101)] rfl rfl ⟨rfl, by decide, Nat.le_of_ble_eq_true rfl⟩ h0.1 fun v103 S104 => ?_
  refine tt_iadd (M := MX11_isZero) (pc := 14) dX11_isZero_14 ?_
  refine tt_ld (M := MX11_isZero) (pc := 15) dX11_isZero_15 rfl rfl rfl rfl rfl ?_
  refine tt_ld (M := MX11_isZero) (pc := 16) dX11_isZero_16 rfl rfl rfl rfl rfl ?_
  refine tt_ld (M := MX11_isZero) (pc := 17) dX11_isZero_17 rfl rfl rfl rfl rfl ?_
  refine tt_iconst (M := MX11_isZero) (pc := 18) dX11_isZero_18 ?_
  refine tt_vcIN (M := MX11_isZero) (pc := 19) dX11_isZero_19 rfl rfl [.int (I (v101 + v103))] rfl rfl ⟨rfl, by decide, Nat.le_of_ble_eq_true rfl⟩ h0.1 fun v105 S106 => ?_
  refine tt_iadd (M := MX11_isZero) (pc := 22) dX11_isZero_22 ?_
  refine tt_ld (M := MX11_isZero) (pc := 23) dX11_isZero_23 rfl rfl rfl rfl rfl ?_
  refine tt_ld (M := MX11_isZero) (pc := 24) dX11_isZero_24 rfl rfl rfl rfl rfl ?_
  refine tt_ld (M := MX11_isZero) (pc := 25) dX11_isZero_25 rfl rfl rfl rfl rfl ?_
  refine tt_iconst (M := MX11_isZero) (pc := 26) dX11_isZero_26 ?_
  refine tt_vcIN (M := MX11_isZero) (pc := 27) dX11_isZero_27 rfl rfl [.int (I ((v101 + v103) + v105))] rfl rfl ⟨rfl, by decide, Nat.le_of_ble_eq_true rfl⟩ h0.1 fun v107 S108 => ?_
  refine tt_iadd (M := MX11_isZero) (pc := 30) dX11_isZero_30 ?_
  refine tt_if_ne (M := MX11_isZero) (pc := 31) 38 dX11_isZero_31 rfl ?_ ?_
  · refine tt_iconst (M := MX11_isZero) (pc := 38) dX11_isZero_38 ?_
    exact tt_zret (M := MX11_isZero) (pc := 39) dX11_isZero_39 rfl
  · refine tt_iconst (M := MX11_isZero) (pc := 34) dX11_isZero_34 ?_
    refine tt_goto (M := MX11_isZero) (pc := 35) 39 dX11_isZero_35 rfl ?_
    exact tt_zret (M := MX11_isZero) (pc := 39) dX11_isZero_39 rfl
theorem qX11_looksFor_0 {sc : Nat × (Nat → Int32)} {SH : List mCell} {S : mStore} {r : mR × mW} (h0 : sMod SH) {l1 : Int} {l2 : Int} {u3 : Option Value} {u4 : Option Value} {u5 : Option Value} {u6 : Option Value} {u7 : Option Value} {u8 : Option Value} {u9 : Option Value} {u10 : Option Value} : ((∃ v101 S102, G sc MX11_realm 0 [some (.ref 90), some (.int (I l2))] [] SH S (rI v101 SH S102) ∧ (∃ v103 S104, G sc MX11_realm 0 [some (.ref 90), some (.int (I l2))] [] SH S102 (rI v103 SH S104) ∧ (∃ S105, G sc MX11_seeks 0 [some (.ref 90), some (.int (I l1)), some (.int (I l2)), none] [] SH S104 (rV SH S105) ∧ (∃ S106, G sc MX11_searches 0 [some (.ref 90), some (.int (I l1)), some (.int (I ((l1 + 1072) + (97 * v101)))), some (.int (I 1)), none, none, none, none, none] [] SH S105 (rV SH S106) ∧ (if I (S106 90 30) = I (-1) then (if I (-1) = I (-1) then G sc MX11_looksFor 100 [some (.ref 90), some (.int (I l1)), some (.int (I l2)), some (.int (I ((l1 + 1072) + (97 * v101)))), some (.int (I ((l1 + 1363) + (97 * v103)))), some (.int (I (-1))), some (.int (I (S106 90 28))), some (.int (I (S106 90 29))), u8, u9, u10] [.int (I (-1))] SH S106 r else (∃ v109 S110, G sc MX11_roomIn 0 [some (.ref 90), some (.int (I l1)), some (.int (I (-1))), none, none, none, none] [] SH S106 (rI v109 SH S110) ∧ G sc MX11_looksFor 100 [some (.ref 90), some (.int (I l1)), some (.int (I l2)), some (.int (I ((l1 + 1072) + (97 * v101)))), some (.int (I ((l1 + 1363) + (97 * v103)))), some (.int (I (-1))), some (.int (I (S106 90 28))), some (.int (I (S106 90 29))), u8, u9, u10] [.int (I v109)] SH S110 r)) else (((0 : Int) ≤ (((l1 + 1072) + (97 * v101)) + 1) + (S106 90 30) ∧ (((l1 + 1072) + (97 * v101)) + 1) + (S106 90 30) < 137400) ∧ (if I (S106 91 ((((l1 + 1072) + (97 * v101)) + 1) + (S106 90 30))) = I (-1) then G sc MX11_looksFor 100 [some (.ref 90), some (.int (I l1)), some (.int (I l2)), some (.int (I ((l1 + 1072) + (97 * v101)))), some (.int (I ((l1 + 1363) + (97 * v103)))), some (.int (I (S106 91 ((((l1 + 1072) + (97 * v101)) + 1) + (S106 90 30))))), some (.int (I (S106 90 28))), some (.int (I (S106 90 29))), u8, u9, u10] [.int (I (-1))] SH S106 r else (∃ v107 S108, G sc MX11_roomIn 0 [some (.ref 90), some (.int (I l1)), some (.int (I (S106 91 ((((l1 + 1072) + (97 * v101)) + 1) + (S106 90 30))))), none, none, none, none] [] SH S106 (rI v107 SH S108) ∧ G sc MX11_looksFor 100 [some (.ref 90), some (.int (I l1)), some (.int (I l2)), some (.int (I ((l1 + 1072) + (97 * v101)))), some (.int (I ((l1 + 1363) + (97 * v103)))), some (.int (I (S106 91 ((((l1 + 1072) + (97 * v101)) + 1) + (S106 90 30))))), some (.int (I (S106 90 28))), some (.int (I (S106 90 29))), u8, u9, u10] [.int (I v107)] SH S108 r))))))))) → G sc MX11_looksFor 0 [some (.ref 90), some (.int (I l1)), some (.int (I l2)), u3, u4, u5, u6, u7, u8, u9, u10] [] SH S r := by
  refine tt_ld (M := MX11_looksFor) (pc := 0) dX11_looksFor_0 rfl rfl rfl rfl rfl ?_
  refine tt_sipush (M := MX11_looksFor) (pc := 1) dX11_looksFor_1 (by decide) ?_
  refine tt_iadd (M := MX11_looksFor) (pc := 4) dX11_looksFor_4 ?_
  refine tt_bipush (M := MX11_looksFor) (pc := 5) dX11_looksFor_5 (by decide) ?_
  refine tt_ld (M := MX11_looksFor) (pc := 7) dX11_looksFor_7 rfl rfl rfl rfl rfl ?_
  refine tt_ld (M := MX11_looksFor) (pc := 8) dX11_looksFor_8 rfl rfl rfl rfl rfl ?_
  refine tt_vcIN (M := MX11_looksFor) (pc := 9) dX11_looksFor_9 rfl rfl [.int (I 97), .int (I (l1 + 1072))] rfl rfl ⟨rfl, by decide, Nat.le_of_ble_eq_true rfl⟩ h0.1 fun v101 S102 => ?_
  refine tt_imul (M := MX11_looksFor) (pc := 12) dX11_looksFor_12 ?_
  refine tt_iadd (M := MX11_looksFor) (pc := 13) dX11_looksFor_13 ?_
  refine tt_st (M := MX11_looksFor) (pc := 14) [some (.ref 90), some (.int (I l1)), some (.int (I l2)), some (.int (I ((l1 + 1072) + (97 * v101)))), u4, u5, u6, u7, u8, u9, u10] dX11_looksFor_14 rfl rfl rfl rfl rfl rfl ?_
  refine tt_ld (M := MX11_looksFor) (pc := 15) dX11_looksFor_15 rfl rfl rfl rfl rfl ?_
  refine tt_sipush (M := MX11_looksFor) (pc := 16) dX11_looksFor_16 (by decide) ?_
  refine tt_iadd (M := MX11_looksFor) (pc := 19) dX11_looksFor_19 ?_
  refine tt_bipush (M := MX11_looksFor) (pc := 20) dX11_looksFor_20 (by decide) ?_
  refine tt_ld (M := MX11_looksFor) (pc := 22) dX11_looksFor_22 rfl rfl rfl rfl rfl ?_
  refine tt_ld (M := MX11_looksFor) (pc := 23) dX11_looksFor_23 rfl rfl rfl rfl rfl ?_
  refine tt_vcIN (M := MX11_looksFor) (pc := 24) dX11_looksFor_24 rfl rfl [.int (I 97), .int (I (l1 + 1363))] rfl rfl ⟨rfl, by decide, Nat.le_of_ble_eq_true rfl⟩ h0.1 fun v103 S104 => ?_
  refine tt_imul (M := MX11_looksFor) (pc := 27) dX11_looksFor_27 ?_
  refine tt_iadd (M := MX11_looksFor) (pc := 28) dX11_looksFor_28 ?_
  refine tt_st (M := MX11_looksFor) (pc := 29) [some (.ref 90), some (.int (I l1)), some (.int (I l2)), some (.int (I ((l1 + 1072) + (97 * v101)))), some (.int (I ((l1 + 1363) + (97 * v103)))), u5, u6, u7, u8, u9, u10] dX11_looksFor_29 rfl rfl rfl rfl rfl rfl ?_
  refine tt_ld (M := MX11_looksFor) (pc := 31) dX11_looksFor_31 rfl rfl rfl rfl rfl ?_
  refine tt_ld (M := MX11_looksFor) (pc := 32) dX11_looksFor_32 rfl rfl rfl rfl rfl ?_
  refine tt_ld (M := MX11_looksFor) (pc := 33) dX11_looksFor_33 rfl rfl rfl rfl rfl ?_
  refine tt_vcVN (M := MX11_looksFor) (pc := 34) dX11_looksFor_34 rfl rfl [] rfl rfl ⟨rfl, by decide, Nat.le_of_ble_eq_true rfl⟩ h0.1 fun S105 => ?_
  refine tt_ld (M := MX11_looksFor) (pc := 37) dX11_looksFor_37 rfl rfl rfl rfl rfl ?_
  refine tt_ld (M := MX11_looksFor) (pc := 38) dX11_looksFor_38 rfl rfl rfl rfl rfl ?_
  refine tt_ld (M := MX11_looksFor) (pc := 39) dX11_looksFor_39 rfl rfl rfl rfl rfl ?_
  refine tt_iconst (M := MX11_looksFor) (pc := 40) dX11_looksFor_40 ?_
  refine tt_vcVN (M := MX11_looksFor) (pc := 41) dX11_looksFor_41 rfl rfl [] rfl rfl ⟨rfl, by decide, Nat.le_of_ble_eq_true rfl⟩ h0.1 fun S106 => ?_
  refine tt_ld (M := MX11_looksFor) (pc := 44) dX11_looksFor_44 rfl rfl rfl rfl rfl ?_
  refine tt_getI (M := MX11_looksFor) (pc := 45) dX11_looksFor_45 rfl h0.1 rfl ?_
  refine tt_iconst (M := MX11_looksFor) (pc := 48) dX11_looksFor_48 ?_
  refine tt_ic_ne (M := MX11_looksFor) (pc := 49) 56 dX11_looksFor_49 rfl ?_ ?_
  · refine tt_ld (M := MX11_looksFor) (pc := 56) dX11_looksFor_56 rfl rfl rfl rfl rfl ?_
    refine tt_getR (M := MX11_looksFor) (pc := 57) dX11_looksFor_57 rfl h0.1 rfl ?_
    refine tt_ld (M := MX11_looksFor) (pc := 60) dX11_looksFor_60 rfl rfl rfl rfl rfl ?_
    refine tt_iconst (M := MX11_looksFor) (pc := 61) dX11_looksFor_61 ?_
    refine tt_iadd (M := MX11_looksFor) (pc := 62) dX11_looksFor_62 ?_
    refine tt_ld (M := MX11_looksFor) (pc := 63) dX11_looksFor_63 rfl rfl rfl rfl rfl ?_
    refine tt_getI (M := MX11_looksFor) (pc := 64) dX11_looksFor_64 rfl h0.1 rfl ?_
    refine tt_iadd (M := MX11_looksFor) (pc := 67) dX11_looksFor_67 ?_
    refine tt_iaload (M := MX11_looksFor) (pc := 68) dX11_looksFor_68 h0.2.1 rfl ?_
    refine tt_st (M := MX11_looksFor) (pc := 69) [some (.ref 90), some (.int (I l1)), some (.int (I l2)), some (.int (I ((l1 + 1072) + (97 * v101)))), some (.int (I ((l1 + 1363) + (97 * v103)))), some (.int (I (S106 91 ((((l1 + 1072) + (97 * v101)) + 1) + (S106 90 30))))), u6, u7, u8, u9, u10] dX11_looksFor_69 rfl rfl rfl rfl rfl rfl ?_
    refine tt_ld (M := MX11_looksFor) (pc := 71) dX11_looksFor_71 rfl rfl rfl rfl rfl ?_
    refine tt_getI (M := MX11_looksFor) (pc := 72) dX11_looksFor_72 rfl h0.1 rfl ?_
    refine tt_st (M := MX11_looksFor) (pc := 75) [some (.ref 90), some (.int (I l1)), some (.int (I l2)), some (.int (I ((l1 + 1072) + (97 * v101)))), some (.int (I ((l1 + 1363) + (97 * v103)))), some (.int (I (S106 91 ((((l1 + 1072) + (97 * v101)) + 1) + (S106 90 30))))), some (.int (I (S106 90 28))), u7, u8, u9, u10] dX11_looksFor_75 rfl rfl rfl rfl rfl rfl ?_
    refine tt_ld (M := MX11_looksFor) (pc := 77) dX11_looksFor_77 rfl rfl rfl rfl rfl ?_
    refine tt_getI (M := MX11_looksFor) (pc := 78) dX11_looksFor_78 rfl h0.1 rfl ?_
    refine tt_st (M := MX11_looksFor) (pc := 81) [some (.ref 90), some (.int (I l1)), some (.int (I l2)), some (.int (I ((l1 + 1072) + (97 * v101)))), some (.int (I ((l1 + 1363) + (97 * v103)))), some (.int (I (S106 91 ((((l1 + 1072) + (97 * v101)) + 1) + (S106 90 30))))), some (.int (I (S106 90 28))), some (.int (I (S106 90 29))), u8, u9, u10] dX11_looksFor_81 rfl rfl rfl rfl rfl rfl ?_
    refine tt_ld (M := MX11_looksFor) (pc := 83) dX11_looksFor_83 rfl rfl rfl rfl rfl ?_
    refine tt_iconst (M := MX11_looksFor) (pc := 85) dX11_looksFor_85 ?_
    refine tt_ic_ne (M := MX11_looksFor) (pc := 86) 93 dX11_looksFor_86 rfl ?_ ?_
    · refine tt_ld (M := MX11_looksFor) (pc := 93) dX11_looksFor_93 rfl rfl rfl rfl rfl ?_
      refine tt_ld (M := MX11_looksFor) (pc := 94) dX11_looksFor_94 rfl rfl rfl rfl rfl ?_
      refine tt_ld (M := MX11_looksFor) (pc := 95) dX11_looksFor_95 rfl rfl rfl rfl rfl ?_
      refine tt_vcIN (M := MX11_looksFor) (pc := 97) dX11_looksFor_97 rfl rfl [] rfl rfl ⟨rfl, by decide, Nat.le_of_ble_eq_true rfl⟩ h0.1 fun v107 S108 => ?_
      exact id
    · refine tt_iconst (M := MX11_looksFor) (pc := 89) dX11_looksFor_89 ?_
      refine tt_goto (M := MX11_looksFor) (pc := 90) 100 dX11_looksFor_90 rfl ?_
      exact id
  · refine tt_iconst (M := MX11_looksFor) (pc := 52) dX11_looksFor_52 ?_
    refine tt_goto (M := MX11_looksFor) (pc := 53) 69 dX11_looksFor_53 rfl ?_
    refine tt_st (M := MX11_looksFor) (pc := 69) [some (.ref 90), some (.int (I l1)), some (.int (I l2)), some (.int (I ((l1 + 1072) + (97 * v101)))), some (.int (I ((l1 + 1363) + (97 * v103)))), some (.int (I (-1))), u6, u7, u8, u9, u10] dX11_looksFor_69 rfl rfl rfl rfl rfl rfl ?_
    refine tt_ld (M := MX11_looksFor) (pc := 71) dX11_looksFor_71 rfl rfl rfl rfl rfl ?_
    refine tt_getI (M := MX11_looksFor) (pc := 72) dX11_looksFor_72 rfl h0.1 rfl ?_
    refine tt_st (M := MX11_looksFor) (pc := 75) [some (.ref 90), some (.int (I l1)), some (.int (I l2)), some (.int (I ((l1 + 1072) + (97 * v101)))), some (.int (I ((l1 + 1363) + (97 * v103)))), some (.int (I (-1))), some (.int (I (S106 90 28))), u7, u8, u9, u10] dX11_looksFor_75 rfl rfl rfl rfl rfl rfl ?_
    refine tt_ld (M := MX11_looksFor) (pc := 77) dX11_looksFor_77 rfl rfl rfl rfl rfl ?_
    refine tt_getI (M := MX11_looksFor) (pc := 78) dX11_looksFor_78 rfl h0.1 rfl ?_
    refine tt_st (M := MX11_looksFor) (pc := 81) [some (.ref 90), some (.int (I l1)), some (.int (I l2)), some (.int (I ((l1 + 1072) + (97 * v101)))), some (.int (I ((l1 + 1363) + (97 * v103)))), some (.int (I (-1))), some (.int (I (S106 90 28))), some (.int (I (S106 90 29))), u8, u9, u10] dX11_looksFor_81 rfl rfl rfl rfl rfl rfl ?_
    refine tt_ld (M := MX11_looksFor) (pc := 83) dX11_looksFor_83 rfl rfl rfl rfl rfl ?_
    refine tt_iconst (M := MX11_looksFor) (pc := 85) dX11_looksFor_85 ?_
    refine tt_ic_ne (M := MX11_looksFor) (pc := 86) 93 dX11_looksFor_86 rfl ?_ ?_
    · refine tt_ld (M := MX11_looksFor) (pc := 93) dX11_looksFor_93 rfl rfl rfl rfl rfl ?_
      refine tt_ld (M := MX11_looksFor) (pc := 94) dX11_looksFor_94 rfl rfl rfl rfl rfl ?_
      refine tt_ld (M := MX11_looksFor) (pc := 95) dX11_looksFor_95 rfl rfl rfl rfl rfl ?_
      refine tt_vcIN (M := MX11_looksFor) (pc := 97) dX11_looksFor_97 rfl rfl [] rfl rfl ⟨rfl, by decide, Nat.le_of_ble_eq_true rfl⟩ h0.1 fun v109 S110 => ?_
      exact id
    · refine tt_iconst (M := MX11_looksFor) (pc := 89) dX11_looksFor_89 ?_
      refine tt_goto (M := MX11_looksFor) (pc := 90) 100 dX11_looksFor_90 rfl ?_
      exact id
theorem qX11_looksFor_100 {sc : Nat × (Nat → Int32)} {SH : List mCell} {S : mStore} {r : mR × mW} (h0 : sMod SH) {l1 : Int} {l2 : Int} {l3 : Int} {l4 : Int} {l5 : Int} {l6 : Int} {l7 : Int} {u8 : Option Value} {u9 : Option Value} {u10 : Option Value} {s0 : Int} : ((if I s0 = I (-1) then (∃ v101 S102, G sc MX11_sumOf 0 [some (.ref 90), some (.int (I l1)), some (.int (I l2))] [] SH S (rI v101 SH S102) ∧ (((0 : Int) ≤ (l1 + 160) + l2 ∧ (l1 + 160) + l2 < 137400) ∧ (if I v101 = I (S102 91 ((l1 + 160) + l2)) then (∃ S103, G sc MX11_searches 0 [some (.ref 90), some (.int (I l1)), some (.int (I l4)), some (.int (I 0)), none, none, none, none, none] [] SH S102 (rV SH S103) ∧ (if I (S103 90 31) = I 0 then (if I (S103 90 30) = I (-1) then (∃ S108, G sc MX11_putsIn 0 [some (.ref 90), some (.int (I l4)), some (.int (I (S103 90 28))), some (.int (I l2)), some (.int (I (S103 90 29))), none] [] SH S103 (rV SH S108) ∧ (((0 : Int) ≤ (l1 + 304) + l2 ∧ (l1 + 304) + l2 < 137400) ∧ r = rI 9 SH (up S108 91 ((l1 + 304) + l2) 1))) else (((0 : Int) ≤ (l4 + 1) + (S103 90 30) ∧ (l4 + 1) + (S103 90 30) < 137400) ∧ (∃ S104, G sc MX11_waitsNoMore 0 [some (.ref 90), some (.int (I l1)), some (.int (I (S103 91 ((l4 + 1) + (S103 90 30))))), none, none] [] SH S103 (rV SH S104) ∧ (((0 : Int) ≤ (l1 + 208) + (S103 91 ((l4 + 1) + (S103 90 30))) ∧ (l1 + 208) + (S103 91 ((l4 + 1) + (S103 90 30))) < 137400) ∧ (((0 : Int) ≤ (l1 + 256) + (S103 91 ((l4 + 1) + (S103 90 30))) ∧ (l1 + 256) + (S103 91 ((l4 + 1) + (S103 90 30))) < 137400) ∧ (if I l5 = I (-1) then (∃ v105 S106, G sc MX11_newKnot 0 [some (.ref 90), some (.int (I l1)), none] [] SH (up (up S104 91 ((l1 + 208) + (S103 91 ((l4 + 1) + (S103 90 30)))) 0) 91 ((l1 + 256) + (S103 91 ((l4 + 1) + (S103 90 30)))) 0) (rI v105 SH S106) ∧ (∃ S107, G sc MX11_putsIn 0 [some (.ref 90), some (.int (I l3)), some (.int (I l6)), some (.int (I v105)), some (.int (I l7)), none] [] SH S106 (rV SH S107) ∧ G sc MX11_looksFor 292 [some (.ref 90), some (.int (I l1)), some (.int (I l2)), some (.int (I l3)), some (.int (I l4)), some (.int (I v105)), some (.int (I l6)), some (.int (I l7)), some (.int (I s0)), some (.int (I v101)), some (.int (I (S103 91 ((l4 + 1) + (S103 90 30)))))] [] SH S107 r)) else G sc MX11_looksFor 292 [some (.ref 90), some (.int (I l1)), some (.int (I l2)), some (.int (I l3)), some (.int (I l4)), some (.int (I l5)), some (.int (I l6)), some (.int (I l7)), some (.int (I s0)), some (.int (I v101)), some (.int (I (S103 91 ((l4 + 1) + (S103 90 30)))))] [] SH (up (up S104 91 ((l1 + 208) + (S103 91 ((l4 + 1) + (S103 90 30)))) 0) 91 ((l1 + 256) + (S103 91 ((l4 + 1) + (S103 90 30)))) 0) r)))))) else r = rI 7 SH S103)) else (((0 : Int) ≤ (l1 + 160) + l2 ∧ (l1 + 160) + l2 < 137400) ∧ r = rI 6 SH (up S102 91 ((l1 + 160) + l2) v101))))) else (∃ S109, G sc MX11_movesTo 0 [some (.ref 90), some (.int (I l1)), some (.int (I l2)), some (.int (I s0))] [] SH S (rV SH S109) ∧ r = rI 5 SH S109))) → G sc MX11_looksFor 100 [some (.ref 90), some (.int (I l1)), some (.int (I l2)), some (.int (I l3)), some (.int (I l4)), some (.int (I l5)), some (.int (I l6)), some (.int (I l7)), u8, u9, u10] [.int (I s0)] SH S r := by
  refine tt_st (M := MX11_looksFor) (pc := 100) [some (.ref 90), some (.int (I l1)), some (.int (I l2)), some (.int (I l3)), some (.int (I l4)), some (.int (I l5)), some (.int (I l6)), some (.int (I l7)), some (.int (I s0)), u9, u10] dX11_looksFor_100 rfl rfl rfl rfl rfl rfl ?_
  refine tt_ld (M := MX11_looksFor) (pc := 102) dX11_looksFor_102 rfl rfl rfl rfl rfl ?_
  refine tt_iconst (M := MX11_looksFor) (pc := 104) dX11_looksFor_104 ?_
  refine tt_ic_eq (M := MX11_looksFor) (pc := 105) 118 dX11_looksFor_105 rfl ?_ ?_
  · refine tt_ld (M := MX11_looksFor) (pc := 118) dX11_looksFor_118 rfl rfl rfl rfl rfl ?_
    refine tt_ld (M := MX11_looksFor) (pc := 119) dX11_looksFor_119 rfl rfl rfl rfl rfl ?_
    refine tt_ld (M := MX11_looksFor) (pc := 120) dX11_looksFor_120 rfl rfl rfl rfl rfl ?_
    refine tt_vcIN (M := MX11_looksFor) (pc := 121) dX11_looksFor_121 rfl rfl [] rfl rfl ⟨rfl, by decide, Nat.le_of_ble_eq_true rfl⟩ h0.1 fun v101 S102 => ?_
    refine tt_st (M := MX11_looksFor) (pc := 124) [some (.ref 90), some (.int (I l1)), some (.int (I l2)), some (.int (I l3)), some (.int (I l4)), some (.int (I l5)), some (.int (I l6)), some (.int (I l7)), some (.int (I s0)), some (.int (I v101)), u10] dX11_looksFor_124 rfl rfl rfl rfl rfl rfl ?_
    refine tt_ld (M := MX11_looksFor) (pc := 126) dX11_looksFor_126 rfl rfl rfl rfl rfl ?_
    refine tt_ld (M := MX11_looksFor) (pc := 128) dX11_looksFor_128 rfl rfl rfl rfl rfl ?_
    refine tt_getR (M := MX11_looksFor) (pc := 129) dX11_looksFor_129 rfl h0.1 rfl ?_
    refine tt_ld (M := MX11_looksFor) (pc := 132) dX11_looksFor_132 rfl rfl rfl rfl rfl ?_
    refine tt_sipush (M := MX11_looksFor) (pc := 133) dX11_looksFor_133 (by decide) ?_
    refine tt_iadd (M := MX11_looksFor) (pc := 136) dX11_looksFor_136 ?_
    refine tt_ld (M := MX11_looksFor) (pc := 137) dX11_looksFor_137 rfl rfl rfl rfl rfl ?_
    refine tt_iadd (M := MX11_looksFor) (pc := 138) dX11_looksFor_138 ?_
    refine tt_iaload (M := MX11_looksFor) (pc := 139) dX11_looksFor_139 h0.2.1 rfl ?_
    refine tt_ic_eq (M := MX11_looksFor) (pc := 140) 160 dX11_looksFor_140 rfl ?_ ?_
    · refine tt_ld (M := MX11_looksFor) (pc := 160) dX11_looksFor_160 rfl rfl rfl rfl rfl ?_
      refine tt_ld (M := MX11_looksFor) (pc := 161) dX11_looksFor_161 rfl rfl rfl rfl rfl ?_
      refine tt_ld (M := MX11_looksFor) (pc := 162) dX11_looksFor_162 rfl rfl rfl rfl rfl ?_
      refine tt_iconst (M := MX11_looksFor) (pc := 164) dX11_looksFor_164 ?_
      refine tt_vcVN (M := MX11_looksFor) (pc := 165) dX11_looksFor_165 rfl rfl [] rfl rfl ⟨rfl, by decide, Nat.le_of_ble_eq_true rfl⟩ h0.1 fun S103 => ?_
      refine tt_ld (M := MX11_looksFor) (pc := 168) dX11_looksFor_168 rfl rfl rfl rfl rfl ?_
      refine tt_getI (M := MX11_looksFor) (pc := 169) dX11_looksFor_169 rfl h0.1 rfl ?_
      refine tt_if_eq (M := MX11_looksFor) (pc := 172) 178 dX11_looksFor_172 rfl ?_ ?_
      · refine tt_ld (M := MX11_looksFor) (pc := 178) dX11_looksFor_178 rfl rfl rfl rfl rfl ?_
        refine tt_getI (M := MX11_looksFor) (pc := 179) dX11_looksFor_179 rfl h0.1 rfl ?_
        refine tt_iconst (M := MX11_looksFor) (pc := 182) dX11_looksFor_182 ?_
        refine tt_ic_ne (M := MX11_looksFor) (pc := 183) 217 dX11_looksFor_183 rfl ?_ ?_
        · refine tt_ld (M := MX11_looksFor) (pc := 217) dX11_looksFor_217 rfl rfl rfl rfl rfl ?_
          refine tt_getR (M := MX11_looksFor) (pc := 218) dX11_looksFor_218 rfl h0.1 rfl ?_
          refine tt_ld (M := MX11_looksFor) (pc := 221) dX11_looksFor_221 rfl rfl rfl rfl rfl ?_
          refine tt_iconst (M := MX11_looksFor) (pc := 223) dX11_looksFor_223 ?_
          refine tt_iadd (M := MX11_looksFor) (pc := 224) dX11_looksFor_224 ?_
          refine tt_ld (M := MX11_looksFor) (pc := 225) dX11_looksFor_225 rfl rfl rfl rfl rfl ?_
          refine tt_getI (M := MX11_looksFor) (pc := 226) dX11_looksFor_226 rfl h0.1 rfl ?_
          refine tt_iadd (M := MX11_looksFor) (pc := 229) dX11_looksFor_229 ?_
          refine tt_iaload (M := MX11_looksFor) (pc := 230) dX11_looksFor_230 h0.2.1 rfl ?_
          refine tt_st (M := MX11_looksFor) (pc := 231) [some (.ref 90), some (.int (I l1)), some (.int (I l2)), some (.int (I l3)), some (.int (I l4)), some (.int (I l5)), some (.int (I l6)), some (.int (I l7)), some (.int (I s0)), some (.int (I v101)), some (.int (I (S103 91 ((l4 + 1) + (S103 90 30)))))] dX11_looksFor_231 rfl rfl rfl rfl rfl rfl ?_
          refine tt_ld (M := MX11_looksFor) (pc := 233) dX11_looksFor_233 rfl rfl rfl rfl rfl ?_
          refine tt_ld (M := MX11_looksFor) (pc := 234) dX11_looksFor_234 rfl rfl rfl rfl rfl ?_
          refine tt_ld (M := MX11_looksFor) (pc := 235) dX11_looksFor_235 rfl rfl rfl rfl rfl ?_
          refine tt_vcVN (M := MX11_looksFor) (pc := 237) dX11_looksFor_237 rfl rfl [] rfl rfl ⟨rfl, by decide, Nat.le_of_ble_eq_true rfl⟩ h0.1 fun S104 => ?_
          refine tt_ld (M := MX11_looksFor) (pc := 240) dX11_looksFor_240 rfl rfl rfl rfl rfl ?_
          refine tt_getR (M := MX11_looksFor) (pc := 241) dX11_looksFor_241 rfl h0.1 rfl ?_
          refine tt_ld (M := MX11_looksFor) (pc := 244) dX11_looksFor_244 rfl rfl rfl rfl rfl ?_
          refine tt_sipush (M := MX11_looksFor) (pc := 245) dX11_looksFor_245 (by decide) ?_
          refine tt_iadd (M := MX11_looksFor) (pc := 248) dX11_looksFor_248 ?_
          refine tt_ld (M := MX11_looksFor) (pc := 249) dX11_looksFor_249 rfl rfl rfl rfl rfl ?_
          refine tt_iadd (M := MX11_looksFor) (pc := 251) dX11_looksFor_251 ?_
          refine tt_iconst (M := MX11_looksFor) (pc := 252) dX11_looksFor_252 ?_
          refine tt_iastore (M := MX11_looksFor) (pc := 253) dX11_looksFor_253 h0.2.1 rfl ?_
          refine tt_ld (M := MX11_looksFor) (pc := 254) dX11_looksFor_254 rfl rfl rfl rfl rfl ?_
          refine tt_getR (M := MX11_looksFor) (pc := 255) dX11_looksFor_255 rfl h0.1 rfl ?_
          refine tt_ld (M := MX11_looksFor) (pc := 258) dX11_looksFor_258 rfl rfl rfl rfl rfl ?_
          refine tt_sipush (M := MX11_looksFor) (pc := 259) dX11_looksFor_259 (by decide) ?_
          refine tt_iadd (M := MX11_looksFor) (pc := 262) dX11_looksFor_262 ?_
          refine tt_ld (M := MX11_looksFor) (pc := 263) dX11_looksFor_263 rfl rfl rfl rfl rfl ?_
          refine tt_iadd (M := MX11_looksFor) (pc := 265) dX11_looksFor_265 ?_
          refine tt_iconst (M := MX11_looksFor) (pc := 266) dX11_looksFor_266 ?_
          refine tt_iastore (M := MX11_looksFor) (pc := 267) dX11_looksFor_267 h0.2.1 rfl ?_
          refine tt_ld (M := MX11_looksFor) (pc := 268) dX11_looksFor_268 rfl rfl rfl rfl rfl ?_
          refine tt_iconst (M := MX11_looksFor) (pc := 270) dX11_looksFor_270 ?_
          refine tt_ic_ne (M := MX11_looksFor) (pc := 271) 292 dX11_looksFor_271 rfl ?_ ?_
          · exact id
          · refine tt_ld (M := MX11_looksFor) (pc := 274) dX11_looksFor_274 rfl rfl rfl rfl rfl ?_
            refine tt_ld (M := MX11_looksFor) (pc := 275) dX11_looksFor_275 rfl rfl rfl rfl rfl ?_
            refine tt_vcIN (M := MX11_looksFor) (pc := 276) dX11_looksFor_276 rfl rfl [] rfl rfl ⟨rfl, by decide, Nat.le_of_ble_eq_true rfl⟩ h0.1 fun v105 S106 => ?_
            refine tt_st (M := MX11_looksFor) (pc := 279) [some (.ref 90), some (.int (I l1)), some (.int (I l2)), some (.int (I l3)), some (.int (I l4)), some (.int (I v105)), some (.int (I l6)), some (.int (I l7)), some (.int (I s0)), some (.int (I v101)), some (.int (I (S103 91 ((l4 + 1) + (S103 90 30)))))] dX11_looksFor_279 rfl rfl rfl rfl rfl rfl ?_
            refine tt_ld (M := MX11_looksFor) (pc := 281) dX11_looksFor_281 rfl rfl rfl rfl rfl ?_
            refine tt_ld (M := MX11_looksFor) (pc := 282) dX11_looksFor_282 rfl rfl rfl rfl rfl ?_
            refine tt_ld (M := MX11_looksFor) (pc := 283) dX11_looksFor_283 rfl rfl rfl rfl rfl ?_
            refine tt_ld (M := MX11_looksFor) (pc := 285) dX11_looksFor_285 rfl rfl rfl rfl rfl ?_
            refine tt_ld (M := MX11_looksFor) (pc := 287) dX11_looksFor_287 rfl rfl rfl rfl rfl ?_
            refine tt_vcVN (M := MX11_looksFor) (pc := 289) dX11_looksFor_289 rfl rfl [] rfl rfl ⟨rfl, by decide, Nat.le_of_ble_eq_true rfl⟩ h0.1 fun S107 => ?_
            exact id
        · refine tt_ld (M := MX11_looksFor) (pc := 186) dX11_looksFor_186 rfl rfl rfl rfl rfl ?_
          refine tt_ld (M := MX11_looksFor) (pc := 187) dX11_looksFor_187 rfl rfl rfl rfl rfl ?_
          refine tt_ld (M := MX11_looksFor) (pc := 189) dX11_looksFor_189 rfl rfl rfl rfl rfl ?_
          refine tt_getI (M := MX11_looksFor) (pc := 190) dX11_looksFor_190 rfl h0.1 rfl ?_
          refine tt_ld (M := MX11_looksFor) (pc := 193) dX11_looksFor_193 rfl rfl rfl rfl rfl ?_
          refine tt_ld (M := MX11_looksFor) (pc := 194) dX11_looksFor_194 rfl rfl rfl rfl rfl ?_
          refine tt_getI (M := MX11_looksFor) (pc := 195) dX11_looksFor_195 rfl h0.1 rfl ?_
          refine tt_vcVN (M := MX11_looksFor) (pc := 198) dX11_looksFor_198 rfl rfl [] rfl rfl ⟨rfl, by decide, Nat.le_of_ble_eq_true rfl⟩ h0.1 fun S108 => ?_
          refine tt_ld (M := MX11_looksFor) (pc := 201) dX11_looksFor_201 rfl rfl rfl rfl rfl ?_
          refine tt_getR (M := MX11_looksFor) (pc := 202) dX11_looksFor_202 rfl h0.1 rfl ?_
          refine tt_ld (M := MX11_looksFor) (pc := 205) dX11_looksFor_205 rfl rfl rfl rfl rfl ?_
          refine tt_sipush (M := MX11_looksFor) (pc := 206) dX11_looksFor_206 (by decide) ?_
          refine tt_iadd (M := MX11_looksFor) (pc := 209) dX11_looksFor_209 ?_
          refine tt_ld (M := MX11_looksFor) (pc := 210) dX11_looksFor_210 rfl rfl rfl rfl rfl ?_
          refine tt_iadd (M := MX11_looksFor) (pc := 211) dX11_looksFor_211 ?_
          refine tt_iconst (M := MX11_looksFor) (pc := 212) dX11_looksFor_212 ?_
          refine tt_iastore (M := MX11_looksFor) (pc := 213) dX11_looksFor_213 h0.2.1 rfl ?_
          refine tt_bipush (M := MX11_looksFor) (pc := 214) dX11_looksFor_214 (by decide) ?_
          exact tt_iret (M := MX11_looksFor) (pc := 216) dX11_looksFor_216 rfl
      · refine tt_bipush (M := MX11_looksFor) (pc := 175) dX11_looksFor_175 (by decide) ?_
        exact tt_iret (M := MX11_looksFor) (pc := 177) dX11_looksFor_177 rfl
    · refine tt_ld (M := MX11_looksFor) (pc := 143) dX11_looksFor_143 rfl rfl rfl rfl rfl ?_
      refine tt_getR (M := MX11_looksFor) (pc := 144) dX11_looksFor_144 rfl h0.1 rfl ?_
      refine tt_ld (M := MX11_looksFor) (pc := 147) dX11_looksFor_147 rfl rfl rfl rfl rfl ?_
      refine tt_sipush (M := MX11_looksFor) (pc := 148) dX11_looksFor_148 (by decide) ?_
      refine tt_iadd (M := MX11_looksFor) (pc := 151) dX11_looksFor_151 ?_
      refine tt_ld (M := MX11_looksFor) (pc := 152) dX11_looksFor_152 rfl rfl rfl rfl rfl ?_
      refine tt_iadd (M := MX11_looksFor) (pc := 153) dX11_looksFor_153 ?_
      refine tt_ld (M := MX11_looksFor) (pc := 154) dX11_looksFor_154 rfl rfl rfl rfl rfl ?_
      refine tt_iastore (M := MX11_looksFor) (pc := 156) dX11_looksFor_156 h0.2.1 rfl ?_
      refine tt_bipush (M := MX11_looksFor) (pc := 157) dX11_looksFor_157 (by decide) ?_
      exact tt_iret (M := MX11_looksFor) (pc := 159) dX11_looksFor_159 rfl
  · refine tt_ld (M := MX11_looksFor) (pc := 108) dX11_looksFor_108 rfl rfl rfl rfl rfl ?_
    refine tt_ld (M := MX11_looksFor) (pc := 109) dX11_looksFor_109 rfl rfl rfl rfl rfl ?_
    refine tt_ld (M := MX11_looksFor) (pc := 110) dX11_looksFor_110 rfl rfl rfl rfl rfl ?_
    refine tt_ld (M := MX11_looksFor) (pc := 111) dX11_looksFor_111 rfl rfl rfl rfl rfl ?_
    refine tt_vcVN (M := MX11_looksFor) (pc := 113) dX11_looksFor_113 rfl rfl [] rfl rfl ⟨rfl, by decide, Nat.le_of_ble_eq_true rfl⟩ h0.1 fun S109 => ?_
    refine tt_iconst (M := MX11_looksFor) (pc := 116) dX11_looksFor_116 ?_
    exact tt_iret (M := MX11_looksFor) (pc := 117) dX11_looksFor_117 rfl
theorem qX11_looksFor_292 {sc : Nat × (Nat → Int32)} {SH : List mCell} {S : mStore} {r : mR × mW} (h0 : sMod SH) {l1 : Int} {l2 : Int} {l3 : Int} {l4 : Int} {l5 : Int} {l6 : Int} {l7 : Int} {l8 : Int} {l9 : Int} {l10 : Int} : ((((0 : Int) ≤ (l1 + 16) + l10 ∧ (l1 + 16) + l10 < 137400) ∧ (∃ S101, G sc MX11_comesTo 0 [some (.ref 90), some (.int (I l1)), some (.int (I (S 91 ((l1 + 16) + l10)))), some (.int (I l5))] [] SH S (rV SH S101) ∧ (((0 : Int) ≤ (l1 + 16) + l10 ∧ (l1 + 16) + l10 < 137400) ∧ (∃ S102, G sc MX11_movesTo 0 [some (.ref 90), some (.int (I l1)), some (.int (I l2)), some (.int (I (S101 91 ((l1 + 16) + l10))))] [] SH S101 (rV SH S102) ∧ r = rI 8 SH S102))))) → G sc MX11_looksFor 292 [some (.ref 90), some (.int (I l1)), some (.int (I l2)), some (.int (I l3)), some (.int (I l4)), some (.int (I l5)), some (.int (I l6)), some (.int (I l7)), some (.int (I l8)), some (.int (I l9)), some (.int (I l10))] [] SH S r := by
  refine tt_ld (M := MX11_looksFor) (pc := 292) dX11_looksFor_292 rfl rfl rfl rfl rfl ?_
  refine tt_ld (M := MX11_looksFor) (pc := 293) dX11_looksFor_293 rfl rfl rfl rfl rfl ?_
  refine tt_ld (M := MX11_looksFor) (pc := 294) dX11_looksFor_294 rfl rfl rfl rfl rfl ?_
  refine tt_getR (M := MX11_looksFor) (pc := 295) dX11_looksFor_295 rfl h0.1 rfl ?_
  refine tt_ld (M := MX11_looksFor) (pc := 298) dX11_looksFor_298 rfl rfl rfl rfl rfl ?_
  refine tt_bipush (M := MX11_looksFor) (pc := 299) dX11_looksFor_299 (by decide) ?_
  refine tt_iadd (M := MX11_looksFor) (pc := 301) dX11_looksFor_301 ?_
  refine tt_ld (M := MX11_looksFor) (pc := 302) dX11_looksFor_302 rfl rfl rfl rfl rfl ?_
  refine tt_iadd (M := MX11_looksFor) (pc := 304) dX11_looksFor_304 ?_
  refine tt_iaload (M := MX11_looksFor) (pc := 305) dX11_looksFor_305 h0.2.1 rfl ?_
  refine tt_ld (M := MX11_looksFor) (pc := 306) dX11_looksFor_306 rfl rfl rfl rfl rfl ?_
  refine tt_vcVN (M := MX11_looksFor) (pc := 308) dX11_looksFor_308 rfl rfl [] rfl rfl ⟨rfl, by decide, Nat.le_of_ble_eq_true rfl⟩ h0.1 fun S101 => ?_
  refine tt_ld (M := MX11_looksFor) (pc := 311) dX11_looksFor_311 rfl rfl rfl rfl rfl ?_
  refine tt_ld (M := MX11_looksFor) (pc := 312) dX11_looksFor_312 rfl rfl rfl rfl rfl ?_
  refine tt_ld (M := MX11_looksFor) (pc := 313) dX11_looksFor_313 rfl rfl rfl rfl rfl ?_
  refine tt_ld (M := MX11_looksFor) (pc := 314) dX11_looksFor_314 rfl rfl rfl rfl rfl ?_
  refine tt_getR (M := MX11_looksFor) (pc := 315) dX11_looksFor_315 rfl h0.1 rfl ?_
  refine tt_ld (M := MX11_looksFor) (pc := 318) dX11_looksFor_318 rfl rfl rfl rfl rfl ?_
  refine tt_bipush (M := MX11_looksFor) (pc := 319) dX11_looksFor_319 (by decide) ?_
  refine tt_iadd (M := MX11_looksFor) (pc := 321) dX11_looksFor_321 ?_
  refine tt_ld (M := MX11_looksFor) (pc := 322) dX11_looksFor_322 rfl rfl rfl rfl rfl ?_
  refine tt_iadd (M := MX11_looksFor) (pc := 324) dX11_looksFor_324 ?_
  refine tt_iaload (M := MX11_looksFor) (pc := 325) dX11_looksFor_325 h0.2.1 rfl ?_
  refine tt_vcVN (M := MX11_looksFor) (pc := 326) dX11_looksFor_326 rfl rfl [] rfl rfl ⟨rfl, by decide, Nat.le_of_ble_eq_true rfl⟩ h0.1 fun S102 => ?_
  refine tt_bipush (M := MX11_looksFor) (pc := 329) dX11_looksFor_329 (by decide) ?_
  exact tt_iret (M := MX11_looksFor) (pc := 331) dX11_looksFor_331 rfl
theorem qX11_befalls_0 {sc : Nat × (Nat → Int32)} {SH : List mCell} {S : mStore} {r : mR × mW} (h0 : sMod SH) {l1 : Int} {l2 : Int} : ((((0 : Int) ≤ (l1 + 16) + l2 ∧ (l1 + 16) + l2 < 137400) ∧ (if I (S 91 ((l1 + 16) + l2)) = I (-1) then r = rI 1 SH S else (∃ v101 S102, G sc MX11_isMerged 0 [some (.ref 90), some (.int (I l1)), some (.int (I l2))] [] SH S (rI v101 SH S102) ∧ (if I v101 = I 0 then (if I (S102 90 17) = I 1 then (((0 : Int) ≤ (l1 + 256) + l2 ∧ (l1 + 256) + l2 < 137400) ∧ (if I (S102 91 ((l1 + 256) + l2)) ≤ I 0 then (if I (S102 90 16) = I 1 then (∃ v111 S112, G sc MX11_isZero 0 [some (.ref 90), some (.int (I l1)), some (.int (I l2))] [] SH S102 (rI v111 SH S112) ∧ (if I v111 = I 0 then (∃ v113 S114, G sc MX11_looksFor 0 [some (.ref 90), some (.int (I l1)), some (.int (I l2)), none, none, none, none, none, none, none, none] [] SH S112 (rI v113 SH S114) ∧ r = rI v113 SH S114) else r = rI 4 SH S112)) else (∃ v109 S110, G sc MX11_looksFor 0 [some (.ref 90), some (.int (I l1)), some (.int (I l2)), none, none, none, none, none, none, none, none] [] SH S102 (rI v109 SH S110) ∧ r = rI v109 SH S110)) else r = rI 3 SH S102)) else (if I (S102 90 16) = I 1 then (∃ v105 S106, G sc MX11_isZero 0 [some (.ref 90), some (.int (I l1)), some (.int (I l2))] [] SH S102 (rI v105 SH S106) ∧ (if I v105 = I 0 then (∃ v107 S108, G sc MX11_looksFor 0 [some (.ref 90), some (.int (I l1)), some (.int (I l2)), none, none, none, none, none, none, none, none] [] SH S106 (rI v107 SH S108) ∧ r = rI v107 SH S108) else r = rI 4 SH S106)) else (∃ v103 S104, G sc MX11_looksFor 0 [some (.ref 90), some (.int (I l1)), some (.int (I l2)), none, none, none, none, none, none, none, none] [] SH S102 (rI v103 SH S104) ∧ r = rI v103 SH S104))) else r = rI 2 SH S102))))) → G sc MX11_befalls 0 [some (.ref 90), some (.int (I l1)), some (.int (I l2))] [] SH S r := by
  refine tt_ld (M := MX11_befalls) (pc := 0) dX11_befalls_0 rfl rfl rfl rfl rfl ?_
  refine tt_getR (M := MX11_befalls) (pc := 1) dX11_befalls_1 rfl h0.1 rfl ?_
  refine tt_ld (M := MX11_befalls) (pc := 4) dX11_befalls_4 rfl rfl rfl rfl rfl ?_
  refine tt_bipush (M := MX11_befalls) (pc := 5) dX11_befalls_5 (by decide) ?_
  refine tt_iadd (M := MX11_befalls) (pc := 7) dX11_befalls_7 ?_
  refine tt_ld (M := MX11_befalls) (pc := 8) dX11_befalls_8 rfl rfl rfl rfl rfl ?_
  refine tt_iadd (M := MX11_befalls) (pc := 9) dX11_befalls_9 ?_
  refine tt_iaload (M := MX11_befalls) (pc := 10) dX11_befalls_10 h0.2.1 rfl ?_
  refine tt_iconst (M := MX11_befalls) (pc := 11) dX11_befalls_11 ?_
  refine tt_ic_ne (M := MX11_befalls) (pc := 12) 17 dX11_befalls_12 rfl ?_ ?_
  · refine tt_ld (M := MX11_befalls) (pc := 17) dX11_befalls_17 rfl rfl rfl rfl rfl ?_
    refine tt_ld (M := MX11_befalls) (pc := 18) dX11_befalls_18 rfl rfl rfl rfl rfl ?_
    refine tt_ld (M := MX11_befalls) (pc := 19) dX11_befalls_19 rfl rfl rfl rfl rfl ?_
    refine tt_vcIN (M := MX11_befalls) (pc := 20) dX11_befalls_20 rfl rfl [] rfl rfl ⟨rfl, by decide, Nat.le_of_ble_eq_true rfl⟩ h0.1 fun v101 S102 => ?_
    refine tt_if_eq (M := MX11_befalls) (pc := 23) 28 dX11_befalls_23 rfl ?_ ?_
    · refine tt_ld (M := MX11_befalls) (pc := 28) dX11_befalls_28 rfl rfl rfl rfl rfl ?_
      refine tt_getI (M := MX11_befalls) (pc := 29) dX11_befalls_29 rfl h0.1 rfl ?_
      refine tt_iconst (M := MX11_befalls) (pc := 32) dX11_befalls_32 ?_
      refine tt_ic_ne (M := MX11_befalls) (pc := 33) 53 dX11_befalls_33 rfl ?_ ?_
      · refine tt_ld (M := MX11_befalls) (pc := 53) dX11_befalls_53 rfl rfl rfl rfl rfl ?_
        refine tt_getI (M := MX11_befalls) (pc := 54) dX11_befalls_54 rfl h0.1 rfl ?_
        refine tt_iconst (M := MX11_befalls) (pc := 57) dX11_befalls_57 ?_
        refine tt_ic_ne (M := MX11_befalls) (pc := 58) 74 dX11_befalls_58 rfl ?_ ?_
        · refine tt_ld (M := MX11_befalls) (pc := 74) dX11_befalls_74 rfl rfl rfl rfl rfl ?_
          refine tt_ld (M := MX11_befalls) (pc := 75) dX11_befalls_75 rfl rfl rfl rfl rfl ?_
          refine tt_ld (M := MX11_befalls) (pc := 76) dX11_befalls_76 rfl rfl rfl rfl rfl ?_
          refine tt_vcIN (M := MX11_befalls) (pc := 77) dX11_befalls_77 rfl rfl [] rfl rfl ⟨rfl, by decide, Nat.le_of_ble_eq_true rfl⟩ h0.1 fun v103 S104 => ?_
          exact tt_iret (M := MX11_befalls) (pc := 80) dX11_befalls_80 rfl
        · refine tt_ld (M := MX11_befalls) (pc := 61) dX11_befalls_61 rfl rfl rfl rfl rfl ?_
          refine tt_ld (M := MX11_befalls) (pc := 62) dX11_befalls_62 rfl rfl rfl rfl rfl ?_
          refine tt_ld (M := MX11_befalls) (pc := 63) dX11_befalls_63 rfl rfl rfl rfl rfl ?_
          refine tt_vcIN (M := MX11_befalls) (pc := 64) dX11_befalls_64 rfl rfl [] rfl rfl ⟨rfl, by decide, Nat.le_of_ble_eq_true rfl⟩ h0.1 fun v105 S106 => ?_
          refine tt_if_eq (M := MX11_befalls) (pc := 67) 74 dX11_befalls_67 rfl ?_ ?_
          · refine tt_ld (M := MX11_befalls) (pc := 74) dX11_befalls_74 rfl rfl rfl rfl rfl ?_
            refine tt_ld (M := MX11_befalls) (pc := 75) dX11_befalls_75 rfl rfl rfl rfl rfl ?_
            refine tt_ld (M := MX11_befalls) (pc := 76) dX11_befalls_76 rfl rfl rfl rfl rfl ?_
            refine tt_vcIN (M := MX11_befalls) (pc := 77) dX11_befalls_77 rfl rfl [] rfl rfl ⟨rfl, by decide, Nat.le_of_ble_eq_true rfl⟩ h0.1 fun v107 S108 => ?_
            exact tt_iret (M := MX11_befalls) (pc := 80) dX11_befalls_80 rfl
          · refine tt_iconst (M := MX11_befalls) (pc := 70) dX11_befalls_70 ?_
            refine tt_goto (M := MX11_befalls) (pc := 71) 80 dX11_befalls_71 rfl ?_
            exact tt_iret (M := MX11_befalls) (pc := 80) dX11_befalls_80 rfl
      · refine tt_ld (M := MX11_befalls) (pc := 36) dX11_befalls_36 rfl rfl rfl rfl rfl ?_
        refine tt_getR (M := MX11_befalls) (pc := 37) dX11_befalls_37 rfl h0.1 rfl ?_
        refine tt_ld (M := MX11_befalls) (pc := 40) dX11_befalls_40 rfl rfl rfl rfl rfl ?_
        refine tt_sipush (M := MX11_befalls) (pc := 41) dX11_befalls_41 (by decide) ?_
        refine tt_iadd (M := MX11_befalls) (pc := 44) dX11_befalls_44 ?_
        refine tt_ld (M := MX11_befalls) (pc := 45) dX11_befalls_45 rfl rfl rfl rfl rfl ?_
        refine tt_iadd (M := MX11_befalls) (pc := 46) dX11_befalls_46 ?_
        refine tt_iaload (M := MX11_befalls) (pc := 47) dX11_befalls_47 h0.2.1 rfl ?_
        refine tt_if_le (M := MX11_befalls) (pc := 48) 53 dX11_befalls_48 rfl ?_ ?_
        · refine tt_ld (M := MX11_befalls) (pc := 53) dX11_befalls_53 rfl rfl rfl rfl rfl ?_
          refine tt_getI (M := MX11_befalls) (pc := 54) dX11_befalls_54 rfl h0.1 rfl ?_
          refine tt_iconst (M := MX11_befalls) (pc := 57) dX11_befalls_57 ?_
          refine tt_ic_ne (M := MX11_befalls) (pc := 58) 74 dX11_befalls_58 rfl ?_ ?_
          · refine tt_ld (M := MX11_befalls) (pc := 74) dX11_befalls_74 rfl rfl rfl rfl rfl ?_
            refine tt_ld (M := MX11_befalls) (pc := 75) dX11_befalls_75 rfl rfl rfl rfl rfl ?_
            refine tt_ld (M := MX11_befalls) (pc := 76) dX11_befalls_76 rfl rfl rfl rfl rfl ?_
            refine tt_vcIN (M := MX11_befalls) (pc := 77) dX11_befalls_77 rfl rfl [] rfl rfl ⟨rfl, by decide, Nat.le_of_ble_eq_true rfl⟩ h0.1 fun v109 S110 => ?_
            exact tt_iret (M := MX11_befalls) (pc := 80) dX11_befalls_80 rfl
          · refine tt_ld (M := MX11_befalls) (pc := 61) dX11_befalls_61 rfl rfl rfl rfl rfl ?_
            refine tt_ld (M := MX11_befalls) (pc := 62) dX11_befalls_62 rfl rfl rfl rfl rfl ?_
            refine tt_ld (M := MX11_befalls) (pc := 63) dX11_befalls_63 rfl rfl rfl rfl rfl ?_
            refine tt_vcIN (M := MX11_befalls) (pc := 64) dX11_befalls_64 rfl rfl [] rfl rfl ⟨rfl, by decide, Nat.le_of_ble_eq_true rfl⟩ h0.1 fun v111 S112 => ?_
            refine tt_if_eq (M := MX11_befalls) (pc := 67) 74 dX11_befalls_67 rfl ?_ ?_
            · refine tt_ld (M := MX11_befalls) (pc := 74) dX11_befalls_74 rfl rfl rfl rfl rfl ?_
              refine tt_ld (M := MX11_befalls) (pc := 75) dX11_befalls_75 rfl rfl rfl rfl rfl ?_
              refine tt_ld (M := MX11_befalls) (pc := 76) dX11_befalls_76 rfl rfl rfl rfl rfl ?_
              refine tt_vcIN (M := MX11_befalls) (pc := 77) dX11_befalls_77 rfl rfl [] rfl rfl ⟨rfl, by decide, Nat.le_of_ble_eq_true rfl⟩ h0.1 fun v113 S114 => ?_
              exact tt_iret (M := MX11_befalls) (pc := 80) dX11_befalls_80 rfl
            · refine tt_iconst (M := MX11_befalls) (pc := 70) dX11_befalls_70 ?_
              refine tt_goto (M := MX11_befalls) (pc := 71) 80 dX11_befalls_71 rfl ?_
              exact tt_iret (M := MX11_befalls) (pc := 80) dX11_befalls_80 rfl
        · refine tt_iconst (M := MX11_befalls) (pc := 51) dX11_befalls_51 ?_
          exact tt_iret (M := MX11_befalls) (pc := 52) dX11_befalls_52 rfl
    · refine tt_iconst (M := MX11_befalls) (pc := 26) dX11_befalls_26 ?_
      exact tt_iret (M := MX11_befalls) (pc := 27) dX11_befalls_27 rfl
  · refine tt_iconst (M := MX11_befalls) (pc := 15) dX11_befalls_15 ?_
    exact tt_iret (M := MX11_befalls) (pc := 16) dX11_befalls_16 rfl
theorem qX11_restOf_0 {sc : Nat × (Nat → Int32)} {SH : List mCell} {S : mStore} {r : mR × mW} {l0 : Int} : ((if I 3 ≤ I l0 then (if I 5 ≤ I l0 then (if I 8 ≤ I l0 then r = rI 4 SH S else r = rI 2 SH S) else r = rI 1 SH S) else r = rI 0 SH S)) → G sc MX11_restOf 0 [some (.int (I l0))] [] SH S r := by
  refine tt_ld (M := MX11_restOf) (pc := 0) dX11_restOf_0 rfl rfl rfl rfl rfl ?_
  refine tt_iconst (M := MX11_restOf) (pc := 1) dX11_restOf_1 ?_
  refine tt_ic_ge (M := MX11_restOf) (pc := 2) 9 dX11_restOf_2 rfl ?_ ?_
  · refine tt_ld (M := MX11_restOf) (pc := 9) dX11_restOf_9 rfl rfl rfl rfl rfl ?_
    refine tt_iconst (M := MX11_restOf) (pc := 10) dX11_restOf_10 ?_
    refine tt_ic_ge (M := MX11_restOf) (pc := 11) 18 dX11_restOf_11 rfl ?_ ?_
    · refine tt_ld (M := MX11_restOf) (pc := 18) dX11_restOf_18 rfl rfl rfl rfl rfl ?_
      refine tt_bipush (M := MX11_restOf) (pc := 19) dX11_restOf_19 (by decide) ?_
      refine tt_ic_ge (M := MX11_restOf) (pc := 21) 28 dX11_restOf_21 rfl ?_ ?_
      · refine tt_iconst (M := MX11_restOf) (pc := 28) dX11_restOf_28 ?_
        exact tt_iret (M := MX11_restOf) (pc := 29) dX11_restOf_29 rfl
      · refine tt_iconst (M := MX11_restOf) (pc := 24) dX11_restOf_24 ?_
        refine tt_goto (M := MX11_restOf) (pc := 25) 29 dX11_restOf_25 rfl ?_
        exact tt_iret (M := MX11_restOf) (pc := 29) dX11_restOf_29 rfl
    · refine tt_iconst (M := MX11_restOf) (pc := 14) dX11_restOf_14 ?_
      refine tt_goto (M := MX11_restOf) (pc := 15) 29 dX11_restOf_15 rfl ?_
      exact tt_iret (M := MX11_restOf) (pc := 29) dX11_restOf_29 rfl
  · refine tt_iconst (M := MX11_restOf) (pc := 5) dX11_restOf_5 ?_
    refine tt_goto (M := MX11_restOf) (pc := 6) 29 dX11_restOf_6 rfl ?_
    exact tt_iret (M := MX11_restOf) (pc := 29) dX11_restOf_29 rfl
