-- needs: 43.tshape
/-! ===== the program as conditions (gen_vc.py) ===== -/
theorem qX11_look_0 {sc : Nat × (Nat → Int32)} {SH : List mCell} {S : mStore} {r : mR × mW} (h0 : sMod SH) {l1 : Int} {l2 : Int} {l3 : Int} {l4 : Int} {u5 : Option Value} {u6 : Option Value} {u7 : Option Value} : ((∃ v101 S102, G sc MX11_isPage 0 [some (.ref 90), some (.int (I l1)), some (.int (I l2))] [] SH (up S 90 4 0) (rI v101 SH S102) ∧ (if I v101 = I 0 then r = rI 0 SH S102 else (∃ v103 S104, G sc MX11_within 0 [some (.int (I l3)), some (.int (I 0)), some (.int (I 3))] [] SH S102 (rI v103 SH S104) ∧ (if I v103 = I 0 then (∃ v105 S106, G sc MX11_right 0 [some (.ref 90), some (.int (I 0)), some (.int (I 1))] [] SH S104 (rI v105 SH S106) ∧ (if I v105 = I 0 then r = rI 0 SH S106 else G sc MX11_look 51 [some (.ref 90), some (.int (I l1)), some (.int (I l2)), some (.int (I l3)), some (.int (I l4)), some (.int (I 0)), u6, u7] [] SH S106 r)) else (∃ v107 S108, G sc MX11_within 0 [some (.int (I l4)), some (.int (I 0)), some (.int (I 1))] [] SH S104 (rI v107 SH S108) ∧ (if I v107 = I 0 then (∃ v109 S110, G sc MX11_right 0 [some (.ref 90), some (.int (I 0)), some (.int (I 1))] [] SH S108 (rI v109 SH S110) ∧ (if I v109 = I 0 then r = rI 0 SH S110 else G sc MX11_look 51 [some (.ref 90), some (.int (I l1)), some (.int (I l2)), some (.int (I l3)), some (.int (I l4)), some (.int (I 0)), u6, u7] [] SH S110 r)) else (∃ v111 S112, G sc MX11_right 0 [some (.ref 90), some (.int (I 1)), some (.int (I 1))] [] SH S108 (rI v111 SH S112) ∧ (if I v111 = I 0 then r = rI 0 SH S112 else G sc MX11_look 51 [some (.ref 90), some (.int (I l1)), some (.int (I l2)), some (.int (I l3)), some (.int (I l4)), some (.int (I 0)), u6, u7] [] SH S112 r))))))))) → G sc MX11_look 0 [some (.ref 90), some (.int (I l1)), some (.int (I l2)), some (.int (I l3)), some (.int (I l4)), u5, u6, u7] [] SH S r := by
  refine tt_ld (M := MX11_look) (pc := 0) dX11_look_0 rfl rfl rfl rfl rfl ?_
  refine tt_iconst (M := MX11_look) (pc := 1) dX11_look_1 ?_
  refine tt_putI (M := MX11_look) (pc := 2) dX11_look_2 rfl rfl (Or.inl rfl) h0.1 rfl ?_
  refine tt_ld (M := MX11_look) (pc := 5) dX11_look_5 rfl rfl rfl rfl rfl ?_
  refine tt_ld (M := MX11_look) (pc := 6) dX11_look_6 rfl rfl rfl rfl rfl ?_
  refine tt_ld (M := MX11_look) (pc := 7) dX11_look_7 rfl rfl rfl rfl rfl ?_
  refine tt_vcIN (M := MX11_look) (pc := 8) dX11_look_8 rfl rfl [] rfl rfl ⟨rfl, by decide, Nat.le_of_ble_eq_true rfl⟩ h0.1 fun v101 S102 => ?_
  refine tt_if_eq (M := MX11_look) (pc := 11) 46 dX11_look_11 rfl ?_ ?_
  · refine tt_iconst (M := MX11_look) (pc := 46) dX11_look_46 ?_
    exact tt_iret (M := MX11_look) (pc := 47) dX11_look_47 rfl
  · refine tt_ld (M := MX11_look) (pc := 14) dX11_look_14 rfl rfl rfl rfl rfl ?_
    refine tt_ld (M := MX11_look) (pc := 15) dX11_look_15 rfl rfl rfl rfl rfl ?_
    refine tt_iconst (M := MX11_look) (pc := 16) dX11_look_16 ?_
    refine tt_iconst (M := MX11_look) (pc := 17) dX11_look_17 ?_
    refine tt_scIN (M := MX11_look) (pc := 18) dX11_look_18 rfl [.ref 90] rfl rfl ⟨rfl, by decide, Nat.le_of_ble_eq_true rfl⟩ fun v103 S104 => ?_
    refine tt_if_eq (M := MX11_look) (pc := 21) 38 dX11_look_21 rfl ?_ ?_
    · refine tt_iconst (M := MX11_look) (pc := 38) dX11_look_38 ?_
      refine tt_iconst (M := MX11_look) (pc := 39) dX11_look_39 ?_
      refine tt_vcIN (M := MX11_look) (pc := 40) dX11_look_40 rfl rfl [] rfl rfl ⟨rfl, by decide, Nat.le_of_ble_eq_true rfl⟩ h0.1 fun v105 S106 => ?_
      refine tt_if_ne (M := MX11_look) (pc := 43) 48 dX11_look_43 rfl ?_ ?_
      · refine tt_iconst (M := MX11_look) (pc := 48) dX11_look_48 ?_
        refine tt_st (M := MX11_look) (pc := 49) [some (.ref 90), some (.int (I l1)), some (.int (I l2)), some (.int (I l3)), some (.int (I l4)), some (.int (I 0)), u6, u7] dX11_look_49 rfl rfl rfl rfl rfl rfl ?_
        exact id
      · refine tt_iconst (M := MX11_look) (pc := 46) dX11_look_46 ?_
        exact tt_iret (M := MX11_look) (pc := 47) dX11_look_47 rfl
    · refine tt_ld (M := MX11_look) (pc := 24) dX11_look_24 rfl rfl rfl rfl rfl ?_
      refine tt_iconst (M := MX11_look) (pc := 26) dX11_look_26 ?_
      refine tt_iconst (M := MX11_look) (pc := 27) dX11_look_27 ?_
      refine tt_scIN (M := MX11_look) (pc := 28) dX11_look_28 rfl [.ref 90] rfl rfl ⟨rfl, by decide, Nat.le_of_ble_eq_true rfl⟩ fun v107 S108 => ?_
      refine tt_if_eq (M := MX11_look) (pc := 31) 38 dX11_look_31 rfl ?_ ?_
      · refine tt_iconst (M := MX11_look) (pc := 38) dX11_look_38 ?_
        refine tt_iconst (M := MX11_look) (pc := 39) dX11_look_39 ?_
        refine tt_vcIN (M := MX11_look) (pc := 40) dX11_look_40 rfl rfl [] rfl rfl ⟨rfl, by decide, Nat.le_of_ble_eq_true rfl⟩ h0.1 fun v109 S110 => ?_
        refine tt_if_ne (M := MX11_look) (pc := 43) 48 dX11_look_43 rfl ?_ ?_
        · refine tt_iconst (M := MX11_look) (pc := 48) dX11_look_48 ?_
          refine tt_st (M := MX11_look) (pc := 49) [some (.ref 90), some (.int (I l1)), some (.int (I l2)), some (.int (I l3)), some (.int (I l4)), some (.int (I 0)), u6, u7] dX11_look_49 rfl rfl rfl rfl rfl rfl ?_
          exact id
        · refine tt_iconst (M := MX11_look) (pc := 46) dX11_look_46 ?_
          exact tt_iret (M := MX11_look) (pc := 47) dX11_look_47 rfl
      · refine tt_iconst (M := MX11_look) (pc := 34) dX11_look_34 ?_
        refine tt_goto (M := MX11_look) (pc := 35) 39 dX11_look_35 rfl ?_
        refine tt_iconst (M := MX11_look) (pc := 39) dX11_look_39 ?_
        refine tt_vcIN (M := MX11_look) (pc := 40) dX11_look_40 rfl rfl [] rfl rfl ⟨rfl, by decide, Nat.le_of_ble_eq_true rfl⟩ h0.1 fun v111 S112 => ?_
        refine tt_if_ne (M := MX11_look) (pc := 43) 48 dX11_look_43 rfl ?_ ?_
        · refine tt_iconst (M := MX11_look) (pc := 48) dX11_look_48 ?_
          refine tt_st (M := MX11_look) (pc := 49) [some (.ref 90), some (.int (I l1)), some (.int (I l2)), some (.int (I l3)), some (.int (I l4)), some (.int (I 0)), u6, u7] dX11_look_49 rfl rfl rfl rfl rfl rfl ?_
          exact id
        · refine tt_iconst (M := MX11_look) (pc := 46) dX11_look_46 ?_
          exact tt_iret (M := MX11_look) (pc := 47) dX11_look_47 rfl
theorem qX11_look_51 {sc : Nat × (Nat → Int32)} {SH : List mCell} {S : mStore} {r : mR × mW} (h0 : sMod SH) {l1 : Int} {l2 : Int} {l3 : Int} {l4 : Int} {l5 : Int} {u6 : Option Value} {u7 : Option Value} : ((if I 20 < I l5 then G sc MX11_look 75 [some (.ref 90), some (.int (I l1)), some (.int (I l2)), some (.int (I l3)), some (.int (I l4)), some (.int (I 0)), u6, u7] [] SH S r else (((0 : Int) ≤ l5 ∧ l5 < 21) ∧ G sc MX11_look 51 [some (.ref 90), some (.int (I l1)), some (.int (I l2)), some (.int (I l3)), some (.int (I l4)), some (.int (I (l5 + 1))), u6, u7] [] SH (up S 109 l5 ((0 : Int64)).toInt) r))) → G sc MX11_look 51 [some (.ref 90), some (.int (I l1)), some (.int (I l2)), some (.int (I l3)), some (.int (I l4)), some (.int (I l5)), u6, u7] [] SH S r := by
  refine tt_ld (M := MX11_look) (pc := 51) dX11_look_51 rfl rfl rfl rfl rfl ?_
  refine tt_bipush (M := MX11_look) (pc := 53) dX11_look_53 (by decide) ?_
  refine tt_ic_gt (M := MX11_look) (pc := 55) 72 dX11_look_55 rfl ?_ ?_
  · refine tt_iconst (M := MX11_look) (pc := 72) dX11_look_72 ?_
    refine tt_st (M := MX11_look) (pc := 73) [some (.ref 90), some (.int (I l1)), some (.int (I l2)), some (.int (I l3)), some (.int (I l4)), some (.int (I 0)), u6, u7] dX11_look_73 rfl rfl rfl rfl rfl rfl ?_
    exact id
  · refine tt_ld (M := MX11_look) (pc := 58) dX11_look_58 rfl rfl rfl rfl rfl ?_
    refine tt_getR (M := MX11_look) (pc := 59) dX11_look_59 rfl h0.1 rfl ?_
    refine tt_ld (M := MX11_look) (pc := 62) dX11_look_62 rfl rfl rfl rfl rfl ?_
    refine tt_pushv (M := MX11_look) (pc := 64) (.long 0) dX11_look_64 rfl rfl ?_
    refine tt_lastore (M := MX11_look) (pc := 65) dX11_look_65 h0.2.2.2.2.2.2.2.2.2.2.2.2.2.2.2.2.2.2.2 rfl ?_
    refine tt_iinc (M := MX11_look) (pc := 66) [some (.ref 90), some (.int (I l1)), some (.int (I l2)), some (.int (I l3)), some (.int (I l4)), some (.int (I (l5 + 1))), u6, u7] dX11_look_66 rfl rfl ?_
    refine tt_goto (M := MX11_look) (pc := 69) 51 dX11_look_69 rfl ?_
    exact id
theorem qX11_look_75 {sc : Nat × (Nat → Int32)} {SH : List mCell} {S : mStore} {r : mR × mW} (h0 : sMod SH) {l1 : Int} {l2 : Int} {l3 : Int} {l4 : Int} {l5 : Int} {u6 : Option Value} {u7 : Option Value} : ((if I 16 ≤ I l5 then G sc MX11_look 153 [some (.ref 90), some (.int (I l1)), some (.int (I l2)), some (.int (I l3)), some (.int (I l4)), some (.int (I (-1))), some (.int (I 0)), some (.int (I 1))] [] SH S r else (((0 : Int) ≤ l1 ∧ l1 < 5) ∧ (∃ v101 S102, G sc MX11_isGuess 0 [some (.ref 90), some (.int (I ((S 97 l1) + l2))), some (.int (I l3)), some (.int (I l5))] [] SH S (rI v101 SH S102) ∧ (if I v101 = I 0 then G sc MX11_look 138 [some (.ref 90), some (.int (I l1)), some (.int (I l2)), some (.int (I l3)), some (.int (I l4)), some (.int (I l5)), u6, u7] [] SH S102 r else G sc MX11_look 106 [some (.ref 90), some (.int (I l1)), some (.int (I l2)), some (.int (I l3)), some (.int (I l4)), some (.int (I l5)), some (.int (I 1)), u7] [] SH S102 r))))) → G sc MX11_look 75 [some (.ref 90), some (.int (I l1)), some (.int (I l2)), some (.int (I l3)), some (.int (I l4)), some (.int (I l5)), u6, u7] [] SH S r := by
  refine tt_ld (M := MX11_look) (pc := 75) dX11_look_75 rfl rfl rfl rfl rfl ?_
  refine tt_bipush (M := MX11_look) (pc := 77) dX11_look_77 (by decide) ?_
  refine tt_ic_ge (M := MX11_look) (pc := 79) 144 dX11_look_79 rfl ?_ ?_
  · refine tt_iconst (M := MX11_look) (pc := 144) dX11_look_144 ?_
    refine tt_st (M := MX11_look) (pc := 145) [some (.ref 90), some (.int (I l1)), some (.int (I l2)), some (.int (I l3)), some (.int (I l4)), some (.int (I (-1))), u6, u7] dX11_look_145 rfl rfl rfl rfl rfl rfl ?_
    refine tt_iconst (M := MX11_look) (pc := 147) dX11_look_147 ?_
    refine tt_st (M := MX11_look) (pc := 148) [some (.ref 90), some (.int (I l1)), some (.int (I l2)), some (.int (I l3)), some (.int (I l4)), some (.int (I (-1))), some (.int (I 0)), u7] dX11_look_148 rfl rfl rfl rfl rfl rfl ?_
    refine tt_iconst (M := MX11_look) (pc := 150) dX11_look_150 ?_
    refine tt_st (M := MX11_look) (pc := 151) [some (.ref 90), some (.int (I l1)), some (.int (I l2)), some (.int (I l3)), some (.int (I l4)), some (.int (I (-1))), some (.int (I 0)), some (.int (I 1))] dX11_look_151 rfl rfl rfl rfl rfl rfl ?_
    exact id
  · refine tt_ld (M := MX11_look) (pc := 82) dX11_look_82 rfl rfl rfl rfl rfl ?_
    refine tt_ld (M := MX11_look) (pc := 83) dX11_look_83 rfl rfl rfl rfl rfl ?_
    refine tt_getR (M := MX11_look) (pc := 84) dX11_look_84 rfl h0.1 rfl ?_
    refine tt_ld (M := MX11_look) (pc := 87) dX11_look_87 rfl rfl rfl rfl rfl ?_
    refine tt_iaload (M := MX11_look) (pc := 88) dX11_look_88 h0.2.2.2.2.2.2.2.1 rfl ?_
    refine tt_ld (M := MX11_look) (pc := 89) dX11_look_89 rfl rfl rfl rfl rfl ?_
    refine tt_iadd (M := MX11_look) (pc := 90) dX11_look_90 ?_
    refine tt_ld (M := MX11_look) (pc := 91) dX11_look_91 rfl rfl rfl rfl rfl ?_
    refine tt_ld (M := MX11_look) (pc := 92) dX11_look_92 rfl rfl rfl rfl rfl ?_
    refine tt_vcIN (M := MX11_look) (pc := 94) dX11_look_94 rfl rfl [] rfl rfl ⟨rfl, by decide, Nat.le_of_ble_eq_true rfl⟩ h0.1 fun v101 S102 => ?_
    refine tt_if_ne (M := MX11_look) (pc := 97) 103 dX11_look_97 rfl ?_ ?_
    · refine tt_iconst (M := MX11_look) (pc := 103) dX11_look_103 ?_
      refine tt_st (M := MX11_look) (pc := 104) [some (.ref 90), some (.int (I l1)), some (.int (I l2)), some (.int (I l3)), some (.int (I l4)), some (.int (I l5)), some (.int (I 1)), u7] dX11_look_104 rfl rfl rfl rfl rfl rfl ?_
      exact id
    · refine tt_goto (M := MX11_look) (pc := 100) 138 dX11_look_100 rfl ?_
      exact id
theorem qX11_look_106 {sc : Nat × (Nat → Int32)} {SH : List mCell} {S : mStore} {r : mR × mW} (h0 : sMod SH) {l1 : Int} {l2 : Int} {l3 : Int} {l4 : Int} {l5 : Int} {l6 : Int} {u7 : Option Value} : ((if I 20 < I l6 then G sc MX11_look 138 [some (.ref 90), some (.int (I l1)), some (.int (I l2)), some (.int (I l3)), some (.int (I l4)), some (.int (I l5)), some (.int (I l6)), u7] [] SH S r else (((0 : Int) ≤ l6 ∧ l6 < 21) ∧ (((0 : Int) ≤ l6 ∧ l6 < 21) ∧ (((0 : Int) ≤ l6 ∧ l6 < 21) ∧ G sc MX11_look 106 [some (.ref 90), some (.int (I l1)), some (.int (I l2)), some (.int (I l3)), some (.int (I l4)), some (.int (I l5)), some (.int (I (l6 + 1))), u7] [] SH (up S 109 l6 (((Int64.ofInt (S 109 l6)) ||| (jsl 1 (S 108 l6)) : Int64)).toInt) r))))) → G sc MX11_look 106 [some (.ref 90), some (.int (I l1)), some (.int (I l2)), some (.int (I l3)), some (.int (I l4)), some (.int (I l5)), some (.int (I l6)), u7] [] SH S r := by
  refine tt_ld (M := MX11_look) (pc := 106) dX11_look_106 rfl rfl rfl rfl rfl ?_
  refine tt_bipush (M := MX11_look) (pc := 108) dX11_look_108 (by decide) ?_
  refine tt_ic_gt (M := MX11_look) (pc := 110) 138 dX11_look_110 rfl ?_ ?_
  · exact id
  · refine tt_ld (M := MX11_look) (pc := 113) dX11_look_113 rfl rfl rfl rfl rfl ?_
    refine tt_getR (M := MX11_look) (pc := 114) dX11_look_114 rfl h0.1 rfl ?_
    refine tt_ld (M := MX11_look) (pc := 117) dX11_look_117 rfl rfl rfl rfl rfl ?_
    refine tt_dup2 (M := MX11_look) (pc := 119) dX11_look_119 rfl rfl ?_
    refine tt_laload (M := MX11_look) (pc := 120) dX11_look_120 h0.2.2.2.2.2.2.2.2.2.2.2.2.2.2.2.2.2.2.2 rfl ?_
    refine tt_pushv (M := MX11_look) (pc := 121) (.long 1) dX11_look_121 rfl rfl ?_
    refine tt_ld (M := MX11_look) (pc := 122) dX11_look_122 rfl rfl rfl rfl rfl ?_
    refine tt_getR (M := MX11_look) (pc := 123) dX11_look_123 rfl h0.1 rfl ?_
    refine tt_ld (M := MX11_look) (pc := 126) dX11_look_126 rfl rfl rfl rfl rfl ?_
    refine tt_iaload (M := MX11_look) (pc := 128) dX11_look_128 h0.2.2.2.2.2.2.2.2.2.2.2.2.2.2.2.2.2.2.1 rfl ?_
    refine tt_lshl (M := MX11_look) (pc := 129) dX11_look_129 ?_
    refine tt_lor (M := MX11_look) (pc := 130) dX11_look_130 ?_
    refine tt_lastore (M := MX11_look) (pc := 131) dX11_look_131 h0.2.2.2.2.2.2.2.2.2.2.2.2.2.2.2.2.2.2.2 rfl ?_
    refine tt_iinc (M := MX11_look) (pc := 132) [some (.ref 90), some (.int (I l1)), some (.int (I l2)), some (.int (I l3)), some (.int (I l4)), some (.int (I l5)), some (.int (I (l6 + 1))), u7] dX11_look_132 rfl rfl ?_
    refine tt_goto (M := MX11_look) (pc := 135) 106 dX11_look_135 rfl ?_
    exact id
theorem qX11_look_138 {sc : Nat × (Nat → Int32)} {SH : List mCell} {S : mStore} {r : mR × mW} (h0 : sMod SH) {l1 : Int} {l2 : Int} {l3 : Int} {l4 : Int} {l5 : Int} {u6 : Option Value} {u7 : Option Value} : (G sc MX11_look 75 [some (.ref 90), some (.int (I l1)), some (.int (I l2)), some (.int (I l3)), some (.int (I l4)), some (.int (I (l5 + 1))), u6, u7] [] SH S r) → G sc MX11_look 138 [some (.ref 90), some (.int (I l1)), some (.int (I l2)), some (.int (I l3)), some (.int (I l4)), some (.int (I l5)), u6, u7] [] SH S r := by
  refine tt_iinc (M := MX11_look) (pc := 138) [some (.ref 90), some (.int (I l1)), some (.int (I l2)), some (.int (I l3)), some (.int (I l4)), some (.int (I (l5 + 1))), u6, u7] dX11_look_138 rfl rfl ?_
  refine tt_goto (M := MX11_look) (pc := 141) 75 dX11_look_141 rfl ?_
  exact id
theorem qX11_look_153 {sc : Nat × (Nat → Int32)} {SH : List mCell} {S : mStore} {r : mR × mW} (h0 : sMod SH) {l1 : Int} {l2 : Int} {l3 : Int} {l4 : Int} {l5 : Int} {l6 : Int} {l7 : Int} : ((if I 20 < I l7 then (if I l4 = I 0 then r = rI l5 SH S else r = rI l6 SH S) else (((0 : Int) ≤ l7 ∧ l7 < 21) ∧ (∃ v101 S102, G sc MX11_ones 0 [some (.long (Int64.ofInt (S 109 l7))), none, none, none] [] SH S (rI v101 SH S102) ∧ (if I l6 < I v101 then (((0 : Int) ≤ l7 ∧ l7 < 21) ∧ (∃ v103 S104, G sc MX11_ones 0 [some (.long (Int64.ofInt (S102 109 l7))), none, none, none] [] SH S102 (rI v103 SH S104) ∧ G sc MX11_look 153 [some (.ref 90), some (.int (I l1)), some (.int (I l2)), some (.int (I l3)), some (.int (I l4)), some (.int (I l7)), some (.int (I v103)), some (.int (I (l7 + 1)))] [] SH S104 r)) else G sc MX11_look 153 [some (.ref 90), some (.int (I l1)), some (.int (I l2)), some (.int (I l3)), some (.int (I l4)), some (.int (I l5)), some (.int (I l6)), some (.int (I (l7 + 1)))] [] SH S102 r))))) → G sc MX11_look 153 [some (.ref 90), some (.int (I l1)), some (.int (I l2)), some (.int (I l3)), some (.int (I l4)), some (.int (I l5)), some (.int (I l6)), some (.int (I l7))] [] SH S r := by
  refine tt_ld (M := MX11_look) (pc := 153) dX11_look_153 rfl rfl rfl rfl rfl ?_
  refine tt_bipush (M := MX11_look) (pc := 155) dX11_look_155 (by decide) ?_
  refine tt_ic_gt (M := MX11_look) (pc := 157) 200 dX11_look_157 rfl ?_ ?_
  · refine tt_ld (M := MX11_look) (pc := 200) dX11_look_200 rfl rfl rfl rfl rfl ?_
    refine tt_if_ne (M := MX11_look) (pc := 202) 210 dX11_look_202 rfl ?_ ?_
    · refine tt_ld (M := MX11_look) (pc := 210) dX11_look_210 rfl rfl rfl rfl rfl ?_
      exact tt_iret (M := MX11_look) (pc := 212) dX11_look_212 rfl
    · refine tt_ld (M := MX11_look) (pc := 205) dX11_look_205 rfl rfl rfl rfl rfl ?_
      refine tt_goto (M := MX11_look) (pc := 207) 212 dX11_look_207 rfl ?_
      exact tt_iret (M := MX11_look) (pc := 212) dX11_look_212 rfl
  · refine tt_ld (M := MX11_look) (pc := 160) dX11_look_160 rfl rfl rfl rfl rfl ?_
    refine tt_getR (M := MX11_look) (pc := 161) dX11_look_161 rfl h0.1 rfl ?_
    refine tt_ld (M := MX11_look) (pc := 164) dX11_look_164 rfl rfl rfl rfl rfl ?_
    refine tt_laload (M := MX11_look) (pc := 166) dX11_look_166 h0.2.2.2.2.2.2.2.2.2.2.2.2.2.2.2.2.2.2.2 rfl ?_
    refine tt_scIN (M := MX11_look) (pc := 167) dX11_look_167 rfl [] rfl rfl ⟨rfl, by decide, Nat.le_of_ble_eq_true rfl⟩ fun v101 S102 => ?_
    refine tt_ld (M := MX11_look) (pc := 170) dX11_look_170 rfl rfl rfl rfl rfl ?_
    refine tt_ic_gt (M := MX11_look) (pc := 172) 178 dX11_look_172 rfl ?_ ?_
    · refine tt_ld (M := MX11_look) (pc := 178) dX11_look_178 rfl rfl rfl rfl rfl ?_
      refine tt_st (M := MX11_look) (pc := 180) [some (.ref 90), some (.int (I l1)), some (.int (I l2)), some (.int (I l3)), some (.int (I l4)), some (.int (I l7)), some (.int (I l6)), some (.int (I l7))] dX11_look_180 rfl rfl rfl rfl rfl rfl ?_
      refine tt_ld (M := MX11_look) (pc := 182) dX11_look_182 rfl rfl rfl rfl rfl ?_
      refine tt_getR (M := MX11_look) (pc := 183) dX11_look_183 rfl h0.1 rfl ?_
      refine tt_ld (M := MX11_look) (pc := 186) dX11_look_186 rfl rfl rfl rfl rfl ?_
      refine tt_laload (M := MX11_look) (pc := 188) dX11_look_188 h0.2.2.2.2.2.2.2.2.2.2.2.2.2.2.2.2.2.2.2 rfl ?_
      refine tt_scIN (M := MX11_look) (pc := 189) dX11_look_189 rfl [] rfl rfl ⟨rfl, by decide, Nat.le_of_ble_eq_true rfl⟩ fun v103 S104 => ?_
      refine tt_st (M := MX11_look) (pc := 192) [some (.ref 90), some (.int (I l1)), some (.int (I l2)), some (.int (I l3)), some (.int (I l4)), some (.int (I l7)), some (.int (I v103)), some (.int (I l7))] dX11_look_192 rfl rfl rfl rfl rfl rfl ?_
      refine tt_iinc (M := MX11_look) (pc := 194) [some (.ref 90), some (.int (I l1)), some (.int (I l2)), some (.int (I l3)), some (.int (I l4)), some (.int (I l7)), some (.int (I v103)), some (.int (I (l7 + 1)))] dX11_look_194 rfl rfl ?_
      refine tt_goto (M := MX11_look) (pc := 197) 153 dX11_look_197 rfl ?_
      exact id
    · refine tt_goto (M := MX11_look) (pc := 175) 194 dX11_look_175 rfl ?_
      refine tt_iinc (M := MX11_look) (pc := 194) [some (.ref 90), some (.int (I l1)), some (.int (I l2)), some (.int (I l3)), some (.int (I l4)), some (.int (I l5)), some (.int (I l6)), some (.int (I (l7 + 1)))] dX11_look_194 rfl rfl ?_
      refine tt_goto (M := MX11_look) (pc := 197) 153 dX11_look_197 rfl ?_
      exact id
theorem qX11_forget_0 {sc : Nat × (Nat → Int32)} {SH : List mCell} {S : mStore} {r : mR × mW} (h0 : sMod SH) : (r = rV SH (up (up S 90 4 0) 90 7 0)) → G sc MX11_forget 0 [some (.ref 90)] [] SH S r := by
  refine tt_ld (M := MX11_forget) (pc := 0) dX11_forget_0 rfl rfl rfl rfl rfl ?_
  refine tt_iconst (M := MX11_forget) (pc := 1) dX11_forget_1 ?_
  refine tt_putI (M := MX11_forget) (pc := 2) dX11_forget_2 rfl rfl (Or.inl rfl) h0.1 rfl ?_
  refine tt_ld (M := MX11_forget) (pc := 5) dX11_forget_5 rfl rfl rfl rfl rfl ?_
  refine tt_iconst (M := MX11_forget) (pc := 6) dX11_forget_6 ?_
  refine tt_putI (M := MX11_forget) (pc := 7) dX11_forget_7 rfl rfl (Or.inl rfl) h0.1 rfl ?_
  exact tt_ret (M := MX11_forget) (pc := 10) dX11_forget_10 rfl
theorem qX11_dirt_0 {sc : Nat × (Nat → Int32)} {SH : List mCell} {S : mStore} {r : mR × mW} (h0 : sMod SH) {l1 : Int} {l2 : Int} {l3 : Int} {l4 : Int} {l5 : Int} {u6 : Option Value} {u7 : Option Value} {u8 : Option Value} {u9 : Option Value} {u10 : Option Value} {u11 : Option Value} : ((∃ v101 S102, G sc MX11_isPage 0 [some (.ref 90), some (.int (I l1)), some (.int (I l2))] [] SH (up S 90 4 0) (rI v101 SH S102) ∧ (if I v101 = I 0 then r = rI 0 SH S102 else (∃ v103 S104, G sc MX11_within 0 [some (.int (I l3)), some (.int (I 1)), some (.int (I 4))] [] SH S102 (rI v103 SH S104) ∧ (if I v103 = I 0 then (∃ v105 S106, G sc MX11_right 0 [some (.ref 90), some (.int (I 0)), some (.int (I 2))] [] SH S104 (rI v105 SH S106) ∧ (if I v105 = I 0 then r = rI 0 SH S106 else (((0 : Int) ≤ l1 ∧ l1 < 5) ∧ G sc MX11_dirt 65 [some (.ref 90), some (.int (I l1)), some (.int (I l2)), some (.int (I l3)), some (.int (I l4)), some (.int (I l5)), some (.int (I ((S106 97 l1) + l2))), some (.int (I 0)), some (.int (I 0)), u9, u10, u11] [] SH S106 r))) else (∃ v107 S108, G sc MX11_within 0 [some (.int (I l4)), some (.int (I 0)), some (.int (I 10))] [] SH S104 (rI v107 SH S108) ∧ (if I v107 = I 0 then (∃ v109 S110, G sc MX11_right 0 [some (.ref 90), some (.int (I 0)), some (.int (I 2))] [] SH S108 (rI v109 SH S110) ∧ (if I v109 = I 0 then r = rI 0 SH S110 else (((0 : Int) ≤ l1 ∧ l1 < 5) ∧ G sc MX11_dirt 65 [some (.ref 90), some (.int (I l1)), some (.int (I l2)), some (.int (I l3)), some (.int (I l4)), some (.int (I l5)), some (.int (I ((S110 97 l1) + l2))), some (.int (I 0)), some (.int (I 0)), u9, u10, u11] [] SH S110 r))) else (∃ v111 S112, G sc MX11_right 0 [some (.ref 90), some (.int (I 1)), some (.int (I 2))] [] SH S108 (rI v111 SH S112) ∧ (if I v111 = I 0 then r = rI 0 SH S112 else (((0 : Int) ≤ l1 ∧ l1 < 5) ∧ G sc MX11_dirt 65 [some (.ref 90), some (.int (I l1)), some (.int (I l2)), some (.int (I l3)), some (.int (I l4)), some (.int (I l5)), some (.int (I ((S112 97 l1) + l2))), some (.int (I 0)), some (.int (I 0)), u9, u10, u11] [] SH S112 r)))))))))) → G sc MX11_dirt 0 [some (.ref 90), some (.int (I l1)), some (.int (I l2)), some (.int (I l3)), some (.int (I l4)), some (.int (I l5)), u6, u7, u8, u9, u10, u11] [] SH S r := by
  refine tt_ld (M := MX11_dirt) (pc := 0) dX11_dirt_0 rfl rfl rfl rfl rfl ?_
  refine tt_iconst (M := MX11_dirt) (pc := 1) dX11_dirt_1 ?_
  refine tt_putI (M := MX11_dirt) (pc := 2) dX11_dirt_2 rfl rfl (Or.inl rfl) h0.1 rfl ?_
  refine tt_ld (M := MX11_dirt) (pc := 5) dX11_dirt_5 rfl rfl rfl rfl rfl ?_
  refine tt_ld (M := MX11_dirt) (pc := 6) dX11_dirt_6 rfl rfl rfl rfl rfl ?_
  refine tt_ld (M := MX11_dirt) (pc := 7) dX11_dirt_7 rfl rfl rfl rfl rfl ?_
  refine tt_vcIN (M := MX11_dirt) (pc := 8) dX11_dirt_8 rfl rfl [] rfl rfl ⟨rfl, by decide, Nat.le_of_ble_eq_true rfl⟩ h0.1 fun v101 S102 => ?_
  refine tt_if_eq (M := MX11_dirt) (pc := 11) 47 dX11_dirt_11 rfl ?_ ?_
  · refine tt_iconst (M := MX11_dirt) (pc := 47) dX11_dirt_47 ?_
    exact tt_iret (M := MX11_dirt) (pc := 48) dX11_dirt_48 rfl
  · refine tt_ld (M := MX11_dirt) (pc := 14) dX11_dirt_14 rfl rfl rfl rfl rfl ?_
    refine tt_ld (M := MX11_dirt) (pc := 15) dX11_dirt_15 rfl rfl rfl rfl rfl ?_
    refine tt_iconst (M := MX11_dirt) (pc := 16) dX11_dirt_16 ?_
    refine tt_iconst (M := MX11_dirt) (pc := 17) dX11_dirt_17 ?_
    refine tt_scIN (M := MX11_dirt) (pc := 18) dX11_dirt_18 rfl [.ref 90] rfl rfl ⟨rfl, by decide, Nat.le_of_ble_eq_true rfl⟩ fun v103 S104 => ?_
    refine tt_if_eq (M := MX11_dirt) (pc := 21) 39 dX11_dirt_21 rfl ?_ ?_
    · refine tt_iconst (M := MX11_dirt) (pc := 39) dX11_dirt_39 ?_
      refine tt_iconst (M := MX11_dirt) (pc := 40) dX11_dirt_40 ?_
      refine tt_vcIN (M := MX11_dirt) (pc := 41) dX11_dirt_41 rfl rfl [] rfl rfl ⟨rfl, by decide, Nat.le_of_ble_eq_true rfl⟩ h0.1 fun v105 S106 => ?_
      refine tt_if_ne (M := MX11_dirt) (pc := 44) 49 dX11_dirt_44 rfl ?_ ?_
      · refine tt_ld (M := MX11_dirt) (pc := 49) dX11_dirt_49 rfl rfl rfl rfl rfl ?_
        refine tt_getR (M := MX11_dirt) (pc := 50) dX11_dirt_50 rfl h0.1 rfl ?_
        refine tt_ld (M := MX11_dirt) (pc := 53) dX11_dirt_53 rfl rfl rfl rfl rfl ?_
        refine tt_iaload (M := MX11_dirt) (pc := 54) dX11_dirt_54 h0.2.2.2.2.2.2.2.1 rfl ?_
        refine tt_ld (M := MX11_dirt) (pc := 55) dX11_dirt_55 rfl rfl rfl rfl rfl ?_
        refine tt_iadd (M := MX11_dirt) (pc := 56) dX11_dirt_56 ?_
        refine tt_st (M := MX11_dirt) (pc := 57) [some (.ref 90), some (.int (I l1)), some (.int (I l2)), some (.int (I l3)), some (.int (I l4)), some (.int (I l5)), some (.int (I ((S106 97 l1) + l2))), u7, u8, u9, u10, u11] dX11_dirt_57 rfl rfl rfl rfl rfl rfl ?_
        refine tt_iconst (M := MX11_dirt) (pc := 59) dX11_dirt_59 ?_
        refine tt_st (M := MX11_dirt) (pc := 60) [some (.ref 90), some (.int (I l1)), some (.int (I l2)), some (.int (I l3)), some (.int (I l4)), some (.int (I l5)), some (.int (I ((S106 97 l1) + l2))), some (.int (I 0)), u8, u9, u10, u11] dX11_dirt_60 rfl rfl rfl rfl rfl rfl ?_
        refine tt_iconst (M := MX11_dirt) (pc := 62) dX11_dirt_62 ?_
        refine tt_st (M := MX11_dirt) (pc := 63) [some (.ref 90), some (.int (I l1)), some (.int (I l2)), some (.int (I l3)), some (.int (I l4)), some (.int (I l5)), some (.int (I ((S106 97 l1) + l2))), some (.int (I 0)), some (.int (I 0)), u9, u10, u11] dX11_dirt_63 rfl rfl rfl rfl rfl rfl ?_
        exact id
      · refine tt_iconst (M := MX11_dirt) (pc := 47) dX11_dirt_47 ?_
        exact tt_iret (M := MX11_dirt) (pc := 48) dX11_dirt_48 rfl
    · refine tt_ld (M := MX11_dirt) (pc := 24) dX11_dirt_24 rfl rfl rfl rfl rfl ?_
      refine tt_iconst (M := MX11_dirt) (pc := 26) dX11_dirt_26 ?_
      refine tt_bipush (M := MX11_dirt) (pc := 27) dX11_dirt_27 (by decide) ?_
      refine tt_scIN (M := MX11_dirt) (pc := 29) dX11_dirt_29 rfl [.ref 90] rfl rfl ⟨rfl, by decide, Nat.le_of_ble_eq_true rfl⟩ fun v107 S108 => ?_
      refine tt_if_eq (M := MX11_dirt) (pc := 32) 39 dX11_dirt_32 rfl ?_ ?_
      · refine tt_iconst (M := MX11_dirt) (pc := 39) dX11_dirt_39 ?_
        refine tt_iconst (M := MX11_dirt) (pc := 40) dX11_dirt_40 ?_
        refine tt_vcIN (M := MX11_dirt) (pc := 41) dX11_dirt_41 rfl rfl [] rfl rfl ⟨rfl, by decide, Nat.le_of_ble_eq_true rfl⟩ h0.1 fun v109 S110 => ?_
        refine tt_if_ne (M := MX11_dirt) (pc := 44) 49 dX11_dirt_44 rfl ?_ ?_
        · refine tt_ld (M := MX11_dirt) (pc := 49) dX11_dirt_49 rfl rfl rfl rfl rfl ?_
          refine tt_getR (M := MX11_dirt) (pc := 50) dX11_dirt_50 rfl h0.1 rfl ?_
          refine tt_ld (M := MX11_dirt) (pc := 53) dX11_dirt_53 rfl rfl rfl rfl rfl ?_
          refine tt_iaload (M := MX11_dirt) (pc := 54) dX11_dirt_54 h0.2.2.2.2.2.2.2.1 rfl ?_
          refine tt_ld (M := MX11_dirt) (pc := 55) dX11_dirt_55 rfl rfl rfl rfl rfl ?_
          refine tt_iadd (M := MX11_dirt) (pc := 56) dX11_dirt_56 ?_
          refine tt_st (M := MX11_dirt) (pc := 57) [some (.ref 90), some (.int (I l1)), some (.int (I l2)), some (.int (I l3)), some (.int (I l4)), some (.int (I l5)), some (.int (I ((S110 97 l1) + l2))), u7, u8, u9, u10, u11] dX11_dirt_57 rfl rfl rfl rfl rfl rfl ?_
          refine tt_iconst (M := MX11_dirt) (pc := 59) dX11_dirt_59 ?_
          refine tt_st (M := MX11_dirt) (pc := 60) [some (.ref 90), some (.int (I l1)), some (.int (I l2)), some (.int (I l3)), some (.int (I l4)), some (.int (I l5)), some (.int (I ((S110 97 l1) + l2))), some (.int (I 0)), u8, u9, u10, u11] dX11_dirt_60 rfl rfl rfl rfl rfl rfl ?_
          refine tt_iconst (M := MX11_dirt) (pc := 62) dX11_dirt_62 ?_
          refine tt_st (M := MX11_dirt) (pc := 63) [some (.ref 90), some (.int (I l1)), some (.int (I l2)), some (.int (I l3)), some (.int (I l4)), some (.int (I l5)), some (.int (I ((S110 97 l1) + l2))), some (.int (I 0)), some (.int (I 0)), u9, u10, u11] dX11_dirt_63 rfl rfl rfl rfl rfl rfl ?_
          exact id
        · refine tt_iconst (M := MX11_dirt) (pc := 47) dX11_dirt_47 ?_
          exact tt_iret (M := MX11_dirt) (pc := 48) dX11_dirt_48 rfl
      · refine tt_iconst (M := MX11_dirt) (pc := 35) dX11_dirt_35 ?_
        refine tt_goto (M := MX11_dirt) (pc := 36) 40 dX11_dirt_36 rfl ?_
        refine tt_iconst (M := MX11_dirt) (pc := 40) dX11_dirt_40 ?_
        refine tt_vcIN (M := MX11_dirt) (pc := 41) dX11_dirt_41 rfl rfl [] rfl rfl ⟨rfl, by decide, Nat.le_of_ble_eq_true rfl⟩ h0.1 fun v111 S112 => ?_
        refine tt_if_ne (M := MX11_dirt) (pc := 44) 49 dX11_dirt_44 rfl ?_ ?_
        · refine tt_ld (M := MX11_dirt) (pc := 49) dX11_dirt_49 rfl rfl rfl rfl rfl ?_
          refine tt_getR (M := MX11_dirt) (pc := 50) dX11_dirt_50 rfl h0.1 rfl ?_
          refine tt_ld (M := MX11_dirt) (pc := 53) dX11_dirt_53 rfl rfl rfl rfl rfl ?_
          refine tt_iaload (M := MX11_dirt) (pc := 54) dX11_dirt_54 h0.2.2.2.2.2.2.2.1 rfl ?_
          refine tt_ld (M := MX11_dirt) (pc := 55) dX11_dirt_55 rfl rfl rfl rfl rfl ?_
          refine tt_iadd (M := MX11_dirt) (pc := 56) dX11_dirt_56 ?_
          refine tt_st (M := MX11_dirt) (pc := 57) [some (.ref 90), some (.int (I l1)), some (.int (I l2)), some (.int (I l3)), some (.int (I l4)), some (.int (I l5)), some (.int (I ((S112 97 l1) + l2))), u7, u8, u9, u10, u11] dX11_dirt_57 rfl rfl rfl rfl rfl rfl ?_
          refine tt_iconst (M := MX11_dirt) (pc := 59) dX11_dirt_59 ?_
          refine tt_st (M := MX11_dirt) (pc := 60) [some (.ref 90), some (.int (I l1)), some (.int (I l2)), some (.int (I l3)), some (.int (I l4)), some (.int (I l5)), some (.int (I ((S112 97 l1) + l2))), some (.int (I 0)), u8, u9, u10, u11] dX11_dirt_60 rfl rfl rfl rfl rfl rfl ?_
          refine tt_iconst (M := MX11_dirt) (pc := 62) dX11_dirt_62 ?_
          refine tt_st (M := MX11_dirt) (pc := 63) [some (.ref 90), some (.int (I l1)), some (.int (I l2)), some (.int (I l3)), some (.int (I l4)), some (.int (I l5)), some (.int (I ((S112 97 l1) + l2))), some (.int (I 0)), some (.int (I 0)), u9, u10, u11] dX11_dirt_63 rfl rfl rfl rfl rfl rfl ?_
          exact id
        · refine tt_iconst (M := MX11_dirt) (pc := 47) dX11_dirt_47 ?_
          exact tt_iret (M := MX11_dirt) (pc := 48) dX11_dirt_48 rfl
theorem qX11_dirt_65 {sc : Nat × (Nat → Int32)} {SH : List mCell} {S : mStore} {r : mR × mW} (h0 : sMod SH) {l1 : Int} {l2 : Int} {l3 : Int} {l4 : Int} {l5 : Int} {l6 : Int} {l7 : Int} {l8 : Int} {u9 : Option Value} {u10 : Option Value} {u11 : Option Value} : ((if I (isl 1 l3) ≤ I l8 then r = rI l7 SH S else (∃ S101, G sc MX11_tries 0 [some (.ref 90)] [] SH S (rV SH S101) ∧ G sc MX11_dirt 83 [some (.ref 90), some (.int (I l1)), some (.int (I l2)), some (.int (I l3)), some (.int (I l4)), some (.int (I l5)), some (.int (I l6)), some (.int (I l7)), some (.int (I l8)), some (.int (I 1)), some (.int (I 0)), u11] [] SH S101 r))) → G sc MX11_dirt 65 [some (.ref 90), some (.int (I l1)), some (.int (I l2)), some (.int (I l3)), some (.int (I l4)), some (.int (I l5)), some (.int (I l6)), some (.int (I l7)), some (.int (I l8)), u9, u10, u11] [] SH S r := by
  refine tt_ld (M := MX11_dirt) (pc := 65) dX11_dirt_65 rfl rfl rfl rfl rfl ?_
  refine tt_iconst (M := MX11_dirt) (pc := 67) dX11_dirt_67 ?_
  refine tt_ld (M := MX11_dirt) (pc := 68) dX11_dirt_68 rfl rfl rfl rfl rfl ?_
  refine tt_ishl (M := MX11_dirt) (pc := 69) dX11_dirt_69 ?_
  refine tt_ic_ge (M := MX11_dirt) (pc := 70) 198 dX11_dirt_70 rfl ?_ ?_
  · refine tt_ld (M := MX11_dirt) (pc := 198) dX11_dirt_198 rfl rfl rfl rfl rfl ?_
    exact tt_iret (M := MX11_dirt) (pc := 200) dX11_dirt_200 rfl
  · refine tt_iconst (M := MX11_dirt) (pc := 73) dX11_dirt_73 ?_
    refine tt_st (M := MX11_dirt) (pc := 74) [some (.ref 90), some (.int (I l1)), some (.int (I l2)), some (.int (I l3)), some (.int (I l4)), some (.int (I l5)), some (.int (I l6)), some (.int (I l7)), some (.int (I l8)), some (.int (I 1)), u10, u11] dX11_dirt_74 rfl rfl rfl rfl rfl rfl ?_
    refine tt_ld (M := MX11_dirt) (pc := 76) dX11_dirt_76 rfl rfl rfl rfl rfl ?_
    refine tt_vcVN (M := MX11_dirt) (pc := 77) dX11_dirt_77 rfl rfl [] rfl rfl ⟨rfl, by decide, Nat.le_of_ble_eq_true rfl⟩ h0.1 fun S101 => ?_
    refine tt_iconst (M := MX11_dirt) (pc := 80) dX11_dirt_80 ?_
    refine tt_st (M := MX11_dirt) (pc := 81) [some (.ref 90), some (.int (I l1)), some (.int (I l2)), some (.int (I l3)), some (.int (I l4)), some (.int (I l5)), some (.int (I l6)), some (.int (I l7)), some (.int (I l8)), some (.int (I 1)), some (.int (I 0)), u11] dX11_dirt_81 rfl rfl rfl rfl rfl rfl ?_
    exact id
theorem qX11_dirt_83 {sc : Nat × (Nat → Int32)} {SH : List mCell} {S : mStore} {r : mR × mW} (h0 : sMod SH) {l1 : Int} {l2 : Int} {l3 : Int} {l4 : Int} {l5 : Int} {l6 : Int} {l7 : Int} {l8 : Int} {l9 : Int} {l10 : Int} {u11 : Option Value} : ((if I l3 ≤ I l10 then (∃ v101 S102, G sc MX11_usedOf 0 [some (.ref 90), some (.int (I 1654)), none, none] [] SH S (rI v101 SH S102) ∧ (if I l5 < I v101 then G sc MX11_dirt 65 [some (.ref 90), some (.int (I l1)), some (.int (I l2)), some (.int (I l3)), some (.int (I l4)), some (.int (I l5)), some (.int (I l6)), some (.int (I l7)), some (.int (I (l8 + 1))), some (.int (I l9)), some (.int (I l10)), u11] [] SH S102 r else G sc MX11_dirt 65 [some (.ref 90), some (.int (I l1)), some (.int (I l2)), some (.int (I l3)), some (.int (I l4)), some (.int (I l5)), some (.int (I l6)), some (.int (I (l7 + l9))), some (.int (I (l8 + 1))), some (.int (I l9)), some (.int (I l10)), u11] [] SH S102 r)) else (if I (ian (isr l8 l10) 1) = I 1 then (if I 1 = I 0 then (if I 1 = I 0 then G sc MX11_dirt 158 [some (.ref 90), some (.int (I l1)), some (.int (I l2)), some (.int (I l3)), some (.int (I l4)), some (.int (I l5)), some (.int (I l6)), some (.int (I l7)), some (.int (I l8)), some (.int (I (l9 * (10 - l4)))), some (.int (I l10)), some (.int (I 1))] [] SH S r else (∃ v111 S112, G sc MX11_cellOf 0 [some (.ref 90), some (.int (I 1654)), some (.int (I l6)), some (.int (I 0)), none] [] SH S (rI v111 SH S112) ∧ (∃ v113 S114, G sc MX11_writesCell 0 [some (.ref 90), some (.int (I 1654)), some (.int (I l6)), some (.int (I 0)), some (.int (I ((v111 + 1) - idv (v111 + 1) 16 * 16)))] [] SH S112 (rI v113 SH S114) ∧ G sc MX11_dirt 158 [some (.ref 90), some (.int (I l1)), some (.int (I l2)), some (.int (I l3)), some (.int (I l4)), some (.int (I l5)), some (.int (I l6)), some (.int (I l7)), some (.int (I l8)), some (.int (I (l9 * (10 - l4)))), some (.int (I l10)), some (.int (I 1))] [] SH S114 r))) else (if I 1 = I 0 then G sc MX11_dirt 158 [some (.ref 90), some (.int (I l1)), some (.int (I l2)), some (.int (I l3)), some (.int (I l4)), some (.int (I l5)), some (.int (I l6)), some (.int (I l7)), some (.int (I l8)), some (.int (I (l9 * l4))), some (.int (I l10)), some (.int (I 1))] [] SH S r else (∃ v115 S116, G sc MX11_cellOf 0 [some (.ref 90), some (.int (I 1654)), some (.int (I l6)), some (.int (I 0)), none] [] SH S (rI v115 SH S116) ∧ (∃ v117 S118, G sc MX11_writesCell 0 [some (.ref 90), some (.int (I 1654)), some (.int (I l6)), some (.int (I 0)), some (.int (I ((v115 + 1) - idv (v115 + 1) 16 * 16)))] [] SH S116 (rI v117 SH S118) ∧ G sc MX11_dirt 158 [some (.ref 90), some (.int (I l1)), some (.int (I l2)), some (.int (I l3)), some (.int (I l4)), some (.int (I l5)), some (.int (I l6)), some (.int (I l7)), some (.int (I l8)), some (.int (I (l9 * l4))), some (.int (I l10)), some (.int (I 1))] [] SH S118 r)))) else (if I 0 = I 0 then (if I 0 = I 0 then G sc MX11_dirt 158 [some (.ref 90), some (.int (I l1)), some (.int (I l2)), some (.int (I l3)), some (.int (I l4)), some (.int (I l5)), some (.int (I l6)), some (.int (I l7)), some (.int (I l8)), some (.int (I (l9 * (10 - l4)))), some (.int (I l10)), some (.int (I 0))] [] SH S r else (∃ v103 S104, G sc MX11_cellOf 0 [some (.ref 90), some (.int (I 1654)), some (.int (I l6)), some (.int (I 0)), none] [] SH S (rI v103 SH S104) ∧ (∃ v105 S106, G sc MX11_writesCell 0 [some (.ref 90), some (.int (I 1654)), some (.int (I l6)), some (.int (I 0)), some (.int (I ((v103 + 1) - idv (v103 + 1) 16 * 16)))] [] SH S104 (rI v105 SH S106) ∧ G sc MX11_dirt 158 [some (.ref 90), some (.int (I l1)), some (.int (I l2)), some (.int (I l3)), some (.int (I l4)), some (.int (I l5)), some (.int (I l6)), some (.int (I l7)), some (.int (I l8)), some (.int (I (l9 * (10 - l4)))), some (.int (I l10)), some (.int (I 0))] [] SH S106 r))) else (if I 0 = I 0 then G sc MX11_dirt 158 [some (.ref 90), some (.int (I l1)), some (.int (I l2)), some (.int (I l3)), some (.int (I l4)), some (.int (I l5)), some (.int (I l6)), some (.int (I l7)), some (.int (I l8)), some (.int (I (l9 * l4))), some (.int (I l10)), some (.int (I 0))] [] SH S r else (∃ v107 S108, G sc MX11_cellOf 0 [some (.ref 90), some (.int (I 1654)), some (.int (I l6)), some (.int (I 0)), none] [] SH S (rI v107 SH S108) ∧ (∃ v109 S110, G sc MX11_writesCell 0 [some (.ref 90), some (.int (I 1654)), some (.int (I l6)), some (.int (I 0)), some (.int (I ((v107 + 1) - idv (v107 + 1) 16 * 16)))] [] SH S108 (rI v109 SH S110) ∧ G sc MX11_dirt 158 [some (.ref 90), some (.int (I l1)), some (.int (I l2)), some (.int (I l3)), some (.int (I l4)), some (.int (I l5)), some (.int (I l6)), some (.int (I l7)), some (.int (I l8)), some (.int (I (l9 * l4))), some (.int (I l10)), some (.int (I 0))] [] SH S110 r))))))) → G sc MX11_dirt 83 [some (.ref 90), some (.int (I l1)), some (.int (I l2)), some (.int (I l3)), some (.int (I l4)), some (.int (I l5)), some (.int (I l6)), some (.int (I l7)), some (.int (I l8)), some (.int (I l9)), some (.int (I l10)), u11] [] SH S r := by
  refine tt_ld (M := MX11_dirt) (pc := 83) dX11_dirt_83 rfl rfl rfl rfl rfl ?_
  refine tt_ld (M := MX11_dirt) (pc := 85) dX11_dirt_85 rfl rfl rfl rfl rfl ?_
  refine tt_ic_ge (M := MX11_dirt) (pc := 86) 173 dX11_dirt_86 rfl ?_ ?_
  · refine tt_ld (M := MX11_dirt) (pc := 173) dX11_dirt_173 rfl rfl rfl rfl rfl ?_
    refine tt_sipush (M := MX11_dirt) (pc := 174) dX11_dirt_174 (by decide) ?_
    refine tt_vcIN (M := MX11_dirt) (pc := 177) dX11_dirt_177 rfl rfl [] rfl rfl ⟨rfl, by decide, Nat.le_of_ble_eq_true rfl⟩ h0.1 fun v101 S102 => ?_
    refine tt_ld (M := MX11_dirt) (pc := 180) dX11_dirt_180 rfl rfl rfl rfl rfl ?_
    refine tt_ic_gt (M := MX11_dirt) (pc := 182) 192 dX11_dirt_182 rfl ?_ ?_
    · refine tt_iinc (M := MX11_dirt) (pc := 192) [some (.ref 90), some (.int (I l1)), some (.int (I l2)), some (.int (I l3)), some (.int (I l4)), some (.int (I l5)), some (.int (I l6)), some (.int (I l7)), some (.int (I (l8 + 1))), some (.int (I l9)), some (.int (I l10)), u11] dX11_dirt_192 rfl rfl ?_
      refine tt_goto (M := MX11_dirt) (pc := 195) 65 dX11_dirt_195 rfl ?_
      exact id
    · refine tt_ld (M := MX11_dirt) (pc := 185) dX11_dirt_185 rfl rfl rfl rfl rfl ?_
      refine tt_ld (M := MX11_dirt) (pc := 187) dX11_dirt_187 rfl rfl rfl rfl rfl ?_
      refine tt_iadd (M := MX11_dirt) (pc := 189) dX11_dirt_189 ?_
      refine tt_st (M := MX11_dirt) (pc := 190) [some (.ref 90), some (.int (I l1)), some (.int (I l2)), some (.int (I l3)), some (.int (I l4)), some (.int (I l5)), some (.int (I l6)), some (.int (I (l7 + l9))), some (.int (I l8)), some (.int (I l9)), some (.int (I l10)), u11] dX11_dirt_190 rfl rfl rfl rfl rfl rfl ?_
      refine tt_iinc (M := MX11_dirt) (pc := 192) [some (.ref 90), some (.int (I l1)), some (.int (I l2)), some (.int (I l3)), some (.int (I l4)), some (.int (I l5)), some (.int (I l6)), some (.int (I (l7 + l9))), some (.int (I (l8 + 1))), some (.int (I l9)), some (.int (I l10)), u11] dX11_dirt_192 rfl rfl ?_
      refine tt_goto (M := MX11_dirt) (pc := 195) 65 dX11_dirt_195 rfl ?_
      exact id
  · refine tt_ld (M := MX11_dirt) (pc := 89) dX11_dirt_89 rfl rfl rfl rfl rfl ?_
    refine tt_ld (M := MX11_dirt) (pc := 91) dX11_dirt_91 rfl rfl rfl rfl rfl ?_
    refine tt_ishr (M := MX11_dirt) (pc := 93) dX11_dirt_93 ?_
    refine tt_iconst (M := MX11_dirt) (pc := 94) dX11_dirt_94 ?_
    refine tt_iand (M := MX11_dirt) (pc := 95) dX11_dirt_95 ?_
    refine tt_iconst (M := MX11_dirt) (pc := 96) dX11_dirt_96 ?_
    refine tt_ic_ne (M := MX11_dirt) (pc := 97) 104 dX11_dirt_97 rfl ?_ ?_
    · refine tt_iconst (M := MX11_dirt) (pc := 104) dX11_dirt_104 ?_
      refine tt_st (M := MX11_dirt) (pc := 105) [some (.ref 90), some (.int (I l1)), some (.int (I l2)), some (.int (I l3)), some (.int (I l4)), some (.int (I l5)), some (.int (I l6)), some (.int (I l7)), some (.int (I l8)), some (.int (I l9)), some (.int (I l10)), some (.int (I 0))] dX11_dirt_105 rfl rfl rfl rfl rfl rfl ?_
      refine tt_ld (M := MX11_dirt) (pc := 107) dX11_dirt_107 rfl rfl rfl rfl rfl ?_
      refine tt_ld (M := MX11_dirt) (pc := 109) dX11_dirt_109 rfl rfl rfl rfl rfl ?_
      refine tt_if_eq (M := MX11_dirt) (pc := 111) 119 dX11_dirt_111 rfl ?_ ?_
      · refine tt_bipush (M := MX11_dirt) (pc := 119) dX11_dirt_119 (by decide) ?_
        refine tt_ld (M := MX11_dirt) (pc := 121) dX11_dirt_121 rfl rfl rfl rfl rfl ?_
        refine tt_isub (M := MX11_dirt) (pc := 123) dX11_dirt_123 ?_
        refine tt_imul (M := MX11_dirt) (pc := 124) dX11_dirt_124 ?_
        refine tt_st (M := MX11_dirt) (pc := 125) [some (.ref 90), some (.int (I l1)), some (.int (I l2)), some (.int (I l3)), some (.int (I l4)), some (.int (I l5)), some (.int (I l6)), some (.int (I l7)), some (.int (I l8)), some (.int (I (l9 * (10 - l4)))), some (.int (I l10)), some (.int (I 0))] dX11_dirt_125 rfl rfl rfl rfl rfl rfl ?_
        refine tt_ld (M := MX11_dirt) (pc := 127) dX11_dirt_127 rfl rfl rfl rfl rfl ?_
        refine tt_if_eq (M := MX11_dirt) (pc := 129) 158 dX11_dirt_129 rfl ?_ ?_
        · exact id
        · refine tt_ld (M := MX11_dirt) (pc := 132) dX11_dirt_132 rfl rfl rfl rfl rfl ?_
          refine tt_sipush (M := MX11_dirt) (pc := 133) dX11_dirt_133 (by decide) ?_
          refine tt_ld (M := MX11_dirt) (pc := 136) dX11_dirt_136 rfl rfl rfl rfl rfl ?_
          refine tt_iconst (M := MX11_dirt) (pc := 138) dX11_dirt_138 ?_
          refine tt_ld (M := MX11_dirt) (pc := 139) dX11_dirt_139 rfl rfl rfl rfl rfl ?_
          refine tt_sipush (M := MX11_dirt) (pc := 140) dX11_dirt_140 (by decide) ?_
          refine tt_ld (M := MX11_dirt) (pc := 143) dX11_dirt_143 rfl rfl rfl rfl rfl ?_
          refine tt_iconst (M := MX11_dirt) (pc := 145) dX11_dirt_145 ?_
          refine tt_vcIN (M := MX11_dirt) (pc := 146) dX11_dirt_146 rfl rfl [.int (I 0), .int (I l6), .int (I 1654), .ref 90] rfl rfl ⟨rfl, by decide, Nat.le_of_ble_eq_true rfl⟩ h0.1 fun v103 S104 => ?_
          refine tt_iconst (M := MX11_dirt) (pc := 149) dX11_dirt_149 ?_
          refine tt_iadd (M := MX11_dirt) (pc := 150) dX11_dirt_150 ?_
          refine tt_bipush (M := MX11_dirt) (pc := 151) dX11_dirt_151 (by decide) ?_
          refine tt_irem (M := MX11_dirt) (pc := 153) dX11_dirt_153 (by decide) ?_
          refine tt_vcIN (M := MX11_dirt) (pc := 154) dX11_dirt_154 rfl rfl [] rfl rfl ⟨rfl, by decide, Nat.le_of_ble_eq_true rfl⟩ h0.1 fun v105 S106 => ?_
          refine tt_pop (M := MX11_dirt) (pc := 157) dX11_dirt_157 rfl ?_
          exact id
      · refine tt_ld (M := MX11_dirt) (pc := 114) dX11_dirt_114 rfl rfl rfl rfl rfl ?_
        refine tt_goto (M := MX11_dirt) (pc := 116) 124 dX11_dirt_116 rfl ?_
        refine tt_imul (M := MX11_dirt) (pc := 124) dX11_dirt_124 ?_
        refine tt_st (M := MX11_dirt) (pc := 125) [some (.ref 90), some (.int (I l1)), some (.int (I l2)), some (.int (I l3)), some (.int (I l4)), some (.int (I l5)), some (.int (I l6)), some (.int (I l7)), some (.int (I l8)), some (.int (I (l9 * l4))), some (.int (I l10)), some (.int (I 0))] dX11_dirt_125 rfl rfl rfl rfl rfl rfl ?_
        refine tt_ld (M := MX11_dirt) (pc := 127) dX11_dirt_127 rfl rfl rfl rfl rfl ?_
        refine tt_if_eq (M := MX11_dirt) (pc := 129) 158 dX11_dirt_129 rfl ?_ ?_
        · exact id
        · refine tt_ld (M := MX11_dirt) (pc := 132) dX11_dirt_132 rfl rfl rfl rfl rfl ?_
          refine tt_sipush (M := MX11_dirt) (pc := 133) dX11_dirt_133 (by decide) ?_
          refine tt_ld (M := MX11_dirt) (pc := 136) dX11_dirt_136 rfl rfl rfl rfl rfl ?_
          refine tt_iconst (M := MX11_dirt) (pc := 138) dX11_dirt_138 ?_
          refine tt_ld (M := MX11_dirt) (pc := 139) dX11_dirt_139 rfl rfl rfl rfl rfl ?_
          refine tt_sipush (M := MX11_dirt) (pc := 140) dX11_dirt_140 (by decide) ?_
          refine tt_ld (M := MX11_dirt) (pc := 143) dX11_dirt_143 rfl rfl rfl rfl rfl ?_
          refine tt_iconst (M := MX11_dirt) (pc := 145) dX11_dirt_145 ?_
          refine tt_vcIN (M := MX11_dirt) (pc := 146) dX11_dirt_146 rfl rfl [.int (I 0), .int (I l6), .int (I 1654), .ref 90] rfl rfl ⟨rfl, by decide, Nat.le_of_ble_eq_true rfl⟩ h0.1 fun v107 S108 => ?_
          refine tt_iconst (M := MX11_dirt) (pc := 149) dX11_dirt_149 ?_
          refine tt_iadd (M := MX11_dirt) (pc := 150) dX11_dirt_150 ?_
          refine tt_bipush (M := MX11_dirt) (pc := 151) dX11_dirt_151 (by decide) ?_
          refine tt_irem (M := MX11_dirt) (pc := 153) dX11_dirt_153 (by decide) ?_
          refine tt_vcIN (M := MX11_dirt) (pc := 154) dX11_dirt_154 rfl rfl [] rfl rfl ⟨rfl, by decide, Nat.le_of_ble_eq_true rfl⟩ h0.1 fun v109 S110 => ?_
          refine tt_pop (M := MX11_dirt) (pc := 157) dX11_dirt_157 rfl ?_
          exact id
    · refine tt_iconst (M := MX11_dirt) (pc := 100) dX11_dirt_100 ?_
      refine tt_goto (M := MX11_dirt) (pc := 101) 105 dX11_dirt_101 rfl ?_
      refine tt_st (M := MX11_dirt) (pc := 105) [some (.ref 90), some (.int (I l1)), some (.int (I l2)), some (.int (I l3)), some (.int (I l4)), some (.int (I l5)), some (.int (I l6)), some (.int (I l7)), some (.int (I l8)), some (.int (I l9)), some (.int (I l10)), some (.int (I 1))] dX11_dirt_105 rfl rfl rfl rfl rfl rfl ?_
      refine tt_ld (M := MX11_dirt) (pc := 107) dX11_dirt_107 rfl rfl rfl rfl rfl ?_
      refine tt_ld (M := MX11_dirt) (pc := 109) dX11_dirt_109 rfl rfl rfl rfl rfl ?_
      refine tt_if_eq (M := MX11_dirt) (pc := 111) 119 dX11_dirt_111 rfl ?_ ?_
      · refine tt_bipush (M := MX11_dirt) (pc := 119) dX11_dirt_119 (by decide) ?_
        refine tt_ld (M := MX11_dirt) (pc := 121) dX11_dirt_121 rfl rfl rfl rfl rfl ?_
        refine tt_isub (M := MX11_dirt) (pc := 123) dX11_dirt_123 ?_
        refine tt_imul (M := MX11_dirt) (pc := 124) dX11_dirt_124 ?_
        refine tt_st (M := MX11_dirt) (pc := 125) [some (.ref 90), some (.int (I l1)), some (.int (I l2)), some (.int (I l3)), some (.int (I l4)), some (.int (I l5)), some (.int (I l6)), some (.int (I l7)), some (.int (I l8)), some (.int (I (l9 * (10 - l4)))), some (.int (I l10)), some (.int (I 1))] dX11_dirt_125 rfl rfl rfl rfl rfl rfl ?_
        refine tt_ld (M := MX11_dirt) (pc := 127) dX11_dirt_127 rfl rfl rfl rfl rfl ?_
        refine tt_if_eq (M := MX11_dirt) (pc := 129) 158 dX11_dirt_129 rfl ?_ ?_
        · exact id
        · refine tt_ld (M := MX11_dirt) (pc := 132) dX11_dirt_132 rfl rfl rfl rfl rfl ?_
          refine tt_sipush (M := MX11_dirt) (pc := 133) dX11_dirt_133 (by decide) ?_
          refine tt_ld (M := MX11_dirt) (pc := 136) dX11_dirt_136 rfl rfl rfl rfl rfl ?_
          refine tt_iconst (M := MX11_dirt) (pc := 138) dX11_dirt_138 ?_
          refine tt_ld (M := MX11_dirt) (pc := 139) dX11_dirt_139 rfl rfl rfl rfl rfl ?_
          refine tt_sipush (M := MX11_dirt) (pc := 140) dX11_dirt_140 (by decide) ?_
          refine tt_ld (M := MX11_dirt) (pc := 143) dX11_dirt_143 rfl rfl rfl rfl rfl ?_
          refine tt_iconst (M := MX11_dirt) (pc := 145) dX11_dirt_145 ?_
          refine tt_vcIN (M := MX11_dirt) (pc := 146) dX11_dirt_146 rfl rfl [.int (I 0), .int (I l6), .int (I 1654), .ref 90] rfl rfl ⟨rfl, by decide, Nat.le_of_ble_eq_true rfl⟩ h0.1 fun v111 S112 => ?_
          refine tt_iconst (M := MX11_dirt) (pc := 149) dX11_dirt_149 ?_
          refine tt_iadd (M := MX11_dirt) (pc := 150) dX11_dirt_150 ?_
          refine tt_bipush (M := MX11_dirt) (pc := 151) dX11_dirt_151 (by decide) ?_
          refine tt_irem (M := MX11_dirt) (pc := 153) dX11_dirt_153 (by decide) ?_
          refine tt_vcIN (M := MX11_dirt) (pc := 154) dX11_dirt_154 rfl rfl [] rfl rfl ⟨rfl, by decide, Nat.le_of_ble_eq_true rfl⟩ h0.1 fun v113 S114 => ?_
          refine tt_pop (M := MX11_dirt) (pc := 157) dX11_dirt_157 rfl ?_
          exact id
      · refine tt_ld (M := MX11_dirt) (pc := 114) dX11_dirt_114 rfl rfl rfl rfl rfl ?_
        refine tt_goto (M := MX11_dirt) (pc := 116) 124 dX11_dirt_116 rfl ?_
        refine tt_imul (M := MX11_dirt) (pc := 124) dX11_dirt_124 ?_
        refine tt_st (M := MX11_dirt) (pc := 125) [some (.ref 90), some (.int (I l1)), some (.int (I l2)), some (.int (I l3)), some (.int (I l4)), some (.int (I l5)), some (.int (I l6)), some (.int (I l7)), some (.int (I l8)), some (.int (I (l9 * l4))), some (.int (I l10)), some (.int (I 1))] dX11_dirt_125 rfl rfl rfl rfl rfl rfl ?_
        refine tt_ld (M := MX11_dirt) (pc := 127) dX11_dirt_127 rfl rfl rfl rfl rfl ?_
        refine tt_if_eq (M := MX11_dirt) (pc := 129) 158 dX11_dirt_129 rfl ?_ ?_
        · exact id
        · refine tt_ld (M := MX11_dirt) (pc := 132) dX11_dirt_132 rfl rfl rfl rfl rfl ?_
          refine tt_sipush (M := MX11_dirt) (pc := 133) dX11_dirt_133 (by decide) ?_
          refine tt_ld (M := MX11_dirt) (pc := 136) dX11_dirt_136 rfl rfl rfl rfl rfl ?_
          refine tt_iconst (M := MX11_dirt) (pc := 138) dX11_dirt_138 ?_
          refine tt_ld (M := MX11_dirt) (pc := 139) dX11_dirt_139 rfl rfl rfl rfl rfl ?_
          refine tt_sipush (M := MX11_dirt) (pc := 140) dX11_dirt_140 (by decide) ?_
          refine tt_ld (M := MX11_dirt) (pc := 143) dX11_dirt_143 rfl rfl rfl rfl rfl ?_
          refine tt_iconst (M := MX11_dirt) (pc := 145) dX11_dirt_145 ?_
          refine tt_vcIN (M := MX11_dirt) (pc := 146) dX11_dirt_146 rfl rfl [.int (I 0), .int (I l6), .int (I 1654), .ref 90] rfl rfl ⟨rfl, by decide, Nat.le_of_ble_eq_true rfl⟩ h0.1 fun v115 S116 => ?_
          refine tt_iconst (M := MX11_dirt) (pc := 149) dX11_dirt_149 ?_
          refine tt_iadd (M := MX11_dirt) (pc := 150) dX11_dirt_150 ?_
          refine tt_bipush (M := MX11_dirt) (pc := 151) dX11_dirt_151 (by decide) ?_
          refine tt_irem (M := MX11_dirt) (pc := 153) dX11_dirt_153 (by decide) ?_
          refine tt_vcIN (M := MX11_dirt) (pc := 154) dX11_dirt_154 rfl rfl [] rfl rfl ⟨rfl, by decide, Nat.le_of_ble_eq_true rfl⟩ h0.1 fun v117 S118 => ?_
          refine tt_pop (M := MX11_dirt) (pc := 157) dX11_dirt_157 rfl ?_
          exact id
theorem qX11_dirt_158 {sc : Nat × (Nat → Int32)} {SH : List mCell} {S : mStore} {r : mR × mW} (h0 : sMod SH) {l1 : Int} {l2 : Int} {l3 : Int} {l4 : Int} {l5 : Int} {l6 : Int} {l7 : Int} {l8 : Int} {l9 : Int} {l10 : Int} {l11 : Int} : ((∃ v101 S102, G sc MX11_ticksOf 0 [some (.ref 90), some (.int (I 1654)), some (.int (I 1)), none, none] [] SH S (rI v101 SH S102) ∧ G sc MX11_dirt 83 [some (.ref 90), some (.int (I l1)), some (.int (I l2)), some (.int (I l3)), some (.int (I l4)), some (.int (I l5)), some (.int (I l6)), some (.int (I l7)), some (.int (I l8)), some (.int (I l9)), some (.int (I (l10 + 1))), some (.int (I l11))] [] SH S102 r)) → G sc MX11_dirt 158 [some (.ref 90), some (.int (I l1)), some (.int (I l2)), some (.int (I l3)), some (.int (I l4)), some (.int (I l5)), some (.int (I l6)), some (.int (I l7)), some (.int (I l8)), some (.int (I l9)), some (.int (I l10)), some (.int (I l11))] [] SH S r := by
  refine tt_ld (M := MX11_dirt) (pc := 158) dX11_dirt_158 rfl rfl rfl rfl rfl ?_
  refine tt_sipush (M := MX11_dirt) (pc := 159) dX11_dirt_159 (by decide) ?_
  refine tt_iconst (M := MX11_dirt) (pc := 162) dX11_dirt_162 ?_
  refine tt_vcIN (M := MX11_dirt) (pc := 163) dX11_dirt_163 rfl rfl [] rfl rfl ⟨rfl, by decide, Nat.le_of_ble_eq_true rfl⟩ h0.1 fun v101 S102 => ?_
  refine tt_pop (M := MX11_dirt) (pc := 166) dX11_dirt_166 rfl ?_
  refine tt_iinc (M := MX11_dirt) (pc := 167) [some (.ref 90), some (.int (I l1)), some (.int (I l2)), some (.int (I l3)), some (.int (I l4)), some (.int (I l5)), some (.int (I l6)), some (.int (I l7)), some (.int (I l8)), some (.int (I l9)), some (.int (I (l10 + 1))), some (.int (I l11))] dX11_dirt_167 rfl rfl ?_
  refine tt_goto (M := MX11_dirt) (pc := 170) 83 dX11_dirt_170 rfl ?_
  exact id
theorem qX11_draw_0 {sc : Nat × (Nat → Int32)} {SH : List mCell} {S : mStore} {r : mR × mW} (h0 : sMod SH) {l1 : Int} : ((I l1 ≠ I 0 ∧ r = rI ((ian (isr ((up S 90 58 (((S 90 58) * 1103515245) + 12345)) 90 58) 16) 32767) - idv (ian (isr ((up S 90 58 (((S 90 58) * 1103515245) + 12345)) 90 58) 16) 32767) l1 * l1) SH (up S 90 58 (((S 90 58) * 1103515245) + 12345)))) → G sc MX11_draw 0 [some (.ref 90), some (.int (I l1))] [] SH S r := by
  refine tt_ld (M := MX11_draw) (pc := 0) dX11_draw_0 rfl rfl rfl rfl rfl ?_
  refine tt_ld (M := MX11_draw) (pc := 1) dX11_draw_1 rfl rfl rfl rfl rfl ?_
  refine tt_getI (M := MX11_draw) (pc := 2) dX11_draw_2 rfl h0.1 rfl ?_
  refine tt_push (M := MX11_draw) (pc := 5) 1103515245 dX11_draw_5 rfl (by decide +kernel) ?_
  refine tt_imul (M := MX11_draw) (pc := 8) dX11_draw_8 ?_
  refine tt_sipush (M := MX11_draw) (pc := 9) dX11_draw_9 (by decide) ?_
  refine tt_iadd (M := MX11_draw) (pc := 12) dX11_draw_12 ?_
  refine tt_putI (M := MX11_draw) (pc := 13) dX11_draw_13 rfl rfl (Or.inl rfl) h0.1 rfl ?_
  refine tt_ld (M := MX11_draw) (pc := 16) dX11_draw_16 rfl rfl rfl rfl rfl ?_
  refine tt_getI (M := MX11_draw) (pc := 17) dX11_draw_17 rfl h0.1 rfl ?_
  refine tt_bipush (M := MX11_draw) (pc := 20) dX11_draw_20 (by decide) ?_
  refine tt_ishr (M := MX11_draw) (pc := 22) dX11_draw_22 ?_
  refine tt_sipush (M := MX11_draw) (pc := 23) dX11_draw_23 (by decide) ?_
  refine tt_iand (M := MX11_draw) (pc := 26) dX11_draw_26 ?_
  refine tt_ld (M := MX11_draw) (pc := 27) dX11_draw_27 rfl rfl rfl rfl rfl ?_
  refine tt_iremc (M := MX11_draw) (pc := 28) dX11_draw_28 ?_
  exact tt_iret (M := MX11_draw) (pc := 29) dX11_draw_29 rfl
theorem qX11_fails_0 {sc : Nat × (Nat → Int32)} {SH : List mCell} {S : mStore} {r : mR × mW} (h0 : sMod SH) {u1 : Option Value} {u2 : Option Value} {u3 : Option Value} : ((∃ v101 S102, G sc MX11_draw 0 [some (.ref 90), some (.int (I 4))] [] SH S (rI v101 SH S102) ∧ (if I v101 = I 3 then ((I 0 = I 0 ∨ I 0 = I 1) ∧ r = rI 0 SH S102) else (if I (S102 90 19) = I 0 then ((I 0 = I 0 ∨ I 0 = I 1) ∧ r = rI 0 SH S102) else (∃ v103 S104, G sc MX11_draw 0 [some (.ref 90), some (.int (I (S102 90 19)))] [] SH S102 (rI v103 SH S104) ∧ (if I v101 = I 0 then (∃ v112 S113, G sc MX11_draw 0 [some (.ref 90), some (.int (I 4))] [] SH S104 (rI v112 SH S113) ∧ (∃ v114 S115, G sc MX11_draw 0 [some (.ref 90), some (.int (I 4))] [] SH S113 (rI v114 SH S115) ∧ (∃ v116 S117, G sc MX11_writesCell 0 [some (.ref 90), some (.int (I 1654)), some (.int (I v103)), some (.int (I v112)), some (.int (I v114))] [] SH S115 (rI v116 SH S117) ∧ (if I v116 = I (-1) then ((I 1 = I 0 ∨ I 1 = I 1) ∧ r = rI 1 SH S117) else ((I 0 = I 0 ∨ I 0 = I 1) ∧ r = rI 0 SH S117))))) else (if I v101 = I 1 then (∃ v107 S108, G sc MX11_draw 0 [some (.ref 90), some (.int (I (S104 90 19)))] [] SH S104 (rI v107 SH S108) ∧ (∃ S109, G sc MX11_saysAs 0 [some (.ref 90), some (.int (I 1654)), some (.int (I v107)), none] [] SH S108 (rV SH S109) ∧ (∃ v110 S111, G sc MX11_writes 0 [some (.ref 90), some (.int (I 1654)), some (.int (I v103)), none, none, none, none] [] SH S109 (rI v110 SH S111) ∧ (if I v110 = I (-1) then ((I 1 = I 0 ∨ I 1 = I 1) ∧ r = rI 1 SH S111) else ((I 0 = I 0 ∨ I 0 = I 1) ∧ r = rI 0 SH S111))))) else (∃ v105 S106, G sc MX11_drops 0 [some (.ref 90), some (.int (I 1654)), some (.int (I v103)), none] [] SH S104 (rI v105 SH S106) ∧ ((I 0 = I 0 ∨ I 0 = I 1) ∧ r = rI 0 SH S106))))))))) → G sc MX11_fails 0 [some (.ref 90), u1, u2, u3] [] SH S r := by
  refine tt_ld (M := MX11_fails) (pc := 0) dX11_fails_0 rfl rfl rfl rfl rfl ?_
  refine tt_iconst (M := MX11_fails) (pc := 1) dX11_fails_1 ?_
  refine tt_vcIN (M := MX11_fails) (pc := 2) dX11_fails_2 rfl rfl [] rfl rfl ⟨rfl, by decide, Nat.le_of_ble_eq_true rfl⟩ h0.1 fun v101 S102 => ?_
  refine tt_st (M := MX11_fails) (pc := 5) [some (.ref 90), some (.int (I v101)), u2, u3] dX11_fails_5 rfl rfl rfl rfl rfl rfl ?_
  refine tt_ld (M := MX11_fails) (pc := 6) dX11_fails_6 rfl rfl rfl rfl rfl ?_
  refine tt_iconst (M := MX11_fails) (pc := 7) dX11_fails_7 ?_
  refine tt_ic_eq (M := MX11_fails) (pc := 8) 18 dX11_fails_8 rfl ?_ ?_
  · refine tt_iconst (M := MX11_fails) (pc := 18) dX11_fails_18 ?_
    exact tt_zret (M := MX11_fails) (pc := 19) dX11_fails_19 rfl
  · refine tt_ld (M := MX11_fails) (pc := 11) dX11_fails_11 rfl rfl rfl rfl rfl ?_
    refine tt_getI (M := MX11_fails) (pc := 12) dX11_fails_12 rfl h0.1 rfl ?_
    refine tt_if_ne (M := MX11_fails) (pc := 15) 20 dX11_fails_15 rfl ?_ ?_
    · refine tt_ld (M := MX11_fails) (pc := 20) dX11_fails_20 rfl rfl rfl rfl rfl ?_
      refine tt_ld (M := MX11_fails) (pc := 21) dX11_fails_21 rfl rfl rfl rfl rfl ?_
      refine tt_getI (M := MX11_fails) (pc := 22) dX11_fails_22 rfl h0.1 rfl ?_
      refine tt_vcIN (M := MX11_fails) (pc := 25) dX11_fails_25 rfl rfl [] rfl rfl ⟨rfl, by decide, Nat.le_of_ble_eq_true rfl⟩ h0.1 fun v103 S104 => ?_
      refine tt_st (M := MX11_fails) (pc := 28) [some (.ref 90), some (.int (I v101)), some (.int (I v103)), u3] dX11_fails_28 rfl rfl rfl rfl rfl rfl ?_
      refine tt_ld (M := MX11_fails) (pc := 29) dX11_fails_29 rfl rfl rfl rfl rfl ?_
      refine tt_if_ne (M := MX11_fails) (pc := 30) 63 dX11_fails_30 rfl ?_ ?_
      · refine tt_ld (M := MX11_fails) (pc := 63) dX11_fails_63 rfl rfl rfl rfl rfl ?_
        refine tt_iconst (M := MX11_fails) (pc := 64) dX11_fails_64 ?_
        refine tt_ic_ne (M := MX11_fails) (pc := 65) 101 dX11_fails_65 rfl ?_ ?_
        · refine tt_ld (M := MX11_fails) (pc := 101) dX11_fails_101 rfl rfl rfl rfl rfl ?_
          refine tt_sipush (M := MX11_fails) (pc := 102) dX11_fails_102 (by decide) ?_
          refine tt_ld (M := MX11_fails) (pc := 105) dX11_fails_105 rfl rfl rfl rfl rfl ?_
          refine tt_vcIN (M := MX11_fails) (pc := 106) dX11_fails_106 rfl rfl [] rfl rfl ⟨rfl, by decide, Nat.le_of_ble_eq_true rfl⟩ h0.1 fun v105 S106 => ?_
          refine tt_pop (M := MX11_fails) (pc := 109) dX11_fails_109 rfl ?_
          refine tt_iconst (M := MX11_fails) (pc := 110) dX11_fails_110 ?_
          exact tt_zret (M := MX11_fails) (pc := 111) dX11_fails_111 rfl
        · refine tt_ld (M := MX11_fails) (pc := 68) dX11_fails_68 rfl rfl rfl rfl rfl ?_
          refine tt_sipush (M := MX11_fails) (pc := 69) dX11_fails_69 (by decide) ?_
          refine tt_ld (M := MX11_fails) (pc := 72) dX11_fails_72 rfl rfl rfl rfl rfl ?_
          refine tt_ld (M := MX11_fails) (pc := 73) dX11_fails_73 rfl rfl rfl rfl rfl ?_
          refine tt_getI (M := MX11_fails) (pc := 74) dX11_fails_74 rfl h0.1 rfl ?_
          refine tt_vcIN (M := MX11_fails) (pc := 77) dX11_fails_77 rfl rfl [.int (I 1654), .ref 90] rfl rfl ⟨rfl, by decide, Nat.le_of_ble_eq_true rfl⟩ h0.1 fun v107 S108 => ?_
          refine tt_vcVN (M := MX11_fails) (pc := 80) dX11_fails_80 rfl rfl [] rfl rfl ⟨rfl, by decide, Nat.le_of_ble_eq_true rfl⟩ h0.1 fun S109 => ?_
          refine tt_ld (M := MX11_fails) (pc := 83) dX11_fails_83 rfl rfl rfl rfl rfl ?_
          refine tt_sipush (M := MX11_fails) (pc := 84) dX11_fails_84 (by decide) ?_
          refine tt_ld (M := MX11_fails) (pc := 87) dX11_fails_87 rfl rfl rfl rfl rfl ?_
          refine tt_vcIN (M := MX11_fails) (pc := 88) dX11_fails_88 rfl rfl [] rfl rfl ⟨rfl, by decide, Nat.le_of_ble_eq_true rfl⟩ h0.1 fun v110 S111 => ?_
          refine tt_iconst (M := MX11_fails) (pc := 91) dX11_fails_91 ?_
          refine tt_ic_ne (M := MX11_fails) (pc := 92) 99 dX11_fails_92 rfl ?_ ?_
          · refine tt_iconst (M := MX11_fails) (pc := 99) dX11_fails_99 ?_
            exact tt_zret (M := MX11_fails) (pc := 100) dX11_fails_100 rfl
          · refine tt_iconst (M := MX11_fails) (pc := 95) dX11_fails_95 ?_
            refine tt_goto (M := MX11_fails) (pc := 96) 100 dX11_fails_96 rfl ?_
            exact tt_zret (M := MX11_fails) (pc := 100) dX11_fails_100 rfl
      · refine tt_ld (M := MX11_fails) (pc := 33) dX11_fails_33 rfl rfl rfl rfl rfl ?_
        refine tt_iconst (M := MX11_fails) (pc := 34) dX11_fails_34 ?_
        refine tt_vcIN (M := MX11_fails) (pc := 35) dX11_fails_35 rfl rfl [] rfl rfl ⟨rfl, by decide, Nat.le_of_ble_eq_true rfl⟩ h0.1 fun v112 S113 => ?_
        refine tt_st (M := MX11_fails) (pc := 38) [some (.ref 90), some (.int (I v101)), some (.int (I v103)), some (.int (I v112))] dX11_fails_38 rfl rfl rfl rfl rfl rfl ?_
        refine tt_ld (M := MX11_fails) (pc := 39) dX11_fails_39 rfl rfl rfl rfl rfl ?_
        refine tt_sipush (M := MX11_fails) (pc := 40) dX11_fails_40 (by decide) ?_
        refine tt_ld (M := MX11_fails) (pc := 43) dX11_fails_43 rfl rfl rfl rfl rfl ?_
        refine tt_ld (M := MX11_fails) (pc := 44) dX11_fails_44 rfl rfl rfl rfl rfl ?_
        refine tt_ld (M := MX11_fails) (pc := 45) dX11_fails_45 rfl rfl rfl rfl rfl ?_
        refine tt_iconst (M := MX11_fails) (pc := 46) dX11_fails_46 ?_
        refine tt_vcIN (M := MX11_fails) (pc := 47) dX11_fails_47 rfl rfl [.int (I v112), .int (I v103), .int (I 1654), .ref 90] rfl rfl ⟨rfl, by decide, Nat.le_of_ble_eq_true rfl⟩ h0.1 fun v114 S115 => ?_
        refine tt_vcIN (M := MX11_fails) (pc := 50) dX11_fails_50 rfl rfl [] rfl rfl ⟨rfl, by decide, Nat.le_of_ble_eq_true rfl⟩ h0.1 fun v116 S117 => ?_
        refine tt_iconst (M := MX11_fails) (pc := 53) dX11_fails_53 ?_
        refine tt_ic_ne (M := MX11_fails) (pc := 54) 61 dX11_fails_54 rfl ?_ ?_
        · refine tt_iconst (M := MX11_fails) (pc := 61) dX11_fails_61 ?_
          exact tt_zret (M := MX11_fails) (pc := 62) dX11_fails_62 rfl
        · refine tt_iconst (M := MX11_fails) (pc := 57) dX11_fails_57 ?_
          refine tt_goto (M := MX11_fails) (pc := 58) 62 dX11_fails_58 rfl ?_
          exact tt_zret (M := MX11_fails) (pc := 62) dX11_fails_62 rfl
    · refine tt_iconst (M := MX11_fails) (pc := 18) dX11_fails_18 ?_
      exact tt_zret (M := MX11_fails) (pc := 19) dX11_fails_19 rfl
theorem qX11_years_0 {sc : Nat × (Nat → Int32)} {SH : List mCell} {S : mStore} {r : mR × mW} (h0 : sMod SH) {l1 : Int} {l2 : Int} {l3 : Int} {u4 : Option Value} {u5 : Option Value} {u6 : Option Value} : ((∃ v101 S102, G sc MX11_within 0 [some (.int (I l3)), some (.int (I 0)), some (.int (I 2))] [] SH (up S 90 4 0) (rI v101 SH S102) ∧ (∃ v103 S104, G sc MX11_right 0 [some (.ref 90), some (.int (I v101)), some (.int (I 1))] [] SH S102 (rI v103 SH S104) ∧ (if I v103 = I 0 then r = rI 0 SH S104 else (∃ v105 S106, G sc MX11_within 0 [some (.int (I l2)), some (.int (I 0)), some (.int (I 60))] [] SH S104 (rI v105 SH S106) ∧ (∃ v107 S108, G sc MX11_right 0 [some (.ref 90), some (.int (I v105)), some (.int (I 2))] [] SH S106 (rI v107 SH S108) ∧ (if I v107 = I 0 then r = rI 0 SH S108 else (∃ S109, G sc MX11_tries 0 [some (.ref 90)] [] SH S108 (rV SH S109) ∧ G sc MX11_years 54 [some (.ref 90), some (.int (I l1)), some (.int (I l2)), some (.int (I l3)), some (.int (I 0)), some (.int (I 0)), some (.int (I 0))] [] SH (up S109 90 58 l1) r)))))))) → G sc MX11_years 0 [some (.ref 90), some (.int (I l1)), some (.int (I l2)), some (.int (I l3)), u4, u5, u6] [] SH S r := by
  refine tt_ld (M := MX11_years) (pc := 0) dX11_years_0 rfl rfl rfl rfl rfl ?_
  refine tt_iconst (M := MX11_years) (pc := 1) dX11_years_1 ?_
  refine tt_putI (M := MX11_years) (pc := 2) dX11_years_2 rfl rfl (Or.inl rfl) h0.1 rfl ?_
  refine tt_ld (M := MX11_years) (pc := 5) dX11_years_5 rfl rfl rfl rfl rfl ?_
  refine tt_ld (M := MX11_years) (pc := 6) dX11_years_6 rfl rfl rfl rfl rfl ?_
  refine tt_iconst (M := MX11_years) (pc := 7) dX11_years_7 ?_
  refine tt_iconst (M := MX11_years) (pc := 8) dX11_years_8 ?_
  refine tt_scIN (M := MX11_years) (pc := 9) dX11_years_9 rfl [.ref 90] rfl rfl ⟨rfl, by decide, Nat.le_of_ble_eq_true rfl⟩ fun v101 S102 => ?_
  refine tt_iconst (M := MX11_years) (pc := 12) dX11_years_12 ?_
  refine tt_vcIN (M := MX11_years) (pc := 13) dX11_years_13 rfl rfl [] rfl rfl ⟨rfl, by decide, Nat.le_of_ble_eq_true rfl⟩ h0.1 fun v103 S104 => ?_
  refine tt_if_eq (M := MX11_years) (pc := 16) 34 dX11_years_16 rfl ?_ ?_
  · refine tt_iconst (M := MX11_years) (pc := 34) dX11_years_34 ?_
    exact tt_iret (M := MX11_years) (pc := 35) dX11_years_35 rfl
  · refine tt_ld (M := MX11_years) (pc := 19) dX11_years_19 rfl rfl rfl rfl rfl ?_
    refine tt_ld (M := MX11_years) (pc := 20) dX11_years_20 rfl rfl rfl rfl rfl ?_
    refine tt_iconst (M := MX11_years) (pc := 21) dX11_years_21 ?_
    refine tt_bipush (M := MX11_years) (pc := 22) dX11_years_22 (by decide) ?_
    refine tt_scIN (M := MX11_years) (pc := 24) dX11_years_24 rfl [.ref 90] rfl rfl ⟨rfl, by decide, Nat.le_of_ble_eq_true rfl⟩ fun v105 S106 => ?_
    refine tt_iconst (M := MX11_years) (pc := 27) dX11_years_27 ?_
    refine tt_vcIN (M := MX11_years) (pc := 28) dX11_years_28 rfl rfl [] rfl rfl ⟨rfl, by decide, Nat.le_of_ble_eq_true rfl⟩ h0.1 fun v107 S108 => ?_
    refine tt_if_ne (M := MX11_years) (pc := 31) 36 dX11_years_31 rfl ?_ ?_
    · refine tt_ld (M := MX11_years) (pc := 36) dX11_years_36 rfl rfl rfl rfl rfl ?_
      refine tt_vcVN (M := MX11_years) (pc := 37) dX11_years_37 rfl rfl [] rfl rfl ⟨rfl, by decide, Nat.le_of_ble_eq_true rfl⟩ h0.1 fun S109 => ?_
      refine tt_ld (M := MX11_years) (pc := 40) dX11_years_40 rfl rfl rfl rfl rfl ?_
      refine tt_ld (M := MX11_years) (pc := 41) dX11_years_41 rfl rfl rfl rfl rfl ?_
      refine tt_putI (M := MX11_years) (pc := 42) dX11_years_42 rfl rfl (Or.inl rfl) h0.1 rfl ?_
      refine tt_iconst (M := MX11_years) (pc := 45) dX11_years_45 ?_
      refine tt_st (M := MX11_years) (pc := 46) [some (.ref 90), some (.int (I l1)), some (.int (I l2)), some (.int (I l3)), some (.int (I 0)), u5, u6] dX11_years_46 rfl rfl rfl rfl rfl rfl ?_
      refine tt_iconst (M := MX11_years) (pc := 48) dX11_years_48 ?_
      refine tt_st (M := MX11_years) (pc := 49) [some (.ref 90), some (.int (I l1)), some (.int (I l2)), some (.int (I l3)), some (.int (I 0)), some (.int (I 0)), u6] dX11_years_49 rfl rfl rfl rfl rfl rfl ?_
      refine tt_iconst (M := MX11_years) (pc := 51) dX11_years_51 ?_
      refine tt_st (M := MX11_years) (pc := 52) [some (.ref 90), some (.int (I l1)), some (.int (I l2)), some (.int (I l3)), some (.int (I 0)), some (.int (I 0)), some (.int (I 0))] dX11_years_52 rfl rfl rfl rfl rfl rfl ?_
      exact id
    · refine tt_iconst (M := MX11_years) (pc := 34) dX11_years_34 ?_
      exact tt_iret (M := MX11_years) (pc := 35) dX11_years_35 rfl
theorem qX11_years_54 {sc : Nat × (Nat → Int32)} {SH : List mCell} {S : mStore} {r : mR × mW} (h0 : sMod SH) {l1 : Int} {l2 : Int} {l3 : Int} {l4 : Int} {l5 : Int} {l6 : Int} : ((if I l2 ≤ I l6 then (if I l3 = I 0 then r = rI l4 SH S else (if I l3 = I 1 then (∃ v101 S102, G sc MX11_usedOf 0 [some (.ref 90), some (.int (I 1654)), none, none] [] SH S (rI v101 SH S102) ∧ r = rI v101 SH S102) else r = rI l5 SH S)) else (∃ v103 S104, G sc MX11_fails 0 [some (.ref 90), none, none, none] [] SH S (rI v103 SH S104) ∧ (if I v103 = I 0 then (∃ v105 S106, G sc MX11_ticksOf 0 [some (.ref 90), some (.int (I 1654)), some (.int (I 1)), none, none] [] SH S104 (rI v105 SH S106) ∧ G sc MX11_years 54 [some (.ref 90), some (.int (I l1)), some (.int (I l2)), some (.int (I l3)), some (.int (I (l4 + v105))), some (.int (I (l5 + 0))), some (.int (I (l6 + 1)))] [] SH S106 r) else (∃ v107 S108, G sc MX11_ticksOf 0 [some (.ref 90), some (.int (I 1654)), some (.int (I 1)), none, none] [] SH S104 (rI v107 SH S108) ∧ G sc MX11_years 54 [some (.ref 90), some (.int (I l1)), some (.int (I l2)), some (.int (I l3)), some (.int (I (l4 + v107))), some (.int (I (l5 + 1))), some (.int (I (l6 + 1)))] [] SH S108 r))))) → G sc MX11_years 54 [some (.ref 90), some (.int (I l1)), some (.int (I l2)), some (.int (I l3)), some (.int (I l4)), some (.int (I l5)), some (.int (I l6))] [] SH S r := by
  refine tt_ld (M := MX11_years) (pc := 54) dX11_years_54 rfl rfl rfl rfl rfl ?_
  refine tt_ld (M := MX11_years) (pc := 56) dX11_years_56 rfl rfl rfl rfl rfl ?_
  refine tt_ic_ge (M := MX11_years) (pc := 57) 96 dX11_years_57 rfl ?_ ?_
  · refine tt_ld (M := MX11_years) (pc := 96) dX11_years_96 rfl rfl rfl rfl rfl ?_
    refine tt_if_ne (M := MX11_years) (pc := 97) 105 dX11_years_97 rfl ?_ ?_
    · refine tt_ld (M := MX11_years) (pc := 105) dX11_years_105 rfl rfl rfl rfl rfl ?_
      refine tt_iconst (M := MX11_years) (pc := 106) dX11_years_106 ?_
      refine tt_ic_ne (M := MX11_years) (pc := 107) 120 dX11_years_107 rfl ?_ ?_
      · refine tt_ld (M := MX11_years) (pc := 120) dX11_years_120 rfl rfl rfl rfl rfl ?_
        exact tt_iret (M := MX11_years) (pc := 122) dX11_years_122 rfl
      · refine tt_ld (M := MX11_years) (pc := 110) dX11_years_110 rfl rfl rfl rfl rfl ?_
        refine tt_sipush (M := MX11_years) (pc := 111) dX11_years_111 (by decide) ?_
        refine tt_vcIN (M := MX11_years) (pc := 114) dX11_years_114 rfl rfl [] rfl rfl ⟨rfl, by decide, Nat.le_of_ble_eq_true rfl⟩ h0.1 fun v101 S102 => ?_
        refine tt_goto (M := MX11_years) (pc := 117) 122 dX11_years_117 rfl ?_
        exact tt_iret (M := MX11_years) (pc := 122) dX11_years_122 rfl
    · refine tt_ld (M := MX11_years) (pc := 100) dX11_years_100 rfl rfl rfl rfl rfl ?_
      refine tt_goto (M := MX11_years) (pc := 102) 122 dX11_years_102 rfl ?_
      exact tt_iret (M := MX11_years) (pc := 122) dX11_years_122 rfl
  · refine tt_ld (M := MX11_years) (pc := 60) dX11_years_60 rfl rfl rfl rfl rfl ?_
    refine tt_ld (M := MX11_years) (pc := 62) dX11_years_62 rfl rfl rfl rfl rfl ?_
    refine tt_vcIN (M := MX11_years) (pc := 63) dX11_years_63 rfl rfl [.int (I l5)] rfl rfl ⟨rfl, by decide, Nat.le_of_ble_eq_true rfl⟩ h0.1 fun v103 S104 => ?_
    refine tt_if_eq (M := MX11_years) (pc := 66) 73 dX11_years_66 rfl ?_ ?_
    · refine tt_iconst (M := MX11_years) (pc := 73) dX11_years_73 ?_
      refine tt_iadd (M := MX11_years) (pc := 74) dX11_years_74 ?_
      refine tt_st (M := MX11_years) (pc := 75) [some (.ref 90), some (.int (I l1)), some (.int (I l2)), some (.int (I l3)), some (.int (I l4)), some (.int (I (l5 + 0))), some (.int (I l6))] dX11_years_75 rfl rfl rfl rfl rfl rfl ?_
      refine tt_ld (M := MX11_years) (pc := 77) dX11_years_77 rfl rfl rfl rfl rfl ?_
      refine tt_ld (M := MX11_years) (pc := 79) dX11_years_79 rfl rfl rfl rfl rfl ?_
      refine tt_sipush (M := MX11_years) (pc := 80) dX11_years_80 (by decide) ?_
      refine tt_iconst (M := MX11_years) (pc := 83) dX11_years_83 ?_
      refine tt_vcIN (M := MX11_years) (pc := 84) dX11_years_84 rfl rfl [.int (I l4)] rfl rfl ⟨rfl, by decide, Nat.le_of_ble_eq_true rfl⟩ h0.1 fun v105 S106 => ?_
      refine tt_iadd (M := MX11_years) (pc := 87) dX11_years_87 ?_
      refine tt_st (M := MX11_years) (pc := 88) [some (.ref 90), some (.int (I l1)), some (.int (I l2)), some (.int (I l3)), some (.int (I (l4 + v105))), some (.int (I (l5 + 0))), some (.int (I l6))] dX11_years_88 rfl rfl rfl rfl rfl rfl ?_
      refine tt_iinc (M := MX11_years) (pc := 90) [some (.ref 90), some (.int (I l1)), some (.int (I l2)), some (.int (I l3)), some (.int (I (l4 + v105))), some (.int (I (l5 + 0))), some (.int (I (l6 + 1)))] dX11_years_90 rfl rfl ?_
      refine tt_goto (M := MX11_years) (pc := 93) 54 dX11_years_93 rfl ?_
      exact id
    · refine tt_iconst (M := MX11_years) (pc := 69) dX11_years_69 ?_
      refine tt_goto (M := MX11_years) (pc := 70) 74 dX11_years_70 rfl ?_
      refine tt_iadd (M := MX11_years) (pc := 74) dX11_years_74 ?_
      refine tt_st (M := MX11_years) (pc := 75) [some (.ref 90), some (.int (I l1)), some (.int (I l2)), some (.int (I l3)), some (.int (I l4)), some (.int (I (l5 + 1))), some (.int (I l6))] dX11_years_75 rfl rfl rfl rfl rfl rfl ?_
      refine tt_ld (M := MX11_years) (pc := 77) dX11_years_77 rfl rfl rfl rfl rfl ?_
      refine tt_ld (M := MX11_years) (pc := 79) dX11_years_79 rfl rfl rfl rfl rfl ?_
      refine tt_sipush (M := MX11_years) (pc := 80) dX11_years_80 (by decide) ?_
      refine tt_iconst (M := MX11_years) (pc := 83) dX11_years_83 ?_
      refine tt_vcIN (M := MX11_years) (pc := 84) dX11_years_84 rfl rfl [.int (I l4)] rfl rfl ⟨rfl, by decide, Nat.le_of_ble_eq_true rfl⟩ h0.1 fun v107 S108 => ?_
      refine tt_iadd (M := MX11_years) (pc := 87) dX11_years_87 ?_
      refine tt_st (M := MX11_years) (pc := 88) [some (.ref 90), some (.int (I l1)), some (.int (I l2)), some (.int (I l3)), some (.int (I (l4 + v107))), some (.int (I (l5 + 1))), some (.int (I l6))] dX11_years_88 rfl rfl rfl rfl rfl rfl ?_
      refine tt_iinc (M := MX11_years) (pc := 90) [some (.ref 90), some (.int (I l1)), some (.int (I l2)), some (.int (I l3)), some (.int (I (l4 + v107))), some (.int (I (l5 + 1))), some (.int (I (l6 + 1)))] dX11_years_90 rfl rfl ?_
      refine tt_goto (M := MX11_years) (pc := 93) 54 dX11_years_93 rfl ?_
      exact id
theorem qX11_image_0 {sc : Nat × (Nat → Int32)} {SH : List mCell} {S : mStore} {r : mR × mW} (h0 : sMod SH) {u1 : Option Value} : ((∃ S101, G sc MX11_copies 0 [some (.ref 90), some (.int (I 0)), some (.int (I 69468)), some (.int (I 1654)), none] [] SH (up S 90 4 0) (rV SH S101) ∧ (∃ S102, G sc MX11_copies 0 [some (.ref 90), some (.int (I 3308)), some (.int (I 71122)), some (.int (I 66160)), none] [] SH S101 (rV SH S102) ∧ G sc MX11_image 55 [some (.ref 90), some (.int (I 0))] [] SH (up (up (up S102 90 8 (S102 90 5)) 90 9 ((up S102 90 8 (S102 90 5)) 90 6)) 90 10 ((up (up S102 90 8 (S102 90 5)) 90 9 ((up S102 90 8 (S102 90 5)) 90 6)) 90 7)) r))) → G sc MX11_image 0 [some (.ref 90), u1] [] SH S r := by
  refine tt_ld (M := MX11_image) (pc := 0) dX11_image_0 rfl rfl rfl rfl rfl ?_
  refine tt_iconst (M := MX11_image) (pc := 1) dX11_image_1 ?_
  refine tt_putI (M := MX11_image) (pc := 2) dX11_image_2 rfl rfl (Or.inl rfl) h0.1 rfl ?_
  refine tt_ld (M := MX11_image) (pc := 5) dX11_image_5 rfl rfl rfl rfl rfl ?_
  refine tt_iconst (M := MX11_image) (pc := 6) dX11_image_6 ?_
  refine tt_push (M := MX11_image) (pc := 7) 69468 dX11_image_7 rfl (by decide +kernel) ?_
  refine tt_sipush (M := MX11_image) (pc := 10) dX11_image_10 (by decide) ?_
  refine tt_vcVN (M := MX11_image) (pc := 13) dX11_image_13 rfl rfl [] rfl rfl ⟨rfl, by decide, Nat.le_of_ble_eq_true rfl⟩ h0.1 fun S101 => ?_
  refine tt_ld (M := MX11_image) (pc := 16) dX11_image_16 rfl rfl rfl rfl rfl ?_
  refine tt_sipush (M := MX11_image) (pc := 17) dX11_image_17 (by decide) ?_
  refine tt_push (M := MX11_image) (pc := 20) 71122 dX11_image_20 rfl (by decide +kernel) ?_
  refine tt_push (M := MX11_image) (pc := 23) 66160 dX11_image_23 rfl (by decide +kernel) ?_
  refine tt_vcVN (M := MX11_image) (pc := 26) dX11_image_26 rfl rfl [] rfl rfl ⟨rfl, by decide, Nat.le_of_ble_eq_true rfl⟩ h0.1 fun S102 => ?_
  refine tt_ld (M := MX11_image) (pc := 29) dX11_image_29 rfl rfl rfl rfl rfl ?_
  refine tt_ld (M := MX11_image) (pc := 30) dX11_image_30 rfl rfl rfl rfl rfl ?_
  refine tt_getI (M := MX11_image) (pc := 31) dX11_image_31 rfl h0.1 rfl ?_
  refine tt_putI (M := MX11_image) (pc := 34) dX11_image_34 rfl rfl (Or.inl rfl) h0.1 rfl ?_
  refine tt_ld (M := MX11_image) (pc := 37) dX11_image_37 rfl rfl rfl rfl rfl ?_
  refine tt_ld (M := MX11_image) (pc := 38) dX11_image_38 rfl rfl rfl rfl rfl ?_
  refine tt_getI (M := MX11_image) (pc := 39) dX11_image_39 rfl h0.1 rfl ?_
  refine tt_putI (M := MX11_image) (pc := 42) dX11_image_42 rfl rfl (Or.inl rfl) h0.1 rfl ?_
  refine tt_ld (M := MX11_image) (pc := 45) dX11_image_45 rfl rfl rfl rfl rfl ?_
  refine tt_ld (M := MX11_image) (pc := 46) dX11_image_46 rfl rfl rfl rfl rfl ?_
  refine tt_getI (M := MX11_image) (pc := 47) dX11_image_47 rfl h0.1 rfl ?_
  refine tt_putI (M := MX11_image) (pc := 50) dX11_image_50 rfl rfl (Or.inl rfl) h0.1 rfl ?_
  refine tt_iconst (M := MX11_image) (pc := 53) dX11_image_53 ?_
  refine tt_st (M := MX11_image) (pc := 54) [some (.ref 90), some (.int (I 0))] dX11_image_54 rfl rfl rfl rfl rfl rfl ?_
  exact id
theorem qX11_image_55 {sc : Nat × (Nat → Int32)} {SH : List mCell} {S : mStore} {r : mR × mW} (h0 : sMod SH) {l1 : Int} : ((if I 8 ≤ I l1 then G sc MX11_image 99 [some (.ref 90), some (.int (I 0))] [] SH S r else (((0 : Int) ≤ l1 ∧ l1 < 16) ∧ (((0 : Int) ≤ 8 + l1 ∧ 8 + l1 < 16) ∧ (((0 : Int) ≤ l1 ∧ l1 < 16) ∧ (((0 : Int) ≤ 8 + l1 ∧ 8 + l1 < 16) ∧ G sc MX11_image 55 [some (.ref 90), some (.int (I (l1 + 1)))] [] SH (up (up S 92 (8 + l1) (S 92 l1)) 93 (8 + l1) ((up S 92 (8 + l1) (S 92 l1)) 93 l1)) r)))))) → G sc MX11_image 55 [some (.ref 90), some (.int (I l1))] [] SH S r := by
  refine tt_ld (M := MX11_image) (pc := 55) dX11_image_55 rfl rfl rfl rfl rfl ?_
  refine tt_bipush (M := MX11_image) (pc := 56) dX11_image_56 (by decide) ?_
  refine tt_ic_ge (M := MX11_image) (pc := 58) 97 dX11_image_58 rfl ?_ ?_
  · refine tt_iconst (M := MX11_image) (pc := 97) dX11_image_97 ?_
    refine tt_st (M := MX11_image) (pc := 98) [some (.ref 90), some (.int (I 0))] dX11_image_98 rfl rfl rfl rfl rfl rfl ?_
    exact id
  · refine tt_ld (M := MX11_image) (pc := 61) dX11_image_61 rfl rfl rfl rfl rfl ?_
    refine tt_getR (M := MX11_image) (pc := 62) dX11_image_62 rfl h0.1 rfl ?_
    refine tt_bipush (M := MX11_image) (pc := 65) dX11_image_65 (by decide) ?_
    refine tt_ld (M := MX11_image) (pc := 67) dX11_image_67 rfl rfl rfl rfl rfl ?_
    refine tt_iadd (M := MX11_image) (pc := 68) dX11_image_68 ?_
    refine tt_ld (M := MX11_image) (pc := 69) dX11_image_69 rfl rfl rfl rfl rfl ?_
    refine tt_getR (M := MX11_image) (pc := 70) dX11_image_70 rfl h0.1 rfl ?_
    refine tt_ld (M := MX11_image) (pc := 73) dX11_image_73 rfl rfl rfl rfl rfl ?_
    refine tt_iaload (M := MX11_image) (pc := 74) dX11_image_74 h0.2.2.1 rfl ?_
    refine tt_iastore (M := MX11_image) (pc := 75) dX11_image_75 h0.2.2.1 rfl ?_
    refine tt_ld (M := MX11_image) (pc := 76) dX11_image_76 rfl rfl rfl rfl rfl ?_
    refine tt_getR (M := MX11_image) (pc := 77) dX11_image_77 rfl h0.1 rfl ?_
    refine tt_bipush (M := MX11_image) (pc := 80) dX11_image_80 (by decide) ?_
    refine tt_ld (M := MX11_image) (pc := 82) dX11_image_82 rfl rfl rfl rfl rfl ?_
    refine tt_iadd (M := MX11_image) (pc := 83) dX11_image_83 ?_
    refine tt_ld (M := MX11_image) (pc := 84) dX11_image_84 rfl rfl rfl rfl rfl ?_
    refine tt_getR (M := MX11_image) (pc := 85) dX11_image_85 rfl h0.1 rfl ?_
    refine tt_ld (M := MX11_image) (pc := 88) dX11_image_88 rfl rfl rfl rfl rfl ?_
    refine tt_iaload (M := MX11_image) (pc := 89) dX11_image_89 h0.2.2.2.1 rfl ?_
    refine tt_iastore (M := MX11_image) (pc := 90) dX11_image_90 h0.2.2.2.1 rfl ?_
    refine tt_iinc (M := MX11_image) (pc := 91) [some (.ref 90), some (.int (I (l1 + 1)))] dX11_image_91 rfl rfl ?_
    refine tt_goto (M := MX11_image) (pc := 94) 55 dX11_image_94 rfl ?_
    exact id
theorem qX11_image_99 {sc : Nat × (Nat → Int32)} {SH : List mCell} {S : mStore} {r : mR × mW} (h0 : sMod SH) {l1 : Int} : ((if I 3 ≤ I l1 then r = rV SH (up S 90 11 1) else (((0 : Int) ≤ l1 ∧ l1 < 6) ∧ (((0 : Int) ≤ 3 + l1 ∧ 3 + l1 < 6) ∧ G sc MX11_image 99 [some (.ref 90), some (.int (I (l1 + 1)))] [] SH (up S 94 (3 + l1) (S 94 l1)) r)))) → G sc MX11_image 99 [some (.ref 90), some (.int (I l1))] [] SH S r := by
  refine tt_ld (M := MX11_image) (pc := 99) dX11_image_99 rfl rfl rfl rfl rfl ?_
  refine tt_iconst (M := MX11_image) (pc := 100) dX11_image_100 ?_
  refine tt_ic_ge (M := MX11_image) (pc := 101) 124 dX11_image_101 rfl ?_ ?_
  · refine tt_ld (M := MX11_image) (pc := 124) dX11_image_124 rfl rfl rfl rfl rfl ?_
    refine tt_iconst (M := MX11_image) (pc := 125) dX11_image_125 ?_
    refine tt_putI (M := MX11_image) (pc := 126) dX11_image_126 rfl rfl (Or.inl rfl) h0.1 rfl ?_
    exact tt_ret (M := MX11_image) (pc := 129) dX11_image_129 rfl
  · refine tt_ld (M := MX11_image) (pc := 104) dX11_image_104 rfl rfl rfl rfl rfl ?_
    refine tt_getR (M := MX11_image) (pc := 105) dX11_image_105 rfl h0.1 rfl ?_
    refine tt_iconst (M := MX11_image) (pc := 108) dX11_image_108 ?_
    refine tt_ld (M := MX11_image) (pc := 109) dX11_image_109 rfl rfl rfl rfl rfl ?_
    refine tt_iadd (M := MX11_image) (pc := 110) dX11_image_110 ?_
    refine tt_ld (M := MX11_image) (pc := 111) dX11_image_111 rfl rfl rfl rfl rfl ?_
    refine tt_getR (M := MX11_image) (pc := 112) dX11_image_112 rfl h0.1 rfl ?_
    refine tt_ld (M := MX11_image) (pc := 115) dX11_image_115 rfl rfl rfl rfl rfl ?_
    refine tt_iaload (M := MX11_image) (pc := 116) dX11_image_116 h0.2.2.2.2.1 rfl ?_
    refine tt_iastore (M := MX11_image) (pc := 117) dX11_image_117 h0.2.2.2.2.1 rfl ?_
    refine tt_iinc (M := MX11_image) (pc := 118) [some (.ref 90), some (.int (I (l1 + 1)))] dX11_image_118 rfl rfl ?_
    refine tt_goto (M := MX11_image) (pc := 121) 99 dX11_image_121 rfl ?_
    exact id
theorem qX11_restore_0 {sc : Nat × (Nat → Int32)} {SH : List mCell} {S : mStore} {r : mR × mW} (h0 : sMod SH) {u1 : Option Value} : ((if I ((up S 90 4 0) 90 11) = I 0 then ((I 0 = I 0 ∨ I 0 = I 1) ∧ r = rI 0 SH (up S 90 4 0)) else (∃ S101, G sc MX11_copies 0 [some (.ref 90), some (.int (I 69468)), some (.int (I 0)), some (.int (I 1654)), none] [] SH (up S 90 4 0) (rV SH S101) ∧ (∃ S102, G sc MX11_copies 0 [some (.ref 90), some (.int (I 71122)), some (.int (I 3308)), some (.int (I 66160)), none] [] SH S101 (rV SH S102) ∧ G sc MX11_restore 64 [some (.ref 90), some (.int (I 0))] [] SH (up (up (up S102 90 5 (S102 90 8)) 90 6 ((up S102 90 5 (S102 90 8)) 90 9)) 90 7 ((up (up S102 90 5 (S102 90 8)) 90 6 ((up S102 90 5 (S102 90 8)) 90 9)) 90 10)) r)))) → G sc MX11_restore 0 [some (.ref 90), u1] [] SH S r := by
  refine tt_ld (M := MX11_restore) (pc := 0) dX11_restore_0 rfl rfl rfl rfl rfl ?_
  refine tt_iconst (M := MX11_restore) (pc := 1) dX11_restore_1 ?_
  refine tt_putI (M := MX11_restore) (pc := 2) dX11_restore_2 rfl rfl (Or.inl rfl) h0.1 rfl ?_
  refine tt_ld (M := MX11_restore) (pc := 5) dX11_restore_5 rfl rfl rfl rfl rfl ?_
  refine tt_getI (M := MX11_restore) (pc := 6) dX11_restore_6 rfl h0.1 rfl ?_
  refine tt_if_ne (M := MX11_restore) (pc := 9) 14 dX11_restore_9 rfl ?_ ?_
  · refine tt_ld (M := MX11_restore) (pc := 14) dX11_restore_14 rfl rfl rfl rfl rfl ?_
    refine tt_push (M := MX11_restore) (pc := 15) 69468 dX11_restore_15 rfl (by decide +kernel) ?_
    refine tt_iconst (M := MX11_restore) (pc := 18) dX11_restore_18 ?_
    refine tt_sipush (M := MX11_restore) (pc := 19) dX11_restore_19 (by decide) ?_
    refine tt_vcVN (M := MX11_restore) (pc := 22) dX11_restore_22 rfl rfl [] rfl rfl ⟨rfl, by decide, Nat.le_of_ble_eq_true rfl⟩ h0.1 fun S101 => ?_
    refine tt_ld (M := MX11_restore) (pc := 25) dX11_restore_25 rfl rfl rfl rfl rfl ?_
    refine tt_push (M := MX11_restore) (pc := 26) 71122 dX11_restore_26 rfl (by decide +kernel) ?_
    refine tt_sipush (M := MX11_restore) (pc := 29) dX11_restore_29 (by decide) ?_
    refine tt_push (M := MX11_restore) (pc := 32) 66160 dX11_restore_32 rfl (by decide +kernel) ?_
    refine tt_vcVN (M := MX11_restore) (pc := 35) dX11_restore_35 rfl rfl [] rfl rfl ⟨rfl, by decide, Nat.le_of_ble_eq_true rfl⟩ h0.1 fun S102 => ?_
    refine tt_ld (M := MX11_restore) (pc := 38) dX11_restore_38 rfl rfl rfl rfl rfl ?_
    refine tt_ld (M := MX11_restore) (pc := 39) dX11_restore_39 rfl rfl rfl rfl rfl ?_
    refine tt_getI (M := MX11_restore) (pc := 40) dX11_restore_40 rfl h0.1 rfl ?_
    refine tt_putI (M := MX11_restore) (pc := 43) dX11_restore_43 rfl rfl (Or.inl rfl) h0.1 rfl ?_
    refine tt_ld (M := MX11_restore) (pc := 46) dX11_restore_46 rfl rfl rfl rfl rfl ?_
    refine tt_ld (M := MX11_restore) (pc := 47) dX11_restore_47 rfl rfl rfl rfl rfl ?_
    refine tt_getI (M := MX11_restore) (pc := 48) dX11_restore_48 rfl h0.1 rfl ?_
    refine tt_putI (M := MX11_restore) (pc := 51) dX11_restore_51 rfl rfl (Or.inl rfl) h0.1 rfl ?_
    refine tt_ld (M := MX11_restore) (pc := 54) dX11_restore_54 rfl rfl rfl rfl rfl ?_
    refine tt_ld (M := MX11_restore) (pc := 55) dX11_restore_55 rfl rfl rfl rfl rfl ?_
    refine tt_getI (M := MX11_restore) (pc := 56) dX11_restore_56 rfl h0.1 rfl ?_
    refine tt_putI (M := MX11_restore) (pc := 59) dX11_restore_59 rfl rfl (Or.inl rfl) h0.1 rfl ?_
    refine tt_iconst (M := MX11_restore) (pc := 62) dX11_restore_62 ?_
    refine tt_st (M := MX11_restore) (pc := 63) [some (.ref 90), some (.int (I 0))] dX11_restore_63 rfl rfl rfl rfl rfl rfl ?_
    exact id
  · refine tt_iconst (M := MX11_restore) (pc := 12) dX11_restore_12 ?_
    exact tt_zret (M := MX11_restore) (pc := 13) dX11_restore_13 rfl
theorem qX11_restore_64 {sc : Nat × (Nat → Int32)} {SH : List mCell} {S : mStore} {r : mR × mW} (h0 : sMod SH) {l1 : Int} : ((if I 8 ≤ I l1 then G sc MX11_restore 108 [some (.ref 90), some (.int (I 0))] [] SH S r else (((0 : Int) ≤ 8 + l1 ∧ 8 + l1 < 16) ∧ (((0 : Int) ≤ l1 ∧ l1 < 16) ∧ (((0 : Int) ≤ 8 + l1 ∧ 8 + l1 < 16) ∧ (((0 : Int) ≤ l1 ∧ l1 < 16) ∧ G sc MX11_restore 64 [some (.ref 90), some (.int (I (l1 + 1)))] [] SH (up (up S 92 l1 (S 92 (8 + l1))) 93 l1 ((up S 92 l1 (S 92 (8 + l1))) 93 (8 + l1))) r)))))) → G sc MX11_restore 64 [some (.ref 90), some (.int (I l1))] [] SH S r := by
  refine tt_ld (M := MX11_restore) (pc := 64) dX11_restore_64 rfl rfl rfl rfl rfl ?_
  refine tt_bipush (M := MX11_restore) (pc := 65) dX11_restore_65 (by decide) ?_
  refine tt_ic_ge (M := MX11_restore) (pc := 67) 106 dX11_restore_67 rfl ?_ ?_
  · refine tt_iconst (M := MX11_restore) (pc := 106) dX11_restore_106 ?_
    refine tt_st (M := MX11_restore) (pc := 107) [some (.ref 90), some (.int (I 0))] dX11_restore_107 rfl rfl rfl rfl rfl rfl ?_
    exact id
  · refine tt_ld (M := MX11_restore) (pc := 70) dX11_restore_70 rfl rfl rfl rfl rfl ?_
    refine tt_getR (M := MX11_restore) (pc := 71) dX11_restore_71 rfl h0.1 rfl ?_
    refine tt_ld (M := MX11_restore) (pc := 74) dX11_restore_74 rfl rfl rfl rfl rfl ?_
    refine tt_ld (M := MX11_restore) (pc := 75) dX11_restore_75 rfl rfl rfl rfl rfl ?_
    refine tt_getR (M := MX11_restore) (pc := 76) dX11_restore_76 rfl h0.1 rfl ?_
    refine tt_bipush (M := MX11_restore) (pc := 79) dX11_restore_79 (by decide) ?_
    refine tt_ld (M := MX11_restore) (pc := 81) dX11_restore_81 rfl rfl rfl rfl rfl ?_
    refine tt_iadd (M := MX11_restore) (pc := 82) dX11_restore_82 ?_
    refine tt_iaload (M := MX11_restore) (pc := 83) dX11_restore_83 h0.2.2.1 rfl ?_
    refine tt_iastore (M := MX11_restore) (pc := 84) dX11_restore_84 h0.2.2.1 rfl ?_
    refine tt_ld (M := MX11_restore) (pc := 85) dX11_restore_85 rfl rfl rfl rfl rfl ?_
    refine tt_getR (M := MX11_restore) (pc := 86) dX11_restore_86 rfl h0.1 rfl ?_
    refine tt_ld (M := MX11_restore) (pc := 89) dX11_restore_89 rfl rfl rfl rfl rfl ?_
    refine tt_ld (M := MX11_restore) (pc := 90) dX11_restore_90 rfl rfl rfl rfl rfl ?_
    refine tt_getR (M := MX11_restore) (pc := 91) dX11_restore_91 rfl h0.1 rfl ?_
    refine tt_bipush (M := MX11_restore) (pc := 94) dX11_restore_94 (by decide) ?_
    refine tt_ld (M := MX11_restore) (pc := 96) dX11_restore_96 rfl rfl rfl rfl rfl ?_
    refine tt_iadd (M := MX11_restore) (pc := 97) dX11_restore_97 ?_
    refine tt_iaload (M := MX11_restore) (pc := 98) dX11_restore_98 h0.2.2.2.1 rfl ?_
    refine tt_iastore (M := MX11_restore) (pc := 99) dX11_restore_99 h0.2.2.2.1 rfl ?_
    refine tt_iinc (M := MX11_restore) (pc := 100) [some (.ref 90), some (.int (I (l1 + 1)))] dX11_restore_100 rfl rfl ?_
    refine tt_goto (M := MX11_restore) (pc := 103) 64 dX11_restore_103 rfl ?_
    exact id
theorem qX11_restore_108 {sc : Nat × (Nat → Int32)} {SH : List mCell} {S : mStore} {r : mR × mW} (h0 : sMod SH) {l1 : Int} : ((if I 3 ≤ I l1 then ((I 1 = I 0 ∨ I 1 = I 1) ∧ r = rI 1 SH S) else (((0 : Int) ≤ 3 + l1 ∧ 3 + l1 < 6) ∧ (((0 : Int) ≤ l1 ∧ l1 < 6) ∧ G sc MX11_restore 108 [some (.ref 90), some (.int (I (l1 + 1)))] [] SH (up S 94 l1 (S 94 (3 + l1))) r)))) → G sc MX11_restore 108 [some (.ref 90), some (.int (I l1))] [] SH S r := by
  refine tt_ld (M := MX11_restore) (pc := 108) dX11_restore_108 rfl rfl rfl rfl rfl ?_
  refine tt_iconst (M := MX11_restore) (pc := 109) dX11_restore_109 ?_
  refine tt_ic_ge (M := MX11_restore) (pc := 110) 133 dX11_restore_110 rfl ?_ ?_
  · refine tt_iconst (M := MX11_restore) (pc := 133) dX11_restore_133 ?_
    exact tt_zret (M := MX11_restore) (pc := 134) dX11_restore_134 rfl
  · refine tt_ld (M := MX11_restore) (pc := 113) dX11_restore_113 rfl rfl rfl rfl rfl ?_
    refine tt_getR (M := MX11_restore) (pc := 114) dX11_restore_114 rfl h0.1 rfl ?_
    refine tt_ld (M := MX11_restore) (pc := 117) dX11_restore_117 rfl rfl rfl rfl rfl ?_
    refine tt_ld (M := MX11_restore) (pc := 118) dX11_restore_118 rfl rfl rfl rfl rfl ?_
    refine tt_getR (M := MX11_restore) (pc := 119) dX11_restore_119 rfl h0.1 rfl ?_
    refine tt_iconst (M := MX11_restore) (pc := 122) dX11_restore_122 ?_
    refine tt_ld (M := MX11_restore) (pc := 123) dX11_restore_123 rfl rfl rfl rfl rfl ?_
    refine tt_iadd (M := MX11_restore) (pc := 124) dX11_restore_124 ?_
    refine tt_iaload (M := MX11_restore) (pc := 125) dX11_restore_125 h0.2.2.2.2.1 rfl ?_
    refine tt_iastore (M := MX11_restore) (pc := 126) dX11_restore_126 h0.2.2.2.2.1 rfl ?_
    refine tt_iinc (M := MX11_restore) (pc := 127) [some (.ref 90), some (.int (I (l1 + 1)))] dX11_restore_127 rfl rfl ?_
    refine tt_goto (M := MX11_restore) (pc := 130) 108 dX11_restore_130 rfl ?_
    exact id
