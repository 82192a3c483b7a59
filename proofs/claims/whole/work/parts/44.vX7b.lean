-- needs: 43.tshape
/-! ===== the program as conditions (gen_vc.py) ===== -/
theorem qX7_befall_0 {sc : Nat × (Nat → Int32)} {SH : List mCell} {S : mStore} {r : mR × mW} {a0 : Nat} (h0 : sState SH a0) {l1 : Int} {u2 : Option Value} {u3 : Option Value} {u4 : Option Value} {u5 : Option Value} {u6 : Option Value} {u7 : Option Value} {u8 : Option Value} : (((0 ≤ l1 ∧ l1 < 48) ∧ (if I (S (a0 + 2) l1) = I (-1) then ((0 ≤ l1 ∧ l1 < 48) ∧ r = rI 1 SH (up S (a0 + 16) l1 (-1))) else ((0 ≤ S (a0 + 2) l1 ∧ S (a0 + 2) l1 < 48) ∧ (if I (S (a0 + 6) (S (a0 + 2) l1)) = I (-1) then (if I (S 1 5) = I 0 then ((0 ≤ S (a0 + 2) l1 ∧ S (a0 + 2) l1 < 48) ∧ (if I (S 1 4) = I 0 then G sc MX7_befall 108 [some (.ref a0), some (.int (I l1)), some (.int (I (S (a0 + 2) l1))), some (.int (I (S (a0 + 13) (S (a0 + 2) l1)))), u4, u5, u6, u7, u8] [] SH S r else (if I (S (a0 + 13) (S (a0 + 2) l1)) = I 0 then (∃ S101, G sc MX6_remove 0 [some (.ref (a0 + 1)), some (.int (I l1)), none, none, none, none] [] SH S (rV SH S101) ∧ ((0 ≤ l1 ∧ l1 < 48) ∧ r = rI 4 SH (up S101 (a0 + 16) l1 (-1)))) else G sc MX7_befall 108 [some (.ref a0), some (.int (I l1)), some (.int (I (S (a0 + 2) l1))), some (.int (I (S (a0 + 13) (S (a0 + 2) l1)))), u4, u5, u6, u7, u8] [] SH S r))) else ((0 ≤ l1 ∧ l1 < 48) ∧ (if I (S (a0 + 18) l1) ≤ I 0 then ((0 ≤ S (a0 + 2) l1 ∧ S (a0 + 2) l1 < 48) ∧ (if I (S 1 4) = I 0 then G sc MX7_befall 108 [some (.ref a0), some (.int (I l1)), some (.int (I (S (a0 + 2) l1))), some (.int (I (S (a0 + 13) (S (a0 + 2) l1)))), u4, u5, u6, u7, u8] [] SH S r else (if I (S (a0 + 13) (S (a0 + 2) l1)) = I 0 then (∃ S102, G sc MX6_remove 0 [some (.ref (a0 + 1)), some (.int (I l1)), none, none, none, none] [] SH S (rV SH S102) ∧ ((0 ≤ l1 ∧ l1 < 48) ∧ r = rI 4 SH (up S102 (a0 + 16) l1 (-1)))) else G sc MX7_befall 108 [some (.ref a0), some (.int (I l1)), some (.int (I (S (a0 + 2) l1))), some (.int (I (S (a0 + 13) (S (a0 + 2) l1)))), u4, u5, u6, u7, u8] [] SH S r))) else ((0 ≤ l1 ∧ l1 < 48) ∧ ((0 ≤ l1 ∧ l1 < 48) ∧ r = rI 3 SH (up S (a0 + 18) l1 ((S (a0 + 18) l1) - 1))))))) else r = rI 2 SH S))))) → G sc MX7_befall 0 [some (.ref a0), some (.int (I l1)), u2, u3, u4, u5, u6, u7, u8] [] SH S r := by
  refine t_ld (pc := 0) dX7_befall_0 rfl rfl rfl rfl rfl ?_
  refine t_getR (pc := 1) dX7_befall_1 rfl h0.1 rfl ?_
  refine t_getR (pc := 4) dX7_befall_4 rfl h0.2.1.1 rfl ?_
  refine t_ld (pc := 7) dX7_befall_7 rfl rfl rfl rfl rfl ?_
  refine t_iaload (pc := 8) dX7_befall_8 h0.2.1.2.1 ?_
  refine t_st (pc := 9) [some (.ref a0), some (.int (I l1)), some (.int (I (S (a0 + 2) l1))), u3, u4, u5, u6, u7, u8] dX7_befall_9 rfl rfl rfl rfl rfl rfl ?_
  refine t_ld (pc := 10) dX7_befall_10 rfl rfl rfl rfl rfl ?_
  refine t_iconst (pc := 11) dX7_befall_11 ?_
  refine t_ic_ne (pc := 12) 24 dX7_befall_12 rfl ?_ ?_
  · refine t_ld (pc := 24) dX7_befall_24 rfl rfl rfl rfl rfl ?_
    refine t_getR (pc := 25) dX7_befall_25 rfl h0.1 rfl ?_
    refine t_getR (pc := 28) dX7_befall_28 rfl h0.2.2.1.1 rfl ?_
    refine t_ld (pc := 31) dX7_befall_31 rfl rfl rfl rfl rfl ?_
    refine t_iaload (pc := 32) dX7_befall_32 h0.2.2.1.2.1 ?_
    refine t_iconst (pc := 33) dX7_befall_33 ?_
    refine t_ic_eq (pc := 34) 39 dX7_befall_34 rfl ?_ ?_
    · refine t_ld (pc := 39) dX7_befall_39 rfl rfl rfl rfl rfl ?_
      refine t_getR (pc := 40) dX7_befall_40 rfl h0.1 rfl ?_
      refine t_getI (pc := 43) dX7_befall_43 rfl h0.2.2.2.2.2.2.2.2.2.2.2.2.1 rfl ?_
      refine t_if_eq (pc := 46) 70 dX7_befall_46 rfl ?_ ?_
      · refine t_ld (pc := 70) dX7_befall_70 rfl rfl rfl rfl rfl ?_
        refine t_getR (pc := 71) dX7_befall_71 rfl h0.1 rfl ?_
        refine t_ld (pc := 74) dX7_befall_74 rfl rfl rfl rfl rfl ?_
        refine t_iaload (pc := 75) dX7_befall_75 h0.2.2.2.2.2.1 ?_
        refine t_st (pc := 76) [some (.ref a0), some (.int (I l1)), some (.int (I (S (a0 + 2) l1))), some (.int (I (S (a0 + 13) (S (a0 + 2) l1)))), u4, u5, u6, u7, u8] dX7_befall_76 rfl rfl rfl rfl rfl rfl ?_
        refine t_ld (pc := 77) dX7_befall_77 rfl rfl rfl rfl rfl ?_
        refine t_getR (pc := 78) dX7_befall_78 rfl h0.1 rfl ?_
        refine t_getI (pc := 81) dX7_befall_81 rfl h0.2.2.2.2.2.2.2.2.2.2.2.2.1 rfl ?_
        refine t_if_eq (pc := 84) 108 dX7_befall_84 rfl ?_ ?_
        · exact id
        · refine t_ld (pc := 87) dX7_befall_87 rfl rfl rfl rfl rfl ?_
          refine t_if_ne (pc := 88) 108 dX7_befall_88 rfl ?_ ?_
          · exact id
          · refine t_ld (pc := 91) dX7_befall_91 rfl rfl rfl rfl rfl ?_
            refine t_getR (pc := 92) dX7_befall_92 rfl h0.1 rfl ?_
            refine t_ld (pc := 95) dX7_befall_95 rfl rfl rfl rfl rfl ?_
            refine t_vcVN (pc := 96) dX7_befall_96 rfl rfl [] rfl rfl ⟨rfl, by decide, Nat.le_of_ble_eq_true rfl⟩ h0.2.1.1 fun S101 => ?_
            refine t_ld (pc := 99) dX7_befall_99 rfl rfl rfl rfl rfl ?_
            refine t_getR (pc := 100) dX7_befall_100 rfl h0.1 rfl ?_
            refine t_ld (pc := 103) dX7_befall_103 rfl rfl rfl rfl rfl ?_
            refine t_iconst (pc := 104) dX7_befall_104 ?_
            refine t_iastore (pc := 105) dX7_befall_105 h0.2.2.2.2.2.2.2.2.1 ?_
            refine t_iconst (pc := 106) dX7_befall_106 ?_
            exact t_iret (pc := 107) dX7_befall_107 rfl
      · refine t_ld (pc := 49) dX7_befall_49 rfl rfl rfl rfl rfl ?_
        refine t_getR (pc := 50) dX7_befall_50 rfl h0.1 rfl ?_
        refine t_ld (pc := 53) dX7_befall_53 rfl rfl rfl rfl rfl ?_
        refine t_iaload (pc := 54) dX7_befall_54 h0.2.2.2.2.2.2.2.2.2.2.1 ?_
        refine t_if_le (pc := 55) 70 dX7_befall_55 rfl ?_ ?_
        · refine t_ld (pc := 70) dX7_befall_70 rfl rfl rfl rfl rfl ?_
          refine t_getR (pc := 71) dX7_befall_71 rfl h0.1 rfl ?_
          refine t_ld (pc := 74) dX7_befall_74 rfl rfl rfl rfl rfl ?_
          refine t_iaload (pc := 75) dX7_befall_75 h0.2.2.2.2.2.1 ?_
          refine t_st (pc := 76) [some (.ref a0), some (.int (I l1)), some (.int (I (S (a0 + 2) l1))), some (.int (I (S (a0 + 13) (S (a0 + 2) l1)))), u4, u5, u6, u7, u8] dX7_befall_76 rfl rfl rfl rfl rfl rfl ?_
          refine t_ld (pc := 77) dX7_befall_77 rfl rfl rfl rfl rfl ?_
          refine t_getR (pc := 78) dX7_befall_78 rfl h0.1 rfl ?_
          refine t_getI (pc := 81) dX7_befall_81 rfl h0.2.2.2.2.2.2.2.2.2.2.2.2.1 rfl ?_
          refine t_if_eq (pc := 84) 108 dX7_befall_84 rfl ?_ ?_
          · exact id
          · refine t_ld (pc := 87) dX7_befall_87 rfl rfl rfl rfl rfl ?_
            refine t_if_ne (pc := 88) 108 dX7_befall_88 rfl ?_ ?_
            · exact id
            · refine t_ld (pc := 91) dX7_befall_91 rfl rfl rfl rfl rfl ?_
              refine t_getR (pc := 92) dX7_befall_92 rfl h0.1 rfl ?_
              refine t_ld (pc := 95) dX7_befall_95 rfl rfl rfl rfl rfl ?_
              refine t_vcVN (pc := 96) dX7_befall_96 rfl rfl [] rfl rfl ⟨rfl, by decide, Nat.le_of_ble_eq_true rfl⟩ h0.2.1.1 fun S102 => ?_
              refine t_ld (pc := 99) dX7_befall_99 rfl rfl rfl rfl rfl ?_
              refine t_getR (pc := 100) dX7_befall_100 rfl h0.1 rfl ?_
              refine t_ld (pc := 103) dX7_befall_103 rfl rfl rfl rfl rfl ?_
              refine t_iconst (pc := 104) dX7_befall_104 ?_
              refine t_iastore (pc := 105) dX7_befall_105 h0.2.2.2.2.2.2.2.2.1 ?_
              refine t_iconst (pc := 106) dX7_befall_106 ?_
              exact t_iret (pc := 107) dX7_befall_107 rfl
        · refine t_ld (pc := 58) dX7_befall_58 rfl rfl rfl rfl rfl ?_
          refine t_getR (pc := 59) dX7_befall_59 rfl h0.1 rfl ?_
          refine t_ld (pc := 62) dX7_befall_62 rfl rfl rfl rfl rfl ?_
          refine t_dup2 (pc := 63) dX7_befall_63 rfl rfl ?_
          refine t_iaload (pc := 64) dX7_befall_64 h0.2.2.2.2.2.2.2.2.2.2.1 ?_
          refine t_iconst (pc := 65) dX7_befall_65 ?_
          refine t_isub (pc := 66) dX7_befall_66 ?_
          refine t_iastore (pc := 67) dX7_befall_67 h0.2.2.2.2.2.2.2.2.2.2.1 ?_
          refine t_iconst (pc := 68) dX7_befall_68 ?_
          exact t_iret (pc := 69) dX7_befall_69 rfl
    · refine t_iconst (pc := 37) dX7_befall_37 ?_
      exact t_iret (pc := 38) dX7_befall_38 rfl
  · refine t_ld (pc := 15) dX7_befall_15 rfl rfl rfl rfl rfl ?_
    refine t_getR (pc := 16) dX7_befall_16 rfl h0.1 rfl ?_
    refine t_ld (pc := 19) dX7_befall_19 rfl rfl rfl rfl rfl ?_
    refine t_iconst (pc := 20) dX7_befall_20 ?_
    refine t_iastore (pc := 21) dX7_befall_21 h0.2.2.2.2.2.2.2.2.1 ?_
    refine t_iconst (pc := 22) dX7_befall_22 ?_
    exact t_iret (pc := 23) dX7_befall_23 rfl
theorem qX7_befall_108 {sc : Nat × (Nat → Int32)} {SH : List mCell} {S : mStore} {r : mR × mW} {a0 : Nat} (h0 : sState SH a0) {l1 : Int} {l2 : Int} {l3 : Int} {u4 : Option Value} {u5 : Option Value} {u6 : Option Value} {u7 : Option Value} {u8 : Option Value} : ((∃ v101 S102, G sc MX5_realmOf 0 [some (.ref 1), some (.int (I l1))] [] SH S (rI v101 SH S102) ∧ (∃ v103 S104, G sc MX7_seek 0 [some (.ref a0), some (.int (I 1)), some (.int (I v101)), some (.int (I l3)), none, none, none, none, none, none] [] SH S102 (rI v103 SH S104) ∧ ((0 ≤ v103 ∧ v103 < 99) ∧ (∃ v105 S106, G sc MX7_roomIn 0 [some (.ref a0), some (.int (I (S104 (a0 + 10) v103))), none, none, none, none, none] [] SH S104 (rI v105 SH S106) ∧ (if I v105 = I (-1) then (∃ v107 S108, G sc MX7_sumOf 0 [some (.int (I l3))] [] SH S106 (rI v107 SH S108) ∧ ((0 ≤ l1 ∧ l1 < 48) ∧ (if I (S108 (a0 + 16) l1) = I v107 then (∃ v109 S110, G sc MX5_realmOf 0 [some (.ref 1), some (.int (I l1))] [] SH S108 (rI v109 SH S110) ∧ (∃ v111 S112, G sc MX7_seek 0 [some (.ref a0), some (.int (I 0)), some (.int (I v109)), some (.int (I l3)), none, none, none, none, none, none] [] SH S110 (rI v111 SH S112) ∧ ((0 ≤ v111 ∧ v111 < 99) ∧ (if I (S112 (a0 + 12) v111) = I (-1) then ((0 ≤ v111 ∧ v111 < 99) ∧ r = rI 9 SH (up S112 (a0 + 12) v111 l1)) else ((0 ≤ S112 (a0 + 12) v111 ∧ S112 (a0 + 12) v111 < 48) ∧ (if I (S112 (a0 + 2) (S112 (a0 + 12) v111)) = I (-1) then r = rI 7 SH S112 else (∃ S113, G sc MX7_pairUp 0 [some (.ref a0), some (.int (I l1)), some (.int (I (S112 (a0 + 12) v111))), some (.int (I v103)), none, none] [] SH S112 (rV SH S113) ∧ r = rI 8 SH S113))))))) else ((0 ≤ l1 ∧ l1 < 48) ∧ r = rI 6 SH (up S108 (a0 + 16) l1 v107))))) else (∃ S114, G sc MX6_remove 0 [some (.ref (a0 + 1)), some (.int (I l1)), none, none, none, none] [] SH S106 (rV SH S114) ∧ (∃ S115, G sc MX6_add 0 [some (.ref (a0 + 1)), some (.int (I v105)), some (.int (I l1)), none, none, none] [] SH S114 (rV SH S115) ∧ r = rI 5 SH S115)))))))) → G sc MX7_befall 108 [some (.ref a0), some (.int (I l1)), some (.int (I l2)), some (.int (I l3)), u4, u5, u6, u7, u8] [] SH S r := by
  refine t_ld (pc := 108) dX7_befall_108 rfl rfl rfl rfl rfl ?_
  refine t_iconst (pc := 109) dX7_befall_109 ?_
  refine t_ld (pc := 110) dX7_befall_110 rfl rfl rfl rfl rfl ?_
  refine t_getR (pc := 111) dX7_befall_111 rfl h0.1 rfl ?_
  refine t_ld (pc := 114) dX7_befall_114 rfl rfl rfl rfl rfl ?_
  refine t_vcIN (pc := 115) dX7_befall_115 rfl rfl [.int (I 1), .ref a0] rfl rfl ⟨rfl, by decide, Nat.le_of_ble_eq_true rfl⟩ h0.2.2.2.2.2.2.2.2.2.2.2.2.1 fun v101 S102 => ?_
  refine t_ld (pc := 118) dX7_befall_118 rfl rfl rfl rfl rfl ?_
  refine t_vcIN (pc := 119) dX7_befall_119 rfl rfl [] rfl rfl ⟨rfl, by decide, Nat.le_of_ble_eq_true rfl⟩ h0.1 fun v103 S104 => ?_
  refine t_st (pc := 122) [some (.ref a0), some (.int (I l1)), some (.int (I l2)), some (.int (I l3)), some (.int (I v103)), u5, u6, u7, u8] dX7_befall_122 rfl rfl rfl rfl rfl rfl ?_
  refine t_ld (pc := 124) dX7_befall_124 rfl rfl rfl rfl rfl ?_
  refine t_ld (pc := 125) dX7_befall_125 rfl rfl rfl rfl rfl ?_
  refine t_getR (pc := 126) dX7_befall_126 rfl h0.1 rfl ?_
  refine t_getR (pc := 129) dX7_befall_129 rfl h0.2.2.2.1.1 rfl ?_
  refine t_ld (pc := 132) dX7_befall_132 rfl rfl rfl rfl rfl ?_
  refine t_iaload (pc := 134) dX7_befall_134 h0.2.2.2.1.2 ?_
  refine t_vcIN (pc := 135) dX7_befall_135 rfl rfl [] rfl rfl ⟨rfl, by decide, Nat.le_of_ble_eq_true rfl⟩ h0.1 fun v105 S106 => ?_
  refine t_st (pc := 138) [some (.ref a0), some (.int (I l1)), some (.int (I l2)), some (.int (I l3)), some (.int (I v103)), some (.int (I v105)), u6, u7, u8] dX7_befall_138 rfl rfl rfl rfl rfl rfl ?_
  refine t_ld (pc := 140) dX7_befall_140 rfl rfl rfl rfl rfl ?_
  refine t_iconst (pc := 142) dX7_befall_142 ?_
  refine t_ic_eq (pc := 143) 166 dX7_befall_143 rfl ?_ ?_
  · refine t_ld (pc := 166) dX7_befall_166 rfl rfl rfl rfl rfl ?_
    refine t_scIN (pc := 167) dX7_befall_167 rfl [] rfl rfl ⟨rfl, by decide, Nat.le_of_ble_eq_true rfl⟩ fun v107 S108 => ?_
    refine t_st (pc := 170) [some (.ref a0), some (.int (I l1)), some (.int (I l2)), some (.int (I l3)), some (.int (I v103)), some (.int (I v105)), some (.int (I v107)), u7, u8] dX7_befall_170 rfl rfl rfl rfl rfl rfl ?_
    refine t_ld (pc := 172) dX7_befall_172 rfl rfl rfl rfl rfl ?_
    refine t_getR (pc := 173) dX7_befall_173 rfl h0.1 rfl ?_
    refine t_ld (pc := 176) dX7_befall_176 rfl rfl rfl rfl rfl ?_
    refine t_iaload (pc := 177) dX7_befall_177 h0.2.2.2.2.2.2.2.2.1 ?_
    refine t_ld (pc := 178) dX7_befall_178 rfl rfl rfl rfl rfl ?_
    refine t_ic_eq (pc := 180) 194 dX7_befall_180 rfl ?_ ?_
    · refine t_ld (pc := 194) dX7_befall_194 rfl rfl rfl rfl rfl ?_
      refine t_iconst (pc := 195) dX7_befall_195 ?_
      refine t_ld (pc := 196) dX7_befall_196 rfl rfl rfl rfl rfl ?_
      refine t_getR (pc := 197) dX7_befall_197 rfl h0.1 rfl ?_
      refine t_ld (pc := 200) dX7_befall_200 rfl rfl rfl rfl rfl ?_
      refine t_vcIN (pc := 201) dX7_befall_201 rfl rfl [.int (I 0), .ref a0] rfl rfl ⟨rfl, by decide, Nat.le_of_ble_eq_true rfl⟩ h0.2.2.2.2.2.2.2.2.2.2.2.2.1 fun v109 S110 => ?_
      refine t_ld (pc := 204) dX7_befall_204 rfl rfl rfl rfl rfl ?_
      refine t_vcIN (pc := 205) dX7_befall_205 rfl rfl [] rfl rfl ⟨rfl, by decide, Nat.le_of_ble_eq_true rfl⟩ h0.1 fun v111 S112 => ?_
      refine t_st (pc := 208) [some (.ref a0), some (.int (I l1)), some (.int (I l2)), some (.int (I l3)), some (.int (I v103)), some (.int (I v105)), some (.int (I v107)), some (.int (I v111)), u8] dX7_befall_208 rfl rfl rfl rfl rfl rfl ?_
      refine t_ld (pc := 210) dX7_befall_210 rfl rfl rfl rfl rfl ?_
      refine t_getR (pc := 211) dX7_befall_211 rfl h0.1 rfl ?_
      refine t_getR (pc := 214) dX7_befall_214 rfl h0.2.2.2.2.1.1 rfl ?_
      refine t_ld (pc := 217) dX7_befall_217 rfl rfl rfl rfl rfl ?_
      refine t_iaload (pc := 219) dX7_befall_219 h0.2.2.2.2.1.2 ?_
      refine t_st (pc := 220) [some (.ref a0), some (.int (I l1)), some (.int (I l2)), some (.int (I l3)), some (.int (I v103)), some (.int (I v105)), some (.int (I v107)), some (.int (I v111)), some (.int (I (S112 (a0 + 12) v111)))] dX7_befall_220 rfl rfl rfl rfl rfl rfl ?_
      refine t_ld (pc := 222) dX7_befall_222 rfl rfl rfl rfl rfl ?_
      refine t_iconst (pc := 224) dX7_befall_224 ?_
      refine t_ic_ne (pc := 225) 242 dX7_befall_225 rfl ?_ ?_
      · refine t_ld (pc := 242) dX7_befall_242 rfl rfl rfl rfl rfl ?_
        refine t_getR (pc := 243) dX7_befall_243 rfl h0.1 rfl ?_
        refine t_getR (pc := 246) dX7_befall_246 rfl h0.2.1.1 rfl ?_
        refine t_ld (pc := 249) dX7_befall_249 rfl rfl rfl rfl rfl ?_
        refine t_iaload (pc := 251) dX7_befall_251 h0.2.1.2.1 ?_
        refine t_iconst (pc := 252) dX7_befall_252 ?_
        refine t_ic_ne (pc := 253) 259 dX7_befall_253 rfl ?_ ?_
        · refine t_ld (pc := 259) dX7_befall_259 rfl rfl rfl rfl rfl ?_
          refine t_ld (pc := 260) dX7_befall_260 rfl rfl rfl rfl rfl ?_
          refine t_ld (pc := 261) dX7_befall_261 rfl rfl rfl rfl rfl ?_
          refine t_ld (pc := 263) dX7_befall_263 rfl rfl rfl rfl rfl ?_
          refine t_vcVN (pc := 265) dX7_befall_265 rfl rfl [] rfl rfl ⟨rfl, by decide, Nat.le_of_ble_eq_true rfl⟩ h0.1 fun S113 => ?_
          refine t_bipush (pc := 268) dX7_befall_268 (by decide) ?_
          exact t_iret (pc := 270) dX7_befall_270 rfl
        · refine t_bipush (pc := 256) dX7_befall_256 (by decide) ?_
          exact t_iret (pc := 258) dX7_befall_258 rfl
      · refine t_ld (pc := 228) dX7_befall_228 rfl rfl rfl rfl rfl ?_
        refine t_getR (pc := 229) dX7_befall_229 rfl h0.1 rfl ?_
        refine t_getR (pc := 232) dX7_befall_232 rfl h0.2.2.2.2.1.1 rfl ?_
        refine t_ld (pc := 235) dX7_befall_235 rfl rfl rfl rfl rfl ?_
        refine t_ld (pc := 237) dX7_befall_237 rfl rfl rfl rfl rfl ?_
        refine t_iastore (pc := 238) dX7_befall_238 h0.2.2.2.2.1.2 ?_
        refine t_bipush (pc := 239) dX7_befall_239 (by decide) ?_
        exact t_iret (pc := 241) dX7_befall_241 rfl
    · refine t_ld (pc := 183) dX7_befall_183 rfl rfl rfl rfl rfl ?_
      refine t_getR (pc := 184) dX7_befall_184 rfl h0.1 rfl ?_
      refine t_ld (pc := 187) dX7_befall_187 rfl rfl rfl rfl rfl ?_
      refine t_ld (pc := 188) dX7_befall_188 rfl rfl rfl rfl rfl ?_
      refine t_iastore (pc := 190) dX7_befall_190 h0.2.2.2.2.2.2.2.2.1 ?_
      refine t_bipush (pc := 191) dX7_befall_191 (by decide) ?_
      exact t_iret (pc := 193) dX7_befall_193 rfl
  · refine t_ld (pc := 146) dX7_befall_146 rfl rfl rfl rfl rfl ?_
    refine t_getR (pc := 147) dX7_befall_147 rfl h0.1 rfl ?_
    refine t_ld (pc := 150) dX7_befall_150 rfl rfl rfl rfl rfl ?_
    refine t_vcVN (pc := 151) dX7_befall_151 rfl rfl [] rfl rfl ⟨rfl, by decide, Nat.le_of_ble_eq_true rfl⟩ h0.2.1.1 fun S114 => ?_
    refine t_ld (pc := 154) dX7_befall_154 rfl rfl rfl rfl rfl ?_
    refine t_getR (pc := 155) dX7_befall_155 rfl h0.1 rfl ?_
    refine t_ld (pc := 158) dX7_befall_158 rfl rfl rfl rfl rfl ?_
    refine t_ld (pc := 160) dX7_befall_160 rfl rfl rfl rfl rfl ?_
    refine t_vcVN (pc := 161) dX7_befall_161 rfl rfl [] rfl rfl ⟨rfl, by decide, Nat.le_of_ble_eq_true rfl⟩ h0.2.1.1 fun S115 => ?_
    refine t_iconst (pc := 164) dX7_befall_164 ?_
    exact t_iret (pc := 165) dX7_befall_165 rfl
theorem qX7_seek_0 {sc : Nat × (Nat → Int32)} {SH : List mCell} {S : mStore} {r : mR × mW} {a0 : Nat} (h0 : sState SH a0) {l1 : Int} {l2 : Int} {l3 : Int} {u4 : Option Value} {u5 : Option Value} {u6 : Option Value} {u7 : Option Value} {u8 : Option Value} {u9 : Option Value} : ((if I l1 = I 0 then ((0 ≤ 96 + l2 ∧ 96 + l2 < 99) ∧ G sc MX7_seek 39 [some (.ref a0), some (.int (I l1)), some (.int (I l2)), some (.int (I l3)), some (.ref (a0 + 12)), some (.int (I (96 + l2))), some (.int (I (S (a0 + 12) (96 + l2)))), some (.int (I 0)), u8, u9] [] SH S r) else ((0 ≤ 96 + l2 ∧ 96 + l2 < 99) ∧ G sc MX7_seek 39 [some (.ref a0), some (.int (I l1)), some (.int (I l2)), some (.int (I l3)), some (.ref (a0 + 10)), some (.int (I (96 + l2))), some (.int (I (S (a0 + 10) (96 + l2)))), some (.int (I 0)), u8, u9] [] SH S r))) → G sc MX7_seek 0 [some (.ref a0), some (.int (I l1)), some (.int (I l2)), some (.int (I l3)), u4, u5, u6, u7, u8, u9] [] SH S r := by
  refine t_ld (pc := 0) dX7_seek_0 rfl rfl rfl rfl rfl ?_
  refine t_if_eq (pc := 1) 14 dX7_seek_1 rfl ?_ ?_
  · refine t_ld (pc := 14) dX7_seek_14 rfl rfl rfl rfl rfl ?_
    refine t_getR (pc := 15) dX7_seek_15 rfl h0.1 rfl ?_
    refine t_getR (pc := 18) dX7_seek_18 rfl h0.2.2.2.2.1.1 rfl ?_
    refine t_st (pc := 21) [some (.ref a0), some (.int (I l1)), some (.int (I l2)), some (.int (I l3)), some (.ref (a0 + 12)), u5, u6, u7, u8, u9] dX7_seek_21 rfl rfl rfl rfl rfl rfl ?_
    refine t_bipush (pc := 23) dX7_seek_23 (by decide) ?_
    refine t_ld (pc := 25) dX7_seek_25 rfl rfl rfl rfl rfl ?_
    refine t_iadd (pc := 26) dX7_seek_26 ?_
    refine t_st (pc := 27) [some (.ref a0), some (.int (I l1)), some (.int (I l2)), some (.int (I l3)), some (.ref (a0 + 12)), some (.int (I (96 + l2))), u6, u7, u8, u9] dX7_seek_27 rfl rfl rfl rfl rfl rfl ?_
    refine t_ld (pc := 29) dX7_seek_29 rfl rfl rfl rfl rfl ?_
    refine t_ld (pc := 31) dX7_seek_31 rfl rfl rfl rfl rfl ?_
    refine t_iaload (pc := 33) dX7_seek_33 h0.2.2.2.2.1.2 ?_
    refine t_st (pc := 34) [some (.ref a0), some (.int (I l1)), some (.int (I l2)), some (.int (I l3)), some (.ref (a0 + 12)), some (.int (I (96 + l2))), some (.int (I (S (a0 + 12) (96 + l2)))), u7, u8, u9] dX7_seek_34 rfl rfl rfl rfl rfl rfl ?_
    refine t_iconst (pc := 36) dX7_seek_36 ?_
    refine t_st (pc := 37) [some (.ref a0), some (.int (I l1)), some (.int (I l2)), some (.int (I l3)), some (.ref (a0 + 12)), some (.int (I (96 + l2))), some (.int (I (S (a0 + 12) (96 + l2)))), some (.int (I 0)), u8, u9] dX7_seek_37 rfl rfl rfl rfl rfl rfl ?_
    exact id
  · refine t_ld (pc := 4) dX7_seek_4 rfl rfl rfl rfl rfl ?_
    refine t_getR (pc := 5) dX7_seek_5 rfl h0.1 rfl ?_
    refine t_getR (pc := 8) dX7_seek_8 rfl h0.2.2.2.1.1 rfl ?_
    refine t_goto (pc := 11) 21 dX7_seek_11 rfl ?_
    refine t_st (pc := 21) [some (.ref a0), some (.int (I l1)), some (.int (I l2)), some (.int (I l3)), some (.ref (a0 + 10)), u5, u6, u7, u8, u9] dX7_seek_21 rfl rfl rfl rfl rfl rfl ?_
    refine t_bipush (pc := 23) dX7_seek_23 (by decide) ?_
    refine t_ld (pc := 25) dX7_seek_25 rfl rfl rfl rfl rfl ?_
    refine t_iadd (pc := 26) dX7_seek_26 ?_
    refine t_st (pc := 27) [some (.ref a0), some (.int (I l1)), some (.int (I l2)), some (.int (I l3)), some (.ref (a0 + 10)), some (.int (I (96 + l2))), u6, u7, u8, u9] dX7_seek_27 rfl rfl rfl rfl rfl rfl ?_
    refine t_ld (pc := 29) dX7_seek_29 rfl rfl rfl rfl rfl ?_
    refine t_ld (pc := 31) dX7_seek_31 rfl rfl rfl rfl rfl ?_
    refine t_iaload (pc := 33) dX7_seek_33 h0.2.2.2.1.2 ?_
    refine t_st (pc := 34) [some (.ref a0), some (.int (I l1)), some (.int (I l2)), some (.int (I l3)), some (.ref (a0 + 10)), some (.int (I (96 + l2))), some (.int (I (S (a0 + 10) (96 + l2)))), u7, u8, u9] dX7_seek_34 rfl rfl rfl rfl rfl rfl ?_
    refine t_iconst (pc := 36) dX7_seek_36 ?_
    refine t_st (pc := 37) [some (.ref a0), some (.int (I l1)), some (.int (I l2)), some (.int (I l3)), some (.ref (a0 + 10)), some (.int (I (96 + l2))), some (.int (I (S (a0 + 10) (96 + l2)))), some (.int (I 0)), u8, u9] dX7_seek_37 rfl rfl rfl rfl rfl rfl ?_
    exact id
theorem qX7_seek_39 {sc : Nat × (Nat → Int32)} {SH : List mCell} {S : mStore} {r : mR × mW} {a0 ys021 : Nat} (h0 : sState SH a0) (hys021 : ar SH ys021 99) {l1 : Int} {l2 : Int} {l3 : Int} {l5 : Int} {l6 : Int} {l7 : Int} {u8 : Option Value} {u9 : Option Value} : ((if I 48 ≤ I l7 then r = rI l5 SH S else (if I l6 = I (-1) then r = rI l5 SH S else (if I l1 = I 0 then ((0 ≤ l6 ∧ l6 < 48) ∧ (if I (S (a0 + 2) l6) = I (-1) then (if I 0 = I 0 then r = rI l5 SH S else (if I 0 ≤ I 0 then G sc MX7_seek 131 [some (.ref a0), some (.int (I l1)), some (.int (I l2)), some (.int (I l3)), some (.ref ys021), some (.int (I l5)), some (.int (I l6)), some (.int (I l7)), some (.int (I (S (a0 + 2) l6))), some (.int (I 0))] [.int (I ((2 * l6) + 1))] SH S r else G sc MX7_seek 131 [some (.ref a0), some (.int (I l1)), some (.int (I l2)), some (.int (I l3)), some (.ref ys021), some (.int (I l5)), some (.int (I l6)), some (.int (I l7)), some (.int (I (S (a0 + 2) l6))), some (.int (I 0))] [.int (I (2 * l6))] SH S r)) else ((0 ≤ S (a0 + 2) l6 ∧ S (a0 + 2) l6 < 48) ∧ (∃ v101 S102, G sc MX7_compared 0 [some (.ref a0), some (.int (I l3)), some (.int (I (S (a0 + 13) (S (a0 + 2) l6)))), none, none] [] SH S (rI v101 SH S102) ∧ (if I v101 = I 0 then r = rI l5 SH S102 else (if I 0 ≤ I v101 then G sc MX7_seek 131 [some (.ref a0), some (.int (I l1)), some (.int (I l2)), some (.int (I l3)), some (.ref ys021), some (.int (I l5)), some (.int (I l6)), some (.int (I l7)), some (.int (I (S (a0 + 2) l6))), some (.int (I v101))] [.int (I ((2 * l6) + 1))] SH S102 r else G sc MX7_seek 131 [some (.ref a0), some (.int (I l1)), some (.int (I l2)), some (.int (I l3)), some (.ref ys021), some (.int (I l5)), some (.int (I l6)), some (.int (I l7)), some (.int (I (S (a0 + 2) l6))), some (.int (I v101))] [.int (I (2 * l6))] SH S102 r)))))) else ((0 ≤ l6 ∧ l6 < 48) ∧ (if I (S (a0 + 8) l6) = I (-1) then (if I 0 = I 0 then r = rI l5 SH S else (if I 0 ≤ I 0 then G sc MX7_seek 131 [some (.ref a0), some (.int (I l1)), some (.int (I l2)), some (.int (I l3)), some (.ref ys021), some (.int (I l5)), some (.int (I l6)), some (.int (I l7)), some (.int (I (S (a0 + 8) l6))), some (.int (I 0))] [.int (I ((2 * l6) + 1))] SH S r else G sc MX7_seek 131 [some (.ref a0), some (.int (I l1)), some (.int (I l2)), some (.int (I l3)), some (.ref ys021), some (.int (I l5)), some (.int (I l6)), some (.int (I l7)), some (.int (I (S (a0 + 8) l6))), some (.int (I 0))] [.int (I (2 * l6))] SH S r)) else ((0 ≤ S (a0 + 8) l6 ∧ S (a0 + 8) l6 < 48) ∧ (∃ v103 S104, G sc MX7_compared 0 [some (.ref a0), some (.int (I l3)), some (.int (I (S (a0 + 13) (S (a0 + 8) l6)))), none, none] [] SH S (rI v103 SH S104) ∧ (if I v103 = I 0 then r = rI l5 SH S104 else (if I 0 ≤ I v103 then G sc MX7_seek 131 [some (.ref a0), some (.int (I l1)), some (.int (I l2)), some (.int (I l3)), some (.ref ys021), some (.int (I l5)), some (.int (I l6)), some (.int (I l7)), some (.int (I (S (a0 + 8) l6))), some (.int (I v103))] [.int (I ((2 * l6) + 1))] SH S104 r else G sc MX7_seek 131 [some (.ref a0), some (.int (I l1)), some (.int (I l2)), some (.int (I l3)), some (.ref ys021), some (.int (I l5)), some (.int (I l6)), some (.int (I l7)), some (.int (I (S (a0 + 8) l6))), some (.int (I v103))] [.int (I (2 * l6))] SH S104 r)))))))))) → G sc MX7_seek 39 [some (.ref a0), some (.int (I l1)), some (.int (I l2)), some (.int (I l3)), some (.ref ys021), some (.int (I l5)), some (.int (I l6)), some (.int (I l7)), u8, u9] [] SH S r := by
  refine t_ld (pc := 39) dX7_seek_39 rfl rfl rfl rfl rfl ?_
  refine t_bipush (pc := 41) dX7_seek_41 (by decide) ?_
  refine t_ic_ge (pc := 43) 146 dX7_seek_43 rfl ?_ ?_
  · refine t_ld (pc := 146) dX7_seek_146 rfl rfl rfl rfl rfl ?_
    exact t_iret (pc := 148) dX7_seek_148 rfl
  · refine t_ld (pc := 46) dX7_seek_46 rfl rfl rfl rfl rfl ?_
    refine t_iconst (pc := 48) dX7_seek_48 ?_
    refine t_ic_eq (pc := 49) 146 dX7_seek_49 rfl ?_ ?_
    · refine t_ld (pc := 146) dX7_seek_146 rfl rfl rfl rfl rfl ?_
      exact t_iret (pc := 148) dX7_seek_148 rfl
    · refine t_ld (pc := 52) dX7_seek_52 rfl rfl rfl rfl rfl ?_
      refine t_if_eq (pc := 53) 69 dX7_seek_53 rfl ?_ ?_
      · refine t_ld (pc := 69) dX7_seek_69 rfl rfl rfl rfl rfl ?_
        refine t_getR (pc := 70) dX7_seek_70 rfl h0.1 rfl ?_
        refine t_getR (pc := 73) dX7_seek_73 rfl h0.2.1.1 rfl ?_
        refine t_ld (pc := 76) dX7_seek_76 rfl rfl rfl rfl rfl ?_
        refine t_iaload (pc := 78) dX7_seek_78 h0.2.1.2.1 ?_
        refine t_st (pc := 79) [some (.ref a0), some (.int (I l1)), some (.int (I l2)), some (.int (I l3)), some (.ref ys021), some (.int (I l5)), some (.int (I l6)), some (.int (I l7)), some (.int (I (S (a0 + 2) l6))), u9] dX7_seek_79 rfl rfl rfl rfl rfl rfl ?_
        refine t_ld (pc := 81) dX7_seek_81 rfl rfl rfl rfl rfl ?_
        refine t_iconst (pc := 83) dX7_seek_83 ?_
        refine t_ic_ne (pc := 84) 91 dX7_seek_84 rfl ?_ ?_
        · refine t_ld (pc := 91) dX7_seek_91 rfl rfl rfl rfl rfl ?_
          refine t_ld (pc := 92) dX7_seek_92 rfl rfl rfl rfl rfl ?_
          refine t_ld (pc := 93) dX7_seek_93 rfl rfl rfl rfl rfl ?_
          refine t_getR (pc := 94) dX7_seek_94 rfl h0.1 rfl ?_
          refine t_ld (pc := 97) dX7_seek_97 rfl rfl rfl rfl rfl ?_
          refine t_iaload (pc := 99) dX7_seek_99 h0.2.2.2.2.2.1 ?_
          refine t_vcIN (pc := 100) dX7_seek_100 rfl rfl [] rfl rfl ⟨rfl, by decide, Nat.le_of_ble_eq_true rfl⟩ h0.1 fun v101 S102 => ?_
          refine t_st (pc := 103) [some (.ref a0), some (.int (I l1)), some (.int (I l2)), some (.int (I l3)), some (.ref ys021), some (.int (I l5)), some (.int (I l6)), some (.int (I l7)), some (.int (I (S (a0 + 2) l6))), some (.int (I v101))] dX7_seek_103 rfl rfl rfl rfl rfl rfl ?_
          refine t_ld (pc := 105) dX7_seek_105 rfl rfl rfl rfl rfl ?_
          refine t_if_ne (pc := 107) 113 dX7_seek_107 rfl ?_ ?_
          · refine t_ld (pc := 113) dX7_seek_113 rfl rfl rfl rfl rfl ?_
            refine t_if_ge (pc := 115) 125 dX7_seek_115 rfl ?_ ?_
            · refine t_iconst (pc := 125) dX7_seek_125 ?_
              refine t_ld (pc := 126) dX7_seek_126 rfl rfl rfl rfl rfl ?_
              refine t_imul (pc := 128) dX7_seek_128 ?_
              refine t_iconst (pc := 129) dX7_seek_129 ?_
              refine t_iadd (pc := 130) dX7_seek_130 ?_
              exact id
            · refine t_iconst (pc := 118) dX7_seek_118 ?_
              refine t_ld (pc := 119) dX7_seek_119 rfl rfl rfl rfl rfl ?_
              refine t_imul (pc := 121) dX7_seek_121 ?_
              refine t_goto (pc := 122) 131 dX7_seek_122 rfl ?_
              exact id
          · refine t_ld (pc := 110) dX7_seek_110 rfl rfl rfl rfl rfl ?_
            exact t_iret (pc := 112) dX7_seek_112 rfl
        · refine t_iconst (pc := 87) dX7_seek_87 ?_
          refine t_goto (pc := 88) 103 dX7_seek_88 rfl ?_
          refine t_st (pc := 103) [some (.ref a0), some (.int (I l1)), some (.int (I l2)), some (.int (I l3)), some (.ref ys021), some (.int (I l5)), some (.int (I l6)), some (.int (I l7)), some (.int (I (S (a0 + 2) l6))), some (.int (I 0))] dX7_seek_103 rfl rfl rfl rfl rfl rfl ?_
          refine t_ld (pc := 105) dX7_seek_105 rfl rfl rfl rfl rfl ?_
          refine t_if_ne (pc := 107) 113 dX7_seek_107 rfl ?_ ?_
          · refine t_ld (pc := 113) dX7_seek_113 rfl rfl rfl rfl rfl ?_
            refine t_if_ge (pc := 115) 125 dX7_seek_115 rfl ?_ ?_
            · refine t_iconst (pc := 125) dX7_seek_125 ?_
              refine t_ld (pc := 126) dX7_seek_126 rfl rfl rfl rfl rfl ?_
              refine t_imul (pc := 128) dX7_seek_128 ?_
              refine t_iconst (pc := 129) dX7_seek_129 ?_
              refine t_iadd (pc := 130) dX7_seek_130 ?_
              exact id
            · refine t_iconst (pc := 118) dX7_seek_118 ?_
              refine t_ld (pc := 119) dX7_seek_119 rfl rfl rfl rfl rfl ?_
              refine t_imul (pc := 121) dX7_seek_121 ?_
              refine t_goto (pc := 122) 131 dX7_seek_122 rfl ?_
              exact id
          · refine t_ld (pc := 110) dX7_seek_110 rfl rfl rfl rfl rfl ?_
            exact t_iret (pc := 112) dX7_seek_112 rfl
      · refine t_ld (pc := 56) dX7_seek_56 rfl rfl rfl rfl rfl ?_
        refine t_getR (pc := 57) dX7_seek_57 rfl h0.1 rfl ?_
        refine t_getR (pc := 60) dX7_seek_60 rfl h0.2.2.1.1 rfl ?_
        refine t_ld (pc := 63) dX7_seek_63 rfl rfl rfl rfl rfl ?_
        refine t_iaload (pc := 65) dX7_seek_65 h0.2.2.1.2.2.2 ?_
        refine t_goto (pc := 66) 79 dX7_seek_66 rfl ?_
        refine t_st (pc := 79) [some (.ref a0), some (.int (I l1)), some (.int (I l2)), some (.int (I l3)), some (.ref ys021), some (.int (I l5)), some (.int (I l6)), some (.int (I l7)), some (.int (I (S (a0 + 8) l6))), u9] dX7_seek_79 rfl rfl rfl rfl rfl rfl ?_
        refine t_ld (pc := 81) dX7_seek_81 rfl rfl rfl rfl rfl ?_
        refine t_iconst (pc := 83) dX7_seek_83 ?_
        refine t_ic_ne (pc := 84) 91 dX7_seek_84 rfl ?_ ?_
        · refine t_ld (pc := 91) dX7_seek_91 rfl rfl rfl rfl rfl ?_
          refine t_ld (pc := 92) dX7_seek_92 rfl rfl rfl rfl rfl ?_
          refine t_ld (pc := 93) dX7_seek_93 rfl rfl rfl rfl rfl ?_
          refine t_getR (pc := 94) dX7_seek_94 rfl h0.1 rfl ?_
          refine t_ld (pc := 97) dX7_seek_97 rfl rfl rfl rfl rfl ?_
          refine t_iaload (pc := 99) dX7_seek_99 h0.2.2.2.2.2.1 ?_
          refine t_vcIN (pc := 100) dX7_seek_100 rfl rfl [] rfl rfl ⟨rfl, by decide, Nat.le_of_ble_eq_true rfl⟩ h0.1 fun v103 S104 => ?_
          refine t_st (pc := 103) [some (.ref a0), some (.int (I l1)), some (.int (I l2)), some (.int (I l3)), some (.ref ys021), some (.int (I l5)), some (.int (I l6)), some (.int (I l7)), some (.int (I (S (a0 + 8) l6))), some (.int (I v103))] dX7_seek_103 rfl rfl rfl rfl rfl rfl ?_
          refine t_ld (pc := 105) dX7_seek_105 rfl rfl rfl rfl rfl ?_
          refine t_if_ne (pc := 107) 113 dX7_seek_107 rfl ?_ ?_
          · refine t_ld (pc := 113) dX7_seek_113 rfl rfl rfl rfl rfl ?_
            refine t_if_ge (pc := 115) 125 dX7_seek_115 rfl ?_ ?_
            · refine t_iconst (pc := 125) dX7_seek_125 ?_
              refine t_ld (pc := 126) dX7_seek_126 rfl rfl rfl rfl rfl ?_
              refine t_imul (pc := 128) dX7_seek_128 ?_
              refine t_iconst (pc := 129) dX7_seek_129 ?_
              refine t_iadd (pc := 130) dX7_seek_130 ?_
              exact id
            · refine t_iconst (pc := 118) dX7_seek_118 ?_
              refine t_ld (pc := 119) dX7_seek_119 rfl rfl rfl rfl rfl ?_
              refine t_imul (pc := 121) dX7_seek_121 ?_
              refine t_goto (pc := 122) 131 dX7_seek_122 rfl ?_
              exact id
          · refine t_ld (pc := 110) dX7_seek_110 rfl rfl rfl rfl rfl ?_
            exact t_iret (pc := 112) dX7_seek_112 rfl
        · refine t_iconst (pc := 87) dX7_seek_87 ?_
          refine t_goto (pc := 88) 103 dX7_seek_88 rfl ?_
          refine t_st (pc := 103) [some (.ref a0), some (.int (I l1)), some (.int (I l2)), some (.int (I l3)), some (.ref ys021), some (.int (I l5)), some (.int (I l6)), some (.int (I l7)), some (.int (I (S (a0 + 8) l6))), some (.int (I 0))] dX7_seek_103 rfl rfl rfl rfl rfl rfl ?_
          refine t_ld (pc := 105) dX7_seek_105 rfl rfl rfl rfl rfl ?_
          refine t_if_ne (pc := 107) 113 dX7_seek_107 rfl ?_ ?_
          · refine t_ld (pc := 113) dX7_seek_113 rfl rfl rfl rfl rfl ?_
            refine t_if_ge (pc := 115) 125 dX7_seek_115 rfl ?_ ?_
            · refine t_iconst (pc := 125) dX7_seek_125 ?_
              refine t_ld (pc := 126) dX7_seek_126 rfl rfl rfl rfl rfl ?_
              refine t_imul (pc := 128) dX7_seek_128 ?_
              refine t_iconst (pc := 129) dX7_seek_129 ?_
              refine t_iadd (pc := 130) dX7_seek_130 ?_
              exact id
            · refine t_iconst (pc := 118) dX7_seek_118 ?_
              refine t_ld (pc := 119) dX7_seek_119 rfl rfl rfl rfl rfl ?_
              refine t_imul (pc := 121) dX7_seek_121 ?_
              refine t_goto (pc := 122) 131 dX7_seek_122 rfl ?_
              exact id
          · refine t_ld (pc := 110) dX7_seek_110 rfl rfl rfl rfl rfl ?_
            exact t_iret (pc := 112) dX7_seek_112 rfl
theorem qX7_seek_131 {sc : Nat × (Nat → Int32)} {SH : List mCell} {S : mStore} {r : mR × mW} {a0 ys021 : Nat} (h0 : sState SH a0) (hys021 : ar SH ys021 99) {l1 : Int} {l2 : Int} {l3 : Int} {l5 : Int} {l6 : Int} {l7 : Int} {l8 : Int} {l9 : Int} {s0 : Int} : (((0 ≤ s0 ∧ s0 < 99) ∧ G sc MX7_seek 39 [some (.ref a0), some (.int (I l1)), some (.int (I l2)), some (.int (I l3)), some (.ref ys021), some (.int (I s0)), some (.int (I (S ys021 s0))), some (.int (I (l7 + 1))), some (.int (I l8)), some (.int (I l9))] [] SH S r)) → G sc MX7_seek 131 [some (.ref a0), some (.int (I l1)), some (.int (I l2)), some (.int (I l3)), some (.ref ys021), some (.int (I l5)), some (.int (I l6)), some (.int (I l7)), some (.int (I l8)), some (.int (I l9))] [.int (I s0)] SH S r := by
  refine t_st (pc := 131) [some (.ref a0), some (.int (I l1)), some (.int (I l2)), some (.int (I l3)), some (.ref ys021), some (.int (I s0)), some (.int (I l6)), some (.int (I l7)), some (.int (I l8)), some (.int (I l9))] dX7_seek_131 rfl rfl rfl rfl rfl rfl ?_
  refine t_ld (pc := 133) dX7_seek_133 rfl rfl rfl rfl rfl ?_
  refine t_ld (pc := 135) dX7_seek_135 rfl rfl rfl rfl rfl ?_
  refine t_iaload (pc := 137) dX7_seek_137 hys021 ?_
  refine t_st (pc := 138) [some (.ref a0), some (.int (I l1)), some (.int (I l2)), some (.int (I l3)), some (.ref ys021), some (.int (I s0)), some (.int (I (S ys021 s0))), some (.int (I l7)), some (.int (I l8)), some (.int (I l9))] dX7_seek_138 rfl rfl rfl rfl rfl rfl ?_
  refine t_iinc (pc := 140) [some (.ref a0), some (.int (I l1)), some (.int (I l2)), some (.int (I l3)), some (.ref ys021), some (.int (I s0)), some (.int (I (S ys021 s0))), some (.int (I (l7 + 1))), some (.int (I l8)), some (.int (I l9))] dX7_seek_140 rfl rfl ?_
  refine t_goto (pc := 143) 39 dX7_seek_143 rfl ?_
  exact id
theorem qX7_compared_0 {sc : Nat × (Nat → Int32)} {SH : List mCell} {S : mStore} {r : mR × mW} {a0 : Nat} (h0 : sState SH a0) {l1 : Int} {l2 : Int} {u3 : Option Value} {u4 : Option Value} : (G sc MX7_compared 3 [some (.ref a0), some (.int (I l1)), some (.int (I l2)), some (.int (I 12)), u4] [] SH S r) → G sc MX7_compared 0 [some (.ref a0), some (.int (I l1)), some (.int (I l2)), u3, u4] [] SH S r := by
  refine t_bipush (pc := 0) dX7_compared_0 (by decide) ?_
  refine t_st (pc := 2) [some (.ref a0), some (.int (I l1)), some (.int (I l2)), some (.int (I 12)), u4] dX7_compared_2 rfl rfl rfl rfl rfl rfl ?_
  exact id
theorem qX7_compared_3 {sc : Nat × (Nat → Int32)} {SH : List mCell} {S : mStore} {r : mR × mW} {a0 : Nat} (h0 : sState SH a0) {l1 : Int} {l2 : Int} {l3 : Int} {u4 : Option Value} : ((if I l3 < I 0 then r = rI 0 SH S else ((0 ≤ 3 ∧ 3 < 12) ∧ ((0 ≤ 3 ∧ 3 < 12) ∧ (if I ((ian (isr l1 l3) 15) - (ian (isr l2 l3) 15)) = I 0 then G sc MX7_compared 3 [some (.ref a0), some (.int (I l1)), some (.int (I l2)), some (.int (I (l3 + (-4)))), some (.int (I ((ian (isr l1 l3) 15) - (ian (isr l2 l3) 15))))] [] SH (up S (a0 + 19) 3 ((S (a0 + 19) 3) + 1)) r else r = rI ((ian (isr l1 l3) 15) - (ian (isr l2 l3) 15)) SH (up S (a0 + 19) 3 ((S (a0 + 19) 3) + 1))))))) → G sc MX7_compared 3 [some (.ref a0), some (.int (I l1)), some (.int (I l2)), some (.int (I l3)), u4] [] SH S r := by
  refine t_ld (pc := 3) dX7_compared_3 rfl rfl rfl rfl rfl ?_
  refine t_if_lt (pc := 4) 46 dX7_compared_4 rfl ?_ ?_
  · refine t_iconst (pc := 46) dX7_compared_46 ?_
    exact t_iret (pc := 47) dX7_compared_47 rfl
  · refine t_ld (pc := 7) dX7_compared_7 rfl rfl rfl rfl rfl ?_
    refine t_getR (pc := 8) dX7_compared_8 rfl h0.1 rfl ?_
    refine t_iconst (pc := 11) dX7_compared_11 ?_
    refine t_dup2 (pc := 12) dX7_compared_12 rfl rfl ?_
    refine t_iaload (pc := 13) dX7_compared_13 h0.2.2.2.2.2.2.2.2.2.2.2.1 ?_
    refine t_iconst (pc := 14) dX7_compared_14 ?_
    refine t_iadd (pc := 15) dX7_compared_15 ?_
    refine t_iastore (pc := 16) dX7_compared_16 h0.2.2.2.2.2.2.2.2.2.2.2.1 ?_
    refine t_ld (pc := 17) dX7_compared_17 rfl rfl rfl rfl rfl ?_
    refine t_ld (pc := 18) dX7_compared_18 rfl rfl rfl rfl rfl ?_
    refine t_ishr (pc := 19) dX7_compared_19 ?_
    refine t_bipush (pc := 20) dX7_compared_20 (by decide) ?_
    refine t_iand (pc := 22) dX7_compared_22 ?_
    refine t_ld (pc := 23) dX7_compared_23 rfl rfl rfl rfl rfl ?_
    refine t_ld (pc := 24) dX7_compared_24 rfl rfl rfl rfl rfl ?_
    refine t_ishr (pc := 25) dX7_compared_25 ?_
    refine t_bipush (pc := 26) dX7_compared_26 (by decide) ?_
    refine t_iand (pc := 28) dX7_compared_28 ?_
    refine t_isub (pc := 29) dX7_compared_29 ?_
    refine t_st (pc := 30) [some (.ref a0), some (.int (I l1)), some (.int (I l2)), some (.int (I l3)), some (.int (I ((ian (isr l1 l3) 15) - (ian (isr l2 l3) 15))))] dX7_compared_30 rfl rfl rfl rfl rfl rfl ?_
    refine t_ld (pc := 32) dX7_compared_32 rfl rfl rfl rfl rfl ?_
    refine t_if_eq (pc := 34) 40 dX7_compared_34 rfl ?_ ?_
    · refine t_iinc (pc := 40) [some (.ref a0), some (.int (I l1)), some (.int (I l2)), some (.int (I (l3 + (-4)))), some (.int (I ((ian (isr l1 l3) 15) - (ian (isr l2 l3) 15))))] dX7_compared_40 rfl rfl ?_
      refine t_goto (pc := 43) 3 dX7_compared_43 rfl ?_
      exact id
    · refine t_ld (pc := 37) dX7_compared_37 rfl rfl rfl rfl rfl ?_
      exact t_iret (pc := 39) dX7_compared_39 rfl
theorem qX7_sumOf_0 {sc : Nat × (Nat → Int32)} {SH : List mCell} {S : mStore} {r : mR × mW} {l0 : Int} : ((∃ v101 S102, G sc MX10_cellOf 0 [some (.int (I l0)), some (.int (I 0))] [] SH S (rI v101 SH S102) ∧ (∃ v103 S104, G sc MX10_cellOf 0 [some (.int (I l0)), some (.int (I 1))] [] SH S102 (rI v103 SH S104) ∧ (∃ v105 S106, G sc MX10_cellOf 0 [some (.int (I l0)), some (.int (I 2))] [] SH S104 (rI v105 SH S106) ∧ (∃ v107 S108, G sc MX10_cellOf 0 [some (.int (I l0)), some (.int (I 3))] [] SH S106 (rI v107 SH S108) ∧ r = rI (((((343 * v101) + (49 * v103)) + (7 * v105)) + v107) - idv ((((343 * v101) + (49 * v103)) + (7 * v105)) + v107) 64 * 64) SH S108))))) → G sc MX7_sumOf 0 [some (.int (I l0))] [] SH S r := by
  refine t_sipush (pc := 0) dX7_sumOf_0 (by decide) ?_
  refine t_ld (pc := 3) dX7_sumOf_3 rfl rfl rfl rfl rfl ?_
  refine t_iconst (pc := 4) dX7_sumOf_4 ?_
  refine t_ncIN (pc := 5) dX7_sumOf_5 rfl [.int (I 343)] rfl rfl ⟨rfl, by decide, Nat.le_of_ble_eq_true rfl⟩ fun v101 S102 => ?_
  refine t_imul (pc := 8) dX7_sumOf_8 ?_
  refine t_bipush (pc := 9) dX7_sumOf_9 (by decide) ?_
  refine t_ld (pc := 11) dX7_sumOf_11 rfl rfl rfl rfl rfl ?_
  refine t_iconst (pc := 12) dX7_sumOf_12 ?_
  refine t_ncIN (pc := 13) dX7_sumOf_13 rfl [.int (I 49), .int (I (343 * v101))] rfl rfl ⟨rfl, by decide, Nat.le_of_ble_eq_true rfl⟩ fun v103 S104 => ?_
  refine t_imul (pc := 16) dX7_sumOf_16 ?_
  refine t_iadd (pc := 17) dX7_sumOf_17 ?_
  refine t_bipush (pc := 18) dX7_sumOf_18 (by decide) ?_
  refine t_ld (pc := 20) dX7_sumOf_20 rfl rfl rfl rfl rfl ?_
  refine t_iconst (pc := 21) dX7_sumOf_21 ?_
  refine t_ncIN (pc := 22) dX7_sumOf_22 rfl [.int (I 7), .int (I ((343 * v101) + (49 * v103)))] rfl rfl ⟨rfl, by decide, Nat.le_of_ble_eq_true rfl⟩ fun v105 S106 => ?_
  refine t_imul (pc := 25) dX7_sumOf_25 ?_
  refine t_iadd (pc := 26) dX7_sumOf_26 ?_
  refine t_ld (pc := 27) dX7_sumOf_27 rfl rfl rfl rfl rfl ?_
  refine t_iconst (pc := 28) dX7_sumOf_28 ?_
  refine t_ncIN (pc := 29) dX7_sumOf_29 rfl [.int (I (((343 * v101) + (49 * v103)) + (7 * v105)))] rfl rfl ⟨rfl, by decide, Nat.le_of_ble_eq_true rfl⟩ fun v107 S108 => ?_
  refine t_iadd (pc := 32) dX7_sumOf_32 ?_
  refine t_bipush (pc := 33) dX7_sumOf_33 (by decide) ?_
  refine t_irem (pc := 35) dX7_sumOf_35 (by decide) ?_
  exact t_iret (pc := 36) dX7_sumOf_36 rfl
theorem qX7_roomIn_0 {sc : Nat × (Nat → Int32)} {SH : List mCell} {S : mStore} {r : mR × mW} {a0 : Nat} (h0 : sState SH a0) {l1 : Int} {u2 : Option Value} {u3 : Option Value} {u4 : Option Value} {u5 : Option Value} {u6 : Option Value} : ((if I l1 = I (-1) then r = rI (-1) SH S else ((0 ≤ l1 ∧ l1 < 48) ∧ G sc MX7_roomIn 25 [some (.ref a0), some (.int (I l1)), some (.int (I (-1))), some (.int (I 0)), some (.int (I (S (a0 + 8) l1))), some (.int (I 0)), u6] [] SH S r))) → G sc MX7_roomIn 0 [some (.ref a0), some (.int (I l1)), u2, u3, u4, u5, u6] [] SH S r := by
  refine t_ld (pc := 0) dX7_roomIn_0 rfl rfl rfl rfl rfl ?_
  refine t_iconst (pc := 1) dX7_roomIn_1 ?_
  refine t_ic_ne (pc := 2) 7 dX7_roomIn_2 rfl ?_ ?_
  · refine t_iconst (pc := 7) dX7_roomIn_7 ?_
    refine t_st (pc := 8) [some (.ref a0), some (.int (I l1)), some (.int (I (-1))), u3, u4, u5, u6] dX7_roomIn_8 rfl rfl rfl rfl rfl rfl ?_
    refine t_iconst (pc := 9) dX7_roomIn_9 ?_
    refine t_st (pc := 10) [some (.ref a0), some (.int (I l1)), some (.int (I (-1))), some (.int (I 0)), u4, u5, u6] dX7_roomIn_10 rfl rfl rfl rfl rfl rfl ?_
    refine t_ld (pc := 11) dX7_roomIn_11 rfl rfl rfl rfl rfl ?_
    refine t_getR (pc := 12) dX7_roomIn_12 rfl h0.1 rfl ?_
    refine t_getR (pc := 15) dX7_roomIn_15 rfl h0.2.2.1.1 rfl ?_
    refine t_ld (pc := 18) dX7_roomIn_18 rfl rfl rfl rfl rfl ?_
    refine t_iaload (pc := 19) dX7_roomIn_19 h0.2.2.1.2.2.2 ?_
    refine t_st (pc := 20) [some (.ref a0), some (.int (I l1)), some (.int (I (-1))), some (.int (I 0)), some (.int (I (S (a0 + 8) l1))), u5, u6] dX7_roomIn_20 rfl rfl rfl rfl rfl rfl ?_
    refine t_iconst (pc := 22) dX7_roomIn_22 ?_
    refine t_st (pc := 23) [some (.ref a0), some (.int (I l1)), some (.int (I (-1))), some (.int (I 0)), some (.int (I (S (a0 + 8) l1))), some (.int (I 0)), u6] dX7_roomIn_23 rfl rfl rfl rfl rfl rfl ?_
    exact id
  · refine t_iconst (pc := 5) dX7_roomIn_5 ?_
    exact t_iret (pc := 6) dX7_roomIn_6 rfl
theorem qX7_roomIn_25 {sc : Nat × (Nat → Int32)} {SH : List mCell} {S : mStore} {r : mR × mW} {a0 : Nat} (h0 : sState SH a0) {l1 : Int} {l2 : Int} {l3 : Int} {l4 : Int} {l5 : Int} {u6 : Option Value} : ((if I 48 ≤ I l5 then r = rI l2 SH S else (if I l4 = I (-1) then r = rI l2 SH S else (∃ v101 S102, G sc MX6_sizeOf 0 [some (.ref (a0 + 1)), some (.int (I l4)), none, none] [] SH S (rI v101 SH S102) ∧ (if I (S102 1 1) ≤ I v101 then ((0 ≤ l4 ∧ l4 < 48) ∧ G sc MX7_roomIn 25 [some (.ref a0), some (.int (I l1)), some (.int (I l2)), some (.int (I l3)), some (.int (I (S102 (a0 + 7) l4))), some (.int (I (l5 + 1))), some (.int (I v101))] [] SH S102 r) else (if I v101 ≤ I l3 then ((0 ≤ l4 ∧ l4 < 48) ∧ G sc MX7_roomIn 25 [some (.ref a0), some (.int (I l1)), some (.int (I l2)), some (.int (I l3)), some (.int (I (S102 (a0 + 7) l4))), some (.int (I (l5 + 1))), some (.int (I v101))] [] SH S102 r) else ((0 ≤ l4 ∧ l4 < 48) ∧ G sc MX7_roomIn 25 [some (.ref a0), some (.int (I l1)), some (.int (I l4)), some (.int (I v101)), some (.int (I (S102 (a0 + 7) l4))), some (.int (I (l5 + 1))), some (.int (I v101))] [] SH S102 r))))))) → G sc MX7_roomIn 25 [some (.ref a0), some (.int (I l1)), some (.int (I l2)), some (.int (I l3)), some (.int (I l4)), some (.int (I l5)), u6] [] SH S r := by
  refine t_ld (pc := 25) dX7_roomIn_25 rfl rfl rfl rfl rfl ?_
  refine t_bipush (pc := 27) dX7_roomIn_27 (by decide) ?_
  refine t_ic_ge (pc := 29) 91 dX7_roomIn_29 rfl ?_ ?_
  · refine t_ld (pc := 91) dX7_roomIn_91 rfl rfl rfl rfl rfl ?_
    exact t_iret (pc := 92) dX7_roomIn_92 rfl
  · refine t_ld (pc := 32) dX7_roomIn_32 rfl rfl rfl rfl rfl ?_
    refine t_iconst (pc := 34) dX7_roomIn_34 ?_
    refine t_ic_eq (pc := 35) 91 dX7_roomIn_35 rfl ?_ ?_
    · refine t_ld (pc := 91) dX7_roomIn_91 rfl rfl rfl rfl rfl ?_
      exact t_iret (pc := 92) dX7_roomIn_92 rfl
    · refine t_ld (pc := 38) dX7_roomIn_38 rfl rfl rfl rfl rfl ?_
      refine t_getR (pc := 39) dX7_roomIn_39 rfl h0.1 rfl ?_
      refine t_ld (pc := 42) dX7_roomIn_42 rfl rfl rfl rfl rfl ?_
      refine t_vcIN (pc := 44) dX7_roomIn_44 rfl rfl [] rfl rfl ⟨rfl, by decide, Nat.le_of_ble_eq_true rfl⟩ h0.2.1.1 fun v101 S102 => ?_
      refine t_st (pc := 47) [some (.ref a0), some (.int (I l1)), some (.int (I l2)), some (.int (I l3)), some (.int (I l4)), some (.int (I l5)), some (.int (I v101))] dX7_roomIn_47 rfl rfl rfl rfl rfl rfl ?_
      refine t_ld (pc := 49) dX7_roomIn_49 rfl rfl rfl rfl rfl ?_
      refine t_ld (pc := 51) dX7_roomIn_51 rfl rfl rfl rfl rfl ?_
      refine t_getR (pc := 52) dX7_roomIn_52 rfl h0.1 rfl ?_
      refine t_getI (pc := 55) dX7_roomIn_55 rfl h0.2.2.2.2.2.2.2.2.2.2.2.2.1 rfl ?_
      refine t_ic_ge (pc := 58) 73 dX7_roomIn_58 rfl ?_ ?_
      · refine t_ld (pc := 73) dX7_roomIn_73 rfl rfl rfl rfl rfl ?_
        refine t_getR (pc := 74) dX7_roomIn_74 rfl h0.1 rfl ?_
        refine t_getR (pc := 77) dX7_roomIn_77 rfl h0.2.2.1.1 rfl ?_
        refine t_ld (pc := 80) dX7_roomIn_80 rfl rfl rfl rfl rfl ?_
        refine t_iaload (pc := 82) dX7_roomIn_82 h0.2.2.1.2.2.1 ?_
        refine t_st (pc := 83) [some (.ref a0), some (.int (I l1)), some (.int (I l2)), some (.int (I l3)), some (.int (I (S102 (a0 + 7) l4))), some (.int (I l5)), some (.int (I v101))] dX7_roomIn_83 rfl rfl rfl rfl rfl rfl ?_
        refine t_iinc (pc := 85) [some (.ref a0), some (.int (I l1)), some (.int (I l2)), some (.int (I l3)), some (.int (I (S102 (a0 + 7) l4))), some (.int (I (l5 + 1))), some (.int (I v101))] dX7_roomIn_85 rfl rfl ?_
        refine t_goto (pc := 88) 25 dX7_roomIn_88 rfl ?_
        exact id
      · refine t_ld (pc := 61) dX7_roomIn_61 rfl rfl rfl rfl rfl ?_
        refine t_ld (pc := 63) dX7_roomIn_63 rfl rfl rfl rfl rfl ?_
        refine t_ic_le (pc := 64) 73 dX7_roomIn_64 rfl ?_ ?_
        · refine t_ld (pc := 73) dX7_roomIn_73 rfl rfl rfl rfl rfl ?_
          refine t_getR (pc := 74) dX7_roomIn_74 rfl h0.1 rfl ?_
          refine t_getR (pc := 77) dX7_roomIn_77 rfl h0.2.2.1.1 rfl ?_
          refine t_ld (pc := 80) dX7_roomIn_80 rfl rfl rfl rfl rfl ?_
          refine t_iaload (pc := 82) dX7_roomIn_82 h0.2.2.1.2.2.1 ?_
          refine t_st (pc := 83) [some (.ref a0), some (.int (I l1)), some (.int (I l2)), some (.int (I l3)), some (.int (I (S102 (a0 + 7) l4))), some (.int (I l5)), some (.int (I v101))] dX7_roomIn_83 rfl rfl rfl rfl rfl rfl ?_
          refine t_iinc (pc := 85) [some (.ref a0), some (.int (I l1)), some (.int (I l2)), some (.int (I l3)), some (.int (I (S102 (a0 + 7) l4))), some (.int (I (l5 + 1))), some (.int (I v101))] dX7_roomIn_85 rfl rfl ?_
          refine t_goto (pc := 88) 25 dX7_roomIn_88 rfl ?_
          exact id
        · refine t_ld (pc := 67) dX7_roomIn_67 rfl rfl rfl rfl rfl ?_
          refine t_st (pc := 69) [some (.ref a0), some (.int (I l1)), some (.int (I l4)), some (.int (I l3)), some (.int (I l4)), some (.int (I l5)), some (.int (I v101))] dX7_roomIn_69 rfl rfl rfl rfl rfl rfl ?_
          refine t_ld (pc := 70) dX7_roomIn_70 rfl rfl rfl rfl rfl ?_
          refine t_st (pc := 72) [some (.ref a0), some (.int (I l1)), some (.int (I l4)), some (.int (I v101)), some (.int (I l4)), some (.int (I l5)), some (.int (I v101))] dX7_roomIn_72 rfl rfl rfl rfl rfl rfl ?_
          refine t_ld (pc := 73) dX7_roomIn_73 rfl rfl rfl rfl rfl ?_
          refine t_getR (pc := 74) dX7_roomIn_74 rfl h0.1 rfl ?_
          refine t_getR (pc := 77) dX7_roomIn_77 rfl h0.2.2.1.1 rfl ?_
          refine t_ld (pc := 80) dX7_roomIn_80 rfl rfl rfl rfl rfl ?_
          refine t_iaload (pc := 82) dX7_roomIn_82 h0.2.2.1.2.2.1 ?_
          refine t_st (pc := 83) [some (.ref a0), some (.int (I l1)), some (.int (I l4)), some (.int (I v101)), some (.int (I (S102 (a0 + 7) l4))), some (.int (I l5)), some (.int (I v101))] dX7_roomIn_83 rfl rfl rfl rfl rfl rfl ?_
          refine t_iinc (pc := 85) [some (.ref a0), some (.int (I l1)), some (.int (I l4)), some (.int (I v101)), some (.int (I (S102 (a0 + 7) l4))), some (.int (I (l5 + 1))), some (.int (I v101))] dX7_roomIn_85 rfl rfl ?_
          refine t_goto (pc := 88) 25 dX7_roomIn_88 rfl ?_
          exact id
theorem qX7_pairUp_0 {sc : Nat × (Nat → Int32)} {SH : List mCell} {S : mStore} {r : mR × mW} {a0 : Nat} (h0 : sState SH a0) {l1 : Int} {l2 : Int} {l3 : Int} {u4 : Option Value} {u5 : Option Value} : ((∃ S101, G sc MX9_leave 0 [some (.ref (a0 + 11)), some (.int (I l2)), none, none, none, none, none, none] [] SH S (rV SH S101) ∧ ((0 ≤ l2 ∧ l2 < 48) ∧ ((0 ≤ l2 ∧ l2 < 48) ∧ ((0 ≤ l3 ∧ l3 < 99) ∧ (if I ((up (up S101 (a0 + 17) l2 0) (a0 + 18) l2 0) (a0 + 10) l3) = I (-1) then (∃ v105 S106, G sc MX7_freeKnot 0 [some (.ref a0), none] [] SH (up (up S101 (a0 + 17) l2 0) (a0 + 18) l2 0) (rI v105 SH S106) ∧ ((0 ≤ l3 ∧ l3 < 99) ∧ ((0 ≤ l2 ∧ l2 < 48) ∧ (∃ S107, G sc MX6_add 0 [some (.ref (a0 + 5)), some (.int (I v105)), some (.int (I ((up S106 (a0 + 10) l3 v105) (a0 + 2) l2))), none, none, none] [] SH (up S106 (a0 + 10) l3 v105) (rV SH S107) ∧ (∃ S108, G sc MX6_remove 0 [some (.ref (a0 + 1)), some (.int (I l1)), none, none, none, none] [] SH S107 (rV SH S108) ∧ (∃ S109, G sc MX6_add 0 [some (.ref (a0 + 1)), some (.int (I ((up S106 (a0 + 10) l3 v105) (a0 + 2) l2))), some (.int (I l1)), none, none, none] [] SH S108 (rV SH S109) ∧ r = rV SH S109)))))) else ((0 ≤ l2 ∧ l2 < 48) ∧ (∃ S102, G sc MX6_add 0 [some (.ref (a0 + 5)), some (.int (I ((up (up S101 (a0 + 17) l2 0) (a0 + 18) l2 0) (a0 + 10) l3))), some (.int (I ((up (up S101 (a0 + 17) l2 0) (a0 + 18) l2 0) (a0 + 2) l2))), none, none, none] [] SH (up (up S101 (a0 + 17) l2 0) (a0 + 18) l2 0) (rV SH S102) ∧ (∃ S103, G sc MX6_remove 0 [some (.ref (a0 + 1)), some (.int (I l1)), none, none, none, none] [] SH S102 (rV SH S103) ∧ (∃ S104, G sc MX6_add 0 [some (.ref (a0 + 1)), some (.int (I ((up (up S101 (a0 + 17) l2 0) (a0 + 18) l2 0) (a0 + 2) l2))), some (.int (I l1)), none, none, none] [] SH S103 (rV SH S104) ∧ r = rV SH S104)))))))))) → G sc MX7_pairUp 0 [some (.ref a0), some (.int (I l1)), some (.int (I l2)), some (.int (I l3)), u4, u5] [] SH S r := by
  refine t_ld (pc := 0) dX7_pairUp_0 rfl rfl rfl rfl rfl ?_
  refine t_getR (pc := 1) dX7_pairUp_1 rfl h0.1 rfl ?_
  refine t_ld (pc := 4) dX7_pairUp_4 rfl rfl rfl rfl rfl ?_
  refine t_vcVN (pc := 5) dX7_pairUp_5 rfl rfl [] rfl rfl ⟨rfl, by decide, Nat.le_of_ble_eq_true rfl⟩ h0.2.2.2.2.1.1 fun S101 => ?_
  refine t_ld (pc := 8) dX7_pairUp_8 rfl rfl rfl rfl rfl ?_
  refine t_getR (pc := 9) dX7_pairUp_9 rfl h0.1 rfl ?_
  refine t_ld (pc := 12) dX7_pairUp_12 rfl rfl rfl rfl rfl ?_
  refine t_iconst (pc := 13) dX7_pairUp_13 ?_
  refine t_iastore (pc := 14) dX7_pairUp_14 h0.2.2.2.2.2.2.2.2.2.1 ?_
  refine t_ld (pc := 15) dX7_pairUp_15 rfl rfl rfl rfl rfl ?_
  refine t_getR (pc := 16) dX7_pairUp_16 rfl h0.1 rfl ?_
  refine t_ld (pc := 19) dX7_pairUp_19 rfl rfl rfl rfl rfl ?_
  refine t_iconst (pc := 20) dX7_pairUp_20 ?_
  refine t_iastore (pc := 21) dX7_pairUp_21 h0.2.2.2.2.2.2.2.2.2.2.1 ?_
  refine t_ld (pc := 22) dX7_pairUp_22 rfl rfl rfl rfl rfl ?_
  refine t_getR (pc := 23) dX7_pairUp_23 rfl h0.1 rfl ?_
  refine t_getR (pc := 26) dX7_pairUp_26 rfl h0.2.2.2.1.1 rfl ?_
  refine t_ld (pc := 29) dX7_pairUp_29 rfl rfl rfl rfl rfl ?_
  refine t_iaload (pc := 30) dX7_pairUp_30 h0.2.2.2.1.2 ?_
  refine t_st (pc := 31) [some (.ref a0), some (.int (I l1)), some (.int (I l2)), some (.int (I l3)), some (.int (I ((up (up S101 (a0 + 17) l2 0) (a0 + 18) l2 0) (a0 + 10) l3))), u5] dX7_pairUp_31 rfl rfl rfl rfl rfl rfl ?_
  refine t_ld (pc := 33) dX7_pairUp_33 rfl rfl rfl rfl rfl ?_
  refine t_iconst (pc := 35) dX7_pairUp_35 ?_
  refine t_ic_ne (pc := 36) 56 dX7_pairUp_36 rfl ?_ ?_
  · refine t_ld (pc := 56) dX7_pairUp_56 rfl rfl rfl rfl rfl ?_
    refine t_getR (pc := 57) dX7_pairUp_57 rfl h0.1 rfl ?_
    refine t_getR (pc := 60) dX7_pairUp_60 rfl h0.2.1.1 rfl ?_
    refine t_ld (pc := 63) dX7_pairUp_63 rfl rfl rfl rfl rfl ?_
    refine t_iaload (pc := 64) dX7_pairUp_64 h0.2.1.2.1 ?_
    refine t_st (pc := 65) [some (.ref a0), some (.int (I l1)), some (.int (I l2)), some (.int (I l3)), some (.int (I ((up (up S101 (a0 + 17) l2 0) (a0 + 18) l2 0) (a0 + 10) l3))), some (.int (I ((up (up S101 (a0 + 17) l2 0) (a0 + 18) l2 0) (a0 + 2) l2)))] dX7_pairUp_65 rfl rfl rfl rfl rfl rfl ?_
    refine t_ld (pc := 67) dX7_pairUp_67 rfl rfl rfl rfl rfl ?_
    refine t_getR (pc := 68) dX7_pairUp_68 rfl h0.1 rfl ?_
    refine t_ld (pc := 71) dX7_pairUp_71 rfl rfl rfl rfl rfl ?_
    refine t_ld (pc := 73) dX7_pairUp_73 rfl rfl rfl rfl rfl ?_
    refine t_vcVN (pc := 75) dX7_pairUp_75 rfl rfl [] rfl rfl ⟨rfl, by decide, Nat.le_of_ble_eq_true rfl⟩ h0.2.2.1.1 fun S102 => ?_
    refine t_ld (pc := 78) dX7_pairUp_78 rfl rfl rfl rfl rfl ?_
    refine t_getR (pc := 79) dX7_pairUp_79 rfl h0.1 rfl ?_
    refine t_ld (pc := 82) dX7_pairUp_82 rfl rfl rfl rfl rfl ?_
    refine t_vcVN (pc := 83) dX7_pairUp_83 rfl rfl [] rfl rfl ⟨rfl, by decide, Nat.le_of_ble_eq_true rfl⟩ h0.2.1.1 fun S103 => ?_
    refine t_ld (pc := 86) dX7_pairUp_86 rfl rfl rfl rfl rfl ?_
    refine t_getR (pc := 87) dX7_pairUp_87 rfl h0.1 rfl ?_
    refine t_ld (pc := 90) dX7_pairUp_90 rfl rfl rfl rfl rfl ?_
    refine t_ld (pc := 92) dX7_pairUp_92 rfl rfl rfl rfl rfl ?_
    refine t_vcVN (pc := 93) dX7_pairUp_93 rfl rfl [] rfl rfl ⟨rfl, by decide, Nat.le_of_ble_eq_true rfl⟩ h0.2.1.1 fun S104 => ?_
    exact t_ret (pc := 96) dX7_pairUp_96 rfl
  · refine t_ld (pc := 39) dX7_pairUp_39 rfl rfl rfl rfl rfl ?_
    refine t_vcIN (pc := 40) dX7_pairUp_40 rfl rfl [] rfl rfl ⟨rfl, by decide, Nat.le_of_ble_eq_true rfl⟩ h0.1 fun v105 S106 => ?_
    refine t_st (pc := 43) [some (.ref a0), some (.int (I l1)), some (.int (I l2)), some (.int (I l3)), some (.int (I v105)), u5] dX7_pairUp_43 rfl rfl rfl rfl rfl rfl ?_
    refine t_ld (pc := 45) dX7_pairUp_45 rfl rfl rfl rfl rfl ?_
    refine t_getR (pc := 46) dX7_pairUp_46 rfl h0.1 rfl ?_
    refine t_getR (pc := 49) dX7_pairUp_49 rfl h0.2.2.2.1.1 rfl ?_
    refine t_ld (pc := 52) dX7_pairUp_52 rfl rfl rfl rfl rfl ?_
    refine t_ld (pc := 53) dX7_pairUp_53 rfl rfl rfl rfl rfl ?_
    refine t_iastore (pc := 55) dX7_pairUp_55 h0.2.2.2.1.2 ?_
    refine t_ld (pc := 56) dX7_pairUp_56 rfl rfl rfl rfl rfl ?_
    refine t_getR (pc := 57) dX7_pairUp_57 rfl h0.1 rfl ?_
    refine t_getR (pc := 60) dX7_pairUp_60 rfl h0.2.1.1 rfl ?_
    refine t_ld (pc := 63) dX7_pairUp_63 rfl rfl rfl rfl rfl ?_
    refine t_iaload (pc := 64) dX7_pairUp_64 h0.2.1.2.1 ?_
    refine t_st (pc := 65) [some (.ref a0), some (.int (I l1)), some (.int (I l2)), some (.int (I l3)), some (.int (I v105)), some (.int (I ((up S106 (a0 + 10) l3 v105) (a0 + 2) l2)))] dX7_pairUp_65 rfl rfl rfl rfl rfl rfl ?_
    refine t_ld (pc := 67) dX7_pairUp_67 rfl rfl rfl rfl rfl ?_
    refine t_getR (pc := 68) dX7_pairUp_68 rfl h0.1 rfl ?_
    refine t_ld (pc := 71) dX7_pairUp_71 rfl rfl rfl rfl rfl ?_
    refine t_ld (pc := 73) dX7_pairUp_73 rfl rfl rfl rfl rfl ?_
    refine t_vcVN (pc := 75) dX7_pairUp_75 rfl rfl [] rfl rfl ⟨rfl, by decide, Nat.le_of_ble_eq_true rfl⟩ h0.2.2.1.1 fun S107 => ?_
    refine t_ld (pc := 78) dX7_pairUp_78 rfl rfl rfl rfl rfl ?_
    refine t_getR (pc := 79) dX7_pairUp_79 rfl h0.1 rfl ?_
    refine t_ld (pc := 82) dX7_pairUp_82 rfl rfl rfl rfl rfl ?_
    refine t_vcVN (pc := 83) dX7_pairUp_83 rfl rfl [] rfl rfl ⟨rfl, by decide, Nat.le_of_ble_eq_true rfl⟩ h0.2.1.1 fun S108 => ?_
    refine t_ld (pc := 86) dX7_pairUp_86 rfl rfl rfl rfl rfl ?_
    refine t_getR (pc := 87) dX7_pairUp_87 rfl h0.1 rfl ?_
    refine t_ld (pc := 90) dX7_pairUp_90 rfl rfl rfl rfl rfl ?_
    refine t_ld (pc := 92) dX7_pairUp_92 rfl rfl rfl rfl rfl ?_
    refine t_vcVN (pc := 93) dX7_pairUp_93 rfl rfl [] rfl rfl ⟨rfl, by decide, Nat.le_of_ble_eq_true rfl⟩ h0.2.1.1 fun S109 => ?_
    exact t_ret (pc := 96) dX7_pairUp_96 rfl
theorem qX7_freeKnot_0 {sc : Nat × (Nat → Int32)} {SH : List mCell} {S : mStore} {r : mR × mW} {a0 : Nat} (h0 : sState SH a0) {u1 : Option Value} : (G sc MX7_freeKnot 2 [some (.ref a0), some (.int (I 0))] [] SH S r) → G sc MX7_freeKnot 0 [some (.ref a0), u1] [] SH S r := by
  refine t_iconst (pc := 0) dX7_freeKnot_0 ?_
  refine t_st (pc := 1) [some (.ref a0), some (.int (I 0))] dX7_freeKnot_1 rfl rfl rfl rfl rfl rfl ?_
  exact id
theorem qX7_freeKnot_2 {sc : Nat × (Nat → Int32)} {SH : List mCell} {S : mStore} {r : mR × mW} {a0 : Nat} (h0 : sState SH a0) {l1 : Int} : ((if I 47 ≤ I l1 then r = rI l1 SH S else ((0 ≤ l1 ∧ l1 < 48) ∧ (if I (S (a0 + 8) l1) = I (-1) then r = rI l1 SH S else G sc MX7_freeKnot 2 [some (.ref a0), some (.int (I (l1 + 1)))] [] SH S r)))) → G sc MX7_freeKnot 2 [some (.ref a0), some (.int (I l1))] [] SH S r := by
  refine t_ld (pc := 2) dX7_freeKnot_2 rfl rfl rfl rfl rfl ?_
  refine t_bipush (pc := 3) dX7_freeKnot_3 (by decide) ?_
  refine t_ic_ge (pc := 5) 27 dX7_freeKnot_5 rfl ?_ ?_
  · refine t_ld (pc := 27) dX7_freeKnot_27 rfl rfl rfl rfl rfl ?_
    exact t_iret (pc := 28) dX7_freeKnot_28 rfl
  · refine t_ld (pc := 8) dX7_freeKnot_8 rfl rfl rfl rfl rfl ?_
    refine t_getR (pc := 9) dX7_freeKnot_9 rfl h0.1 rfl ?_
    refine t_getR (pc := 12) dX7_freeKnot_12 rfl h0.2.2.1.1 rfl ?_
    refine t_ld (pc := 15) dX7_freeKnot_15 rfl rfl rfl rfl rfl ?_
    refine t_iaload (pc := 16) dX7_freeKnot_16 h0.2.2.1.2.2.2 ?_
    refine t_iconst (pc := 17) dX7_freeKnot_17 ?_
    refine t_ic_eq (pc := 18) 27 dX7_freeKnot_18 rfl ?_ ?_
    · refine t_ld (pc := 27) dX7_freeKnot_27 rfl rfl rfl rfl rfl ?_
      exact t_iret (pc := 28) dX7_freeKnot_28 rfl
    · refine t_iinc (pc := 21) [some (.ref a0), some (.int (I (l1 + 1)))] dX7_freeKnot_21 rfl rfl ?_
      refine t_goto (pc := 24) 2 dX7_freeKnot_24 rfl ?_
      exact id
theorem qX7_fewest_0 {sc : Nat × (Nat → Int32)} {SH : List mCell} {S : mStore} {r : mR × mW} {a0 : Nat} (h0 : sState SH a0) {u1 : Option Value} {u2 : Option Value} : (G sc MX7_fewest 4 [some (.ref a0), some (.int (I 0)), some (.int (I 0))] [] SH S r) → G sc MX7_fewest 0 [some (.ref a0), u1, u2] [] SH S r := by
  refine t_iconst (pc := 0) dX7_fewest_0 ?_
  refine t_st (pc := 1) [some (.ref a0), some (.int (I 0)), u2] dX7_fewest_1 rfl rfl rfl rfl rfl rfl ?_
  refine t_iconst (pc := 2) dX7_fewest_2 ?_
  refine t_st (pc := 3) [some (.ref a0), some (.int (I 0)), some (.int (I 0))] dX7_fewest_3 rfl rfl rfl rfl rfl rfl ?_
  exact id
theorem qX7_fewest_4 {sc : Nat × (Nat → Int32)} {SH : List mCell} {S : mStore} {r : mR × mW} {a0 : Nat} (h0 : sState SH a0) {l1 : Int} {l2 : Int} : ((if I (S 1 7) ≤ I l2 then r = rI l1 SH S else ((0 ≤ l2 ∧ l2 < 48) ∧ (if I (S (a0 + 2) l2) = I (-1) then G sc MX7_fewest 4 [some (.ref a0), some (.int (I l1)), some (.int (I (l2 + 1)))] [] SH S r else ((0 ≤ l2 ∧ l2 < 48) ∧ (if I (S (a0 + 14) l2) = I 0 then G sc MX7_fewest 4 [some (.ref a0), some (.int (I (l1 + 1))), some (.int (I (l2 + 1)))] [] SH S r else (if I (S 1 4) = I 0 then (if I (S 1 1) ≤ I 0 then G sc MX7_fewest 4 [some (.ref a0), some (.int (I l1)), some (.int (I (l2 + 1)))] [] SH S r else (∃ v101 S102, G sc MX7_likeAhead 0 [some (.ref a0), some (.int (I l2)), none, none] [] SH S (rI v101 SH S102) ∧ (I (S102 1 1) ≠ I 0 ∧ (if I (v101 - idv v101 (S102 1 1) * (S102 1 1)) = I 0 then G sc MX7_fewest 4 [some (.ref a0), some (.int (I (l1 + 1))), some (.int (I (l2 + 1)))] [] SH S102 r else G sc MX7_fewest 4 [some (.ref a0), some (.int (I l1)), some (.int (I (l2 + 1)))] [] SH S102 r)))) else (∃ v103 S104, G sc MX7_cellsAt 0 [some (.ref a0), some (.int (I l2)), none] [] SH S (rI v103 SH S104) ∧ (if I v103 = I 0 then G sc MX7_fewest 4 [some (.ref a0), some (.int (I l1)), some (.int (I (l2 + 1)))] [] SH S104 r else (if I (S104 1 1) ≤ I 0 then G sc MX7_fewest 4 [some (.ref a0), some (.int (I l1)), some (.int (I (l2 + 1)))] [] SH S104 r else (∃ v105 S106, G sc MX7_likeAhead 0 [some (.ref a0), some (.int (I l2)), none, none] [] SH S104 (rI v105 SH S106) ∧ (I (S106 1 1) ≠ I 0 ∧ (if I (v105 - idv v105 (S106 1 1) * (S106 1 1)) = I 0 then G sc MX7_fewest 4 [some (.ref a0), some (.int (I (l1 + 1))), some (.int (I (l2 + 1)))] [] SH S106 r else G sc MX7_fewest 4 [some (.ref a0), some (.int (I l1)), some (.int (I (l2 + 1)))] [] SH S106 r))))))))))))) → G sc MX7_fewest 4 [some (.ref a0), some (.int (I l1)), some (.int (I l2))] [] SH S r := by
  refine t_ld (pc := 4) dX7_fewest_4 rfl rfl rfl rfl rfl ?_
  refine t_ld (pc := 5) dX7_fewest_5 rfl rfl rfl rfl rfl ?_
  refine t_getR (pc := 6) dX7_fewest_6 rfl h0.1 rfl ?_
  refine t_getI (pc := 9) dX7_fewest_9 rfl h0.2.2.2.2.2.2.2.2.2.2.2.2.1 rfl ?_
  refine t_ic_ge (pc := 12) 99 dX7_fewest_12 rfl ?_ ?_
  · refine t_ld (pc := 99) dX7_fewest_99 rfl rfl rfl rfl rfl ?_
    exact t_iret (pc := 100) dX7_fewest_100 rfl
  · refine t_ld (pc := 15) dX7_fewest_15 rfl rfl rfl rfl rfl ?_
    refine t_getR (pc := 16) dX7_fewest_16 rfl h0.1 rfl ?_
    refine t_getR (pc := 19) dX7_fewest_19 rfl h0.2.1.1 rfl ?_
    refine t_ld (pc := 22) dX7_fewest_22 rfl rfl rfl rfl rfl ?_
    refine t_iaload (pc := 23) dX7_fewest_23 h0.2.1.2.1 ?_
    refine t_iconst (pc := 24) dX7_fewest_24 ?_
    refine t_ic_ne (pc := 25) 31 dX7_fewest_25 rfl ?_ ?_
    · refine t_ld (pc := 31) dX7_fewest_31 rfl rfl rfl rfl rfl ?_
      refine t_getR (pc := 32) dX7_fewest_32 rfl h0.1 rfl ?_
      refine t_ld (pc := 35) dX7_fewest_35 rfl rfl rfl rfl rfl ?_
      refine t_iaload (pc := 36) dX7_fewest_36 h0.2.2.2.2.2.2.1 ?_
      refine t_if_ne (pc := 37) 46 dX7_fewest_37 rfl ?_ ?_
      · refine t_ld (pc := 46) dX7_fewest_46 rfl rfl rfl rfl rfl ?_
        refine t_getR (pc := 47) dX7_fewest_47 rfl h0.1 rfl ?_
        refine t_getI (pc := 50) dX7_fewest_50 rfl h0.2.2.2.2.2.2.2.2.2.2.2.2.1 rfl ?_
        refine t_if_eq (pc := 53) 64 dX7_fewest_53 rfl ?_ ?_
        · refine t_ld (pc := 64) dX7_fewest_64 rfl rfl rfl rfl rfl ?_
          refine t_getR (pc := 65) dX7_fewest_65 rfl h0.1 rfl ?_
          refine t_getI (pc := 68) dX7_fewest_68 rfl h0.2.2.2.2.2.2.2.2.2.2.2.2.1 rfl ?_
          refine t_if_le (pc := 71) 93 dX7_fewest_71 rfl ?_ ?_
          · refine t_iinc (pc := 93) [some (.ref a0), some (.int (I l1)), some (.int (I (l2 + 1)))] dX7_fewest_93 rfl rfl ?_
            refine t_goto (pc := 96) 4 dX7_fewest_96 rfl ?_
            exact id
          · refine t_ld (pc := 74) dX7_fewest_74 rfl rfl rfl rfl rfl ?_
            refine t_ld (pc := 75) dX7_fewest_75 rfl rfl rfl rfl rfl ?_
            refine t_vcIN (pc := 76) dX7_fewest_76 rfl rfl [] rfl rfl ⟨rfl, by decide, Nat.le_of_ble_eq_true rfl⟩ h0.1 fun v101 S102 => ?_
            refine t_ld (pc := 79) dX7_fewest_79 rfl rfl rfl rfl rfl ?_
            refine t_getR (pc := 80) dX7_fewest_80 rfl h0.1 rfl ?_
            refine t_getI (pc := 83) dX7_fewest_83 rfl h0.2.2.2.2.2.2.2.2.2.2.2.2.1 rfl ?_
            refine t_iremc (pc := 86) dX7_fewest_86 ?_
            refine t_if_ne (pc := 87) 93 dX7_fewest_87 rfl ?_ ?_
            · refine t_iinc (pc := 93) [some (.ref a0), some (.int (I l1)), some (.int (I (l2 + 1)))] dX7_fewest_93 rfl rfl ?_
              refine t_goto (pc := 96) 4 dX7_fewest_96 rfl ?_
              exact id
            · refine t_iinc (pc := 90) [some (.ref a0), some (.int (I (l1 + 1))), some (.int (I l2))] dX7_fewest_90 rfl rfl ?_
              refine t_iinc (pc := 93) [some (.ref a0), some (.int (I (l1 + 1))), some (.int (I (l2 + 1)))] dX7_fewest_93 rfl rfl ?_
              refine t_goto (pc := 96) 4 dX7_fewest_96 rfl ?_
              exact id
        · refine t_ld (pc := 56) dX7_fewest_56 rfl rfl rfl rfl rfl ?_
          refine t_ld (pc := 57) dX7_fewest_57 rfl rfl rfl rfl rfl ?_
          refine t_vcIN (pc := 58) dX7_fewest_58 rfl rfl [] rfl rfl ⟨rfl, by decide, Nat.le_of_ble_eq_true rfl⟩ h0.1 fun v103 S104 => ?_
          refine t_if_eq (pc := 61) 93 dX7_fewest_61 rfl ?_ ?_
          · refine t_iinc (pc := 93) [some (.ref a0), some (.int (I l1)), some (.int (I (l2 + 1)))] dX7_fewest_93 rfl rfl ?_
            refine t_goto (pc := 96) 4 dX7_fewest_96 rfl ?_
            exact id
          · refine t_ld (pc := 64) dX7_fewest_64 rfl rfl rfl rfl rfl ?_
            refine t_getR (pc := 65) dX7_fewest_65 rfl h0.1 rfl ?_
            refine t_getI (pc := 68) dX7_fewest_68 rfl h0.2.2.2.2.2.2.2.2.2.2.2.2.1 rfl ?_
            refine t_if_le (pc := 71) 93 dX7_fewest_71 rfl ?_ ?_
            · refine t_iinc (pc := 93) [some (.ref a0), some (.int (I l1)), some (.int (I (l2 + 1)))] dX7_fewest_93 rfl rfl ?_
              refine t_goto (pc := 96) 4 dX7_fewest_96 rfl ?_
              exact id
            · refine t_ld (pc := 74) dX7_fewest_74 rfl rfl rfl rfl rfl ?_
              refine t_ld (pc := 75) dX7_fewest_75 rfl rfl rfl rfl rfl ?_
              refine t_vcIN (pc := 76) dX7_fewest_76 rfl rfl [] rfl rfl ⟨rfl, by decide, Nat.le_of_ble_eq_true rfl⟩ h0.1 fun v105 S106 => ?_
              refine t_ld (pc := 79) dX7_fewest_79 rfl rfl rfl rfl rfl ?_
              refine t_getR (pc := 80) dX7_fewest_80 rfl h0.1 rfl ?_
              refine t_getI (pc := 83) dX7_fewest_83 rfl h0.2.2.2.2.2.2.2.2.2.2.2.2.1 rfl ?_
              refine t_iremc (pc := 86) dX7_fewest_86 ?_
              refine t_if_ne (pc := 87) 93 dX7_fewest_87 rfl ?_ ?_
              · refine t_iinc (pc := 93) [some (.ref a0), some (.int (I l1)), some (.int (I (l2 + 1)))] dX7_fewest_93 rfl rfl ?_
                refine t_goto (pc := 96) 4 dX7_fewest_96 rfl ?_
                exact id
              · refine t_iinc (pc := 90) [some (.ref a0), some (.int (I (l1 + 1))), some (.int (I l2))] dX7_fewest_90 rfl rfl ?_
                refine t_iinc (pc := 93) [some (.ref a0), some (.int (I (l1 + 1))), some (.int (I (l2 + 1)))] dX7_fewest_93 rfl rfl ?_
                refine t_goto (pc := 96) 4 dX7_fewest_96 rfl ?_
                exact id
      · refine t_iinc (pc := 40) [some (.ref a0), some (.int (I (l1 + 1))), some (.int (I l2))] dX7_fewest_40 rfl rfl ?_
        refine t_goto (pc := 43) 93 dX7_fewest_43 rfl ?_
        refine t_iinc (pc := 93) [some (.ref a0), some (.int (I (l1 + 1))), some (.int (I (l2 + 1)))] dX7_fewest_93 rfl rfl ?_
        refine t_goto (pc := 96) 4 dX7_fewest_96 rfl ?_
        exact id
    · refine t_goto (pc := 28) 93 dX7_fewest_28 rfl ?_
      refine t_iinc (pc := 93) [some (.ref a0), some (.int (I l1)), some (.int (I (l2 + 1)))] dX7_fewest_93 rfl rfl ?_
      refine t_goto (pc := 96) 4 dX7_fewest_96 rfl ?_
      exact id
theorem qX7_likeAhead_0 {sc : Nat × (Nat → Int32)} {SH : List mCell} {S : mStore} {r : mR × mW} {a0 : Nat} (h0 : sState SH a0) {l1 : Int} {u2 : Option Value} {u3 : Option Value} : (G sc MX7_likeAhead 4 [some (.ref a0), some (.int (I l1)), some (.int (I 0)), some (.int (I 0))] [] SH S r) → G sc MX7_likeAhead 0 [some (.ref a0), some (.int (I l1)), u2, u3] [] SH S r := by
  refine t_iconst (pc := 0) dX7_likeAhead_0 ?_
  refine t_st (pc := 1) [some (.ref a0), some (.int (I l1)), some (.int (I 0)), u3] dX7_likeAhead_1 rfl rfl rfl rfl rfl rfl ?_
  refine t_iconst (pc := 2) dX7_likeAhead_2 ?_
  refine t_st (pc := 3) [some (.ref a0), some (.int (I l1)), some (.int (I 0)), some (.int (I 0))] dX7_likeAhead_3 rfl rfl rfl rfl rfl rfl ?_
  exact id
theorem qX7_likeAhead_4 {sc : Nat × (Nat → Int32)} {SH : List mCell} {S : mStore} {r : mR × mW} {a0 : Nat} (h0 : sState SH a0) {l1 : Int} {l2 : Int} {l3 : Int} : ((if I l1 ≤ I l3 then r = rI l2 SH S else ((0 ≤ l3 ∧ l3 < 48) ∧ (if I (S (a0 + 14) l3) = I 1 then ((0 ≤ l3 ∧ l3 < 48) ∧ (if I (S (a0 + 2) l3) = I (-1) then G sc MX7_likeAhead 4 [some (.ref a0), some (.int (I l1)), some (.int (I l2)), some (.int (I (l3 + 1)))] [] SH S r else (∃ v101 S102, G sc MX5_realmOf 0 [some (.ref 1), some (.int (I l3))] [] SH S (rI v101 SH S102) ∧ (∃ v103 S104, G sc MX5_realmOf 0 [some (.ref 1), some (.int (I l1))] [] SH S102 (rI v103 SH S104) ∧ (if I v101 = I v103 then (∃ v105 S106, G sc MX7_cellsAt 0 [some (.ref a0), some (.int (I l3)), none] [] SH S104 (rI v105 SH S106) ∧ (∃ v107 S108, G sc MX7_cellsAt 0 [some (.ref a0), some (.int (I l1)), none] [] SH S106 (rI v107 SH S108) ∧ (if I v105 = I v107 then G sc MX7_likeAhead 4 [some (.ref a0), some (.int (I l1)), some (.int (I (l2 + 1))), some (.int (I (l3 + 1)))] [] SH S108 r else G sc MX7_likeAhead 4 [some (.ref a0), some (.int (I l1)), some (.int (I l2)), some (.int (I (l3 + 1)))] [] SH S108 r))) else G sc MX7_likeAhead 4 [some (.ref a0), some (.int (I l1)), some (.int (I l2)), some (.int (I (l3 + 1)))] [] SH S104 r))))) else G sc MX7_likeAhead 4 [some (.ref a0), some (.int (I l1)), some (.int (I l2)), some (.int (I (l3 + 1)))] [] SH S r)))) → G sc MX7_likeAhead 4 [some (.ref a0), some (.int (I l1)), some (.int (I l2)), some (.int (I l3))] [] SH S r := by
  refine t_ld (pc := 4) dX7_likeAhead_4 rfl rfl rfl rfl rfl ?_
  refine t_ld (pc := 5) dX7_likeAhead_5 rfl rfl rfl rfl rfl ?_
  refine t_ic_ge (pc := 6) 73 dX7_likeAhead_6 rfl ?_ ?_
  · refine t_ld (pc := 73) dX7_likeAhead_73 rfl rfl rfl rfl rfl ?_
    exact t_iret (pc := 74) dX7_likeAhead_74 rfl
  · refine t_ld (pc := 9) dX7_likeAhead_9 rfl rfl rfl rfl rfl ?_
    refine t_getR (pc := 10) dX7_likeAhead_10 rfl h0.1 rfl ?_
    refine t_ld (pc := 13) dX7_likeAhead_13 rfl rfl rfl rfl rfl ?_
    refine t_iaload (pc := 14) dX7_likeAhead_14 h0.2.2.2.2.2.2.1 ?_
    refine t_iconst (pc := 15) dX7_likeAhead_15 ?_
    refine t_ic_ne (pc := 16) 67 dX7_likeAhead_16 rfl ?_ ?_
    · refine t_iinc (pc := 67) [some (.ref a0), some (.int (I l1)), some (.int (I l2)), some (.int (I (l3 + 1)))] dX7_likeAhead_67 rfl rfl ?_
      refine t_goto (pc := 70) 4 dX7_likeAhead_70 rfl ?_
      exact id
    · refine t_ld (pc := 19) dX7_likeAhead_19 rfl rfl rfl rfl rfl ?_
      refine t_getR (pc := 20) dX7_likeAhead_20 rfl h0.1 rfl ?_
      refine t_getR (pc := 23) dX7_likeAhead_23 rfl h0.2.1.1 rfl ?_
      refine t_ld (pc := 26) dX7_likeAhead_26 rfl rfl rfl rfl rfl ?_
      refine t_iaload (pc := 27) dX7_likeAhead_27 h0.2.1.2.1 ?_
      refine t_iconst (pc := 28) dX7_likeAhead_28 ?_
      refine t_ic_eq (pc := 29) 67 dX7_likeAhead_29 rfl ?_ ?_
      · refine t_iinc (pc := 67) [some (.ref a0), some (.int (I l1)), some (.int (I l2)), some (.int (I (l3 + 1)))] dX7_likeAhead_67 rfl rfl ?_
        refine t_goto (pc := 70) 4 dX7_likeAhead_70 rfl ?_
        exact id
      · refine t_ld (pc := 32) dX7_likeAhead_32 rfl rfl rfl rfl rfl ?_
        refine t_getR (pc := 33) dX7_likeAhead_33 rfl h0.1 rfl ?_
        refine t_ld (pc := 36) dX7_likeAhead_36 rfl rfl rfl rfl rfl ?_
        refine t_vcIN (pc := 37) dX7_likeAhead_37 rfl rfl [] rfl rfl ⟨rfl, by decide, Nat.le_of_ble_eq_true rfl⟩ h0.2.2.2.2.2.2.2.2.2.2.2.2.1 fun v101 S102 => ?_
        refine t_ld (pc := 40) dX7_likeAhead_40 rfl rfl rfl rfl rfl ?_
        refine t_getR (pc := 41) dX7_likeAhead_41 rfl h0.1 rfl ?_
        refine t_ld (pc := 44) dX7_likeAhead_44 rfl rfl rfl rfl rfl ?_
        refine t_vcIN (pc := 45) dX7_likeAhead_45 rfl rfl [.int (I v101)] rfl rfl ⟨rfl, by decide, Nat.le_of_ble_eq_true rfl⟩ h0.2.2.2.2.2.2.2.2.2.2.2.2.1 fun v103 S104 => ?_
        refine t_ic_ne (pc := 48) 67 dX7_likeAhead_48 rfl ?_ ?_
        · refine t_iinc (pc := 67) [some (.ref a0), some (.int (I l1)), some (.int (I l2)), some (.int (I (l3 + 1)))] dX7_likeAhead_67 rfl rfl ?_
          refine t_goto (pc := 70) 4 dX7_likeAhead_70 rfl ?_
          exact id
        · refine t_ld (pc := 51) dX7_likeAhead_51 rfl rfl rfl rfl rfl ?_
          refine t_ld (pc := 52) dX7_likeAhead_52 rfl rfl rfl rfl rfl ?_
          refine t_vcIN (pc := 53) dX7_likeAhead_53 rfl rfl [] rfl rfl ⟨rfl, by decide, Nat.le_of_ble_eq_true rfl⟩ h0.1 fun v105 S106 => ?_
          refine t_ld (pc := 56) dX7_likeAhead_56 rfl rfl rfl rfl rfl ?_
          refine t_ld (pc := 57) dX7_likeAhead_57 rfl rfl rfl rfl rfl ?_
          refine t_vcIN (pc := 58) dX7_likeAhead_58 rfl rfl [.int (I v105)] rfl rfl ⟨rfl, by decide, Nat.le_of_ble_eq_true rfl⟩ h0.1 fun v107 S108 => ?_
          refine t_ic_ne (pc := 61) 67 dX7_likeAhead_61 rfl ?_ ?_
          · refine t_iinc (pc := 67) [some (.ref a0), some (.int (I l1)), some (.int (I l2)), some (.int (I (l3 + 1)))] dX7_likeAhead_67 rfl rfl ?_
            refine t_goto (pc := 70) 4 dX7_likeAhead_70 rfl ?_
            exact id
          · refine t_iinc (pc := 64) [some (.ref a0), some (.int (I l1)), some (.int (I (l2 + 1))), some (.int (I l3))] dX7_likeAhead_64 rfl rfl ?_
            refine t_iinc (pc := 67) [some (.ref a0), some (.int (I l1)), some (.int (I (l2 + 1))), some (.int (I (l3 + 1)))] dX7_likeAhead_67 rfl rfl ?_
            refine t_goto (pc := 70) 4 dX7_likeAhead_70 rfl ?_
            exact id
theorem qX7_risk_0 {sc : Nat × (Nat → Int32)} {SH : List mCell} {S : mStore} {r : mR × mW} {a0 : Nat} (h0 : sState SH a0) {u1 : Option Value} {u2 : Option Value} {u3 : Option Value} : ((∃ v101 S102, G sc MX7_used 0 [some (.ref a0), none, none] [] SH S (rI v101 SH S102) ∧ (if I ((S102 1 7) - v101) ≤ I ((S102 1 0) - v101) then r = rI (-1) SH S102 else r = rI (((S102 1 0) - v101) + 1) SH S102))) → G sc MX7_risk 0 [some (.ref a0), u1, u2, u3] [] SH S r := by
  refine t_ld (pc := 0) dX7_risk_0 rfl rfl rfl rfl rfl ?_
  refine t_vcIN (pc := 1) dX7_risk_1 rfl rfl [] rfl rfl ⟨rfl, by decide, Nat.le_of_ble_eq_true rfl⟩ h0.1 fun v101 S102 => ?_
  refine t_st (pc := 4) [some (.ref a0), some (.int (I v101)), u2, u3] dX7_risk_4 rfl rfl rfl rfl rfl rfl ?_
  refine t_ld (pc := 5) dX7_risk_5 rfl rfl rfl rfl rfl ?_
  refine t_getR (pc := 6) dX7_risk_6 rfl h0.1 rfl ?_
  refine t_getI (pc := 9) dX7_risk_9 rfl h0.2.2.2.2.2.2.2.2.2.2.2.2.1 rfl ?_
  refine t_ld (pc := 12) dX7_risk_12 rfl rfl rfl rfl rfl ?_
  refine t_isub (pc := 13) dX7_risk_13 ?_
  refine t_st (pc := 14) [some (.ref a0), some (.int (I v101)), some (.int (I ((S102 1 0) - v101))), u3] dX7_risk_14 rfl rfl rfl rfl rfl rfl ?_
  refine t_ld (pc := 15) dX7_risk_15 rfl rfl rfl rfl rfl ?_
  refine t_getR (pc := 16) dX7_risk_16 rfl h0.1 rfl ?_
  refine t_getI (pc := 19) dX7_risk_19 rfl h0.2.2.2.2.2.2.2.2.2.2.2.2.1 rfl ?_
  refine t_ld (pc := 22) dX7_risk_22 rfl rfl rfl rfl rfl ?_
  refine t_isub (pc := 23) dX7_risk_23 ?_
  refine t_st (pc := 24) [some (.ref a0), some (.int (I v101)), some (.int (I ((S102 1 0) - v101))), some (.int (I ((S102 1 7) - v101)))] dX7_risk_24 rfl rfl rfl rfl rfl rfl ?_
  refine t_ld (pc := 25) dX7_risk_25 rfl rfl rfl rfl rfl ?_
  refine t_ld (pc := 26) dX7_risk_26 rfl rfl rfl rfl rfl ?_
  refine t_ic_le (pc := 27) 36 dX7_risk_27 rfl ?_ ?_
  · refine t_iconst (pc := 36) dX7_risk_36 ?_
    exact t_iret (pc := 37) dX7_risk_37 rfl
  · refine t_ld (pc := 30) dX7_risk_30 rfl rfl rfl rfl rfl ?_
    refine t_iconst (pc := 31) dX7_risk_31 ?_
    refine t_iadd (pc := 32) dX7_risk_32 ?_
    refine t_goto (pc := 33) 37 dX7_risk_33 rfl ?_
    exact t_iret (pc := 37) dX7_risk_37 rfl
