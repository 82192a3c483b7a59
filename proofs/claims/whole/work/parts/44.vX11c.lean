-- needs: 43.tshape
/-! ===== the program as conditions (gen_vc.py) ===== -/
theorem qX11_looksFor_0 {sc : Nat × (Nat → Int32)} {SH : List mCell} {S : mStore} {r : mR × mW} (h0 : sMod SH) {l1 : Int} {l2 : Int} {u3 : Option Value} {u4 : Option Value} {u5 : Option Value} {u6 : Option Value} {u7 : Option Value} {u8 : Option Value} {u9 : Option Value} {u10 : Option Value} : ((∃ v101 S102, G sc MX11_realm 0 [some (.ref 90), some (.int (I l2))] [] SH S (rI v101 SH S102) ∧ (∃ v103 S104, G sc MX11_realm 0 [some (.ref 90), some (.int (I l2))] [] SH S102 (rI v103 SH S104) ∧ (∃ S105, G sc MX11_seeks 0 [some (.ref 90), some (.int (I l1)), some (.int (I l2)), none] [] SH S104 (rV SH S105) ∧ (∃ S106, G sc MX11_searches 0 [some (.ref 90), some (.int (I l1)), some (.int (I ((l1 + 1072) + (97 * v101)))), some (.int (I 1)), none, none, none, none, none] [] SH S105 (rV SH S106) ∧ (if I (S106 90 30) = I (-1) then (if I (-1) = I (-1) then G sc MX11_looksFor 100 [some (.ref 90), some (.int (I l1)), some (.int (I l2)), some (.int (I ((l1 + 1072) + (97 * v101)))), some (.int (I ((l1 + 1363) + (97 * v103)))), some (.int (I (-1))), some (.int (I (S106 90 28))), some (.int (I (S106 90 29))), u8, u9, u10] [.int (I (-1))] SH S106 r else (∃ v109 S110, G sc MX11_roomIn 0 [some (.ref 90), some (.int (I l1)), some (.int (I (-1))), none, none, none, none] [] SH S106 (rI v109 SH S110) ∧ G sc MX11_looksFor 100 [some (.ref 90), some (.int (I l1)), some (.int (I l2)), some (.int (I ((l1 + 1072) + (97 * v101)))), some (.int (I ((l1 + 1363) + (97 * v103)))), some (.int (I (-1))), some (.int (I (S106 90 28))), some (.int (I (S106 90 29))), u8, u9, u10] [.int (I v109)] SH S110 r)) else ((0 ≤ (((l1 + 1072) + (97 * v101)) + 1) + (S106 90 30) ∧ (((l1 + 1072) + (97 * v101)) + 1) + (S106 90 30) < 137400) ∧ (if I (S106 91 ((((l1 + 1072) + (97 * v101)) + 1) + (S106 90 30))) = I (-1) then G sc MX11_looksFor 100 [some (.ref 90), some (.int (I l1)), some (.int (I l2)), some (.int (I ((l1 + 1072) + (97 * v101)))), some (.int (I ((l1 + 1363) + (97 * v103)))), some (.int (I (S106 91 ((((l1 + 1072) + (97 * v101)) + 1) + (S106 90 30))))), some (.int (I (S106 90 28))), some (.int (I (S106 90 29))), u8, u9, u10] [.int (I (-1))] SH S106 r else (∃ v107 S108, G sc MX11_roomIn 0 [some (.ref 90), some (.int (I l1)), some (.int (I (S106 91 ((((l1 + 1072) + (97 * v101)) + 1) + (S106 90 30))))), none, none, none, none] [] SH S106 (rI v107 SH S108) ∧ G sc MX11_looksFor 100 [some (.ref 90), some (.int (I l1)), some (.int (I l2)), some (.int (I ((l1 + 1072) + (97 * v101)))), some (.int (I ((l1 + 1363) + (97 * v103)))), some (.int (I (S106 91 ((((l1 + 1072) + (97 * v101)) + 1) + (S106 90 30))))), some (.int (I (S106 90 28))), some (.int (I (S106 90 29))), u8, u9, u10] [.int (I v107)] SH S108 r))))))))) → G sc MX11_looksFor 0 [some (.ref 90), some (.int (I l1)), some (.int (I l2)), u3, u4, u5, u6, u7, u8, u9, u10] [] SH S r := by
  refine t_ld (pc := 0) dX11_looksFor_0 rfl rfl rfl rfl rfl ?_
  refine t_sipush (pc := 1) dX11_looksFor_1 (by decide) ?_
  refine t_iadd (pc := 4) dX11_looksFor_4 ?_
  refine t_bipush (pc := 5) dX11_looksFor_5 (by decide) ?_
  refine t_ld (pc := 7) dX11_looksFor_7 rfl rfl rfl rfl rfl ?_
  refine t_ld (pc := 8) dX11_looksFor_8 rfl rfl rfl rfl rfl ?_
  refine t_vcIN (pc := 9) dX11_looksFor_9 rfl rfl [.int (I 97), .int (I (l1 + 1072))] rfl rfl ⟨rfl, by decide, Nat.le_of_ble_eq_true rfl⟩ h0.1 fun v101 S102 => ?_
  refine t_imul (pc := 12) dX11_looksFor_12 ?_
  refine t_iadd (pc := 13) dX11_looksFor_13 ?_
  refine t_st (pc := 14) [some (.ref 90), some (.int (I l1)), some (.int (I l2)), some (.int (I ((l1 + 1072) + (97 * v101)))), u4, u5, u6, u7, u8, u9, u10] dX11_looksFor_14 rfl rfl rfl rfl rfl rfl ?_
  refine t_ld (pc := 15) dX11_looksFor_15 rfl rfl rfl rfl rfl ?_
  refine t_sipush (pc := 16) dX11_looksFor_16 (by decide) ?_
  refine t_iadd (pc := 19) dX11_looksFor_19 ?_
  refine t_bipush (pc := 20) dX11_looksFor_20 (by decide) ?_
  refine t_ld (pc := 22) dX11_looksFor_22 rfl rfl rfl rfl rfl ?_
  refine t_ld (pc := 23) dX11_looksFor_23 rfl rfl rfl rfl rfl ?_
  refine t_vcIN (pc := 24) dX11_looksFor_24 rfl rfl [.int (I 97), .int (I (l1 + 1363))] rfl rfl ⟨rfl, by decide, Nat.le_of_ble_eq_true rfl⟩ h0.1 fun v103 S104 => ?_
  refine t_imul (pc := 27) dX11_looksFor_27 ?_
  refine t_iadd (pc := 28) dX11_looksFor_28 ?_
  refine t_st (pc := 29) [some (.ref 90), some (.int (I l1)), some (.int (I l2)), some (.int (I ((l1 + 1072) + (97 * v101)))), some (.int (I ((l1 + 1363) + (97 * v103)))), u5, u6, u7, u8, u9, u10] dX11_looksFor_29 rfl rfl rfl rfl rfl rfl ?_
  refine t_ld (pc := 31) dX11_looksFor_31 rfl rfl rfl rfl rfl ?_
  refine t_ld (pc := 32) dX11_looksFor_32 rfl rfl rfl rfl rfl ?_
  refine t_ld (pc := 33) dX11_looksFor_33 rfl rfl rfl rfl rfl ?_
  refine t_vcVN (pc := 34) dX11_looksFor_34 rfl rfl [] rfl rfl ⟨rfl, by decide, Nat.le_of_ble_eq_true rfl⟩ h0.1 fun S105 => ?_
  refine t_ld (pc := 37) dX11_looksFor_37 rfl rfl rfl rfl rfl ?_
  refine t_ld (pc := 38) dX11_looksFor_38 rfl rfl rfl rfl rfl ?_
  refine t_ld (pc := 39) dX11_looksFor_39 rfl rfl rfl rfl rfl ?_
  refine t_iconst (pc := 40) dX11_looksFor_40 ?_
  refine t_vcVN (pc := 41) dX11_looksFor_41 rfl rfl [] rfl rfl ⟨rfl, by decide, Nat.le_of_ble_eq_true rfl⟩ h0.1 fun S106 => ?_
  refine t_ld (pc := 44) dX11_looksFor_44 rfl rfl rfl rfl rfl ?_
  refine t_getI (pc := 45) dX11_looksFor_45 rfl h0.1 rfl ?_
  refine t_iconst (pc := 48) dX11_looksFor_48 ?_
  refine t_ic_ne (pc := 49) 56 dX11_looksFor_49 rfl ?_ ?_
  · refine t_ld (pc := 56) dX11_looksFor_56 rfl rfl rfl rfl rfl ?_
    refine t_getR (pc := 57) dX11_looksFor_57 rfl h0.1 rfl ?_
    refine t_ld (pc := 60) dX11_looksFor_60 rfl rfl rfl rfl rfl ?_
    refine t_iconst (pc := 61) dX11_looksFor_61 ?_
    refine t_iadd (pc := 62) dX11_looksFor_62 ?_
    refine t_ld (pc := 63) dX11_looksFor_63 rfl rfl rfl rfl rfl ?_
    refine t_getI (pc := 64) dX11_looksFor_64 rfl h0.1 rfl ?_
    refine t_iadd (pc := 67) dX11_looksFor_67 ?_
    refine t_iaload (pc := 68) dX11_looksFor_68 h0.2.1 ?_
    refine t_st (pc := 69) [some (.ref 90), some (.int (I l1)), some (.int (I l2)), some (.int (I ((l1 + 1072) + (97 * v101)))), some (.int (I ((l1 + 1363) + (97 * v103)))), some (.int (I (S106 91 ((((l1 + 1072) + (97 * v101)) + 1) + (S106 90 30))))), u6, u7, u8, u9, u10] dX11_looksFor_69 rfl rfl rfl rfl rfl rfl ?_
    refine t_ld (pc := 71) dX11_looksFor_71 rfl rfl rfl rfl rfl ?_
    refine t_getI (pc := 72) dX11_looksFor_72 rfl h0.1 rfl ?_
    refine t_st (pc := 75) [some (.ref 90), some (.int (I l1)), some (.int (I l2)), some (.int (I ((l1 + 1072) + (97 * v101)))), some (.int (I ((l1 + 1363) + (97 * v103)))), some (.int (I (S106 91 ((((l1 + 1072) + (97 * v101)) + 1) + (S106 90 30))))), some (.int (I (S106 90 28))), u7, u8, u9, u10] dX11_looksFor_75 rfl rfl rfl rfl rfl rfl ?_
    refine t_ld (pc := 77) dX11_looksFor_77 rfl rfl rfl rfl rfl ?_
    refine t_getI (pc := 78) dX11_looksFor_78 rfl h0.1 rfl ?_
    refine t_st (pc := 81) [some (.ref 90), some (.int (I l1)), some (.int (I l2)), some (.int (I ((l1 + 1072) + (97 * v101)))), some (.int (I ((l1 + 1363) + (97 * v103)))), some (.int (I (S106 91 ((((l1 + 1072) + (97 * v101)) + 1) + (S106 90 30))))), some (.int (I (S106 90 28))), some (.int (I (S106 90 29))), u8, u9, u10] dX11_looksFor_81 rfl rfl rfl rfl rfl rfl ?_
    refine t_ld (pc := 83) dX11_looksFor_83 rfl rfl rfl rfl rfl ?_
    refine t_iconst (pc := 85) dX11_looksFor_85 ?_
    refine t_ic_ne (pc := 86) 93 dX11_looksFor_86 rfl ?_ ?_
    · refine t_ld (pc := 93) dX11_looksFor_93 rfl rfl rfl rfl rfl ?_
      refine t_ld (pc := 94) dX11_looksFor_94 rfl rfl rfl rfl rfl ?_
      refine t_ld (pc := 95) dX11_looksFor_95 rfl rfl rfl rfl rfl ?_
      refine t_vcIN (pc := 97) dX11_looksFor_97 rfl rfl [] rfl rfl ⟨rfl, by decide, Nat.le_of_ble_eq_true rfl⟩ h0.1 fun v107 S108 => ?_
      exact id
    · refine t_iconst (pc := 89) dX11_looksFor_89 ?_
      refine t_goto (pc := 90) 100 dX11_looksFor_90 rfl ?_
      exact id
  · refine t_iconst (pc := 52) dX11_looksFor_52 ?_
    refine t_goto (pc := 53) 69 dX11_looksFor_53 rfl ?_
    refine t_st (pc := 69) [some (.ref 90), some (.int (I l1)), some (.int (I l2)), some (.int (I ((l1 + 1072) + (97 * v101)))), some (.int (I ((l1 + 1363) + (97 * v103)))), some (.int (I (-1))), u6, u7, u8, u9, u10] dX11_looksFor_69 rfl rfl rfl rfl rfl rfl ?_
    refine t_ld (pc := 71) dX11_looksFor_71 rfl rfl rfl rfl rfl ?_
    refine t_getI (pc := 72) dX11_looksFor_72 rfl h0.1 rfl ?_
    refine t_st (pc := 75) [some (.ref 90), some (.int (I l1)), some (.int (I l2)), some (.int (I ((l1 + 1072) + (97 * v101)))), some (.int (I ((l1 + 1363) + (97 * v103)))), some (.int (I (-1))), some (.int (I (S106 90 28))), u7, u8, u9, u10] dX11_looksFor_75 rfl rfl rfl rfl rfl rfl ?_
    refine t_ld (pc := 77) dX11_looksFor_77 rfl rfl rfl rfl rfl ?_
    refine t_getI (pc := 78) dX11_looksFor_78 rfl h0.1 rfl ?_
    refine t_st (pc := 81) [some (.ref 90), some (.int (I l1)), some (.int (I l2)), some (.int (I ((l1 + 1072) + (97 * v101)))), some (.int (I ((l1 + 1363) + (97 * v103)))), some (.int (I (-1))), some (.int (I (S106 90 28))), some (.int (I (S106 90 29))), u8, u9, u10] dX11_looksFor_81 rfl rfl rfl rfl rfl rfl ?_
    refine t_ld (pc := 83) dX11_looksFor_83 rfl rfl rfl rfl rfl ?_
    refine t_iconst (pc := 85) dX11_looksFor_85 ?_
    refine t_ic_ne (pc := 86) 93 dX11_looksFor_86 rfl ?_ ?_
    · refine t_ld (pc := 93) dX11_looksFor_93 rfl rfl rfl rfl rfl ?_
      refine t_ld (pc := 94) dX11_looksFor_94 rfl rfl rfl rfl rfl ?_
      refine t_ld (pc := 95) dX11_looksFor_95 rfl rfl rfl rfl rfl ?_
      refine t_vcIN (pc := 97) dX11_looksFor_97 rfl rfl [] rfl rfl ⟨rfl, by decide, Nat.le_of_ble_eq_true rfl⟩ h0.1 fun v109 S110 => ?_
      exact id
    · refine t_iconst (pc := 89) dX11_looksFor_89 ?_
      refine t_goto (pc := 90) 100 dX11_looksFor_90 rfl ?_
      exact id
theorem qX11_looksFor_100 {sc : Nat × (Nat → Int32)} {SH : List mCell} {S : mStore} {r : mR × mW} (h0 : sMod SH) {l1 : Int} {l2 : Int} {l3 : Int} {l4 : Int} {l5 : Int} {l6 : Int} {l7 : Int} {u8 : Option Value} {u9 : Option Value} {u10 : Option Value} {s0 : Int} : ((if I s0 = I (-1) then (∃ v101 S102, G sc MX11_sumOf 0 [some (.ref 90), some (.int (I l1)), some (.int (I l2))] [] SH S (rI v101 SH S102) ∧ ((0 ≤ (l1 + 160) + l2 ∧ (l1 + 160) + l2 < 137400) ∧ (if I v101 = I (S102 91 ((l1 + 160) + l2)) then (∃ S103, G sc MX11_searches 0 [some (.ref 90), some (.int (I l1)), some (.int (I l4)), some (.int (I 0)), none, none, none, none, none] [] SH S102 (rV SH S103) ∧ (if I (S103 90 31) = I 0 then (if I (S103 90 30) = I (-1) then (∃ S108, G sc MX11_putsIn 0 [some (.ref 90), some (.int (I l4)), some (.int (I (S103 90 28))), some (.int (I l2)), some (.int (I (S103 90 29))), none] [] SH S103 (rV SH S108) ∧ ((0 ≤ (l1 + 304) + l2 ∧ (l1 + 304) + l2 < 137400) ∧ r = rI 9 SH (up S108 91 ((l1 + 304) + l2) 1))) else ((0 ≤ (l4 + 1) + (S103 90 30) ∧ (l4 + 1) + (S103 90 30) < 137400) ∧ (∃ S104, G sc MX11_waitsNoMore 0 [some (.ref 90), some (.int (I l1)), some (.int (I (S103 91 ((l4 + 1) + (S103 90 30))))), none, none] [] SH S103 (rV SH S104) ∧ ((0 ≤ (l1 + 208) + (S103 91 ((l4 + 1) + (S103 90 30))) ∧ (l1 + 208) + (S103 91 ((l4 + 1) + (S103 90 30))) < 137400) ∧ ((0 ≤ (l1 + 256) + (S103 91 ((l4 + 1) + (S103 90 30))) ∧ (l1 + 256) + (S103 91 ((l4 + 1) + (S103 90 30))) < 137400) ∧ (if I l5 = I (-1) then (∃ v105 S106, G sc MX11_newKnot 0 [some (.ref 90), some (.int (I l1)), none] [] SH (up (up S104 91 ((l1 + 208) + (S103 91 ((l4 + 1) + (S103 90 30)))) 0) 91 ((l1 + 256) + (S103 91 ((l4 + 1) + (S103 90 30)))) 0) (rI v105 SH S106) ∧ (∃ S107, G sc MX11_putsIn 0 [some (.ref 90), some (.int (I l3)), some (.int (I l6)), some (.int (I v105)), some (.int (I l7)), none] [] SH S106 (rV SH S107) ∧ G sc MX11_looksFor 292 [some (.ref 90), some (.int (I l1)), some (.int (I l2)), some (.int (I l3)), some (.int (I l4)), some (.int (I v105)), some (.int (I l6)), some (.int (I l7)), some (.int (I s0)), some (.int (I v101)), some (.int (I (S103 91 ((l4 + 1) + (S103 90 30)))))] [] SH S107 r)) else G sc MX11_looksFor 292 [some (.ref 90), some (.int (I l1)), some (.int (I l2)), some (.int (I l3)), some (.int (I l4)), some (.int (I l5)), some (.int (I l6)), some (.int (I l7)), some (.int (I s0)), some (.int (I v101)), some (.int (I (S103 91 ((l4 + 1) + (S103 90 30)))))] [] SH (up (up S104 91 ((l1 + 208) + (S103 91 ((l4 + 1) + (S103 90 30)))) 0) 91 ((l1 + 256) + (S103 91 ((l4 + 1) + (S103 90 30)))) 0) r)))))) else r = rI 7 SH S103)) else ((0 ≤ (l1 + 160) + l2 ∧ (l1 + 160) + l2 < 137400) ∧ r = rI 6 SH (up S102 91 ((l1 + 160) + l2) v101))))) else (∃ S109, G sc MX11_movesTo 0 [some (.ref 90), some (.int (I l1)), some (.int (I l2)), some (.int (I s0))] [] SH S (rV SH S109) ∧ r = rI 5 SH S109))) → G sc MX11_looksFor 100 [some (.ref 90), some (.int (I l1)), some (.int (I l2)), some (.int (I l3)), some (.int (I l4)), some (.int (I l5)), some (.int (I l6)), some (.int (I l7)), u8, u9, u10] [.int (I s0)] SH S r := by
  refine t_st (pc := 100) [some (.ref 90), some (.int (I l1)), some (.int (I l2)), some (.int (I l3)), some (.int (I l4)), some (.int (I l5)), some (.int (I l6)), some (.int (I l7)), some (.int (I s0)), u9, u10] dX11_looksFor_100 rfl rfl rfl rfl rfl rfl ?_
  refine t_ld (pc := 102) dX11_looksFor_102 rfl rfl rfl rfl rfl ?_
  refine t_iconst (pc := 104) dX11_looksFor_104 ?_
  refine t_ic_eq (pc := 105) 118 dX11_looksFor_105 rfl ?_ ?_
  · refine t_ld (pc := 118) dX11_looksFor_118 rfl rfl rfl rfl rfl ?_
    refine t_ld (pc := 119) dX11_looksFor_119 rfl rfl rfl rfl rfl ?_
    refine t_ld (pc := 120) dX11_looksFor_120 rfl rfl rfl rfl rfl ?_
    refine t_vcIN (pc := 121) dX11_looksFor_121 rfl rfl [] rfl rfl ⟨rfl, by decide, Nat.le_of_ble_eq_true rfl⟩ h0.1 fun v101 S102 => ?_
    refine t_st (pc := 124) [some (.ref 90), some (.int (I l1)), some (.int (I l2)), some (.int (I l3)), some (.int (I l4)), some (.int (I l5)), some (.int (I l6)), some (.int (I l7)), some (.int (I s0)), some (.int (I v101)), u10] dX11_looksFor_124 rfl rfl rfl rfl rfl rfl ?_
    refine t_ld (pc := 126) dX11_looksFor_126 rfl rfl rfl rfl rfl ?_
    refine t_ld (pc := 128) dX11_looksFor_128 rfl rfl rfl rfl rfl ?_
    refine t_getR (pc := 129) dX11_looksFor_129 rfl h0.1 rfl ?_
    refine t_ld (pc := 132) dX11_looksFor_132 rfl rfl rfl rfl rfl ?_
    refine t_sipush (pc := 133) dX11_looksFor_133 (by decide) ?_
    refine t_iadd (pc := 136) dX11_looksFor_136 ?_
    refine t_ld (pc := 137) dX11_looksFor_137 rfl rfl rfl rfl rfl ?_
    refine t_iadd (pc := 138) dX11_looksFor_138 ?_
    refine t_iaload (pc := 139) dX11_looksFor_139 h0.2.1 ?_
    refine t_ic_eq (pc := 140) 160 dX11_looksFor_140 rfl ?_ ?_
    · refine t_ld (pc := 160) dX11_looksFor_160 rfl rfl rfl rfl rfl ?_
      refine t_ld (pc := 161) dX11_looksFor_161 rfl rfl rfl rfl rfl ?_
      refine t_ld (pc := 162) dX11_looksFor_162 rfl rfl rfl rfl rfl ?_
      refine t_iconst (pc := 164) dX11_looksFor_164 ?_
      refine t_vcVN (pc := 165) dX11_looksFor_165 rfl rfl [] rfl rfl ⟨rfl, by decide, Nat.le_of_ble_eq_true rfl⟩ h0.1 fun S103 => ?_
      refine t_ld (pc := 168) dX11_looksFor_168 rfl rfl rfl rfl rfl ?_
      refine t_getI (pc := 169) dX11_looksFor_169 rfl h0.1 rfl ?_
      refine t_if_eq (pc := 172) 178 dX11_looksFor_172 rfl ?_ ?_
      · refine t_ld (pc := 178) dX11_looksFor_178 rfl rfl rfl rfl rfl ?_
        refine t_getI (pc := 179) dX11_looksFor_179 rfl h0.1 rfl ?_
        refine t_iconst (pc := 182) dX11_looksFor_182 ?_
        refine t_ic_ne (pc := 183) 217 dX11_looksFor_183 rfl ?_ ?_
        · refine t_ld (pc := 217) dX11_looksFor_217 rfl rfl rfl rfl rfl ?_
          refine t_getR (pc := 218) dX11_looksFor_218 rfl h0.1 rfl ?_
          refine t_ld (pc := 221) dX11_looksFor_221 rfl rfl rfl rfl rfl ?_
          refine t_iconst (pc := 223) dX11_looksFor_223 ?_
          refine t_iadd (pc := 224) dX11_looksFor_224 ?_
          refine t_ld (pc := 225) dX11_looksFor_225 rfl rfl rfl rfl rfl ?_
          refine t_getI (pc := 226) dX11_looksFor_226 rfl h0.1 rfl ?_
          refine t_iadd (pc := 229) dX11_looksFor_229 ?_
          refine t_iaload (pc := 230) dX11_looksFor_230 h0.2.1 ?_
          refine t_st (pc := 231) [some (.ref 90), some (.int (I l1)), some (.int (I l2)), some (.int (I l3)), some (.int (I l4)), some (.int (I l5)), some (.int (I l6)), some (.int (I l7)), some (.int (I s0)), some (.int (I v101)), some (.int (I (S103 91 ((l4 + 1) + (S103 90 30)))))] dX11_looksFor_231 rfl rfl rfl rfl rfl rfl ?_
          refine t_ld (pc := 233) dX11_looksFor_233 rfl rfl rfl rfl rfl ?_
          refine t_ld (pc := 234) dX11_looksFor_234 rfl rfl rfl rfl rfl ?_
          refine t_ld (pc := 235) dX11_looksFor_235 rfl rfl rfl rfl rfl ?_
          refine t_vcVN (pc := 237) dX11_looksFor_237 rfl rfl [] rfl rfl ⟨rfl, by decide, Nat.le_of_ble_eq_true rfl⟩ h0.1 fun S104 => ?_
          refine t_ld (pc := 240) dX11_looksFor_240 rfl rfl rfl rfl rfl ?_
          refine t_getR (pc := 241) dX11_looksFor_241 rfl h0.1 rfl ?_
          refine t_ld (pc := 244) dX11_looksFor_244 rfl rfl rfl rfl rfl ?_
          refine t_sipush (pc := 245) dX11_looksFor_245 (by decide) ?_
          refine t_iadd (pc := 248) dX11_looksFor_248 ?_
          refine t_ld (pc := 249) dX11_looksFor_249 rfl rfl rfl rfl rfl ?_
          refine t_iadd (pc := 251) dX11_looksFor_251 ?_
          refine t_iconst (pc := 252) dX11_looksFor_252 ?_
          refine t_iastore (pc := 253) dX11_looksFor_253 h0.2.1 ?_
          refine t_ld (pc := 254) dX11_looksFor_254 rfl rfl rfl rfl rfl ?_
          refine t_getR (pc := 255) dX11_looksFor_255 rfl h0.1 rfl ?_
          refine t_ld (pc := 258) dX11_looksFor_258 rfl rfl rfl rfl rfl ?_
          refine t_sipush (pc := 259) dX11_looksFor_259 (by decide) ?_
          refine t_iadd (pc := 262) dX11_looksFor_262 ?_
          refine t_ld (pc := 263) dX11_looksFor_263 rfl rfl rfl rfl rfl ?_
          refine t_iadd (pc := 265) dX11_looksFor_265 ?_
          refine t_iconst (pc := 266) dX11_looksFor_266 ?_
          refine t_iastore (pc := 267) dX11_looksFor_267 h0.2.1 ?_
          refine t_ld (pc := 268) dX11_looksFor_268 rfl rfl rfl rfl rfl ?_
          refine t_iconst (pc := 270) dX11_looksFor_270 ?_
          refine t_ic_ne (pc := 271) 292 dX11_looksFor_271 rfl ?_ ?_
          · exact id
          · refine t_ld (pc := 274) dX11_looksFor_274 rfl rfl rfl rfl rfl ?_
            refine t_ld (pc := 275) dX11_looksFor_275 rfl rfl rfl rfl rfl ?_
            refine t_vcIN (pc := 276) dX11_looksFor_276 rfl rfl [] rfl rfl ⟨rfl, by decide, Nat.le_of_ble_eq_true rfl⟩ h0.1 fun v105 S106 => ?_
            refine t_st (pc := 279) [some (.ref 90), some (.int (I l1)), some (.int (I l2)), some (.int (I l3)), some (.int (I l4)), some (.int (I v105)), some (.int (I l6)), some (.int (I l7)), some (.int (I s0)), some (.int (I v101)), some (.int (I (S103 91 ((l4 + 1) + (S103 90 30)))))] dX11_looksFor_279 rfl rfl rfl rfl rfl rfl ?_
            refine t_ld (pc := 281) dX11_looksFor_281 rfl rfl rfl rfl rfl ?_
            refine t_ld (pc := 282) dX11_looksFor_282 rfl rfl rfl rfl rfl ?_
            refine t_ld (pc := 283) dX11_looksFor_283 rfl rfl rfl rfl rfl ?_
            refine t_ld (pc := 285) dX11_looksFor_285 rfl rfl rfl rfl rfl ?_
            refine t_ld (pc := 287) dX11_looksFor_287 rfl rfl rfl rfl rfl ?_
            refine t_vcVN (pc := 289) dX11_looksFor_289 rfl rfl [] rfl rfl ⟨rfl, by decide, Nat.le_of_ble_eq_true rfl⟩ h0.1 fun S107 => ?_
            exact id
        · refine t_ld (pc := 186) dX11_looksFor_186 rfl rfl rfl rfl rfl ?_
          refine t_ld (pc := 187) dX11_looksFor_187 rfl rfl rfl rfl rfl ?_
          refine t_ld (pc := 189) dX11_looksFor_189 rfl rfl rfl rfl rfl ?_
          refine t_getI (pc := 190) dX11_looksFor_190 rfl h0.1 rfl ?_
          refine t_ld (pc := 193) dX11_looksFor_193 rfl rfl rfl rfl rfl ?_
          refine t_ld (pc := 194) dX11_looksFor_194 rfl rfl rfl rfl rfl ?_
          refine t_getI (pc := 195) dX11_looksFor_195 rfl h0.1 rfl ?_
          refine t_vcVN (pc := 198) dX11_looksFor_198 rfl rfl [] rfl rfl ⟨rfl, by decide, Nat.le_of_ble_eq_true rfl⟩ h0.1 fun S108 => ?_
          refine t_ld (pc := 201) dX11_looksFor_201 rfl rfl rfl rfl rfl ?_
          refine t_getR (pc := 202) dX11_looksFor_202 rfl h0.1 rfl ?_
          refine t_ld (pc := 205) dX11_looksFor_205 rfl rfl rfl rfl rfl ?_
          refine t_sipush (pc := 206) dX11_looksFor_206 (by decide) ?_
          refine t_iadd (pc := 209) dX11_looksFor_209 ?_
          refine t_ld (pc := 210) dX11_looksFor_210 rfl rfl rfl rfl rfl ?_
          refine t_iadd (pc := 211) dX11_looksFor_211 ?_
          refine t_iconst (pc := 212) dX11_looksFor_212 ?_
          refine t_iastore (pc := 213) dX11_looksFor_213 h0.2.1 ?_
          refine t_bipush (pc := 214) dX11_looksFor_214 (by decide) ?_
          exact t_iret (pc := 216) dX11_looksFor_216 rfl
      · refine t_bipush (pc := 175) dX11_looksFor_175 (by decide) ?_
        exact t_iret (pc := 177) dX11_looksFor_177 rfl
    · refine t_ld (pc := 143) dX11_looksFor_143 rfl rfl rfl rfl rfl ?_
      refine t_getR (pc := 144) dX11_looksFor_144 rfl h0.1 rfl ?_
      refine t_ld (pc := 147) dX11_looksFor_147 rfl rfl rfl rfl rfl ?_
      refine t_sipush (pc := 148) dX11_looksFor_148 (by decide) ?_
      refine t_iadd (pc := 151) dX11_looksFor_151 ?_
      refine t_ld (pc := 152) dX11_looksFor_152 rfl rfl rfl rfl rfl ?_
      refine t_iadd (pc := 153) dX11_looksFor_153 ?_
      refine t_ld (pc := 154) dX11_looksFor_154 rfl rfl rfl rfl rfl ?_
      refine t_iastore (pc := 156) dX11_looksFor_156 h0.2.1 ?_
      refine t_bipush (pc := 157) dX11_looksFor_157 (by decide) ?_
      exact t_iret (pc := 159) dX11_looksFor_159 rfl
  · refine t_ld (pc := 108) dX11_looksFor_108 rfl rfl rfl rfl rfl ?_
    refine t_ld (pc := 109) dX11_looksFor_109 rfl rfl rfl rfl rfl ?_
    refine t_ld (pc := 110) dX11_looksFor_110 rfl rfl rfl rfl rfl ?_
    refine t_ld (pc := 111) dX11_looksFor_111 rfl rfl rfl rfl rfl ?_
    refine t_vcVN (pc := 113) dX11_looksFor_113 rfl rfl [] rfl rfl ⟨rfl, by decide, Nat.le_of_ble_eq_true rfl⟩ h0.1 fun S109 => ?_
    refine t_iconst (pc := 116) dX11_looksFor_116 ?_
    exact t_iret (pc := 117) dX11_looksFor_117 rfl
theorem qX11_looksFor_292 {sc : Nat × (Nat → Int32)} {SH : List mCell} {S : mStore} {r : mR × mW} (h0 : sMod SH) {l1 : Int} {l2 : Int} {l3 : Int} {l4 : Int} {l5 : Int} {l6 : Int} {l7 : Int} {l8 : Int} {l9 : Int} {l10 : Int} : (((0 ≤ (l1 + 16) + l10 ∧ (l1 + 16) + l10 < 137400) ∧ (∃ S101, G sc MX11_comesTo 0 [some (.ref 90), some (.int (I l1)), some (.int (I (S 91 ((l1 + 16) + l10)))), some (.int (I l5))] [] SH S (rV SH S101) ∧ ((0 ≤ (l1 + 16) + l10 ∧ (l1 + 16) + l10 < 137400) ∧ (∃ S102, G sc MX11_movesTo 0 [some (.ref 90), some (.int (I l1)), some (.int (I l2)), some (.int (I (S101 91 ((l1 + 16) + l10))))] [] SH S101 (rV SH S102) ∧ r = rI 8 SH S102))))) → G sc MX11_looksFor 292 [some (.ref 90), some (.int (I l1)), some (.int (I l2)), some (.int (I l3)), some (.int (I l4)), some (.int (I l5)), some (.int (I l6)), some (.int (I l7)), some (.int (I l8)), some (.int (I l9)), some (.int (I l10))] [] SH S r := by
  refine t_ld (pc := 292) dX11_looksFor_292 rfl rfl rfl rfl rfl ?_
  refine t_ld (pc := 293) dX11_looksFor_293 rfl rfl rfl rfl rfl ?_
  refine t_ld (pc := 294) dX11_looksFor_294 rfl rfl rfl rfl rfl ?_
  refine t_getR (pc := 295) dX11_looksFor_295 rfl h0.1 rfl ?_
  refine t_ld (pc := 298) dX11_looksFor_298 rfl rfl rfl rfl rfl ?_
  refine t_bipush (pc := 299) dX11_looksFor_299 (by decide) ?_
  refine t_iadd (pc := 301) dX11_looksFor_301 ?_
  refine t_ld (pc := 302) dX11_looksFor_302 rfl rfl rfl rfl rfl ?_
  refine t_iadd (pc := 304) dX11_looksFor_304 ?_
  refine t_iaload (pc := 305) dX11_looksFor_305 h0.2.1 ?_
  refine t_ld (pc := 306) dX11_looksFor_306 rfl rfl rfl rfl rfl ?_
  refine t_vcVN (pc := 308) dX11_looksFor_308 rfl rfl [] rfl rfl ⟨rfl, by decide, Nat.le_of_ble_eq_true rfl⟩ h0.1 fun S101 => ?_
  refine t_ld (pc := 311) dX11_looksFor_311 rfl rfl rfl rfl rfl ?_
  refine t_ld (pc := 312) dX11_looksFor_312 rfl rfl rfl rfl rfl ?_
  refine t_ld (pc := 313) dX11_looksFor_313 rfl rfl rfl rfl rfl ?_
  refine t_ld (pc := 314) dX11_looksFor_314 rfl rfl rfl rfl rfl ?_
  refine t_getR (pc := 315) dX11_looksFor_315 rfl h0.1 rfl ?_
  refine t_ld (pc := 318) dX11_looksFor_318 rfl rfl rfl rfl rfl ?_
  refine t_bipush (pc := 319) dX11_looksFor_319 (by decide) ?_
  refine t_iadd (pc := 321) dX11_looksFor_321 ?_
  refine t_ld (pc := 322) dX11_looksFor_322 rfl rfl rfl rfl rfl ?_
  refine t_iadd (pc := 324) dX11_looksFor_324 ?_
  refine t_iaload (pc := 325) dX11_looksFor_325 h0.2.1 ?_
  refine t_vcVN (pc := 326) dX11_looksFor_326 rfl rfl [] rfl rfl ⟨rfl, by decide, Nat.le_of_ble_eq_true rfl⟩ h0.1 fun S102 => ?_
  refine t_bipush (pc := 329) dX11_looksFor_329 (by decide) ?_
  exact t_iret (pc := 331) dX11_looksFor_331 rfl
theorem qX11_befalls_0 {sc : Nat × (Nat → Int32)} {SH : List mCell} {S : mStore} {r : mR × mW} (h0 : sMod SH) {l1 : Int} {l2 : Int} : (((0 ≤ (l1 + 16) + l2 ∧ (l1 + 16) + l2 < 137400) ∧ (if I (S 91 ((l1 + 16) + l2)) = I (-1) then r = rI 1 SH S else (∃ v101 S102, G sc MX11_isMerged 0 [some (.ref 90), some (.int (I l1)), some (.int (I l2))] [] SH S (rI v101 SH S102) ∧ (if I v101 = I 0 then (if I (S102 90 17) = I 1 then ((0 ≤ (l1 + 256) + l2 ∧ (l1 + 256) + l2 < 137400) ∧ (if I (S102 91 ((l1 + 256) + l2)) ≤ I 0 then (if I (S102 90 16) = I 1 then (∃ v111 S112, G sc MX11_isZero 0 [some (.ref 90), some (.int (I l1)), some (.int (I l2))] [] SH S102 (rI v111 SH S112) ∧ (if I v111 = I 0 then (∃ v113 S114, G sc MX11_looksFor 0 [some (.ref 90), some (.int (I l1)), some (.int (I l2)), none, none, none, none, none, none, none, none] [] SH S112 (rI v113 SH S114) ∧ r = rI v113 SH S114) else r = rI 4 SH S112)) else (∃ v109 S110, G sc MX11_looksFor 0 [some (.ref 90), some (.int (I l1)), some (.int (I l2)), none, none, none, none, none, none, none, none] [] SH S102 (rI v109 SH S110) ∧ r = rI v109 SH S110)) else r = rI 3 SH S102)) else (if I (S102 90 16) = I 1 then (∃ v105 S106, G sc MX11_isZero 0 [some (.ref 90), some (.int (I l1)), some (.int (I l2))] [] SH S102 (rI v105 SH S106) ∧ (if I v105 = I 0 then (∃ v107 S108, G sc MX11_looksFor 0 [some (.ref 90), some (.int (I l1)), some (.int (I l2)), none, none, none, none, none, none, none, none] [] SH S106 (rI v107 SH S108) ∧ r = rI v107 SH S108) else r = rI 4 SH S106)) else (∃ v103 S104, G sc MX11_looksFor 0 [some (.ref 90), some (.int (I l1)), some (.int (I l2)), none, none, none, none, none, none, none, none] [] SH S102 (rI v103 SH S104) ∧ r = rI v103 SH S104))) else r = rI 2 SH S102))))) → G sc MX11_befalls 0 [some (.ref 90), some (.int (I l1)), some (.int (I l2))] [] SH S r := by
  refine t_ld (pc := 0) dX11_befalls_0 rfl rfl rfl rfl rfl ?_
  refine t_getR (pc := 1) dX11_befalls_1 rfl h0.1 rfl ?_
  refine t_ld (pc := 4) dX11_befalls_4 rfl rfl rfl rfl rfl ?_
  refine t_bipush (pc := 5) dX11_befalls_5 (by decide) ?_
  refine t_iadd (pc := 7) dX11_befalls_7 ?_
  refine t_ld (pc := 8) dX11_befalls_8 rfl rfl rfl rfl rfl ?_
  refine t_iadd (pc := 9) dX11_befalls_9 ?_
  refine t_iaload (pc := 10) dX11_befalls_10 h0.2.1 ?_
  refine t_iconst (pc := 11) dX11_befalls_11 ?_
  refine t_ic_ne (pc := 12) 17 dX11_befalls_12 rfl ?_ ?_
  · refine t_ld (pc := 17) dX11_befalls_17 rfl rfl rfl rfl rfl ?_
    refine t_ld (pc := 18) dX11_befalls_18 rfl rfl rfl rfl rfl ?_
    refine t_ld (pc := 19) dX11_befalls_19 rfl rfl rfl rfl rfl ?_
    refine t_vcIN (pc := 20) dX11_befalls_20 rfl rfl [] rfl rfl ⟨rfl, by decide, Nat.le_of_ble_eq_true rfl⟩ h0.1 fun v101 S102 => ?_
    refine t_if_eq (pc := 23) 28 dX11_befalls_23 rfl ?_ ?_
    · refine t_ld (pc := 28) dX11_befalls_28 rfl rfl rfl rfl rfl ?_
      refine t_getI (pc := 29) dX11_befalls_29 rfl h0.1 rfl ?_
      refine t_iconst (pc := 32) dX11_befalls_32 ?_
      refine t_ic_ne (pc := 33) 53 dX11_befalls_33 rfl ?_ ?_
      · refine t_ld (pc := 53) dX11_befalls_53 rfl rfl rfl rfl rfl ?_
        refine t_getI (pc := 54) dX11_befalls_54 rfl h0.1 rfl ?_
        refine t_iconst (pc := 57) dX11_befalls_57 ?_
        refine t_ic_ne (pc := 58) 74 dX11_befalls_58 rfl ?_ ?_
        · refine t_ld (pc := 74) dX11_befalls_74 rfl rfl rfl rfl rfl ?_
          refine t_ld (pc := 75) dX11_befalls_75 rfl rfl rfl rfl rfl ?_
          refine t_ld (pc := 76) dX11_befalls_76 rfl rfl rfl rfl rfl ?_
          refine t_vcIN (pc := 77) dX11_befalls_77 rfl rfl [] rfl rfl ⟨rfl, by decide, Nat.le_of_ble_eq_true rfl⟩ h0.1 fun v103 S104 => ?_
          exact t_iret (pc := 80) dX11_befalls_80 rfl
        · refine t_ld (pc := 61) dX11_befalls_61 rfl rfl rfl rfl rfl ?_
          refine t_ld (pc := 62) dX11_befalls_62 rfl rfl rfl rfl rfl ?_
          refine t_ld (pc := 63) dX11_befalls_63 rfl rfl rfl rfl rfl ?_
          refine t_vcIN (pc := 64) dX11_befalls_64 rfl rfl [] rfl rfl ⟨rfl, by decide, Nat.le_of_ble_eq_true rfl⟩ h0.1 fun v105 S106 => ?_
          refine t_if_eq (pc := 67) 74 dX11_befalls_67 rfl ?_ ?_
          · refine t_ld (pc := 74) dX11_befalls_74 rfl rfl rfl rfl rfl ?_
            refine t_ld (pc := 75) dX11_befalls_75 rfl rfl rfl rfl rfl ?_
            refine t_ld (pc := 76) dX11_befalls_76 rfl rfl rfl rfl rfl ?_
            refine t_vcIN (pc := 77) dX11_befalls_77 rfl rfl [] rfl rfl ⟨rfl, by decide, Nat.le_of_ble_eq_true rfl⟩ h0.1 fun v107 S108 => ?_
            exact t_iret (pc := 80) dX11_befalls_80 rfl
          · refine t_iconst (pc := 70) dX11_befalls_70 ?_
            refine t_goto (pc := 71) 80 dX11_befalls_71 rfl ?_
            exact t_iret (pc := 80) dX11_befalls_80 rfl
      · refine t_ld (pc := 36) dX11_befalls_36 rfl rfl rfl rfl rfl ?_
        refine t_getR (pc := 37) dX11_befalls_37 rfl h0.1 rfl ?_
        refine t_ld (pc := 40) dX11_befalls_40 rfl rfl rfl rfl rfl ?_
        refine t_sipush (pc := 41) dX11_befalls_41 (by decide) ?_
        refine t_iadd (pc := 44) dX11_befalls_44 ?_
        refine t_ld (pc := 45) dX11_befalls_45 rfl rfl rfl rfl rfl ?_
        refine t_iadd (pc := 46) dX11_befalls_46 ?_
        refine t_iaload (pc := 47) dX11_befalls_47 h0.2.1 ?_
        refine t_if_le (pc := 48) 53 dX11_befalls_48 rfl ?_ ?_
        · refine t_ld (pc := 53) dX11_befalls_53 rfl rfl rfl rfl rfl ?_
          refine t_getI (pc := 54) dX11_befalls_54 rfl h0.1 rfl ?_
          refine t_iconst (pc := 57) dX11_befalls_57 ?_
          refine t_ic_ne (pc := 58) 74 dX11_befalls_58 rfl ?_ ?_
          · refine t_ld (pc := 74) dX11_befalls_74 rfl rfl rfl rfl rfl ?_
            refine t_ld (pc := 75) dX11_befalls_75 rfl rfl rfl rfl rfl ?_
            refine t_ld (pc := 76) dX11_befalls_76 rfl rfl rfl rfl rfl ?_
            refine t_vcIN (pc := 77) dX11_befalls_77 rfl rfl [] rfl rfl ⟨rfl, by decide, Nat.le_of_ble_eq_true rfl⟩ h0.1 fun v109 S110 => ?_
            exact t_iret (pc := 80) dX11_befalls_80 rfl
          · refine t_ld (pc := 61) dX11_befalls_61 rfl rfl rfl rfl rfl ?_
            refine t_ld (pc := 62) dX11_befalls_62 rfl rfl rfl rfl rfl ?_
            refine t_ld (pc := 63) dX11_befalls_63 rfl rfl rfl rfl rfl ?_
            refine t_vcIN (pc := 64) dX11_befalls_64 rfl rfl [] rfl rfl ⟨rfl, by decide, Nat.le_of_ble_eq_true rfl⟩ h0.1 fun v111 S112 => ?_
            refine t_if_eq (pc := 67) 74 dX11_befalls_67 rfl ?_ ?_
            · refine t_ld (pc := 74) dX11_befalls_74 rfl rfl rfl rfl rfl ?_
              refine t_ld (pc := 75) dX11_befalls_75 rfl rfl rfl rfl rfl ?_
              refine t_ld (pc := 76) dX11_befalls_76 rfl rfl rfl rfl rfl ?_
              refine t_vcIN (pc := 77) dX11_befalls_77 rfl rfl [] rfl rfl ⟨rfl, by decide, Nat.le_of_ble_eq_true rfl⟩ h0.1 fun v113 S114 => ?_
              exact t_iret (pc := 80) dX11_befalls_80 rfl
            · refine t_iconst (pc := 70) dX11_befalls_70 ?_
              refine t_goto (pc := 71) 80 dX11_befalls_71 rfl ?_
              exact t_iret (pc := 80) dX11_befalls_80 rfl
        · refine t_iconst (pc := 51) dX11_befalls_51 ?_
          exact t_iret (pc := 52) dX11_befalls_52 rfl
    · refine t_iconst (pc := 26) dX11_befalls_26 ?_
      exact t_iret (pc := 27) dX11_befalls_27 rfl
  · refine t_iconst (pc := 15) dX11_befalls_15 ?_
    exact t_iret (pc := 16) dX11_befalls_16 rfl
theorem qX11_restOf_0 {sc : Nat × (Nat → Int32)} {SH : List mCell} {S : mStore} {r : mR × mW} {l0 : Int} : ((if I 3 ≤ I l0 then (if I 5 ≤ I l0 then (if I 8 ≤ I l0 then r = rI 4 SH S else r = rI 2 SH S) else r = rI 1 SH S) else r = rI 0 SH S)) → G sc MX11_restOf 0 [some (.int (I l0))] [] SH S r := by
  refine t_ld (pc := 0) dX11_restOf_0 rfl rfl rfl rfl rfl ?_
  refine t_iconst (pc := 1) dX11_restOf_1 ?_
  refine t_ic_ge (pc := 2) 9 dX11_restOf_2 rfl ?_ ?_
  · refine t_ld (pc := 9) dX11_restOf_9 rfl rfl rfl rfl rfl ?_
    refine t_iconst (pc := 10) dX11_restOf_10 ?_
    refine t_ic_ge (pc := 11) 18 dX11_restOf_11 rfl ?_ ?_
    · refine t_ld (pc := 18) dX11_restOf_18 rfl rfl rfl rfl rfl ?_
      refine t_bipush (pc := 19) dX11_restOf_19 (by decide) ?_
      refine t_ic_ge (pc := 21) 28 dX11_restOf_21 rfl ?_ ?_
      · refine t_iconst (pc := 28) dX11_restOf_28 ?_
        exact t_iret (pc := 29) dX11_restOf_29 rfl
      · refine t_iconst (pc := 24) dX11_restOf_24 ?_
        refine t_goto (pc := 25) 29 dX11_restOf_25 rfl ?_
        exact t_iret (pc := 29) dX11_restOf_29 rfl
    · refine t_iconst (pc := 14) dX11_restOf_14 ?_
      refine t_goto (pc := 15) 29 dX11_restOf_15 rfl ?_
      exact t_iret (pc := 29) dX11_restOf_29 rfl
  · refine t_iconst (pc := 5) dX11_restOf_5 ?_
    refine t_goto (pc := 6) 29 dX11_restOf_6 rfl ?_
    exact t_iret (pc := 29) dX11_restOf_29 rfl
theorem qX11_scansPage_0 {sc : Nat × (Nat → Int32)} {SH : List mCell} {S : mStore} {r : mR × mW} (h0 : sMod SH) {l1 : Int} {l2 : Int} {u3 : Option Value} {u4 : Option Value} : (((0 ≤ l1 + 4 ∧ l1 + 4 < 137400) ∧ ((0 ≤ l1 + 4 ∧ l1 + 4 < 137400) ∧ ((0 ≤ l1 + 11 ∧ l1 + 11 < 137400) ∧ ((0 ≤ l1 + 11 ∧ l1 + 11 < 137400) ∧ (∃ v101 S102, G sc MX11_befalls 0 [some (.ref 90), some (.int (I l1)), some (.int (I l2))] [] SH (up (up S 91 (l1 + 4) ((S 91 (l1 + 4)) + 1)) 91 (l1 + 11) (((up S 91 (l1 + 4) ((S 91 (l1 + 4)) + 1)) 91 (l1 + 11)) + 1)) (rI v101 SH S102) ∧ ((0 ≤ (l1 + 112) + l2 ∧ (l1 + 112) + l2 < 137400) ∧ (if I v101 = I 4 then (∃ v103 S104, G sc MX11_drops 0 [some (.ref 90), some (.int (I l1)), some (.int (I l2)), none] [] SH (up S102 91 ((l1 + 112) + l2) v101) (rI v103 SH S104) ∧ (if I v101 = I 1 then ((0 ≤ (l1 + 160) + l2 ∧ (l1 + 160) + l2 < 137400) ∧ G sc MX11_scansPage 79 [some (.ref 90), some (.int (I l1)), some (.int (I l2)), some (.int (I v101)), u4] [] SH (up S104 91 ((l1 + 160) + l2) (-1)) r) else (if I v101 = I 4 then ((0 ≤ (l1 + 160) + l2 ∧ (l1 + 160) + l2 < 137400) ∧ G sc MX11_scansPage 79 [some (.ref 90), some (.int (I l1)), some (.int (I l2)), some (.int (I v101)), u4] [] SH (up S104 91 ((l1 + 160) + l2) (-1)) r) else G sc MX11_scansPage 79 [some (.ref 90), some (.int (I l1)), some (.int (I l2)), some (.int (I v101)), u4] [] SH S104 r))) else (if I v101 = I 1 then ((0 ≤ (l1 + 160) + l2 ∧ (l1 + 160) + l2 < 137400) ∧ G sc MX11_scansPage 79 [some (.ref 90), some (.int (I l1)), some (.int (I l2)), some (.int (I v101)), u4] [] SH (up (up S102 91 ((l1 + 112) + l2) v101) 91 ((l1 + 160) + l2) (-1)) r) else (if I v101 = I 4 then ((0 ≤ (l1 + 160) + l2 ∧ (l1 + 160) + l2 < 137400) ∧ G sc MX11_scansPage 79 [some (.ref 90), some (.int (I l1)), some (.int (I l2)), some (.int (I v101)), u4] [] SH (up (up S102 91 ((l1 + 112) + l2) v101) 91 ((l1 + 160) + l2) (-1)) r) else G sc MX11_scansPage 79 [some (.ref 90), some (.int (I l1)), some (.int (I l2)), some (.int (I v101)), u4] [] SH (up S102 91 ((l1 + 112) + l2) v101) r)))))))))) → G sc MX11_scansPage 0 [some (.ref 90), some (.int (I l1)), some (.int (I l2)), u3, u4] [] SH S r := by
  refine t_ld (pc := 0) dX11_scansPage_0 rfl rfl rfl rfl rfl ?_
  refine t_getR (pc := 1) dX11_scansPage_1 rfl h0.1 rfl ?_
  refine t_ld (pc := 4) dX11_scansPage_4 rfl rfl rfl rfl rfl ?_
  refine t_iconst (pc := 5) dX11_scansPage_5 ?_
  refine t_iadd (pc := 6) dX11_scansPage_6 ?_
  refine t_dup2 (pc := 7) dX11_scansPage_7 rfl rfl ?_
  refine t_iaload (pc := 8) dX11_scansPage_8 h0.2.1 ?_
  refine t_iconst (pc := 9) dX11_scansPage_9 ?_
  refine t_iadd (pc := 10) dX11_scansPage_10 ?_
  refine t_iastore (pc := 11) dX11_scansPage_11 h0.2.1 ?_
  refine t_ld (pc := 12) dX11_scansPage_12 rfl rfl rfl rfl rfl ?_
  refine t_getR (pc := 13) dX11_scansPage_13 rfl h0.1 rfl ?_
  refine t_ld (pc := 16) dX11_scansPage_16 rfl rfl rfl rfl rfl ?_
  refine t_bipush (pc := 17) dX11_scansPage_17 (by decide) ?_
  refine t_iadd (pc := 19) dX11_scansPage_19 ?_
  refine t_dup2 (pc := 20) dX11_scansPage_20 rfl rfl ?_
  refine t_iaload (pc := 21) dX11_scansPage_21 h0.2.1 ?_
  refine t_iconst (pc := 22) dX11_scansPage_22 ?_
  refine t_iadd (pc := 23) dX11_scansPage_23 ?_
  refine t_iastore (pc := 24) dX11_scansPage_24 h0.2.1 ?_
  refine t_ld (pc := 25) dX11_scansPage_25 rfl rfl rfl rfl rfl ?_
  refine t_ld (pc := 26) dX11_scansPage_26 rfl rfl rfl rfl rfl ?_
  refine t_ld (pc := 27) dX11_scansPage_27 rfl rfl rfl rfl rfl ?_
  refine t_vcIN (pc := 28) dX11_scansPage_28 rfl rfl [] rfl rfl ⟨rfl, by decide, Nat.le_of_ble_eq_true rfl⟩ h0.1 fun v101 S102 => ?_
  refine t_st (pc := 31) [some (.ref 90), some (.int (I l1)), some (.int (I l2)), some (.int (I v101)), u4] dX11_scansPage_31 rfl rfl rfl rfl rfl rfl ?_
  refine t_ld (pc := 32) dX11_scansPage_32 rfl rfl rfl rfl rfl ?_
  refine t_getR (pc := 33) dX11_scansPage_33 rfl h0.1 rfl ?_
  refine t_ld (pc := 36) dX11_scansPage_36 rfl rfl rfl rfl rfl ?_
  refine t_bipush (pc := 37) dX11_scansPage_37 (by decide) ?_
  refine t_iadd (pc := 39) dX11_scansPage_39 ?_
  refine t_ld (pc := 40) dX11_scansPage_40 rfl rfl rfl rfl rfl ?_
  refine t_iadd (pc := 41) dX11_scansPage_41 ?_
  refine t_ld (pc := 42) dX11_scansPage_42 rfl rfl rfl rfl rfl ?_
  refine t_iastore (pc := 43) dX11_scansPage_43 h0.2.1 ?_
  refine t_ld (pc := 44) dX11_scansPage_44 rfl rfl rfl rfl rfl ?_
  refine t_iconst (pc := 45) dX11_scansPage_45 ?_
  refine t_ic_ne (pc := 46) 56 dX11_scansPage_46 rfl ?_ ?_
  · refine t_ld (pc := 56) dX11_scansPage_56 rfl rfl rfl rfl rfl ?_
    refine t_iconst (pc := 57) dX11_scansPage_57 ?_
    refine t_ic_eq (pc := 58) 66 dX11_scansPage_58 rfl ?_ ?_
    · refine t_ld (pc := 66) dX11_scansPage_66 rfl rfl rfl rfl rfl ?_
      refine t_getR (pc := 67) dX11_scansPage_67 rfl h0.1 rfl ?_
      refine t_ld (pc := 70) dX11_scansPage_70 rfl rfl rfl rfl rfl ?_
      refine t_sipush (pc := 71) dX11_scansPage_71 (by decide) ?_
      refine t_iadd (pc := 74) dX11_scansPage_74 ?_
      refine t_ld (pc := 75) dX11_scansPage_75 rfl rfl rfl rfl rfl ?_
      refine t_iadd (pc := 76) dX11_scansPage_76 ?_
      refine t_iconst (pc := 77) dX11_scansPage_77 ?_
      refine t_iastore (pc := 78) dX11_scansPage_78 h0.2.1 ?_
      exact id
    · refine t_ld (pc := 61) dX11_scansPage_61 rfl rfl rfl rfl rfl ?_
      refine t_iconst (pc := 62) dX11_scansPage_62 ?_
      refine t_ic_ne (pc := 63) 79 dX11_scansPage_63 rfl ?_ ?_
      · exact id
      · refine t_ld (pc := 66) dX11_scansPage_66 rfl rfl rfl rfl rfl ?_
        refine t_getR (pc := 67) dX11_scansPage_67 rfl h0.1 rfl ?_
        refine t_ld (pc := 70) dX11_scansPage_70 rfl rfl rfl rfl rfl ?_
        refine t_sipush (pc := 71) dX11_scansPage_71 (by decide) ?_
        refine t_iadd (pc := 74) dX11_scansPage_74 ?_
        refine t_ld (pc := 75) dX11_scansPage_75 rfl rfl rfl rfl rfl ?_
        refine t_iadd (pc := 76) dX11_scansPage_76 ?_
        refine t_iconst (pc := 77) dX11_scansPage_77 ?_
        refine t_iastore (pc := 78) dX11_scansPage_78 h0.2.1 ?_
        exact id
  · refine t_ld (pc := 49) dX11_scansPage_49 rfl rfl rfl rfl rfl ?_
    refine t_ld (pc := 50) dX11_scansPage_50 rfl rfl rfl rfl rfl ?_
    refine t_ld (pc := 51) dX11_scansPage_51 rfl rfl rfl rfl rfl ?_
    refine t_vcIN (pc := 52) dX11_scansPage_52 rfl rfl [] rfl rfl ⟨rfl, by decide, Nat.le_of_ble_eq_true rfl⟩ h0.1 fun v103 S104 => ?_
    refine t_pop (pc := 55) dX11_scansPage_55 rfl ?_
    refine t_ld (pc := 56) dX11_scansPage_56 rfl rfl rfl rfl rfl ?_
    refine t_iconst (pc := 57) dX11_scansPage_57 ?_
    refine t_ic_eq (pc := 58) 66 dX11_scansPage_58 rfl ?_ ?_
    · refine t_ld (pc := 66) dX11_scansPage_66 rfl rfl rfl rfl rfl ?_
      refine t_getR (pc := 67) dX11_scansPage_67 rfl h0.1 rfl ?_
      refine t_ld (pc := 70) dX11_scansPage_70 rfl rfl rfl rfl rfl ?_
      refine t_sipush (pc := 71) dX11_scansPage_71 (by decide) ?_
      refine t_iadd (pc := 74) dX11_scansPage_74 ?_
      refine t_ld (pc := 75) dX11_scansPage_75 rfl rfl rfl rfl rfl ?_
      refine t_iadd (pc := 76) dX11_scansPage_76 ?_
      refine t_iconst (pc := 77) dX11_scansPage_77 ?_
      refine t_iastore (pc := 78) dX11_scansPage_78 h0.2.1 ?_
      exact id
    · refine t_ld (pc := 61) dX11_scansPage_61 rfl rfl rfl rfl rfl ?_
      refine t_iconst (pc := 62) dX11_scansPage_62 ?_
      refine t_ic_ne (pc := 63) 79 dX11_scansPage_63 rfl ?_ ?_
      · exact id
      · refine t_ld (pc := 66) dX11_scansPage_66 rfl rfl rfl rfl rfl ?_
        refine t_getR (pc := 67) dX11_scansPage_67 rfl h0.1 rfl ?_
        refine t_ld (pc := 70) dX11_scansPage_70 rfl rfl rfl rfl rfl ?_
        refine t_sipush (pc := 71) dX11_scansPage_71 (by decide) ?_
        refine t_iadd (pc := 74) dX11_scansPage_74 ?_
        refine t_ld (pc := 75) dX11_scansPage_75 rfl rfl rfl rfl rfl ?_
        refine t_iadd (pc := 76) dX11_scansPage_76 ?_
        refine t_iconst (pc := 77) dX11_scansPage_77 ?_
        refine t_iastore (pc := 78) dX11_scansPage_78 h0.2.1 ?_
        exact id
theorem qX11_scansPage_79 {sc : Nat × (Nat → Int32)} {SH : List mCell} {S : mStore} {r : mR × mW} (h0 : sMod SH) {l1 : Int} {l2 : Int} {l3 : Int} {u4 : Option Value} : (((0 ≤ l1 + 7 ∧ l1 + 7 < 137400) ∧ (if I l3 = I 4 then G sc MX11_scansPage 99 [some (.ref 90), some (.int (I l1)), some (.int (I l2)), some (.int (I l3)), u4] [.int (I 1), .int (I (S 91 (l1 + 7))), .int (I (l1 + 7)), .ref 91] SH S r else G sc MX11_scansPage 99 [some (.ref 90), some (.int (I l1)), some (.int (I l2)), some (.int (I l3)), u4] [.int (I 0), .int (I (S 91 (l1 + 7))), .int (I (l1 + 7)), .ref 91] SH S r))) → G sc MX11_scansPage 79 [some (.ref 90), some (.int (I l1)), some (.int (I l2)), some (.int (I l3)), u4] [] SH S r := by
  refine t_ld (pc := 79) dX11_scansPage_79 rfl rfl rfl rfl rfl ?_
  refine t_getR (pc := 80) dX11_scansPage_80 rfl h0.1 rfl ?_
  refine t_ld (pc := 83) dX11_scansPage_83 rfl rfl rfl rfl rfl ?_
  refine t_bipush (pc := 84) dX11_scansPage_84 (by decide) ?_
  refine t_iadd (pc := 86) dX11_scansPage_86 ?_
  refine t_dup2 (pc := 87) dX11_scansPage_87 rfl rfl ?_
  refine t_iaload (pc := 88) dX11_scansPage_88 h0.2.1 ?_
  refine t_ld (pc := 89) dX11_scansPage_89 rfl rfl rfl rfl rfl ?_
  refine t_iconst (pc := 90) dX11_scansPage_90 ?_
  refine t_ic_ne (pc := 91) 98 dX11_scansPage_91 rfl ?_ ?_
  · refine t_iconst (pc := 98) dX11_scansPage_98 ?_
    exact id
  · refine t_iconst (pc := 94) dX11_scansPage_94 ?_
    refine t_goto (pc := 95) 99 dX11_scansPage_95 rfl ?_
    exact id
theorem qX11_scansPage_99 {sc : Nat × (Nat → Int32)} {SH : List mCell} {S : mStore} {r : mR × mW} (h0 : sMod SH) {l1 : Int} {l2 : Int} {l3 : Int} {u4 : Option Value} {s0 : Int} {s1 : Int} {s2 : Int} : (((0 ≤ s2 ∧ s2 < 137400) ∧ ((0 ≤ l1 + 5 ∧ l1 + 5 < 137400) ∧ (if I l3 = I 5 then G sc MX11_scansPage 120 [some (.ref 90), some (.int (I l1)), some (.int (I l2)), some (.int (I l3)), u4] [.int (I 1), .int (I ((up S 91 s2 (s1 + s0)) 91 (l1 + 5))), .int (I (l1 + 5)), .ref 91] SH (up S 91 s2 (s1 + s0)) r else G sc MX11_scansPage 120 [some (.ref 90), some (.int (I l1)), some (.int (I l2)), some (.int (I l3)), u4] [.int (I 0), .int (I ((up S 91 s2 (s1 + s0)) 91 (l1 + 5))), .int (I (l1 + 5)), .ref 91] SH (up S 91 s2 (s1 + s0)) r)))) → G sc MX11_scansPage 99 [some (.ref 90), some (.int (I l1)), some (.int (I l2)), some (.int (I l3)), u4] [.int (I s0), .int (I s1), .int (I s2), .ref 91] SH S r := by
  refine t_iadd (pc := 99) dX11_scansPage_99 ?_
  refine t_iastore (pc := 100) dX11_scansPage_100 h0.2.1 ?_
  refine t_ld (pc := 101) dX11_scansPage_101 rfl rfl rfl rfl rfl ?_
  refine t_getR (pc := 102) dX11_scansPage_102 rfl h0.1 rfl ?_
  refine t_ld (pc := 105) dX11_scansPage_105 rfl rfl rfl rfl rfl ?_
  refine t_iconst (pc := 106) dX11_scansPage_106 ?_
  refine t_iadd (pc := 107) dX11_scansPage_107 ?_
  refine t_dup2 (pc := 108) dX11_scansPage_108 rfl rfl ?_
  refine t_iaload (pc := 109) dX11_scansPage_109 h0.2.1 ?_
  refine t_ld (pc := 110) dX11_scansPage_110 rfl rfl rfl rfl rfl ?_
  refine t_iconst (pc := 111) dX11_scansPage_111 ?_
  refine t_ic_ne (pc := 112) 119 dX11_scansPage_112 rfl ?_ ?_
  · refine t_iconst (pc := 119) dX11_scansPage_119 ?_
    exact id
  · refine t_iconst (pc := 115) dX11_scansPage_115 ?_
    refine t_goto (pc := 116) 120 dX11_scansPage_116 rfl ?_
    exact id
theorem qX11_scansPage_120 {sc : Nat × (Nat → Int32)} {SH : List mCell} {S : mStore} {r : mR × mW} (h0 : sMod SH) {l1 : Int} {l2 : Int} {l3 : Int} {u4 : Option Value} {s0 : Int} {s1 : Int} {s2 : Int} : (((0 ≤ s2 ∧ s2 < 137400) ∧ ((0 ≤ l1 + 6 ∧ l1 + 6 < 137400) ∧ (if I l3 = I 8 then G sc MX11_scansPage 143 [some (.ref 90), some (.int (I l1)), some (.int (I l2)), some (.int (I l3)), u4] [.int (I 1), .int (I ((up S 91 s2 (s1 + s0)) 91 (l1 + 6))), .int (I (l1 + 6)), .ref 91] SH (up S 91 s2 (s1 + s0)) r else G sc MX11_scansPage 143 [some (.ref 90), some (.int (I l1)), some (.int (I l2)), some (.int (I l3)), u4] [.int (I 0), .int (I ((up S 91 s2 (s1 + s0)) 91 (l1 + 6))), .int (I (l1 + 6)), .ref 91] SH (up S 91 s2 (s1 + s0)) r)))) → G sc MX11_scansPage 120 [some (.ref 90), some (.int (I l1)), some (.int (I l2)), some (.int (I l3)), u4] [.int (I s0), .int (I s1), .int (I s2), .ref 91] SH S r := by
  refine t_iadd (pc := 120) dX11_scansPage_120 ?_
  refine t_iastore (pc := 121) dX11_scansPage_121 h0.2.1 ?_
  refine t_ld (pc := 122) dX11_scansPage_122 rfl rfl rfl rfl rfl ?_
  refine t_getR (pc := 123) dX11_scansPage_123 rfl h0.1 rfl ?_
  refine t_ld (pc := 126) dX11_scansPage_126 rfl rfl rfl rfl rfl ?_
  refine t_bipush (pc := 127) dX11_scansPage_127 (by decide) ?_
  refine t_iadd (pc := 129) dX11_scansPage_129 ?_
  refine t_dup2 (pc := 130) dX11_scansPage_130 rfl rfl ?_
  refine t_iaload (pc := 131) dX11_scansPage_131 h0.2.1 ?_
  refine t_ld (pc := 132) dX11_scansPage_132 rfl rfl rfl rfl rfl ?_
  refine t_bipush (pc := 133) dX11_scansPage_133 (by decide) ?_
  refine t_ic_ne (pc := 135) 142 dX11_scansPage_135 rfl ?_ ?_
  · refine t_iconst (pc := 142) dX11_scansPage_142 ?_
    exact id
  · refine t_iconst (pc := 138) dX11_scansPage_138 ?_
    refine t_goto (pc := 139) 143 dX11_scansPage_139 rfl ?_
    exact id
theorem qX11_scansPage_143 {sc : Nat × (Nat → Int32)} {SH : List mCell} {S : mStore} {r : mR × mW} (h0 : sMod SH) {l1 : Int} {l2 : Int} {l3 : Int} {u4 : Option Value} {s0 : Int} {s1 : Int} {s2 : Int} : (((0 ≤ s2 ∧ s2 < 137400) ∧ (if I l3 = I 3 then ((0 ≤ (l1 + 256) + l2 ∧ (l1 + 256) + l2 < 137400) ∧ ((0 ≤ (l1 + 256) + l2 ∧ (l1 + 256) + l2 < 137400) ∧ G sc MX11_scansPage 238 [some (.ref 90), some (.int (I l1)), some (.int (I l2)), some (.int (I l3)), u4] [] SH (up (up S 91 s2 (s1 + s0)) 91 ((l1 + 256) + l2) (((up S 91 s2 (s1 + s0)) 91 ((l1 + 256) + l2)) - 1)) r)) else (if I l3 = I 7 then G sc MX11_scansPage 192 [some (.ref 90), some (.int (I l1)), some (.int (I l2)), some (.int (I l3)), u4] [.int (I ((l1 + 208) + l2)), .ref 91] SH (up S 91 s2 (s1 + s0)) r else (if I l3 = I 9 then G sc MX11_scansPage 192 [some (.ref 90), some (.int (I l1)), some (.int (I l2)), some (.int (I l3)), u4] [.int (I ((l1 + 208) + l2)), .ref 91] SH (up S 91 s2 (s1 + s0)) r else G sc MX11_scansPage 210 [some (.ref 90), some (.int (I l1)), some (.int (I l2)), some (.int (I l3)), u4] [.int (I 0), .int (I ((l1 + 208) + l2)), .ref 91] SH (up S 91 s2 (s1 + s0)) r))))) → G sc MX11_scansPage 143 [some (.ref 90), some (.int (I l1)), some (.int (I l2)), some (.int (I l3)), u4] [.int (I s0), .int (I s1), .int (I s2), .ref 91] SH S r := by
  refine t_iadd (pc := 143) dX11_scansPage_143 ?_
  refine t_iastore (pc := 144) dX11_scansPage_144 h0.2.1 ?_
  refine t_ld (pc := 145) dX11_scansPage_145 rfl rfl rfl rfl rfl ?_
  refine t_iconst (pc := 146) dX11_scansPage_146 ?_
  refine t_ic_ne (pc := 147) 169 dX11_scansPage_147 rfl ?_ ?_
  · refine t_ld (pc := 169) dX11_scansPage_169 rfl rfl rfl rfl rfl ?_
    refine t_getR (pc := 170) dX11_scansPage_170 rfl h0.1 rfl ?_
    refine t_ld (pc := 173) dX11_scansPage_173 rfl rfl rfl rfl rfl ?_
    refine t_sipush (pc := 174) dX11_scansPage_174 (by decide) ?_
    refine t_iadd (pc := 177) dX11_scansPage_177 ?_
    refine t_ld (pc := 178) dX11_scansPage_178 rfl rfl rfl rfl rfl ?_
    refine t_iadd (pc := 179) dX11_scansPage_179 ?_
    refine t_ld (pc := 180) dX11_scansPage_180 rfl rfl rfl rfl rfl ?_
    refine t_bipush (pc := 181) dX11_scansPage_181 (by decide) ?_
    refine t_ic_eq (pc := 183) 192 dX11_scansPage_183 rfl ?_ ?_
    · exact id
    · refine t_ld (pc := 186) dX11_scansPage_186 rfl rfl rfl rfl rfl ?_
      refine t_bipush (pc := 187) dX11_scansPage_187 (by decide) ?_
      refine t_ic_ne (pc := 189) 209 dX11_scansPage_189 rfl ?_ ?_
      · refine t_iconst (pc := 209) dX11_scansPage_209 ?_
        exact id
      · exact id
  · refine t_ld (pc := 150) dX11_scansPage_150 rfl rfl rfl rfl rfl ?_
    refine t_getR (pc := 151) dX11_scansPage_151 rfl h0.1 rfl ?_
    refine t_ld (pc := 154) dX11_scansPage_154 rfl rfl rfl rfl rfl ?_
    refine t_sipush (pc := 155) dX11_scansPage_155 (by decide) ?_
    refine t_iadd (pc := 158) dX11_scansPage_158 ?_
    refine t_ld (pc := 159) dX11_scansPage_159 rfl rfl rfl rfl rfl ?_
    refine t_iadd (pc := 160) dX11_scansPage_160 ?_
    refine t_dup2 (pc := 161) dX11_scansPage_161 rfl rfl ?_
    refine t_iaload (pc := 162) dX11_scansPage_162 h0.2.1 ?_
    refine t_iconst (pc := 163) dX11_scansPage_163 ?_
    refine t_isub (pc := 164) dX11_scansPage_164 ?_
    refine t_iastore (pc := 165) dX11_scansPage_165 h0.2.1 ?_
    refine t_goto (pc := 166) 238 dX11_scansPage_166 rfl ?_
    exact id
theorem qX11_scansPage_192 {sc : Nat × (Nat → Int32)} {SH : List mCell} {S : mStore} {r : mR × mW} (h0 : sMod SH) {l1 : Int} {l2 : Int} {l3 : Int} {u4 : Option Value} {s0 : Int} : (((0 ≤ (l1 + 208) + l2 ∧ (l1 + 208) + l2 < 137400) ∧ G sc MX11_scansPage 210 [some (.ref 90), some (.int (I l1)), some (.int (I l2)), some (.int (I l3)), u4] [.int (I ((S 91 ((l1 + 208) + l2)) + 1)), .int (I s0), .ref 91] SH S r)) → G sc MX11_scansPage 192 [some (.ref 90), some (.int (I l1)), some (.int (I l2)), some (.int (I l3)), u4] [.int (I s0), .ref 91] SH S r := by
  refine t_ld (pc := 192) dX11_scansPage_192 rfl rfl rfl rfl rfl ?_
  refine t_getR (pc := 193) dX11_scansPage_193 rfl h0.1 rfl ?_
  refine t_ld (pc := 196) dX11_scansPage_196 rfl rfl rfl rfl rfl ?_
  refine t_sipush (pc := 197) dX11_scansPage_197 (by decide) ?_
  refine t_iadd (pc := 200) dX11_scansPage_200 ?_
  refine t_ld (pc := 201) dX11_scansPage_201 rfl rfl rfl rfl rfl ?_
  refine t_iadd (pc := 202) dX11_scansPage_202 ?_
  refine t_iaload (pc := 203) dX11_scansPage_203 h0.2.1 ?_
  refine t_iconst (pc := 204) dX11_scansPage_204 ?_
  refine t_iadd (pc := 205) dX11_scansPage_205 ?_
  refine t_goto (pc := 206) 210 dX11_scansPage_206 rfl ?_
  exact id
theorem qX11_scansPage_210 {sc : Nat × (Nat → Int32)} {SH : List mCell} {S : mStore} {r : mR × mW} (h0 : sMod SH) {l1 : Int} {l2 : Int} {l3 : Int} {u4 : Option Value} {s0 : Int} {s1 : Int} : (((0 ≤ s1 ∧ s1 < 137400) ∧ ((0 ≤ (l1 + 208) + l2 ∧ (l1 + 208) + l2 < 137400) ∧ (∃ v101 S102, G sc MX11_restOf 0 [some (.int (I ((up S 91 s1 s0) 91 ((l1 + 208) + l2))))] [] SH (up S 91 s1 s0) (rI v101 SH S102) ∧ ((0 ≤ (l1 + 256) + l2 ∧ (l1 + 256) + l2 < 137400) ∧ G sc MX11_scansPage 238 [some (.ref 90), some (.int (I l1)), some (.int (I l2)), some (.int (I l3)), u4] [] SH (up S102 91 ((l1 + 256) + l2) v101) r))))) → G sc MX11_scansPage 210 [some (.ref 90), some (.int (I l1)), some (.int (I l2)), some (.int (I l3)), u4] [.int (I s0), .int (I s1), .ref 91] SH S r := by
  refine t_iastore (pc := 210) dX11_scansPage_210 h0.2.1 ?_
  refine t_ld (pc := 211) dX11_scansPage_211 rfl rfl rfl rfl rfl ?_
  refine t_getR (pc := 212) dX11_scansPage_212 rfl h0.1 rfl ?_
  refine t_ld (pc := 215) dX11_scansPage_215 rfl rfl rfl rfl rfl ?_
  refine t_sipush (pc := 216) dX11_scansPage_216 (by decide) ?_
  refine t_iadd (pc := 219) dX11_scansPage_219 ?_
  refine t_ld (pc := 220) dX11_scansPage_220 rfl rfl rfl rfl rfl ?_
  refine t_iadd (pc := 221) dX11_scansPage_221 ?_
  refine t_ld (pc := 222) dX11_scansPage_222 rfl rfl rfl rfl rfl ?_
  refine t_getR (pc := 223) dX11_scansPage_223 rfl h0.1 rfl ?_
  refine t_ld (pc := 226) dX11_scansPage_226 rfl rfl rfl rfl rfl ?_
  refine t_sipush (pc := 227) dX11_scansPage_227 (by decide) ?_
  refine t_iadd (pc := 230) dX11_scansPage_230 ?_
  refine t_ld (pc := 231) dX11_scansPage_231 rfl rfl rfl rfl rfl ?_
  refine t_iadd (pc := 232) dX11_scansPage_232 ?_
  refine t_iaload (pc := 233) dX11_scansPage_233 h0.2.1 ?_
  refine t_scIN (pc := 234) dX11_scansPage_234 rfl [.int (I ((l1 + 256) + l2)), .ref 91] rfl rfl ⟨rfl, by decide, Nat.le_of_ble_eq_true rfl⟩ fun v101 S102 => ?_
  refine t_iastore (pc := 237) dX11_scansPage_237 h0.2.1 ?_
  exact id
theorem qX11_scansPage_238 {sc : Nat × (Nat → Int32)} {SH : List mCell} {S : mStore} {r : mR × mW} (h0 : sMod SH) {l1 : Int} {l2 : Int} {l3 : Int} {u4 : Option Value} : ((if I l3 = I 4 then G sc MX11_scansPage 254 [some (.ref 90), some (.int (I l1)), some (.int (I l2)), some (.int (I l3)), u4] [] SH S r else (if I l3 = I 5 then G sc MX11_scansPage 254 [some (.ref 90), some (.int (I l1)), some (.int (I l2)), some (.int (I l3)), u4] [] SH S r else (if I l3 = I 8 then G sc MX11_scansPage 254 [some (.ref 90), some (.int (I l1)), some (.int (I l2)), some (.int (I l3)), u4] [] SH S r else G sc MX11_scansPage 259 [some (.ref 90), some (.int (I l1)), some (.int (I l2)), some (.int (I l3)), u4] [.int (I 0)] SH S r)))) → G sc MX11_scansPage 238 [some (.ref 90), some (.int (I l1)), some (.int (I l2)), some (.int (I l3)), u4] [] SH S r := by
  refine t_ld (pc := 238) dX11_scansPage_238 rfl rfl rfl rfl rfl ?_
  refine t_iconst (pc := 239) dX11_scansPage_239 ?_
  refine t_ic_eq (pc := 240) 254 dX11_scansPage_240 rfl ?_ ?_
  · exact id
  · refine t_ld (pc := 243) dX11_scansPage_243 rfl rfl rfl rfl rfl ?_
    refine t_iconst (pc := 244) dX11_scansPage_244 ?_
    refine t_ic_eq (pc := 245) 254 dX11_scansPage_245 rfl ?_ ?_
    · exact id
    · refine t_ld (pc := 248) dX11_scansPage_248 rfl rfl rfl rfl rfl ?_
      refine t_bipush (pc := 249) dX11_scansPage_249 (by decide) ?_
      refine t_ic_ne (pc := 251) 258 dX11_scansPage_251 rfl ?_ ?_
      · refine t_iconst (pc := 258) dX11_scansPage_258 ?_
        exact id
      · exact id
theorem qX11_scansPage_254 {sc : Nat × (Nat → Int32)} {SH : List mCell} {S : mStore} {r : mR × mW} (h0 : sMod SH) {l1 : Int} {l2 : Int} {l3 : Int} {u4 : Option Value} : (G sc MX11_scansPage 259 [some (.ref 90), some (.int (I l1)), some (.int (I l2)), some (.int (I l3)), u4] [.int (I 1)] SH S r) → G sc MX11_scansPage 254 [some (.ref 90), some (.int (I l1)), some (.int (I l2)), some (.int (I l3)), u4] [] SH S r := by
  refine t_iconst (pc := 254) dX11_scansPage_254 ?_
  refine t_goto (pc := 255) 259 dX11_scansPage_255 rfl ?_
  exact id
theorem qX11_scansPage_259 {sc : Nat × (Nat → Int32)} {SH : List mCell} {S : mStore} {r : mR × mW} (h0 : sMod SH) {l1 : Int} {l2 : Int} {l3 : Int} {u4 : Option Value} {s0 : Int} : (((0 ≤ l1 + 10 ∧ l1 + 10 < 137400) ∧ ((0 ≤ l1 + 10 ∧ l1 + 10 < 137400) ∧ r = rI s0 SH (up S 91 (l1 + 10) ((S 91 (l1 + 10)) + s0))))) → G sc MX11_scansPage 259 [some (.ref 90), some (.int (I l1)), some (.int (I l2)), some (.int (I l3)), u4] [.int (I s0)] SH S r := by
  refine t_st (pc := 259) [some (.ref 90), some (.int (I l1)), some (.int (I l2)), some (.int (I l3)), some (.int (I s0))] dX11_scansPage_259 rfl rfl rfl rfl rfl rfl ?_
  refine t_ld (pc := 261) dX11_scansPage_261 rfl rfl rfl rfl rfl ?_
  refine t_getR (pc := 262) dX11_scansPage_262 rfl h0.1 rfl ?_
  refine t_ld (pc := 265) dX11_scansPage_265 rfl rfl rfl rfl rfl ?_
  refine t_bipush (pc := 266) dX11_scansPage_266 (by decide) ?_
  refine t_iadd (pc := 268) dX11_scansPage_268 ?_
  refine t_dup2 (pc := 269) dX11_scansPage_269 rfl rfl ?_
  refine t_iaload (pc := 270) dX11_scansPage_270 h0.2.1 ?_
  refine t_ld (pc := 271) dX11_scansPage_271 rfl rfl rfl rfl rfl ?_
  refine t_iadd (pc := 273) dX11_scansPage_273 ?_
  refine t_iastore (pc := 274) dX11_scansPage_274 h0.2.1 ?_
  refine t_ld (pc := 275) dX11_scansPage_275 rfl rfl rfl rfl rfl ?_
  exact t_iret (pc := 277) dX11_scansPage_277 rfl
theorem qX11_scans_0 {sc : Nat × (Nat → Int32)} {SH : List mCell} {S : mStore} {r : mR × mW} (h0 : sMod SH) {l1 : Int} {l2 : Int} {u3 : Option Value} {u4 : Option Value} {u5 : Option Value} : (G sc MX11_scans 5 [some (.ref 90), some (.int (I l1)), some (.int (I l2)), some (.int (I 0)), some (.int (I 0)), u5] [] SH S r) → G sc MX11_scans 0 [some (.ref 90), some (.int (I l1)), some (.int (I l2)), u3, u4, u5] [] SH S r := by
  refine t_iconst (pc := 0) dX11_scans_0 ?_
  refine t_st (pc := 1) [some (.ref 90), some (.int (I l1)), some (.int (I l2)), some (.int (I 0)), u4, u5] dX11_scans_1 rfl rfl rfl rfl rfl rfl ?_
  refine t_iconst (pc := 2) dX11_scans_2 ?_
  refine t_st (pc := 3) [some (.ref 90), some (.int (I l1)), some (.int (I l2)), some (.int (I 0)), some (.int (I 0)), u5] dX11_scans_3 rfl rfl rfl rfl rfl rfl ?_
  exact id
theorem qX11_scans_5 {sc : Nat × (Nat → Int32)} {SH : List mCell} {S : mStore} {r : mR × mW} (h0 : sMod SH) {l1 : Int} {l2 : Int} {l3 : Int} {l4 : Int} {u5 : Option Value} : ((if I l2 ≤ I l4 then r = rI l3 SH S else ((0 ≤ l1 + 9 ∧ l1 + 9 < 137400) ∧ (∃ v101 S102, G sc MX11_nextAdvised 0 [some (.ref 90), some (.int (I l1)), some (.int (I (S 91 (l1 + 9)))), none] [] SH S (rI v101 SH S102) ∧ (if I v101 = I (-1) then (∃ v105 S106, G sc MX11_nextAdvised 0 [some (.ref 90), some (.int (I l1)), some (.int (I 0)), none] [] SH S102 (rI v105 SH S106) ∧ (if I v105 = I (-1) then r = rI l3 SH S106 else (∃ S107, G sc MX11_endsRound 0 [some (.ref 90), some (.int (I l1)), none] [] SH S106 (rV SH S107) ∧ ((0 ≤ l1 + 9 ∧ l1 + 9 < 137400) ∧ (∃ v108 S109, G sc MX11_scansPage 0 [some (.ref 90), some (.int (I l1)), some (.int (I v105)), none, none] [] SH (up S107 91 (l1 + 9) (v105 + 1)) (rI v108 SH S109) ∧ G sc MX11_scans 5 [some (.ref 90), some (.int (I l1)), some (.int (I l2)), some (.int (I (l3 + v108))), some (.int (I (l4 + 1))), some (.int (I v105))] [] SH S109 r))))) else ((0 ≤ l1 + 9 ∧ l1 + 9 < 137400) ∧ (∃ v103 S104, G sc MX11_scansPage 0 [some (.ref 90), some (.int (I l1)), some (.int (I v101)), none, none] [] SH (up S102 91 (l1 + 9) (v101 + 1)) (rI v103 SH S104) ∧ G sc MX11_scans 5 [some (.ref 90), some (.int (I l1)), some (.int (I l2)), some (.int (I (l3 + v103))), some (.int (I (l4 + 1))), some (.int (I v101))] [] SH S104 r))))))) → G sc MX11_scans 5 [some (.ref 90), some (.int (I l1)), some (.int (I l2)), some (.int (I l3)), some (.int (I l4)), u5] [] SH S r := by
  refine t_ld (pc := 5) dX11_scans_5 rfl rfl rfl rfl rfl ?_
  refine t_ld (pc := 7) dX11_scans_7 rfl rfl rfl rfl rfl ?_
  refine t_ic_ge (pc := 8) 83 dX11_scans_8 rfl ?_ ?_
  · refine t_ld (pc := 83) dX11_scans_83 rfl rfl rfl rfl rfl ?_
    exact t_iret (pc := 84) dX11_scans_84 rfl
  · refine t_ld (pc := 11) dX11_scans_11 rfl rfl rfl rfl rfl ?_
    refine t_ld (pc := 12) dX11_scans_12 rfl rfl rfl rfl rfl ?_
    refine t_ld (pc := 13) dX11_scans_13 rfl rfl rfl rfl rfl ?_
    refine t_getR (pc := 14) dX11_scans_14 rfl h0.1 rfl ?_
    refine t_ld (pc := 17) dX11_scans_17 rfl rfl rfl rfl rfl ?_
    refine t_bipush (pc := 18) dX11_scans_18 (by decide) ?_
    refine t_iadd (pc := 20) dX11_scans_20 ?_
    refine t_iaload (pc := 21) dX11_scans_21 h0.2.1 ?_
    refine t_vcIN (pc := 22) dX11_scans_22 rfl rfl [] rfl rfl ⟨rfl, by decide, Nat.le_of_ble_eq_true rfl⟩ h0.1 fun v101 S102 => ?_
    refine t_st (pc := 25) [some (.ref 90), some (.int (I l1)), some (.int (I l2)), some (.int (I l3)), some (.int (I l4)), some (.int (I v101))] dX11_scans_25 rfl rfl rfl rfl rfl rfl ?_
    refine t_ld (pc := 27) dX11_scans_27 rfl rfl rfl rfl rfl ?_
    refine t_iconst (pc := 29) dX11_scans_29 ?_
    refine t_ic_ne (pc := 30) 54 dX11_scans_30 rfl ?_ ?_
    · refine t_ld (pc := 54) dX11_scans_54 rfl rfl rfl rfl rfl ?_
      refine t_getR (pc := 55) dX11_scans_55 rfl h0.1 rfl ?_
      refine t_ld (pc := 58) dX11_scans_58 rfl rfl rfl rfl rfl ?_
      refine t_bipush (pc := 59) dX11_scans_59 (by decide) ?_
      refine t_iadd (pc := 61) dX11_scans_61 ?_
      refine t_ld (pc := 62) dX11_scans_62 rfl rfl rfl rfl rfl ?_
      refine t_iconst (pc := 64) dX11_scans_64 ?_
      refine t_iadd (pc := 65) dX11_scans_65 ?_
      refine t_iastore (pc := 66) dX11_scans_66 h0.2.1 ?_
      refine t_ld (pc := 67) dX11_scans_67 rfl rfl rfl rfl rfl ?_
      refine t_ld (pc := 68) dX11_scans_68 rfl rfl rfl rfl rfl ?_
      refine t_ld (pc := 69) dX11_scans_69 rfl rfl rfl rfl rfl ?_
      refine t_ld (pc := 70) dX11_scans_70 rfl rfl rfl rfl rfl ?_
      refine t_vcIN (pc := 72) dX11_scans_72 rfl rfl [.int (I l3)] rfl rfl ⟨rfl, by decide, Nat.le_of_ble_eq_true rfl⟩ h0.1 fun v103 S104 => ?_
      refine t_iadd (pc := 75) dX11_scans_75 ?_
      refine t_st (pc := 76) [some (.ref 90), some (.int (I l1)), some (.int (I l2)), some (.int (I (l3 + v103))), some (.int (I l4)), some (.int (I v101))] dX11_scans_76 rfl rfl rfl rfl rfl rfl ?_
      refine t_iinc (pc := 77) [some (.ref 90), some (.int (I l1)), some (.int (I l2)), some (.int (I (l3 + v103))), some (.int (I (l4 + 1))), some (.int (I v101))] dX11_scans_77 rfl rfl ?_
      refine t_goto (pc := 80) 5 dX11_scans_80 rfl ?_
      exact id
    · refine t_ld (pc := 33) dX11_scans_33 rfl rfl rfl rfl rfl ?_
      refine t_ld (pc := 34) dX11_scans_34 rfl rfl rfl rfl rfl ?_
      refine t_iconst (pc := 35) dX11_scans_35 ?_
      refine t_vcIN (pc := 36) dX11_scans_36 rfl rfl [] rfl rfl ⟨rfl, by decide, Nat.le_of_ble_eq_true rfl⟩ h0.1 fun v105 S106 => ?_
      refine t_st (pc := 39) [some (.ref 90), some (.int (I l1)), some (.int (I l2)), some (.int (I l3)), some (.int (I l4)), some (.int (I v105))] dX11_scans_39 rfl rfl rfl rfl rfl rfl ?_
      refine t_ld (pc := 41) dX11_scans_41 rfl rfl rfl rfl rfl ?_
      refine t_iconst (pc := 43) dX11_scans_43 ?_
      refine t_ic_ne (pc := 44) 49 dX11_scans_44 rfl ?_ ?_
      · refine t_ld (pc := 49) dX11_scans_49 rfl rfl rfl rfl rfl ?_
        refine t_ld (pc := 50) dX11_scans_50 rfl rfl rfl rfl rfl ?_
        refine t_vcVN (pc := 51) dX11_scans_51 rfl rfl [] rfl rfl ⟨rfl, by decide, Nat.le_of_ble_eq_true rfl⟩ h0.1 fun S107 => ?_
        refine t_ld (pc := 54) dX11_scans_54 rfl rfl rfl rfl rfl ?_
        refine t_getR (pc := 55) dX11_scans_55 rfl h0.1 rfl ?_
        refine t_ld (pc := 58) dX11_scans_58 rfl rfl rfl rfl rfl ?_
        refine t_bipush (pc := 59) dX11_scans_59 (by decide) ?_
        refine t_iadd (pc := 61) dX11_scans_61 ?_
        refine t_ld (pc := 62) dX11_scans_62 rfl rfl rfl rfl rfl ?_
        refine t_iconst (pc := 64) dX11_scans_64 ?_
        refine t_iadd (pc := 65) dX11_scans_65 ?_
        refine t_iastore (pc := 66) dX11_scans_66 h0.2.1 ?_
        refine t_ld (pc := 67) dX11_scans_67 rfl rfl rfl rfl rfl ?_
        refine t_ld (pc := 68) dX11_scans_68 rfl rfl rfl rfl rfl ?_
        refine t_ld (pc := 69) dX11_scans_69 rfl rfl rfl rfl rfl ?_
        refine t_ld (pc := 70) dX11_scans_70 rfl rfl rfl rfl rfl ?_
        refine t_vcIN (pc := 72) dX11_scans_72 rfl rfl [.int (I l3)] rfl rfl ⟨rfl, by decide, Nat.le_of_ble_eq_true rfl⟩ h0.1 fun v108 S109 => ?_
        refine t_iadd (pc := 75) dX11_scans_75 ?_
        refine t_st (pc := 76) [some (.ref 90), some (.int (I l1)), some (.int (I l2)), some (.int (I (l3 + v108))), some (.int (I l4)), some (.int (I v105))] dX11_scans_76 rfl rfl rfl rfl rfl rfl ?_
        refine t_iinc (pc := 77) [some (.ref 90), some (.int (I l1)), some (.int (I l2)), some (.int (I (l3 + v108))), some (.int (I (l4 + 1))), some (.int (I v105))] dX11_scans_77 rfl rfl ?_
        refine t_goto (pc := 80) 5 dX11_scans_80 rfl ?_
        exact id
      · refine t_ld (pc := 47) dX11_scans_47 rfl rfl rfl rfl rfl ?_
        exact t_iret (pc := 48) dX11_scans_48 rfl
theorem qX11_ticksOf_0 {sc : Nat × (Nat → Int32)} {SH : List mCell} {S : mStore} {r : mR × mW} (h0 : sMod SH) {l1 : Int} {l2 : Int} {u3 : Option Value} {u4 : Option Value} : (G sc MX11_ticksOf 5 [some (.ref 90), some (.int (I l1)), some (.int (I l2)), some (.int (I 0)), some (.int (I 0))] [] SH S r) → G sc MX11_ticksOf 0 [some (.ref 90), some (.int (I l1)), some (.int (I l2)), u3, u4] [] SH S r := by
  refine t_iconst (pc := 0) dX11_ticksOf_0 ?_
  refine t_st (pc := 1) [some (.ref 90), some (.int (I l1)), some (.int (I l2)), some (.int (I 0)), u4] dX11_ticksOf_1 rfl rfl rfl rfl rfl rfl ?_
  refine t_iconst (pc := 2) dX11_ticksOf_2 ?_
  refine t_st (pc := 3) [some (.ref 90), some (.int (I l1)), some (.int (I l2)), some (.int (I 0)), some (.int (I 0))] dX11_ticksOf_3 rfl rfl rfl rfl rfl rfl ?_
  exact id
theorem qX11_ticksOf_5 {sc : Nat × (Nat → Int32)} {SH : List mCell} {S : mStore} {r : mR × mW} (h0 : sMod SH) {l1 : Int} {l2 : Int} {l3 : Int} {l4 : Int} : ((if I l2 ≤ I l4 then r = rI l3 SH S else ((0 ≤ l1 + 0 ∧ l1 + 0 < 137400) ∧ (∃ v101 S102, G sc MX11_scans 0 [some (.ref 90), some (.int (I l1)), some (.int (I (S 91 (l1 + 0)))), none, none, none] [] SH S (rI v101 SH S102) ∧ ((0 ≤ l1 + 2 ∧ l1 + 2 < 137400) ∧ ((0 ≤ l1 + 2 ∧ l1 + 2 < 137400) ∧ G sc MX11_ticksOf 5 [some (.ref 90), some (.int (I l1)), some (.int (I l2)), some (.int (I (l3 + v101))), some (.int (I (l4 + 1)))] [] SH (up S102 91 (l1 + 2) ((S102 91 (l1 + 2)) + 1)) r)))))) → G sc MX11_ticksOf 5 [some (.ref 90), some (.int (I l1)), some (.int (I l2)), some (.int (I l3)), some (.int (I l4))] [] SH S r := by
  refine t_ld (pc := 5) dX11_ticksOf_5 rfl rfl rfl rfl rfl ?_
  refine t_ld (pc := 7) dX11_ticksOf_7 rfl rfl rfl rfl rfl ?_
  refine t_ic_ge (pc := 8) 45 dX11_ticksOf_8 rfl ?_ ?_
  · refine t_ld (pc := 45) dX11_ticksOf_45 rfl rfl rfl rfl rfl ?_
    exact t_iret (pc := 46) dX11_ticksOf_46 rfl
  · refine t_ld (pc := 11) dX11_ticksOf_11 rfl rfl rfl rfl rfl ?_
    refine t_ld (pc := 12) dX11_ticksOf_12 rfl rfl rfl rfl rfl ?_
    refine t_ld (pc := 13) dX11_ticksOf_13 rfl rfl rfl rfl rfl ?_
    refine t_ld (pc := 14) dX11_ticksOf_14 rfl rfl rfl rfl rfl ?_
    refine t_getR (pc := 15) dX11_ticksOf_15 rfl h0.1 rfl ?_
    refine t_ld (pc := 18) dX11_ticksOf_18 rfl rfl rfl rfl rfl ?_
    refine t_iconst (pc := 19) dX11_ticksOf_19 ?_
    refine t_iadd (pc := 20) dX11_ticksOf_20 ?_
    refine t_iaload (pc := 21) dX11_ticksOf_21 h0.2.1 ?_
    refine t_vcIN (pc := 22) dX11_ticksOf_22 rfl rfl [.int (I l3)] rfl rfl ⟨rfl, by decide, Nat.le_of_ble_eq_true rfl⟩ h0.1 fun v101 S102 => ?_
    refine t_iadd (pc := 25) dX11_ticksOf_25 ?_
    refine t_st (pc := 26) [some (.ref 90), some (.int (I l1)), some (.int (I l2)), some (.int (I (l3 + v101))), some (.int (I l4))] dX11_ticksOf_26 rfl rfl rfl rfl rfl rfl ?_
    refine t_ld (pc := 27) dX11_ticksOf_27 rfl rfl rfl rfl rfl ?_
    refine t_getR (pc := 28) dX11_ticksOf_28 rfl h0.1 rfl ?_
    refine t_ld (pc := 31) dX11_ticksOf_31 rfl rfl rfl rfl rfl ?_
    refine t_iconst (pc := 32) dX11_ticksOf_32 ?_
    refine t_iadd (pc := 33) dX11_ticksOf_33 ?_
    refine t_dup2 (pc := 34) dX11_ticksOf_34 rfl rfl ?_
    refine t_iaload (pc := 35) dX11_ticksOf_35 h0.2.1 ?_
    refine t_iconst (pc := 36) dX11_ticksOf_36 ?_
    refine t_iadd (pc := 37) dX11_ticksOf_37 ?_
    refine t_iastore (pc := 38) dX11_ticksOf_38 h0.2.1 ?_
    refine t_iinc (pc := 39) [some (.ref 90), some (.int (I l1)), some (.int (I l2)), some (.int (I (l3 + v101))), some (.int (I (l4 + 1)))] dX11_ticksOf_39 rfl rfl ?_
    refine t_goto (pc := 42) 5 dX11_ticksOf_42 rfl ?_
    exact id
theorem qX11_isLetter_0 {sc : Nat × (Nat → Int32)} {SH : List mCell} {S : mStore} {r : mR × mW} {l0 : Int} : ((if I l0 < I 97 then ((I 0 = I 0 ∨ I 0 = I 1) ∧ r = rI 0 SH S) else (if I 122 < I l0 then ((I 0 = I 0 ∨ I 0 = I 1) ∧ r = rI 0 SH S) else ((I 1 = I 0 ∨ I 1 = I 1) ∧ r = rI 1 SH S)))) → G sc MX11_isLetter 0 [some (.int (I l0))] [] SH S r := by
  refine t_ld (pc := 0) dX11_isLetter_0 rfl rfl rfl rfl rfl ?_
  refine t_bipush (pc := 1) dX11_isLetter_1 (by decide) ?_
  refine t_ic_lt (pc := 3) 16 dX11_isLetter_3 rfl ?_ ?_
  · refine t_iconst (pc := 16) dX11_isLetter_16 ?_
    exact t_zret (pc := 17) dX11_isLetter_17 rfl
  · refine t_ld (pc := 6) dX11_isLetter_6 rfl rfl rfl rfl rfl ?_
    refine t_bipush (pc := 7) dX11_isLetter_7 (by decide) ?_
    refine t_ic_gt (pc := 9) 16 dX11_isLetter_9 rfl ?_ ?_
    · refine t_iconst (pc := 16) dX11_isLetter_16 ?_
      exact t_zret (pc := 17) dX11_isLetter_17 rfl
    · refine t_iconst (pc := 12) dX11_isLetter_12 ?_
      refine t_goto (pc := 13) 17 dX11_isLetter_13 rfl ?_
      exact t_zret (pc := 17) dX11_isLetter_17 rfl
theorem qX11_byteAt_0 {sc : Nat × (Nat → Int32)} {SH : List mCell} {S : mStore} {r : mR × mW} (h0 : sMod SH) {l1 : Int} : ((if I (S 90 35) ≤ I l1 then r = rI 0 SH S else ((0 ≤ l1 ∧ l1 < 700) ∧ r = rI (ian (S 99 l1) 255) SH S))) → G sc MX11_byteAt 0 [some (.ref 90), some (.int (I l1))] [] SH S r := by
  refine t_ld (pc := 0) dX11_byteAt_0 rfl rfl rfl rfl rfl ?_
  refine t_ld (pc := 1) dX11_byteAt_1 rfl rfl rfl rfl rfl ?_
  refine t_getI (pc := 2) dX11_byteAt_2 rfl h0.1 rfl ?_
  refine t_ic_ge (pc := 5) 21 dX11_byteAt_5 rfl ?_ ?_
  · refine t_iconst (pc := 21) dX11_byteAt_21 ?_
    exact t_iret (pc := 22) dX11_byteAt_22 rfl
  · refine t_ld (pc := 8) dX11_byteAt_8 rfl rfl rfl rfl rfl ?_
    refine t_getR (pc := 9) dX11_byteAt_9 rfl h0.1 rfl ?_
    refine t_ld (pc := 12) dX11_byteAt_12 rfl rfl rfl rfl rfl ?_
    refine t_iaload (pc := 13) dX11_byteAt_13 h0.2.2.2.2.2.2.2.2.2.1 ?_
    refine t_sipush (pc := 14) dX11_byteAt_14 (by decide) ?_
    refine t_iand (pc := 17) dX11_byteAt_17 ?_
    refine t_goto (pc := 18) 22 dX11_byteAt_18 rfl ?_
    exact t_iret (pc := 22) dX11_byteAt_22 rfl
theorem qX11_wordOf_0 {sc : Nat × (Nat → Int32)} {SH : List mCell} {S : mStore} {r : mR × mW} (h0 : sMod SH) {l1 : Int} {l2 : Int} {u3 : Option Value} {u4 : Option Value} {u5 : Option Value} {u6 : Option Value} : (G sc MX11_wordOf 11 [some (.ref 90), some (.int (I l1)), some (.int (I l2)), some (.int (I 0)), some (.int (I l1)), some (.int (I 1)), some (.int (I 0))] [] SH S r) → G sc MX11_wordOf 0 [some (.ref 90), some (.int (I l1)), some (.int (I l2)), u3, u4, u5, u6] [] SH S r := by
  refine t_iconst (pc := 0) dX11_wordOf_0 ?_
  refine t_st (pc := 1) [some (.ref 90), some (.int (I l1)), some (.int (I l2)), some (.int (I 0)), u4, u5, u6] dX11_wordOf_1 rfl rfl rfl rfl rfl rfl ?_
  refine t_ld (pc := 2) dX11_wordOf_2 rfl rfl rfl rfl rfl ?_
  refine t_st (pc := 3) [some (.ref 90), some (.int (I l1)), some (.int (I l2)), some (.int (I 0)), some (.int (I l1)), u5, u6] dX11_wordOf_3 rfl rfl rfl rfl rfl rfl ?_
  refine t_iconst (pc := 5) dX11_wordOf_5 ?_
  refine t_st (pc := 6) [some (.ref 90), some (.int (I l1)), some (.int (I l2)), some (.int (I 0)), some (.int (I l1)), some (.int (I 1)), u6] dX11_wordOf_6 rfl rfl rfl rfl rfl rfl ?_
  refine t_iconst (pc := 8) dX11_wordOf_8 ?_
  refine t_st (pc := 9) [some (.ref 90), some (.int (I l1)), some (.int (I l2)), some (.int (I 0)), some (.int (I l1)), some (.int (I 1)), some (.int (I 0))] dX11_wordOf_9 rfl rfl rfl rfl rfl rfl ?_
  exact id
theorem qX11_wordOf_11 {sc : Nat × (Nat → Int32)} {SH : List mCell} {S : mStore} {r : mR × mW} (h0 : sMod SH) {l1 : Int} {l2 : Int} {l3 : Int} {l4 : Int} {l5 : Int} {l6 : Int} : ((if I 73 ≤ I l6 then r = rI (-1) SH S else ((0 ≤ l6 ∧ l6 < 73) ∧ (if I ((mwords.getD (l6).toNat 0).toInt) = I 32 then (if I l5 = I 0 then G sc MX11_wordOf 11 [some (.ref 90), some (.int (I l1)), some (.int (I l2)), some (.int (I (l3 + 1))), some (.int (I l1)), some (.int (I 1)), some (.int (I (l6 + 1)))] [] SH S r else (if I l4 = I l2 then r = rI l3 SH S else G sc MX11_wordOf 11 [some (.ref 90), some (.int (I l1)), some (.int (I l2)), some (.int (I (l3 + 1))), some (.int (I l1)), some (.int (I 1)), some (.int (I (l6 + 1)))] [] SH S r)) else (if I l5 = I 0 then G sc MX11_wordOf 11 [some (.ref 90), some (.int (I l1)), some (.int (I l2)), some (.int (I l3)), some (.int (I (l4 + 1))), some (.int (I 0)), some (.int (I (l6 + 1)))] [] SH S r else (if I l2 ≤ I l4 then G sc MX11_wordOf 11 [some (.ref 90), some (.int (I l1)), some (.int (I l2)), some (.int (I l3)), some (.int (I (l4 + 1))), some (.int (I 0)), some (.int (I (l6 + 1)))] [] SH S r else (∃ v101 S102, G sc MX11_byteAt 0 [some (.ref 90), some (.int (I l4))] [] SH S (rI v101 SH S102) ∧ ((0 ≤ l6 ∧ l6 < 73) ∧ (if I v101 = I ((mwords.getD (l6).toNat 0).toInt) then G sc MX11_wordOf 11 [some (.ref 90), some (.int (I l1)), some (.int (I l2)), some (.int (I l3)), some (.int (I (l4 + 1))), some (.int (I 1)), some (.int (I (l6 + 1)))] [] SH S102 r else G sc MX11_wordOf 11 [some (.ref 90), some (.int (I l1)), some (.int (I l2)), some (.int (I l3)), some (.int (I (l4 + 1))), some (.int (I 0)), some (.int (I (l6 + 1)))] [] SH S102 r))))))))) → G sc MX11_wordOf 11 [some (.ref 90), some (.int (I l1)), some (.int (I l2)), some (.int (I l3)), some (.int (I l4)), some (.int (I l5)), some (.int (I l6))] [] SH S r := by
  refine t_ld (pc := 11) dX11_wordOf_11 rfl rfl rfl rfl rfl ?_
  refine t_getS (pc := 13) dX11_wordOf_13 rfl ?_
  refine t_lenK (n := 73) (pc := 16) dX11_wordOf_16 rfl ?_
  refine t_ic_ge (pc := 17) 98 dX11_wordOf_17 rfl ?_ ?_
  · refine t_iconst (pc := 98) dX11_wordOf_98 ?_
    exact t_iret (pc := 99) dX11_wordOf_99 rfl
  · refine t_getS (pc := 20) dX11_wordOf_20 rfl ?_
    refine t_ld (pc := 23) dX11_wordOf_23 rfl rfl rfl rfl rfl ?_
    refine t_wdload (pc := 25) dX11_wordOf_25 ?_
    refine t_bipush (pc := 26) dX11_wordOf_26 (by decide) ?_
    refine t_ic_ne (pc := 28) 56 dX11_wordOf_28 rfl ?_ ?_
    · refine t_ld (pc := 56) dX11_wordOf_56 rfl rfl rfl rfl rfl ?_
      refine t_if_eq (pc := 58) 86 dX11_wordOf_58 rfl ?_ ?_
      · refine t_iconst (pc := 86) dX11_wordOf_86 ?_
        refine t_st (pc := 87) [some (.ref 90), some (.int (I l1)), some (.int (I l2)), some (.int (I l3)), some (.int (I l4)), some (.int (I 0)), some (.int (I l6))] dX11_wordOf_87 rfl rfl rfl rfl rfl rfl ?_
        refine t_iinc (pc := 89) [some (.ref 90), some (.int (I l1)), some (.int (I l2)), some (.int (I l3)), some (.int (I (l4 + 1))), some (.int (I 0)), some (.int (I l6))] dX11_wordOf_89 rfl rfl ?_
        refine t_iinc (pc := 92) [some (.ref 90), some (.int (I l1)), some (.int (I l2)), some (.int (I l3)), some (.int (I (l4 + 1))), some (.int (I 0)), some (.int (I (l6 + 1)))] dX11_wordOf_92 rfl rfl ?_
        refine t_goto (pc := 95) 11 dX11_wordOf_95 rfl ?_
        exact id
      · refine t_ld (pc := 61) dX11_wordOf_61 rfl rfl rfl rfl rfl ?_
        refine t_ld (pc := 63) dX11_wordOf_63 rfl rfl rfl rfl rfl ?_
        refine t_ic_ge (pc := 64) 86 dX11_wordOf_64 rfl ?_ ?_
        · refine t_iconst (pc := 86) dX11_wordOf_86 ?_
          refine t_st (pc := 87) [some (.ref 90), some (.int (I l1)), some (.int (I l2)), some (.int (I l3)), some (.int (I l4)), some (.int (I 0)), some (.int (I l6))] dX11_wordOf_87 rfl rfl rfl rfl rfl rfl ?_
          refine t_iinc (pc := 89) [some (.ref 90), some (.int (I l1)), some (.int (I l2)), some (.int (I l3)), some (.int (I (l4 + 1))), some (.int (I 0)), some (.int (I l6))] dX11_wordOf_89 rfl rfl ?_
          refine t_iinc (pc := 92) [some (.ref 90), some (.int (I l1)), some (.int (I l2)), some (.int (I l3)), some (.int (I (l4 + 1))), some (.int (I 0)), some (.int (I (l6 + 1)))] dX11_wordOf_92 rfl rfl ?_
          refine t_goto (pc := 95) 11 dX11_wordOf_95 rfl ?_
          exact id
        · refine t_ld (pc := 67) dX11_wordOf_67 rfl rfl rfl rfl rfl ?_
          refine t_ld (pc := 68) dX11_wordOf_68 rfl rfl rfl rfl rfl ?_
          refine t_vcIN (pc := 70) dX11_wordOf_70 rfl rfl [] rfl rfl ⟨rfl, by decide, Nat.le_of_ble_eq_true rfl⟩ h0.1 fun v101 S102 => ?_
          refine t_getS (pc := 73) dX11_wordOf_73 rfl ?_
          refine t_ld (pc := 76) dX11_wordOf_76 rfl rfl rfl rfl rfl ?_
          refine t_wdload (pc := 78) dX11_wordOf_78 ?_
          refine t_ic_ne (pc := 79) 86 dX11_wordOf_79 rfl ?_ ?_
          · refine t_iconst (pc := 86) dX11_wordOf_86 ?_
            refine t_st (pc := 87) [some (.ref 90), some (.int (I l1)), some (.int (I l2)), some (.int (I l3)), some (.int (I l4)), some (.int (I 0)), some (.int (I l6))] dX11_wordOf_87 rfl rfl rfl rfl rfl rfl ?_
            refine t_iinc (pc := 89) [some (.ref 90), some (.int (I l1)), some (.int (I l2)), some (.int (I l3)), some (.int (I (l4 + 1))), some (.int (I 0)), some (.int (I l6))] dX11_wordOf_89 rfl rfl ?_
            refine t_iinc (pc := 92) [some (.ref 90), some (.int (I l1)), some (.int (I l2)), some (.int (I l3)), some (.int (I (l4 + 1))), some (.int (I 0)), some (.int (I (l6 + 1)))] dX11_wordOf_92 rfl rfl ?_
            refine t_goto (pc := 95) 11 dX11_wordOf_95 rfl ?_
            exact id
          · refine t_iconst (pc := 82) dX11_wordOf_82 ?_
            refine t_goto (pc := 83) 87 dX11_wordOf_83 rfl ?_
            refine t_st (pc := 87) [some (.ref 90), some (.int (I l1)), some (.int (I l2)), some (.int (I l3)), some (.int (I l4)), some (.int (I 1)), some (.int (I l6))] dX11_wordOf_87 rfl rfl rfl rfl rfl rfl ?_
            refine t_iinc (pc := 89) [some (.ref 90), some (.int (I l1)), some (.int (I l2)), some (.int (I l3)), some (.int (I (l4 + 1))), some (.int (I 1)), some (.int (I l6))] dX11_wordOf_89 rfl rfl ?_
            refine t_iinc (pc := 92) [some (.ref 90), some (.int (I l1)), some (.int (I l2)), some (.int (I l3)), some (.int (I (l4 + 1))), some (.int (I 1)), some (.int (I (l6 + 1)))] dX11_wordOf_92 rfl rfl ?_
            refine t_goto (pc := 95) 11 dX11_wordOf_95 rfl ?_
            exact id
    · refine t_ld (pc := 31) dX11_wordOf_31 rfl rfl rfl rfl rfl ?_
      refine t_if_eq (pc := 33) 44 dX11_wordOf_33 rfl ?_ ?_
      · refine t_iinc (pc := 44) [some (.ref 90), some (.int (I l1)), some (.int (I l2)), some (.int (I (l3 + 1))), some (.int (I l4)), some (.int (I l5)), some (.int (I l6))] dX11_wordOf_44 rfl rfl ?_
        refine t_ld (pc := 47) dX11_wordOf_47 rfl rfl rfl rfl rfl ?_
        refine t_st (pc := 48) [some (.ref 90), some (.int (I l1)), some (.int (I l2)), some (.int (I (l3 + 1))), some (.int (I l1)), some (.int (I l5)), some (.int (I l6))] dX11_wordOf_48 rfl rfl rfl rfl rfl rfl ?_
        refine t_iconst (pc := 50) dX11_wordOf_50 ?_
        refine t_st (pc := 51) [some (.ref 90), some (.int (I l1)), some (.int (I l2)), some (.int (I (l3 + 1))), some (.int (I l1)), some (.int (I 1)), some (.int (I l6))] dX11_wordOf_51 rfl rfl rfl rfl rfl rfl ?_
        refine t_goto (pc := 53) 92 dX11_wordOf_53 rfl ?_
        refine t_iinc (pc := 92) [some (.ref 90), some (.int (I l1)), some (.int (I l2)), some (.int (I (l3 + 1))), some (.int (I l1)), some (.int (I 1)), some (.int (I (l6 + 1)))] dX11_wordOf_92 rfl rfl ?_
        refine t_goto (pc := 95) 11 dX11_wordOf_95 rfl ?_
        exact id
      · refine t_ld (pc := 36) dX11_wordOf_36 rfl rfl rfl rfl rfl ?_
        refine t_ld (pc := 38) dX11_wordOf_38 rfl rfl rfl rfl rfl ?_
        refine t_ic_ne (pc := 39) 44 dX11_wordOf_39 rfl ?_ ?_
        · refine t_iinc (pc := 44) [some (.ref 90), some (.int (I l1)), some (.int (I l2)), some (.int (I (l3 + 1))), some (.int (I l4)), some (.int (I l5)), some (.int (I l6))] dX11_wordOf_44 rfl rfl ?_
          refine t_ld (pc := 47) dX11_wordOf_47 rfl rfl rfl rfl rfl ?_
          refine t_st (pc := 48) [some (.ref 90), some (.int (I l1)), some (.int (I l2)), some (.int (I (l3 + 1))), some (.int (I l1)), some (.int (I l5)), some (.int (I l6))] dX11_wordOf_48 rfl rfl rfl rfl rfl rfl ?_
          refine t_iconst (pc := 50) dX11_wordOf_50 ?_
          refine t_st (pc := 51) [some (.ref 90), some (.int (I l1)), some (.int (I l2)), some (.int (I (l3 + 1))), some (.int (I l1)), some (.int (I 1)), some (.int (I l6))] dX11_wordOf_51 rfl rfl rfl rfl rfl rfl ?_
          refine t_goto (pc := 53) 92 dX11_wordOf_53 rfl ?_
          refine t_iinc (pc := 92) [some (.ref 90), some (.int (I l1)), some (.int (I l2)), some (.int (I (l3 + 1))), some (.int (I l1)), some (.int (I 1)), some (.int (I (l6 + 1)))] dX11_wordOf_92 rfl rfl ?_
          refine t_goto (pc := 95) 11 dX11_wordOf_95 rfl ?_
          exact id
        · refine t_ld (pc := 42) dX11_wordOf_42 rfl rfl rfl rfl rfl ?_
          exact t_iret (pc := 43) dX11_wordOf_43 rfl
theorem qX11_go_0 {sc : Nat × (Nat → Int32)} {SH : List mCell} {S : mStore} {r : mR × mW} (h0 : sMod SH) {u1 : Option Value} : ((if I (S 90 35) ≤ I (S 90 33) then (∃ v101 S102, G sc MX11_byteAt 0 [some (.ref 90), some (.int (I ((up S 90 34 (S 90 33)) 90 33)))] [] SH (up S 90 34 (S 90 33)) (rI v101 SH S102) ∧ (if I ((up (up S102 90 38 (-1)) 90 37 0) 90 33) < I ((up (up S102 90 38 (-1)) 90 37 0) 90 35) then (∃ v103 S104, G sc MX11_isLetter 0 [some (.int (I v101))] [] SH (up (up S102 90 38 (-1)) 90 37 0) (rI v103 SH S104) ∧ (if I v103 = I 0 then (if I v101 < I 48 then G sc MX11_go 255 [some (.ref 90), some (.int (I v101))] [] SH S104 r else (if I 57 < I v101 then G sc MX11_go 255 [some (.ref 90), some (.int (I v101))] [] SH S104 r else G sc MX11_go 166 [some (.ref 90), some (.int (I v101))] [] SH S104 r)) else G sc MX11_go 103 [some (.ref 90), some (.int (I v101))] [] SH S104 r)) else G sc MX11_go 280 [some (.ref 90), some (.int (I v101))] [] SH (up (up (up S102 90 38 (-1)) 90 37 0) 90 36 0) r)) else (∃ v105 S106, G sc MX11_byteAt 0 [some (.ref 90), some (.int (I (S 90 33)))] [] SH S (rI v105 SH S106) ∧ (if I v105 = I 32 then G sc MX11_go 0 [some (.ref 90), u1] [] SH (up S106 90 33 ((S106 90 33) + 1)) r else (∃ v107 S108, G sc MX11_byteAt 0 [some (.ref 90), some (.int (I (S106 90 33)))] [] SH S106 (rI v107 SH S108) ∧ (if I v107 = I 10 then G sc MX11_go 0 [some (.ref 90), u1] [] SH (up S108 90 33 ((S108 90 33) + 1)) r else (∃ v109 S110, G sc MX11_byteAt 0 [some (.ref 90), some (.int (I ((up S108 90 34 (S108 90 33)) 90 33)))] [] SH (up S108 90 34 (S108 90 33)) (rI v109 SH S110) ∧ (if I ((up (up S110 90 38 (-1)) 90 37 0) 90 33) < I ((up (up S110 90 38 (-1)) 90 37 0) 90 35) then (∃ v111 S112, G sc MX11_isLetter 0 [some (.int (I v109))] [] SH (up (up S110 90 38 (-1)) 90 37 0) (rI v111 SH S112) ∧ (if I v111 = I 0 then (if I v109 < I 48 then G sc MX11_go 255 [some (.ref 90), some (.int (I v109))] [] SH S112 r else (if I 57 < I v109 then G sc MX11_go 255 [some (.ref 90), some (.int (I v109))] [] SH S112 r else G sc MX11_go 166 [some (.ref 90), some (.int (I v109))] [] SH S112 r)) else G sc MX11_go 103 [some (.ref 90), some (.int (I v109))] [] SH S112 r)) else G sc MX11_go 280 [some (.ref 90), some (.int (I v109))] [] SH (up (up (up S110 90 38 (-1)) 90 37 0) 90 36 0) r)))))))) → G sc MX11_go 0 [some (.ref 90), u1] [] SH S r := by
  refine t_ld (pc := 0) dX11_go_0 rfl rfl rfl rfl rfl ?_
  refine t_getI (pc := 1) dX11_go_1 rfl h0.1 rfl ?_
  refine t_ld (pc := 4) dX11_go_4 rfl rfl rfl rfl rfl ?_
  refine t_getI (pc := 5) dX11_go_5 rfl h0.1 rfl ?_
  refine t_ic_ge (pc := 8) 50 dX11_go_8 rfl ?_ ?_
  · refine t_ld (pc := 50) dX11_go_50 rfl rfl rfl rfl rfl ?_
    refine t_ld (pc := 51) dX11_go_51 rfl rfl rfl rfl rfl ?_
    refine t_getI (pc := 52) dX11_go_52 rfl h0.1 rfl ?_
    refine t_putI (pc := 55) dX11_go_55 rfl rfl (Or.inl rfl) h0.1 rfl ?_
    refine t_ld (pc := 58) dX11_go_58 rfl rfl rfl rfl rfl ?_
    refine t_ld (pc := 59) dX11_go_59 rfl rfl rfl rfl rfl ?_
    refine t_getI (pc := 60) dX11_go_60 rfl h0.1 rfl ?_
    refine t_vcIN (pc := 63) dX11_go_63 rfl rfl [] rfl rfl ⟨rfl, by decide, Nat.le_of_ble_eq_true rfl⟩ h0.1 fun v101 S102 => ?_
    refine t_st (pc := 66) [some (.ref 90), some (.int (I v101))] dX11_go_66 rfl rfl rfl rfl rfl rfl ?_
    refine t_ld (pc := 67) dX11_go_67 rfl rfl rfl rfl rfl ?_
    refine t_iconst (pc := 68) dX11_go_68 ?_
    refine t_putI (pc := 69) dX11_go_69 rfl rfl (Or.inl rfl) h0.1 rfl ?_
    refine t_ld (pc := 72) dX11_go_72 rfl rfl rfl rfl rfl ?_
    refine t_iconst (pc := 73) dX11_go_73 ?_
    refine t_putI (pc := 74) dX11_go_74 rfl rfl (Or.inl rfl) h0.1 rfl ?_
    refine t_ld (pc := 77) dX11_go_77 rfl rfl rfl rfl rfl ?_
    refine t_getI (pc := 78) dX11_go_78 rfl h0.1 rfl ?_
    refine t_ld (pc := 81) dX11_go_81 rfl rfl rfl rfl rfl ?_
    refine t_getI (pc := 82) dX11_go_82 rfl h0.1 rfl ?_
    refine t_ic_lt (pc := 85) 96 dX11_go_85 rfl ?_ ?_
    · refine t_ld (pc := 96) dX11_go_96 rfl rfl rfl rfl rfl ?_
      refine t_scIN (pc := 97) dX11_go_97 rfl [] rfl rfl ⟨rfl, by decide, Nat.le_of_ble_eq_true rfl⟩ fun v103 S104 => ?_
      refine t_if_eq (pc := 100) 154 dX11_go_100 rfl ?_ ?_
      · refine t_ld (pc := 154) dX11_go_154 rfl rfl rfl rfl rfl ?_
        refine t_bipush (pc := 155) dX11_go_155 (by decide) ?_
        refine t_ic_lt (pc := 157) 255 dX11_go_157 rfl ?_ ?_
        · exact id
        · refine t_ld (pc := 160) dX11_go_160 rfl rfl rfl rfl rfl ?_
          refine t_bipush (pc := 161) dX11_go_161 (by decide) ?_
          refine t_ic_gt (pc := 163) 255 dX11_go_163 rfl ?_ ?_
          · exact id
          · exact id
      · exact id
    · refine t_ld (pc := 88) dX11_go_88 rfl rfl rfl rfl rfl ?_
      refine t_iconst (pc := 89) dX11_go_89 ?_
      refine t_putI (pc := 90) dX11_go_90 rfl rfl (Or.inl rfl) h0.1 rfl ?_
      refine t_goto (pc := 93) 280 dX11_go_93 rfl ?_
      exact id
  · refine t_ld (pc := 11) dX11_go_11 rfl rfl rfl rfl rfl ?_
    refine t_ld (pc := 12) dX11_go_12 rfl rfl rfl rfl rfl ?_
    refine t_getI (pc := 13) dX11_go_13 rfl h0.1 rfl ?_
    refine t_vcIN (pc := 16) dX11_go_16 rfl rfl [] rfl rfl ⟨rfl, by decide, Nat.le_of_ble_eq_true rfl⟩ h0.1 fun v105 S106 => ?_
    refine t_bipush (pc := 19) dX11_go_19 (by decide) ?_
    refine t_ic_eq (pc := 21) 37 dX11_go_21 rfl ?_ ?_
    · refine t_ld (pc := 37) dX11_go_37 rfl rfl rfl rfl rfl ?_
      refine t_dup (pc := 38) dX11_go_38 rfl ?_
      refine t_getI (pc := 39) dX11_go_39 rfl h0.1 rfl ?_
      refine t_iconst (pc := 42) dX11_go_42 ?_
      refine t_iadd (pc := 43) dX11_go_43 ?_
      refine t_putI (pc := 44) dX11_go_44 rfl rfl (Or.inl rfl) h0.1 rfl ?_
      refine t_goto (pc := 47) 0 dX11_go_47 rfl ?_
      exact id
    · refine t_ld (pc := 24) dX11_go_24 rfl rfl rfl rfl rfl ?_
      refine t_ld (pc := 25) dX11_go_25 rfl rfl rfl rfl rfl ?_
      refine t_getI (pc := 26) dX11_go_26 rfl h0.1 rfl ?_
      refine t_vcIN (pc := 29) dX11_go_29 rfl rfl [] rfl rfl ⟨rfl, by decide, Nat.le_of_ble_eq_true rfl⟩ h0.1 fun v107 S108 => ?_
      refine t_bipush (pc := 32) dX11_go_32 (by decide) ?_
      refine t_ic_ne (pc := 34) 50 dX11_go_34 rfl ?_ ?_
      · refine t_ld (pc := 50) dX11_go_50 rfl rfl rfl rfl rfl ?_
        refine t_ld (pc := 51) dX11_go_51 rfl rfl rfl rfl rfl ?_
        refine t_getI (pc := 52) dX11_go_52 rfl h0.1 rfl ?_
        refine t_putI (pc := 55) dX11_go_55 rfl rfl (Or.inl rfl) h0.1 rfl ?_
        refine t_ld (pc := 58) dX11_go_58 rfl rfl rfl rfl rfl ?_
        refine t_ld (pc := 59) dX11_go_59 rfl rfl rfl rfl rfl ?_
        refine t_getI (pc := 60) dX11_go_60 rfl h0.1 rfl ?_
        refine t_vcIN (pc := 63) dX11_go_63 rfl rfl [] rfl rfl ⟨rfl, by decide, Nat.le_of_ble_eq_true rfl⟩ h0.1 fun v109 S110 => ?_
        refine t_st (pc := 66) [some (.ref 90), some (.int (I v109))] dX11_go_66 rfl rfl rfl rfl rfl rfl ?_
        refine t_ld (pc := 67) dX11_go_67 rfl rfl rfl rfl rfl ?_
        refine t_iconst (pc := 68) dX11_go_68 ?_
        refine t_putI (pc := 69) dX11_go_69 rfl rfl (Or.inl rfl) h0.1 rfl ?_
        refine t_ld (pc := 72) dX11_go_72 rfl rfl rfl rfl rfl ?_
        refine t_iconst (pc := 73) dX11_go_73 ?_
        refine t_putI (pc := 74) dX11_go_74 rfl rfl (Or.inl rfl) h0.1 rfl ?_
        refine t_ld (pc := 77) dX11_go_77 rfl rfl rfl rfl rfl ?_
        refine t_getI (pc := 78) dX11_go_78 rfl h0.1 rfl ?_
        refine t_ld (pc := 81) dX11_go_81 rfl rfl rfl rfl rfl ?_
        refine t_getI (pc := 82) dX11_go_82 rfl h0.1 rfl ?_
        refine t_ic_lt (pc := 85) 96 dX11_go_85 rfl ?_ ?_
        · refine t_ld (pc := 96) dX11_go_96 rfl rfl rfl rfl rfl ?_
          refine t_scIN (pc := 97) dX11_go_97 rfl [] rfl rfl ⟨rfl, by decide, Nat.le_of_ble_eq_true rfl⟩ fun v111 S112 => ?_
          refine t_if_eq (pc := 100) 154 dX11_go_100 rfl ?_ ?_
          · refine t_ld (pc := 154) dX11_go_154 rfl rfl rfl rfl rfl ?_
            refine t_bipush (pc := 155) dX11_go_155 (by decide) ?_
            refine t_ic_lt (pc := 157) 255 dX11_go_157 rfl ?_ ?_
            · exact id
            · refine t_ld (pc := 160) dX11_go_160 rfl rfl rfl rfl rfl ?_
              refine t_bipush (pc := 161) dX11_go_161 (by decide) ?_
              refine t_ic_gt (pc := 163) 255 dX11_go_163 rfl ?_ ?_
              · exact id
              · exact id
          · exact id
        · refine t_ld (pc := 88) dX11_go_88 rfl rfl rfl rfl rfl ?_
          refine t_iconst (pc := 89) dX11_go_89 ?_
          refine t_putI (pc := 90) dX11_go_90 rfl rfl (Or.inl rfl) h0.1 rfl ?_
          refine t_goto (pc := 93) 280 dX11_go_93 rfl ?_
          exact id
      · refine t_ld (pc := 37) dX11_go_37 rfl rfl rfl rfl rfl ?_
        refine t_dup (pc := 38) dX11_go_38 rfl ?_
        refine t_getI (pc := 39) dX11_go_39 rfl h0.1 rfl ?_
        refine t_iconst (pc := 42) dX11_go_42 ?_
        refine t_iadd (pc := 43) dX11_go_43 ?_
        refine t_putI (pc := 44) dX11_go_44 rfl rfl (Or.inl rfl) h0.1 rfl ?_
        refine t_goto (pc := 47) 0 dX11_go_47 rfl ?_
        exact id
theorem qX11_go_103 {sc : Nat × (Nat → Int32)} {SH : List mCell} {S : mStore} {r : mR × mW} (h0 : sMod SH) {l1 : Int} : ((∃ v101 S102, G sc MX11_byteAt 0 [some (.ref 90), some (.int (I (S 90 33)))] [] SH S (rI v101 SH S102) ∧ (∃ v103 S104, G sc MX11_isLetter 0 [some (.int (I v101))] [] SH S102 (rI v103 SH S104) ∧ (if I v103 = I 0 then (∃ v105 S106, G sc MX11_wordOf 0 [some (.ref 90), some (.int (I ((up S104 90 36 1) 90 34))), some (.int (I ((up S104 90 36 1) 90 33))), none, none, none, none] [] SH (up S104 90 36 1) (rI v105 SH S106) ∧ G sc MX11_go 280 [some (.ref 90), some (.int (I l1))] [] SH (up S106 90 38 v105) r) else G sc MX11_go 103 [some (.ref 90), some (.int (I l1))] [] SH (up S104 90 33 ((S104 90 33) + 1)) r)))) → G sc MX11_go 103 [some (.ref 90), some (.int (I l1))] [] SH S r := by
  refine t_ld (pc := 103) dX11_go_103 rfl rfl rfl rfl rfl ?_
  refine t_ld (pc := 104) dX11_go_104 rfl rfl rfl rfl rfl ?_
  refine t_getI (pc := 105) dX11_go_105 rfl h0.1 rfl ?_
  refine t_vcIN (pc := 108) dX11_go_108 rfl rfl [] rfl rfl ⟨rfl, by decide, Nat.le_of_ble_eq_true rfl⟩ h0.1 fun v101 S102 => ?_
  refine t_scIN (pc := 111) dX11_go_111 rfl [] rfl rfl ⟨rfl, by decide, Nat.le_of_ble_eq_true rfl⟩ fun v103 S104 => ?_
  refine t_if_eq (pc := 114) 130 dX11_go_114 rfl ?_ ?_
  · refine t_ld (pc := 130) dX11_go_130 rfl rfl rfl rfl rfl ?_
    refine t_iconst (pc := 131) dX11_go_131 ?_
    refine t_putI (pc := 132) dX11_go_132 rfl rfl (Or.inl rfl) h0.1 rfl ?_
    refine t_ld (pc := 135) dX11_go_135 rfl rfl rfl rfl rfl ?_
    refine t_ld (pc := 136) dX11_go_136 rfl rfl rfl rfl rfl ?_
    refine t_ld (pc := 137) dX11_go_137 rfl rfl rfl rfl rfl ?_
    refine t_getI (pc := 138) dX11_go_138 rfl h0.1 rfl ?_
    refine t_ld (pc := 141) dX11_go_141 rfl rfl rfl rfl rfl ?_
    refine t_getI (pc := 142) dX11_go_142 rfl h0.1 rfl ?_
    refine t_vcIN (pc := 145) dX11_go_145 rfl rfl [.ref 90] rfl rfl ⟨rfl, by decide, Nat.le_of_ble_eq_true rfl⟩ h0.1 fun v105 S106 => ?_
    refine t_putI (pc := 148) dX11_go_148 rfl rfl (Or.inl rfl) h0.1 rfl ?_
    refine t_goto (pc := 151) 280 dX11_go_151 rfl ?_
    exact id
  · refine t_ld (pc := 117) dX11_go_117 rfl rfl rfl rfl rfl ?_
    refine t_dup (pc := 118) dX11_go_118 rfl ?_
    refine t_getI (pc := 119) dX11_go_119 rfl h0.1 rfl ?_
    refine t_iconst (pc := 122) dX11_go_122 ?_
    refine t_iadd (pc := 123) dX11_go_123 ?_
    refine t_putI (pc := 124) dX11_go_124 rfl rfl (Or.inl rfl) h0.1 rfl ?_
    refine t_goto (pc := 127) 103 dX11_go_127 rfl ?_
    exact id
theorem qX11_go_166 {sc : Nat × (Nat → Int32)} {SH : List mCell} {S : mStore} {r : mR × mW} (h0 : sMod SH) {l1 : Int} : ((∃ v101 S102, G sc MX11_byteAt 0 [some (.ref 90), some (.int (I (S 90 33)))] [] SH S (rI v101 SH S102) ∧ (if I v101 < I 48 then G sc MX11_go 280 [some (.ref 90), some (.int (I l1))] [] SH (up S102 90 36 2) r else (∃ v103 S104, G sc MX11_byteAt 0 [some (.ref 90), some (.int (I (S102 90 33)))] [] SH S102 (rI v103 SH S104) ∧ (if I 57 < I v103 then G sc MX11_go 280 [some (.ref 90), some (.int (I l1))] [] SH (up S104 90 36 2) r else (if I 3 ≤ I ((S104 90 33) - (S104 90 34)) then G sc MX11_go 166 [some (.ref 90), some (.int (I l1))] [] SH (up (up S104 90 37 9999) 90 33 (((up S104 90 37 9999) 90 33) + 1)) r else (∃ v105 S106, G sc MX11_byteAt 0 [some (.ref 90), some (.int (I (S104 90 33)))] [] SH S104 (rI v105 SH S106) ∧ G sc MX11_go 166 [some (.ref 90), some (.int (I l1))] [] SH (up (up S106 90 37 (((10 * (S104 90 37)) + v105) - 48)) 90 33 (((up S106 90 37 (((10 * (S104 90 37)) + v105) - 48)) 90 33) + 1)) r))))))) → G sc MX11_go 166 [some (.ref 90), some (.int (I l1))] [] SH S r := by
  refine t_ld (pc := 166) dX11_go_166 rfl rfl rfl rfl rfl ?_
  refine t_ld (pc := 167) dX11_go_167 rfl rfl rfl rfl rfl ?_
  refine t_getI (pc := 168) dX11_go_168 rfl h0.1 rfl ?_
  refine t_vcIN (pc := 171) dX11_go_171 rfl rfl [] rfl rfl ⟨rfl, by decide, Nat.le_of_ble_eq_true rfl⟩ h0.1 fun v101 S102 => ?_
  refine t_bipush (pc := 174) dX11_go_174 (by decide) ?_
  refine t_ic_lt (pc := 176) 247 dX11_go_176 rfl ?_ ?_
  · refine t_ld (pc := 247) dX11_go_247 rfl rfl rfl rfl rfl ?_
    refine t_iconst (pc := 248) dX11_go_248 ?_
    refine t_putI (pc := 249) dX11_go_249 rfl rfl (Or.inl rfl) h0.1 rfl ?_
    refine t_goto (pc := 252) 280 dX11_go_252 rfl ?_
    exact id
  · refine t_ld (pc := 179) dX11_go_179 rfl rfl rfl rfl rfl ?_
    refine t_ld (pc := 180) dX11_go_180 rfl rfl rfl rfl rfl ?_
    refine t_getI (pc := 181) dX11_go_181 rfl h0.1 rfl ?_
    refine t_vcIN (pc := 184) dX11_go_184 rfl rfl [] rfl rfl ⟨rfl, by decide, Nat.le_of_ble_eq_true rfl⟩ h0.1 fun v103 S104 => ?_
    refine t_bipush (pc := 187) dX11_go_187 (by decide) ?_
    refine t_ic_gt (pc := 189) 247 dX11_go_189 rfl ?_ ?_
    · refine t_ld (pc := 247) dX11_go_247 rfl rfl rfl rfl rfl ?_
      refine t_iconst (pc := 248) dX11_go_248 ?_
      refine t_putI (pc := 249) dX11_go_249 rfl rfl (Or.inl rfl) h0.1 rfl ?_
      refine t_goto (pc := 252) 280 dX11_go_252 rfl ?_
      exact id
    · refine t_ld (pc := 192) dX11_go_192 rfl rfl rfl rfl rfl ?_
      refine t_ld (pc := 193) dX11_go_193 rfl rfl rfl rfl rfl ?_
      refine t_getI (pc := 194) dX11_go_194 rfl h0.1 rfl ?_
      refine t_ld (pc := 197) dX11_go_197 rfl rfl rfl rfl rfl ?_
      refine t_getI (pc := 198) dX11_go_198 rfl h0.1 rfl ?_
      refine t_isub (pc := 201) dX11_go_201 ?_
      refine t_iconst (pc := 202) dX11_go_202 ?_
      refine t_ic_ge (pc := 203) 228 dX11_go_203 rfl ?_ ?_
      · refine t_sipush (pc := 228) dX11_go_228 (by decide) ?_
        refine t_putI (pc := 231) dX11_go_231 rfl rfl (Or.inl rfl) h0.1 rfl ?_
        refine t_ld (pc := 234) dX11_go_234 rfl rfl rfl rfl rfl ?_
        refine t_dup (pc := 235) dX11_go_235 rfl ?_
        refine t_getI (pc := 236) dX11_go_236 rfl h0.1 rfl ?_
        refine t_iconst (pc := 239) dX11_go_239 ?_
        refine t_iadd (pc := 240) dX11_go_240 ?_
        refine t_putI (pc := 241) dX11_go_241 rfl rfl (Or.inl rfl) h0.1 rfl ?_
        refine t_goto (pc := 244) 166 dX11_go_244 rfl ?_
        exact id
      · refine t_bipush (pc := 206) dX11_go_206 (by decide) ?_
        refine t_ld (pc := 208) dX11_go_208 rfl rfl rfl rfl rfl ?_
        refine t_getI (pc := 209) dX11_go_209 rfl h0.1 rfl ?_
        refine t_imul (pc := 212) dX11_go_212 ?_
        refine t_ld (pc := 213) dX11_go_213 rfl rfl rfl rfl rfl ?_
        refine t_ld (pc := 214) dX11_go_214 rfl rfl rfl rfl rfl ?_
        refine t_getI (pc := 215) dX11_go_215 rfl h0.1 rfl ?_
        refine t_vcIN (pc := 218) dX11_go_218 rfl rfl [.int (I (10 * (S104 90 37))), .ref 90] rfl rfl ⟨rfl, by decide, Nat.le_of_ble_eq_true rfl⟩ h0.1 fun v105 S106 => ?_
        refine t_iadd (pc := 221) dX11_go_221 ?_
        refine t_bipush (pc := 222) dX11_go_222 (by decide) ?_
        refine t_isub (pc := 224) dX11_go_224 ?_
        refine t_goto (pc := 225) 231 dX11_go_225 rfl ?_
        refine t_putI (pc := 231) dX11_go_231 rfl rfl (Or.inl rfl) h0.1 rfl ?_
        refine t_ld (pc := 234) dX11_go_234 rfl rfl rfl rfl rfl ?_
        refine t_dup (pc := 235) dX11_go_235 rfl ?_
        refine t_getI (pc := 236) dX11_go_236 rfl h0.1 rfl ?_
        refine t_iconst (pc := 239) dX11_go_239 ?_
        refine t_iadd (pc := 240) dX11_go_240 ?_
        refine t_putI (pc := 241) dX11_go_241 rfl rfl (Or.inl rfl) h0.1 rfl ?_
        refine t_goto (pc := 244) 166 dX11_go_244 rfl ?_
        exact id
theorem qX11_go_255 {sc : Nat × (Nat → Int32)} {SH : List mCell} {S : mStore} {r : mR × mW} (h0 : sMod SH) {l1 : Int} : ((if I l1 = I 59 then G sc MX11_go 277 [some (.ref 90), some (.int (I l1))] [.int (I 3), .ref 90] SH (up S 90 33 ((S 90 33) + 1)) r else G sc MX11_go 277 [some (.ref 90), some (.int (I l1))] [.int (I 4), .ref 90] SH (up S 90 33 ((S 90 33) + 1)) r)) → G sc MX11_go 255 [some (.ref 90), some (.int (I l1))] [] SH S r := by
  refine t_ld (pc := 255) dX11_go_255 rfl rfl rfl rfl rfl ?_
  refine t_dup (pc := 256) dX11_go_256 rfl ?_
  refine t_getI (pc := 257) dX11_go_257 rfl h0.1 rfl ?_
  refine t_iconst (pc := 260) dX11_go_260 ?_
  refine t_iadd (pc := 261) dX11_go_261 ?_
  refine t_putI (pc := 262) dX11_go_262 rfl rfl (Or.inl rfl) h0.1 rfl ?_
  refine t_ld (pc := 265) dX11_go_265 rfl rfl rfl rfl rfl ?_
  refine t_ld (pc := 266) dX11_go_266 rfl rfl rfl rfl rfl ?_
  refine t_bipush (pc := 267) dX11_go_267 (by decide) ?_
  refine t_ic_ne (pc := 269) 276 dX11_go_269 rfl ?_ ?_
  · refine t_iconst (pc := 276) dX11_go_276 ?_
    exact id
  · refine t_iconst (pc := 272) dX11_go_272 ?_
    refine t_goto (pc := 273) 277 dX11_go_273 rfl ?_
    exact id
theorem qX11_go_277 {sc : Nat × (Nat → Int32)} {SH : List mCell} {S : mStore} {r : mR × mW} (h0 : sMod SH) {l1 : Int} {s0 : Int} : (G sc MX11_go 280 [some (.ref 90), some (.int (I l1))] [] SH (up S 90 36 s0) r) → G sc MX11_go 277 [some (.ref 90), some (.int (I l1))] [.int (I s0), .ref 90] SH S r := by
  refine t_putI (pc := 277) dX11_go_277 rfl rfl (Or.inl rfl) h0.1 rfl ?_
  exact id
theorem qX11_go_280 {sc : Nat × (Nat → Int32)} {SH : List mCell} {S : mStore} {r : mR × mW} (h0 : sMod SH) {l1 : Int} : (r = rV SH S) → G sc MX11_go 280 [some (.ref 90), some (.int (I l1))] [] SH S r := by
  exact t_ret (pc := 280) dX11_go_280 rfl
