-- needs: 43.tshape
/-! ===== the program as conditions (gen_vc.py) ===== -/
theorem qX7_clear_0 {sc : Nat × (Nat → Int32)} {SH : List mCell} {S : mStore} {r : mR × mW} {a0 : Nat} (h0 : sState SH a0) : ((∃ S101, G sc MX6_clear 0 [some (.ref (a0 + 1))] [] SH S (rV SH S101) ∧ (∃ S102, G sc MX6_clear 0 [some (.ref (a0 + 5))] [] SH S101 (rV SH S102) ∧ (∃ S103, G sc MX9_clear 0 [some (.ref (a0 + 9))] [] SH S102 (rV SH S103) ∧ (∃ S104, G sc MX9_clear 0 [some (.ref (a0 + 11))] [] SH S103 (rV SH S104) ∧ (∃ S105, G sc MJ7_fill_53178 0 [some (.ref (a0 + 13)), some (.int (I 0)), none, none] [] SH S104 (rV SH S105) ∧ (∃ S106, G sc MJ7_fill_53178 0 [some (.ref (a0 + 14)), some (.int (I 0)), none, none] [] SH S105 (rV SH S106) ∧ (∃ S107, G sc MJ7_fill_53178 0 [some (.ref (a0 + 15)), some (.int (I 0)), none, none] [] SH S106 (rV SH S107) ∧ (∃ S108, G sc MJ7_fill_53178 0 [some (.ref (a0 + 16)), some (.int (I (-1))), none, none] [] SH S107 (rV SH S108) ∧ (∃ S109, G sc MJ7_fill_53178 0 [some (.ref (a0 + 17)), some (.int (I 0)), none, none] [] SH S108 (rV SH S109) ∧ (∃ S110, G sc MJ7_fill_53178 0 [some (.ref (a0 + 18)), some (.int (I 0)), none, none] [] SH S109 (rV SH S110) ∧ (∃ S111, G sc MJ7_fill_53178 0 [some (.ref (a0 + 19)), some (.int (I 0)), none, none] [] SH S110 (rV SH S111) ∧ (((0 : Int) ≤ 0 ∧ (0 : Int) < 12) ∧ r = rV SH (up S111 (a0 + 19) 0 (S111 1 2))))))))))))))) → G sc MX7_clear 0 [some (.ref a0)] [] SH S r := by
  refine tt_ld (M := MX7_clear) (pc := 0) dX7_clear_0 rfl rfl rfl rfl rfl ?_
  refine tt_getR (M := MX7_clear) (pc := 1) dX7_clear_1 rfl h0.1 rfl ?_
  refine tt_vcVN (M := MX7_clear) (pc := 4) dX7_clear_4 rfl rfl [] rfl rfl ⟨rfl, by decide, Nat.le_of_ble_eq_true rfl⟩ h0.2.1.1 fun S101 => ?_
  refine tt_ld (M := MX7_clear) (pc := 7) dX7_clear_7 rfl rfl rfl rfl rfl ?_
  refine tt_getR (M := MX7_clear) (pc := 8) dX7_clear_8 rfl h0.1 rfl ?_
  refine tt_vcVN (M := MX7_clear) (pc := 11) dX7_clear_11 rfl rfl [] rfl rfl ⟨rfl, by decide, Nat.le_of_ble_eq_true rfl⟩ h0.2.2.1.1 fun S102 => ?_
  refine tt_ld (M := MX7_clear) (pc := 14) dX7_clear_14 rfl rfl rfl rfl rfl ?_
  refine tt_getR (M := MX7_clear) (pc := 15) dX7_clear_15 rfl h0.1 rfl ?_
  refine tt_vcVN (M := MX7_clear) (pc := 18) dX7_clear_18 rfl rfl [] rfl rfl ⟨rfl, by decide, Nat.le_of_ble_eq_true rfl⟩ h0.2.2.2.1.1 fun S103 => ?_
  refine tt_ld (M := MX7_clear) (pc := 21) dX7_clear_21 rfl rfl rfl rfl rfl ?_
  refine tt_getR (M := MX7_clear) (pc := 22) dX7_clear_22 rfl h0.1 rfl ?_
  refine tt_vcVN (M := MX7_clear) (pc := 25) dX7_clear_25 rfl rfl [] rfl rfl ⟨rfl, by decide, Nat.le_of_ble_eq_true rfl⟩ h0.2.2.2.2.1.1 fun S104 => ?_
  refine tt_ld (M := MX7_clear) (pc := 28) dX7_clear_28 rfl rfl rfl rfl rfl ?_
  refine tt_getR (M := MX7_clear) (pc := 29) dX7_clear_29 rfl h0.1 rfl ?_
  refine tt_iconst (M := MX7_clear) (pc := 32) dX7_clear_32 ?_
  refine tt_scVN (M := MX7_clear) (pc := 33) dX7_clear_33 rfl [] rfl rfl ⟨rfl, by decide, Nat.le_of_ble_eq_true rfl⟩ fun S105 => ?_
  refine tt_ld (M := MX7_clear) (pc := 36) dX7_clear_36 rfl rfl rfl rfl rfl ?_
  refine tt_getR (M := MX7_clear) (pc := 37) dX7_clear_37 rfl h0.1 rfl ?_
  refine tt_iconst (M := MX7_clear) (pc := 40) dX7_clear_40 ?_
  refine tt_scVN (M := MX7_clear) (pc := 41) dX7_clear_41 rfl [] rfl rfl ⟨rfl, by decide, Nat.le_of_ble_eq_true rfl⟩ fun S106 => ?_
  refine tt_ld (M := MX7_clear) (pc := 44) dX7_clear_44 rfl rfl rfl rfl rfl ?_
  refine tt_getR (M := MX7_clear) (pc := 45) dX7_clear_45 rfl h0.1 rfl ?_
  refine tt_iconst (M := MX7_clear) (pc := 48) dX7_clear_48 ?_
  refine tt_scVN (M := MX7_clear) (pc := 49) dX7_clear_49 rfl [] rfl rfl ⟨rfl, by decide, Nat.le_of_ble_eq_true rfl⟩ fun S107 => ?_
  refine tt_ld (M := MX7_clear) (pc := 52) dX7_clear_52 rfl rfl rfl rfl rfl ?_
  refine tt_getR (M := MX7_clear) (pc := 53) dX7_clear_53 rfl h0.1 rfl ?_
  refine tt_iconst (M := MX7_clear) (pc := 56) dX7_clear_56 ?_
  refine tt_scVN (M := MX7_clear) (pc := 57) dX7_clear_57 rfl [] rfl rfl ⟨rfl, by decide, Nat.le_of_ble_eq_true rfl⟩ fun S108 => ?_
  refine tt_ld (M := MX7_clear) (pc := 60) dX7_clear_60 rfl rfl rfl rfl rfl ?_
  refine tt_getR (M := MX7_clear) (pc := 61) dX7_clear_61 rfl h0.1 rfl ?_
  refine tt_iconst (M := MX7_clear) (pc := 64) dX7_clear_64 ?_
  refine tt_scVN (M := MX7_clear) (pc := 65) dX7_clear_65 rfl [] rfl rfl ⟨rfl, by decide, Nat.le_of_ble_eq_true rfl⟩ fun S109 => ?_
  refine tt_ld (M := MX7_clear) (pc := 68) dX7_clear_68 rfl rfl rfl rfl rfl ?_
  refine tt_getR (M := MX7_clear) (pc := 69) dX7_clear_69 rfl h0.1 rfl ?_
  refine tt_iconst (M := MX7_clear) (pc := 72) dX7_clear_72 ?_
  refine tt_scVN (M := MX7_clear) (pc := 73) dX7_clear_73 rfl [] rfl rfl ⟨rfl, by decide, Nat.le_of_ble_eq_true rfl⟩ fun S110 => ?_
  refine tt_ld (M := MX7_clear) (pc := 76) dX7_clear_76 rfl rfl rfl rfl rfl ?_
  refine tt_getR (M := MX7_clear) (pc := 77) dX7_clear_77 rfl h0.1 rfl ?_
  refine tt_iconst (M := MX7_clear) (pc := 80) dX7_clear_80 ?_
  refine tt_scVN (M := MX7_clear) (pc := 81) dX7_clear_81 rfl [] rfl rfl ⟨rfl, by decide, Nat.le_of_ble_eq_true rfl⟩ fun S111 => ?_
  refine tt_ld (M := MX7_clear) (pc := 84) dX7_clear_84 rfl rfl rfl rfl rfl ?_
  refine tt_getR (M := MX7_clear) (pc := 85) dX7_clear_85 rfl h0.1 rfl ?_
  refine tt_iconst (M := MX7_clear) (pc := 88) dX7_clear_88 ?_
  refine tt_ld (M := MX7_clear) (pc := 89) dX7_clear_89 rfl rfl rfl rfl rfl ?_
  refine tt_getR (M := MX7_clear) (pc := 90) dX7_clear_90 rfl h0.1 rfl ?_
  refine tt_getI (M := MX7_clear) (pc := 93) dX7_clear_93 rfl h0.2.2.2.2.2.2.2.2.2.2.2.2.1 rfl ?_
  refine tt_iastore (M := MX7_clear) (pc := 96) dX7_clear_96 h0.2.2.2.2.2.2.2.2.2.2.2.1 rfl ?_
  exact tt_ret (M := MX7_clear) (pc := 97) dX7_clear_97 rfl
theorem qX7_become_0 {sc : Nat × (Nat → Int32)} {SH : List mCell} {S : mStore} {r : mR × mW} {a0 a1 : Nat} (h0 : sState SH a0) (h1 : sState SH a1) : ((∃ S101, G sc MX6_become 0 [some (.ref (a0 + 1)), some (.ref (a1 + 1))] [] SH S (rV SH S101) ∧ (∃ S102, G sc MX6_become 0 [some (.ref (a0 + 5)), some (.ref (a1 + 5))] [] SH S101 (rV SH S102) ∧ (∃ S103, G sc MX9_become 0 [some (.ref (a0 + 9)), some (.ref (a1 + 9))] [] SH S102 (rV SH S103) ∧ (∃ S104, G sc MX9_become 0 [some (.ref (a0 + 11)), some (.ref (a1 + 11))] [] SH S103 (rV SH S104) ∧ r = rV SH (cpy (cpy (cpy (cpy (cpy (cpy (cpy S104 (a1 + 13) (a0 + 13) 48) (a1 + 14) (a0 + 14) 48) (a1 + 15) (a0 + 15) 48) (a1 + 16) (a0 + 16) 48) (a1 + 17) (a0 + 17) 48) (a1 + 18) (a0 + 18) 48) (a1 + 19) (a0 + 19) 12)))))) → G sc MX7_become 0 [some (.ref a0), some (.ref a1)] [] SH S r := by
  refine tt_ld (M := MX7_become) (pc := 0) dX7_become_0 rfl rfl rfl rfl rfl ?_
  refine tt_getR (M := MX7_become) (pc := 1) dX7_become_1 rfl h0.1 rfl ?_
  refine tt_ld (M := MX7_become) (pc := 4) dX7_become_4 rfl rfl rfl rfl rfl ?_
  refine tt_getR (M := MX7_become) (pc := 5) dX7_become_5 rfl h1.1 rfl ?_
  refine tt_vcVN (M := MX7_become) (pc := 8) dX7_become_8 rfl rfl [] rfl rfl ⟨rfl, by decide, Nat.le_of_ble_eq_true rfl⟩ h0.2.1.1 fun S101 => ?_
  refine tt_ld (M := MX7_become) (pc := 11) dX7_become_11 rfl rfl rfl rfl rfl ?_
  refine tt_getR (M := MX7_become) (pc := 12) dX7_become_12 rfl h0.1 rfl ?_
  refine tt_ld (M := MX7_become) (pc := 15) dX7_become_15 rfl rfl rfl rfl rfl ?_
  refine tt_getR (M := MX7_become) (pc := 16) dX7_become_16 rfl h1.1 rfl ?_
  refine tt_vcVN (M := MX7_become) (pc := 19) dX7_become_19 rfl rfl [] rfl rfl ⟨rfl, by decide, Nat.le_of_ble_eq_true rfl⟩ h0.2.2.1.1 fun S102 => ?_
  refine tt_ld (M := MX7_become) (pc := 22) dX7_become_22 rfl rfl rfl rfl rfl ?_
  refine tt_getR (M := MX7_become) (pc := 23) dX7_become_23 rfl h0.1 rfl ?_
  refine tt_ld (M := MX7_become) (pc := 26) dX7_become_26 rfl rfl rfl rfl rfl ?_
  refine tt_getR (M := MX7_become) (pc := 27) dX7_become_27 rfl h1.1 rfl ?_
  refine tt_vcVN (M := MX7_become) (pc := 30) dX7_become_30 rfl rfl [] rfl rfl ⟨rfl, by decide, Nat.le_of_ble_eq_true rfl⟩ h0.2.2.2.1.1 fun S103 => ?_
  refine tt_ld (M := MX7_become) (pc := 33) dX7_become_33 rfl rfl rfl rfl rfl ?_
  refine tt_getR (M := MX7_become) (pc := 34) dX7_become_34 rfl h0.1 rfl ?_
  refine tt_ld (M := MX7_become) (pc := 37) dX7_become_37 rfl rfl rfl rfl rfl ?_
  refine tt_getR (M := MX7_become) (pc := 38) dX7_become_38 rfl h1.1 rfl ?_
  refine tt_vcVN (M := MX7_become) (pc := 41) dX7_become_41 rfl rfl [] rfl rfl ⟨rfl, by decide, Nat.le_of_ble_eq_true rfl⟩ h0.2.2.2.2.1.1 fun S104 => ?_
  refine tt_ld (M := MX7_become) (pc := 44) dX7_become_44 rfl rfl rfl rfl rfl ?_
  refine tt_getR (M := MX7_become) (pc := 45) dX7_become_45 rfl h1.1 rfl ?_
  refine tt_iconst (M := MX7_become) (pc := 48) dX7_become_48 ?_
  refine tt_ld (M := MX7_become) (pc := 49) dX7_become_49 rfl rfl rfl rfl rfl ?_
  refine tt_getR (M := MX7_become) (pc := 50) dX7_become_50 rfl h0.1 rfl ?_
  refine tt_iconst (M := MX7_become) (pc := 53) dX7_become_53 ?_
  refine tt_bipush (M := MX7_become) (pc := 54) dX7_become_54 (by decide) ?_
  refine tt_copy (M := MX7_become) (pc := 56) dX7_become_56 rfl [] rfl ⟨rfl, by decide, Nat.le_of_ble_eq_true rfl⟩ h1.2.2.2.2.2.1 h0.2.2.2.2.2.1 (by decide) ?_
  refine tt_ld (M := MX7_become) (pc := 59) dX7_become_59 rfl rfl rfl rfl rfl ?_
  refine tt_getR (M := MX7_become) (pc := 60) dX7_become_60 rfl h1.1 rfl ?_
  refine tt_iconst (M := MX7_become) (pc := 63) dX7_become_63 ?_
  refine tt_ld (M := MX7_become) (pc := 64) dX7_become_64 rfl rfl rfl rfl rfl ?_
  refine tt_getR (M := MX7_become) (pc := 65) dX7_become_65 rfl h0.1 rfl ?_
  refine tt_iconst (M := MX7_become) (pc := 68) dX7_become_68 ?_
  refine tt_bipush (M := MX7_become) (pc := 69) dX7_become_69 (by decide) ?_
  refine tt_copy (M := MX7_become) (pc := 71) dX7_become_71 rfl [] rfl ⟨rfl, by decide, Nat.le_of_ble_eq_true rfl⟩ h1.2.2.2.2.2.2.1 h0.2.2.2.2.2.2.1 (by decide) ?_
  refine tt_ld (M := MX7_become) (pc := 74) dX7_become_74 rfl rfl rfl rfl rfl ?_
  refine tt_getR (M := MX7_become) (pc := 75) dX7_become_75 rfl h1.1 rfl ?_
  refine tt_iconst (M := MX7_become) (pc := 78) dX7_become_78 ?_
  refine tt_ld (M := MX7_become) (pc := 79) dX7_become_79 rfl rfl rfl rfl rfl ?_
  refine tt_getR (M := MX7_become) (pc := 80) dX7_become_80 rfl h0.1 rfl ?_
  refine tt_iconst (M := MX7_become) (pc := 83) dX7_become_83 ?_
  refine tt_bipush (M := MX7_become) (pc := 84) dX7_become_84 (by decide) ?_
  refine tt_copy (M := MX7_become) (pc := 86) dX7_become_86 rfl [] rfl ⟨rfl, by decide, Nat.le_of_ble_eq_true rfl⟩ h1.2.2.2.2.2.2.2.1 h0.2.2.2.2.2.2.2.1 (by decide) ?_
  refine tt_ld (M := MX7_become) (pc := 89) dX7_become_89 rfl rfl rfl rfl rfl ?_
  refine tt_getR (M := MX7_become) (pc := 90) dX7_become_90 rfl h1.1 rfl ?_
  refine tt_iconst (M := MX7_become) (pc := 93) dX7_become_93 ?_
  refine tt_ld (M := MX7_become) (pc := 94) dX7_become_94 rfl rfl rfl rfl rfl ?_
  refine tt_getR (M := MX7_become) (pc := 95) dX7_become_95 rfl h0.1 rfl ?_
  refine tt_iconst (M := MX7_become) (pc := 98) dX7_become_98 ?_
  refine tt_bipush (M := MX7_become) (pc := 99) dX7_become_99 (by decide) ?_
  refine tt_copy (M := MX7_become) (pc := 101) dX7_become_101 rfl [] rfl ⟨rfl, by decide, Nat.le_of_ble_eq_true rfl⟩ h1.2.2.2.2.2.2.2.2.1 h0.2.2.2.2.2.2.2.2.1 (by decide) ?_
  refine tt_ld (M := MX7_become) (pc := 104) dX7_become_104 rfl rfl rfl rfl rfl ?_
  refine tt_getR (M := MX7_become) (pc := 105) dX7_become_105 rfl h1.1 rfl ?_
  refine tt_iconst (M := MX7_become) (pc := 108) dX7_become_108 ?_
  refine tt_ld (M := MX7_become) (pc := 109) dX7_become_109 rfl rfl rfl rfl rfl ?_
  refine tt_getR (M := MX7_become) (pc := 110) dX7_become_110 rfl h0.1 rfl ?_
  refine tt_iconst (M := MX7_become) (pc := 113) dX7_become_113 ?_
  refine tt_bipush (M := MX7_become) (pc := 114) dX7_become_114 (by decide) ?_
  refine tt_copy (M := MX7_become) (pc := 116) dX7_become_116 rfl [] rfl ⟨rfl, by decide, Nat.le_of_ble_eq_true rfl⟩ h1.2.2.2.2.2.2.2.2.2.1 h0.2.2.2.2.2.2.2.2.2.1 (by decide) ?_
  refine tt_ld (M := MX7_become) (pc := 119) dX7_become_119 rfl rfl rfl rfl rfl ?_
  refine tt_getR (M := MX7_become) (pc := 120) dX7_become_120 rfl h1.1 rfl ?_
  refine tt_iconst (M := MX7_become) (pc := 123) dX7_become_123 ?_
  refine tt_ld (M := MX7_become) (pc := 124) dX7_become_124 rfl rfl rfl rfl rfl ?_
  refine tt_getR (M := MX7_become) (pc := 125) dX7_become_125 rfl h0.1 rfl ?_
  refine tt_iconst (M := MX7_become) (pc := 128) dX7_become_128 ?_
  refine tt_bipush (M := MX7_become) (pc := 129) dX7_become_129 (by decide) ?_
  refine tt_copy (M := MX7_become) (pc := 131) dX7_become_131 rfl [] rfl ⟨rfl, by decide, Nat.le_of_ble_eq_true rfl⟩ h1.2.2.2.2.2.2.2.2.2.2.1 h0.2.2.2.2.2.2.2.2.2.2.1 (by decide) ?_
  refine tt_ld (M := MX7_become) (pc := 134) dX7_become_134 rfl rfl rfl rfl rfl ?_
  refine tt_getR (M := MX7_become) (pc := 135) dX7_become_135 rfl h1.1 rfl ?_
  refine tt_iconst (M := MX7_become) (pc := 138) dX7_become_138 ?_
  refine tt_ld (M := MX7_become) (pc := 139) dX7_become_139 rfl rfl rfl rfl rfl ?_
  refine tt_getR (M := MX7_become) (pc := 140) dX7_become_140 rfl h0.1 rfl ?_
  refine tt_iconst (M := MX7_become) (pc := 143) dX7_become_143 ?_
  refine tt_bipush (M := MX7_become) (pc := 144) dX7_become_144 (by decide) ?_
  refine tt_copy (M := MX7_become) (pc := 146) dX7_become_146 rfl [] rfl ⟨rfl, by decide, Nat.le_of_ble_eq_true rfl⟩ h1.2.2.2.2.2.2.2.2.2.2.2.1 h0.2.2.2.2.2.2.2.2.2.2.2.1 (by decide) ?_
  exact tt_ret (M := MX7_become) (pc := 149) dX7_become_149 rfl
theorem qX7_used_0 {sc : Nat × (Nat → Int32)} {SH : List mCell} {S : mStore} {r : mR × mW} {a0 : Nat} (h0 : sState SH a0) {u1 : Option Value} {u2 : Option Value} : (G sc MX7_used 4 [some (.ref a0), some (.int (I 0)), some (.int (I 0))] [] SH S r) → G sc MX7_used 0 [some (.ref a0), u1, u2] [] SH S r := by
  refine tt_iconst (M := MX7_used) (pc := 0) dX7_used_0 ?_
  refine tt_st (M := MX7_used) (pc := 1) [some (.ref a0), some (.int (I 0)), u2] dX7_used_1 rfl rfl rfl rfl rfl rfl ?_
  refine tt_iconst (M := MX7_used) (pc := 2) dX7_used_2 ?_
  refine tt_st (M := MX7_used) (pc := 3) [some (.ref a0), some (.int (I 0)), some (.int (I 0))] dX7_used_3 rfl rfl rfl rfl rfl rfl ?_
  exact id
theorem qX7_used_4 {sc : Nat × (Nat → Int32)} {SH : List mCell} {S : mStore} {r : mR × mW} {a0 : Nat} (h0 : sState SH a0) {l1 : Int} {l2 : Int} : ((if I (S 1 0) ≤ I l2 then r = rI l1 SH S else (((0 : Int) ≤ l2 ∧ l2 < 48) ∧ (if I (S (a0 + 4) l2) = I (-1) then G sc MX7_used 4 [some (.ref a0), some (.int (I l1)), some (.int (I (l2 + 1)))] [] SH S r else G sc MX7_used 4 [some (.ref a0), some (.int (I (l1 + 1))), some (.int (I (l2 + 1)))] [] SH S r)))) → G sc MX7_used 4 [some (.ref a0), some (.int (I l1)), some (.int (I l2))] [] SH S r := by
  refine tt_ld (M := MX7_used) (pc := 4) dX7_used_4 rfl rfl rfl rfl rfl ?_
  refine tt_ld (M := MX7_used) (pc := 5) dX7_used_5 rfl rfl rfl rfl rfl ?_
  refine tt_getR (M := MX7_used) (pc := 6) dX7_used_6 rfl h0.1 rfl ?_
  refine tt_getI (M := MX7_used) (pc := 9) dX7_used_9 rfl h0.2.2.2.2.2.2.2.2.2.2.2.2.1 rfl ?_
  refine tt_ic_ge (M := MX7_used) (pc := 12) 37 dX7_used_12 rfl ?_ ?_
  · refine tt_ld (M := MX7_used) (pc := 37) dX7_used_37 rfl rfl rfl rfl rfl ?_
    exact tt_iret (M := MX7_used) (pc := 38) dX7_used_38 rfl
  · refine tt_ld (M := MX7_used) (pc := 15) dX7_used_15 rfl rfl rfl rfl rfl ?_
    refine tt_getR (M := MX7_used) (pc := 16) dX7_used_16 rfl h0.1 rfl ?_
    refine tt_getR (M := MX7_used) (pc := 19) dX7_used_19 rfl h0.2.1.1 rfl ?_
    refine tt_ld (M := MX7_used) (pc := 22) dX7_used_22 rfl rfl rfl rfl rfl ?_
    refine tt_iaload (M := MX7_used) (pc := 23) dX7_used_23 h0.2.1.2.2.2 rfl ?_
    refine tt_iconst (M := MX7_used) (pc := 24) dX7_used_24 ?_
    refine tt_ic_eq (M := MX7_used) (pc := 25) 31 dX7_used_25 rfl ?_ ?_
    · refine tt_iinc (M := MX7_used) (pc := 31) [some (.ref a0), some (.int (I l1)), some (.int (I (l2 + 1)))] dX7_used_31 rfl rfl ?_
      refine tt_goto (M := MX7_used) (pc := 34) 4 dX7_used_34 rfl ?_
      exact id
    · refine tt_iinc (M := MX7_used) (pc := 28) [some (.ref a0), some (.int (I (l1 + 1))), some (.int (I l2))] dX7_used_28 rfl rfl ?_
      refine tt_iinc (M := MX7_used) (pc := 31) [some (.ref a0), some (.int (I (l1 + 1))), some (.int (I (l2 + 1)))] dX7_used_31 rfl rfl ?_
      refine tt_goto (M := MX7_used) (pc := 34) 4 dX7_used_34 rfl ?_
      exact id
theorem qX7_mergedFrames_0 {sc : Nat × (Nat → Int32)} {SH : List mCell} {S : mStore} {r : mR × mW} {a0 : Nat} (h0 : sState SH a0) {u1 : Option Value} {u2 : Option Value} : (G sc MX7_mergedFrames 4 [some (.ref a0), some (.int (I 0)), some (.int (I 0))] [] SH S r) → G sc MX7_mergedFrames 0 [some (.ref a0), u1, u2] [] SH S r := by
  refine tt_iconst (M := MX7_mergedFrames) (pc := 0) dX7_mergedFrames_0 ?_
  refine tt_st (M := MX7_mergedFrames) (pc := 1) [some (.ref a0), some (.int (I 0)), u2] dX7_mergedFrames_1 rfl rfl rfl rfl rfl rfl ?_
  refine tt_iconst (M := MX7_mergedFrames) (pc := 2) dX7_mergedFrames_2 ?_
  refine tt_st (M := MX7_mergedFrames) (pc := 3) [some (.ref a0), some (.int (I 0)), some (.int (I 0))] dX7_mergedFrames_3 rfl rfl rfl rfl rfl rfl ?_
  exact id
theorem qX7_mergedFrames_4 {sc : Nat × (Nat → Int32)} {SH : List mCell} {S : mStore} {r : mR × mW} {a0 : Nat} (h0 : sState SH a0) {l1 : Int} {l2 : Int} : ((if I (S 1 0) ≤ I l2 then r = rI l1 SH S else (((0 : Int) ≤ l2 ∧ l2 < 48) ∧ (if I (S (a0 + 6) l2) = I (-1) then G sc MX7_mergedFrames 4 [some (.ref a0), some (.int (I l1)), some (.int (I (l2 + 1)))] [] SH S r else G sc MX7_mergedFrames 4 [some (.ref a0), some (.int (I (l1 + 1))), some (.int (I (l2 + 1)))] [] SH S r)))) → G sc MX7_mergedFrames 4 [some (.ref a0), some (.int (I l1)), some (.int (I l2))] [] SH S r := by
  refine tt_ld (M := MX7_mergedFrames) (pc := 4) dX7_mergedFrames_4 rfl rfl rfl rfl rfl ?_
  refine tt_ld (M := MX7_mergedFrames) (pc := 5) dX7_mergedFrames_5 rfl rfl rfl rfl rfl ?_
  refine tt_getR (M := MX7_mergedFrames) (pc := 6) dX7_mergedFrames_6 rfl h0.1 rfl ?_
  refine tt_getI (M := MX7_mergedFrames) (pc := 9) dX7_mergedFrames_9 rfl h0.2.2.2.2.2.2.2.2.2.2.2.2.1 rfl ?_
  refine tt_ic_ge (M := MX7_mergedFrames) (pc := 12) 37 dX7_mergedFrames_12 rfl ?_ ?_
  · refine tt_ld (M := MX7_mergedFrames) (pc := 37) dX7_mergedFrames_37 rfl rfl rfl rfl rfl ?_
    exact tt_iret (M := MX7_mergedFrames) (pc := 38) dX7_mergedFrames_38 rfl
  · refine tt_ld (M := MX7_mergedFrames) (pc := 15) dX7_mergedFrames_15 rfl rfl rfl rfl rfl ?_
    refine tt_getR (M := MX7_mergedFrames) (pc := 16) dX7_mergedFrames_16 rfl h0.1 rfl ?_
    refine tt_getR (M := MX7_mergedFrames) (pc := 19) dX7_mergedFrames_19 rfl h0.2.2.1.1 rfl ?_
    refine tt_ld (M := MX7_mergedFrames) (pc := 22) dX7_mergedFrames_22 rfl rfl rfl rfl rfl ?_
    refine tt_iaload (M := MX7_mergedFrames) (pc := 23) dX7_mergedFrames_23 h0.2.2.1.2.1 rfl ?_
    refine tt_iconst (M := MX7_mergedFrames) (pc := 24) dX7_mergedFrames_24 ?_
    refine tt_ic_eq (M := MX7_mergedFrames) (pc := 25) 31 dX7_mergedFrames_25 rfl ?_ ?_
    · refine tt_iinc (M := MX7_mergedFrames) (pc := 31) [some (.ref a0), some (.int (I l1)), some (.int (I (l2 + 1)))] dX7_mergedFrames_31 rfl rfl ?_
      refine tt_goto (M := MX7_mergedFrames) (pc := 34) 4 dX7_mergedFrames_34 rfl ?_
      exact id
    · refine tt_iinc (M := MX7_mergedFrames) (pc := 28) [some (.ref a0), some (.int (I (l1 + 1))), some (.int (I l2))] dX7_mergedFrames_28 rfl rfl ?_
      refine tt_iinc (M := MX7_mergedFrames) (pc := 31) [some (.ref a0), some (.int (I (l1 + 1))), some (.int (I (l2 + 1)))] dX7_mergedFrames_31 rfl rfl ?_
      refine tt_goto (M := MX7_mergedFrames) (pc := 34) 4 dX7_mergedFrames_34 rfl ?_
      exact id
theorem qX7_mergedPages_0 {sc : Nat × (Nat → Int32)} {SH : List mCell} {S : mStore} {r : mR × mW} {a0 : Nat} (h0 : sState SH a0) {l1 : Int} {l2 : Int} {u3 : Option Value} {u4 : Option Value} : (G sc MX7_mergedPages 5 [some (.ref a0), some (.int (I l1)), some (.int (I l2)), some (.int (I 0)), some (.int (I l1))] [] SH S r) → G sc MX7_mergedPages 0 [some (.ref a0), some (.int (I l1)), some (.int (I l2)), u3, u4] [] SH S r := by
  refine tt_iconst (M := MX7_mergedPages) (pc := 0) dX7_mergedPages_0 ?_
  refine tt_st (M := MX7_mergedPages) (pc := 1) [some (.ref a0), some (.int (I l1)), some (.int (I l2)), some (.int (I 0)), u4] dX7_mergedPages_1 rfl rfl rfl rfl rfl rfl ?_
  refine tt_ld (M := MX7_mergedPages) (pc := 2) dX7_mergedPages_2 rfl rfl rfl rfl rfl ?_
  refine tt_st (M := MX7_mergedPages) (pc := 3) [some (.ref a0), some (.int (I l1)), some (.int (I l2)), some (.int (I 0)), some (.int (I l1))] dX7_mergedPages_3 rfl rfl rfl rfl rfl rfl ?_
  exact id
theorem qX7_mergedPages_5 {sc : Nat × (Nat → Int32)} {SH : List mCell} {S : mStore} {r : mR × mW} {a0 : Nat} (h0 : sState SH a0) {l1 : Int} {l2 : Int} {l3 : Int} {l4 : Int} : ((if I l2 ≤ I l4 then r = rI l3 SH S else (∃ v101 S102, G sc MX7_isMerged 0 [some (.ref a0), some (.int (I l4)), none] [] SH S (rI v101 SH S102) ∧ (if I v101 = I 0 then G sc MX7_mergedPages 5 [some (.ref a0), some (.int (I l1)), some (.int (I l2)), some (.int (I l3)), some (.int (I (l4 + 1)))] [] SH S102 r else G sc MX7_mergedPages 5 [some (.ref a0), some (.int (I l1)), some (.int (I l2)), some (.int (I (l3 + 1))), some (.int (I (l4 + 1)))] [] SH S102 r)))) → G sc MX7_mergedPages 5 [some (.ref a0), some (.int (I l1)), some (.int (I l2)), some (.int (I l3)), some (.int (I l4))] [] SH S r := by
  refine tt_ld (M := MX7_mergedPages) (pc := 5) dX7_mergedPages_5 rfl rfl rfl rfl rfl ?_
  refine tt_ld (M := MX7_mergedPages) (pc := 7) dX7_mergedPages_7 rfl rfl rfl rfl rfl ?_
  refine tt_ic_ge (M := MX7_mergedPages) (pc := 8) 29 dX7_mergedPages_8 rfl ?_ ?_
  · refine tt_ld (M := MX7_mergedPages) (pc := 29) dX7_mergedPages_29 rfl rfl rfl rfl rfl ?_
    exact tt_iret (M := MX7_mergedPages) (pc := 30) dX7_mergedPages_30 rfl
  · refine tt_ld (M := MX7_mergedPages) (pc := 11) dX7_mergedPages_11 rfl rfl rfl rfl rfl ?_
    refine tt_ld (M := MX7_mergedPages) (pc := 12) dX7_mergedPages_12 rfl rfl rfl rfl rfl ?_
    refine tt_vcIN (M := MX7_mergedPages) (pc := 14) dX7_mergedPages_14 rfl rfl [] rfl rfl ⟨rfl, by decide, Nat.le_of_ble_eq_true rfl⟩ h0.1 fun v101 S102 => ?_
    refine tt_if_eq (M := MX7_mergedPages) (pc := 17) 23 dX7_mergedPages_17 rfl ?_ ?_
    · refine tt_iinc (M := MX7_mergedPages) (pc := 23) [some (.ref a0), some (.int (I l1)), some (.int (I l2)), some (.int (I l3)), some (.int (I (l4 + 1)))] dX7_mergedPages_23 rfl rfl ?_
      refine tt_goto (M := MX7_mergedPages) (pc := 26) 5 dX7_mergedPages_26 rfl ?_
      exact id
    · refine tt_iinc (M := MX7_mergedPages) (pc := 20) [some (.ref a0), some (.int (I l1)), some (.int (I l2)), some (.int (I (l3 + 1))), some (.int (I l4))] dX7_mergedPages_20 rfl rfl ?_
      refine tt_iinc (M := MX7_mergedPages) (pc := 23) [some (.ref a0), some (.int (I l1)), some (.int (I l2)), some (.int (I (l3 + 1))), some (.int (I (l4 + 1)))] dX7_mergedPages_23 rfl rfl ?_
      refine tt_goto (M := MX7_mergedPages) (pc := 26) 5 dX7_mergedPages_26 rfl ?_
      exact id
theorem qX7_absentPages_0 {sc : Nat × (Nat → Int32)} {SH : List mCell} {S : mStore} {r : mR × mW} {a0 : Nat} (h0 : sState SH a0) {l1 : Int} {l2 : Int} {u3 : Option Value} {u4 : Option Value} : (G sc MX7_absentPages 5 [some (.ref a0), some (.int (I l1)), some (.int (I l2)), some (.int (I 0)), some (.int (I l1))] [] SH S r) → G sc MX7_absentPages 0 [some (.ref a0), some (.int (I l1)), some (.int (I l2)), u3, u4] [] SH S r := by
  refine tt_iconst (M := MX7_absentPages) (pc := 0) dX7_absentPages_0 ?_
  refine tt_st (M := MX7_absentPages) (pc := 1) [some (.ref a0), some (.int (I l1)), some (.int (I l2)), some (.int (I 0)), u4] dX7_absentPages_1 rfl rfl rfl rfl rfl rfl ?_
  refine tt_ld (M := MX7_absentPages) (pc := 2) dX7_absentPages_2 rfl rfl rfl rfl rfl ?_
  refine tt_st (M := MX7_absentPages) (pc := 3) [some (.ref a0), some (.int (I l1)), some (.int (I l2)), some (.int (I 0)), some (.int (I l1))] dX7_absentPages_3 rfl rfl rfl rfl rfl rfl ?_
  exact id
theorem qX7_absentPages_5 {sc : Nat × (Nat → Int32)} {SH : List mCell} {S : mStore} {r : mR × mW} {a0 : Nat} (h0 : sState SH a0) {l1 : Int} {l2 : Int} {l3 : Int} {l4 : Int} : ((if I l2 ≤ I l4 then r = rI l3 SH S else (((0 : Int) ≤ l4 ∧ l4 < 48) ∧ (if I (S (a0 + 2) l4) = I (-1) then G sc MX7_absentPages 5 [some (.ref a0), some (.int (I l1)), some (.int (I l2)), some (.int (I (l3 + 1))), some (.int (I (l4 + 1)))] [] SH S r else G sc MX7_absentPages 5 [some (.ref a0), some (.int (I l1)), some (.int (I l2)), some (.int (I l3)), some (.int (I (l4 + 1)))] [] SH S r)))) → G sc MX7_absentPages 5 [some (.ref a0), some (.int (I l1)), some (.int (I l2)), some (.int (I l3)), some (.int (I l4))] [] SH S r := by
  refine tt_ld (M := MX7_absentPages) (pc := 5) dX7_absentPages_5 rfl rfl rfl rfl rfl ?_
  refine tt_ld (M := MX7_absentPages) (pc := 7) dX7_absentPages_7 rfl rfl rfl rfl rfl ?_
  refine tt_ic_ge (M := MX7_absentPages) (pc := 8) 34 dX7_absentPages_8 rfl ?_ ?_
  · refine tt_ld (M := MX7_absentPages) (pc := 34) dX7_absentPages_34 rfl rfl rfl rfl rfl ?_
    exact tt_iret (M := MX7_absentPages) (pc := 35) dX7_absentPages_35 rfl
  · refine tt_ld (M := MX7_absentPages) (pc := 11) dX7_absentPages_11 rfl rfl rfl rfl rfl ?_
    refine tt_getR (M := MX7_absentPages) (pc := 12) dX7_absentPages_12 rfl h0.1 rfl ?_
    refine tt_getR (M := MX7_absentPages) (pc := 15) dX7_absentPages_15 rfl h0.2.1.1 rfl ?_
    refine tt_ld (M := MX7_absentPages) (pc := 18) dX7_absentPages_18 rfl rfl rfl rfl rfl ?_
    refine tt_iaload (M := MX7_absentPages) (pc := 20) dX7_absentPages_20 h0.2.1.2.1 rfl ?_
    refine tt_iconst (M := MX7_absentPages) (pc := 21) dX7_absentPages_21 ?_
    refine tt_ic_ne (M := MX7_absentPages) (pc := 22) 28 dX7_absentPages_22 rfl ?_ ?_
    · refine tt_iinc (M := MX7_absentPages) (pc := 28) [some (.ref a0), some (.int (I l1)), some (.int (I l2)), some (.int (I l3)), some (.int (I (l4 + 1)))] dX7_absentPages_28 rfl rfl ?_
      refine tt_goto (M := MX7_absentPages) (pc := 31) 5 dX7_absentPages_31 rfl ?_
      exact id
    · refine tt_iinc (M := MX7_absentPages) (pc := 25) [some (.ref a0), some (.int (I l1)), some (.int (I l2)), some (.int (I (l3 + 1))), some (.int (I l4))] dX7_absentPages_25 rfl rfl ?_
      refine tt_iinc (M := MX7_absentPages) (pc := 28) [some (.ref a0), some (.int (I l1)), some (.int (I l2)), some (.int (I (l3 + 1))), some (.int (I (l4 + 1)))] dX7_absentPages_28 rfl rfl ?_
      refine tt_goto (M := MX7_absentPages) (pc := 31) 5 dX7_absentPages_31 rfl ?_
      exact id
theorem qX7_advisedPages_0 {sc : Nat × (Nat → Int32)} {SH : List mCell} {S : mStore} {r : mR × mW} {a0 : Nat} (h0 : sState SH a0) {l1 : Int} {l2 : Int} {u3 : Option Value} {u4 : Option Value} : (G sc MX7_advisedPages 5 [some (.ref a0), some (.int (I l1)), some (.int (I l2)), some (.int (I 0)), some (.int (I l1))] [] SH S r) → G sc MX7_advisedPages 0 [some (.ref a0), some (.int (I l1)), some (.int (I l2)), u3, u4] [] SH S r := by
  refine tt_iconst (M := MX7_advisedPages) (pc := 0) dX7_advisedPages_0 ?_
  refine tt_st (M := MX7_advisedPages) (pc := 1) [some (.ref a0), some (.int (I l1)), some (.int (I l2)), some (.int (I 0)), u4] dX7_advisedPages_1 rfl rfl rfl rfl rfl rfl ?_
  refine tt_ld (M := MX7_advisedPages) (pc := 2) dX7_advisedPages_2 rfl rfl rfl rfl rfl ?_
  refine tt_st (M := MX7_advisedPages) (pc := 3) [some (.ref a0), some (.int (I l1)), some (.int (I l2)), some (.int (I 0)), some (.int (I l1))] dX7_advisedPages_3 rfl rfl rfl rfl rfl rfl ?_
  exact id
theorem qX7_advisedPages_5 {sc : Nat × (Nat → Int32)} {SH : List mCell} {S : mStore} {r : mR × mW} {a0 : Nat} (h0 : sState SH a0) {l1 : Int} {l2 : Int} {l3 : Int} {l4 : Int} : ((if I l2 ≤ I l4 then r = rI l3 SH S else (((0 : Int) ≤ l4 ∧ l4 < 48) ∧ (if I (S (a0 + 14) l4) = I 1 then G sc MX7_advisedPages 5 [some (.ref a0), some (.int (I l1)), some (.int (I l2)), some (.int (I (l3 + 1))), some (.int (I (l4 + 1)))] [] SH S r else G sc MX7_advisedPages 5 [some (.ref a0), some (.int (I l1)), some (.int (I l2)), some (.int (I l3)), some (.int (I (l4 + 1)))] [] SH S r)))) → G sc MX7_advisedPages 5 [some (.ref a0), some (.int (I l1)), some (.int (I l2)), some (.int (I l3)), some (.int (I l4))] [] SH S r := by
  refine tt_ld (M := MX7_advisedPages) (pc := 5) dX7_advisedPages_5 rfl rfl rfl rfl rfl ?_
  refine tt_ld (M := MX7_advisedPages) (pc := 7) dX7_advisedPages_7 rfl rfl rfl rfl rfl ?_
  refine tt_ic_ge (M := MX7_advisedPages) (pc := 8) 31 dX7_advisedPages_8 rfl ?_ ?_
  · refine tt_ld (M := MX7_advisedPages) (pc := 31) dX7_advisedPages_31 rfl rfl rfl rfl rfl ?_
    exact tt_iret (M := MX7_advisedPages) (pc := 32) dX7_advisedPages_32 rfl
  · refine tt_ld (M := MX7_advisedPages) (pc := 11) dX7_advisedPages_11 rfl rfl rfl rfl rfl ?_
    refine tt_getR (M := MX7_advisedPages) (pc := 12) dX7_advisedPages_12 rfl h0.1 rfl ?_
    refine tt_ld (M := MX7_advisedPages) (pc := 15) dX7_advisedPages_15 rfl rfl rfl rfl rfl ?_
    refine tt_iaload (M := MX7_advisedPages) (pc := 17) dX7_advisedPages_17 h0.2.2.2.2.2.2.1 rfl ?_
    refine tt_iconst (M := MX7_advisedPages) (pc := 18) dX7_advisedPages_18 ?_
    refine tt_ic_ne (M := MX7_advisedPages) (pc := 19) 25 dX7_advisedPages_19 rfl ?_ ?_
    · refine tt_iinc (M := MX7_advisedPages) (pc := 25) [some (.ref a0), some (.int (I l1)), some (.int (I l2)), some (.int (I l3)), some (.int (I (l4 + 1)))] dX7_advisedPages_25 rfl rfl ?_
      refine tt_goto (M := MX7_advisedPages) (pc := 28) 5 dX7_advisedPages_28 rfl ?_
      exact id
    · refine tt_iinc (M := MX7_advisedPages) (pc := 22) [some (.ref a0), some (.int (I l1)), some (.int (I l2)), some (.int (I (l3 + 1))), some (.int (I l4))] dX7_advisedPages_22 rfl rfl ?_
      refine tt_iinc (M := MX7_advisedPages) (pc := 25) [some (.ref a0), some (.int (I l1)), some (.int (I l2)), some (.int (I (l3 + 1))), some (.int (I (l4 + 1)))] dX7_advisedPages_25 rfl rfl ?_
      refine tt_goto (M := MX7_advisedPages) (pc := 28) 5 dX7_advisedPages_28 rfl ?_
      exact id
theorem qX7_framesOf_0 {sc : Nat × (Nat → Int32)} {SH : List mCell} {S : mStore} {r : mR × mW} {a0 : Nat} (h0 : sState SH a0) {l1 : Int} {l2 : Int} {u3 : Option Value} {u4 : Option Value} {u5 : Option Value} : (G sc MX7_framesOf 5 [some (.ref a0), some (.int (I l1)), some (.int (I l2)), some (.long 0), none, some (.int (I l1))] [] SH S r) → G sc MX7_framesOf 0 [some (.ref a0), some (.int (I l1)), some (.int (I l2)), u3, u4, u5] [] SH S r := by
  refine tt_pushv (M := MX7_framesOf) (pc := 0) (.long 0) dX7_framesOf_0 rfl rfl ?_
  refine tt_st (M := MX7_framesOf) (pc := 1) [some (.ref a0), some (.int (I l1)), some (.int (I l2)), some (.long 0), none, u5] dX7_framesOf_1 rfl rfl rfl rfl rfl rfl ?_
  refine tt_ld (M := MX7_framesOf) (pc := 2) dX7_framesOf_2 rfl rfl rfl rfl rfl ?_
  refine tt_st (M := MX7_framesOf) (pc := 3) [some (.ref a0), some (.int (I l1)), some (.int (I l2)), some (.long 0), none, some (.int (I l1))] dX7_framesOf_3 rfl rfl rfl rfl rfl rfl ?_
  exact id
theorem qX7_framesOf_5 {sc : Nat × (Nat → Int32)} {SH : List mCell} {S : mStore} {r : mR × mW} {a0 : Nat} (h0 : sState SH a0) {l1 : Int} {l2 : Int} {j3 : Int64} {l5 : Int} : ((if I l2 ≤ I l5 then (∃ v101 S102, G sc MJ13_bitCount_95d88 0 [some (.long j3), none] [] SH S (rI v101 SH S102) ∧ r = rI v101 SH S102) else (((0 : Int) ≤ l5 ∧ l5 < 48) ∧ (if I (S (a0 + 2) l5) = I (-1) then G sc MX7_framesOf 5 [some (.ref a0), some (.int (I l1)), some (.int (I l2)), some (.long j3), none, some (.int (I (l5 + 1)))] [] SH S r else (((0 : Int) ≤ l5 ∧ l5 < 48) ∧ G sc MX7_framesOf 5 [some (.ref a0), some (.int (I l1)), some (.int (I l2)), some (.long (j3 ||| (jsl 1 (S (a0 + 2) l5)))), none, some (.int (I (l5 + 1)))] [] SH S r))))) → G sc MX7_framesOf 5 [some (.ref a0), some (.int (I l1)), some (.int (I l2)), some (.long j3), none, some (.int (I l5))] [] SH S r := by
  refine tt_ld (M := MX7_framesOf) (pc := 5) dX7_framesOf_5 rfl rfl rfl rfl rfl ?_
  refine tt_ld (M := MX7_framesOf) (pc := 7) dX7_framesOf_7 rfl rfl rfl rfl rfl ?_
  refine tt_ic_ge (M := MX7_framesOf) (pc := 8) 46 dX7_framesOf_8 rfl ?_ ?_
  · refine tt_ld (M := MX7_framesOf) (pc := 46) dX7_framesOf_46 rfl rfl rfl rfl rfl ?_
    refine tt_scIN (M := MX7_framesOf) (pc := 47) dX7_framesOf_47 rfl [] rfl rfl ⟨rfl, by decide, Nat.le_of_ble_eq_true rfl⟩ fun v101 S102 => ?_
    exact tt_iret (M := MX7_framesOf) (pc := 50) dX7_framesOf_50 rfl
  · refine tt_ld (M := MX7_framesOf) (pc := 11) dX7_framesOf_11 rfl rfl rfl rfl rfl ?_
    refine tt_getR (M := MX7_framesOf) (pc := 12) dX7_framesOf_12 rfl h0.1 rfl ?_
    refine tt_getR (M := MX7_framesOf) (pc := 15) dX7_framesOf_15 rfl h0.2.1.1 rfl ?_
    refine tt_ld (M := MX7_framesOf) (pc := 18) dX7_framesOf_18 rfl rfl rfl rfl rfl ?_
    refine tt_iaload (M := MX7_framesOf) (pc := 20) dX7_framesOf_20 h0.2.1.2.1 rfl ?_
    refine tt_iconst (M := MX7_framesOf) (pc := 21) dX7_framesOf_21 ?_
    refine tt_ic_eq (M := MX7_framesOf) (pc := 22) 40 dX7_framesOf_22 rfl ?_ ?_
    · refine tt_iinc (M := MX7_framesOf) (pc := 40) [some (.ref a0), some (.int (I l1)), some (.int (I l2)), some (.long j3), none, some (.int (I (l5 + 1)))] dX7_framesOf_40 rfl rfl ?_
      refine tt_goto (M := MX7_framesOf) (pc := 43) 5 dX7_framesOf_43 rfl ?_
      exact id
    · refine tt_ld (M := MX7_framesOf) (pc := 25) dX7_framesOf_25 rfl rfl rfl rfl rfl ?_
      refine tt_pushv (M := MX7_framesOf) (pc := 26) (.long 1) dX7_framesOf_26 rfl rfl ?_
      refine tt_ld (M := MX7_framesOf) (pc := 27) dX7_framesOf_27 rfl rfl rfl rfl rfl ?_
      refine tt_getR (M := MX7_framesOf) (pc := 28) dX7_framesOf_28 rfl h0.1 rfl ?_
      refine tt_getR (M := MX7_framesOf) (pc := 31) dX7_framesOf_31 rfl h0.2.1.1 rfl ?_
      refine tt_ld (M := MX7_framesOf) (pc := 34) dX7_framesOf_34 rfl rfl rfl rfl rfl ?_
      refine tt_iaload (M := MX7_framesOf) (pc := 36) dX7_framesOf_36 h0.2.1.2.1 rfl ?_
      refine tt_lshl (M := MX7_framesOf) (pc := 37) dX7_framesOf_37 ?_
      refine tt_lor (M := MX7_framesOf) (pc := 38) dX7_framesOf_38 ?_
      refine tt_st (M := MX7_framesOf) (pc := 39) [some (.ref a0), some (.int (I l1)), some (.int (I l2)), some (.long (j3 ||| (jsl 1 (S (a0 + 2) l5)))), none, some (.int (I l5))] dX7_framesOf_39 rfl rfl rfl rfl rfl rfl ?_
      refine tt_iinc (M := MX7_framesOf) (pc := 40) [some (.ref a0), some (.int (I l1)), some (.int (I l2)), some (.long (j3 ||| (jsl 1 (S (a0 + 2) l5)))), none, some (.int (I (l5 + 1)))] dX7_framesOf_40 rfl rfl ?_
      refine tt_goto (M := MX7_framesOf) (pc := 43) 5 dX7_framesOf_43 rfl ?_
      exact id
theorem qX7_isMerged_0 {sc : Nat × (Nat → Int32)} {SH : List mCell} {S : mStore} {r : mR × mW} {a0 : Nat} (h0 : sState SH a0) {l1 : Int} {u2 : Option Value} : ((((0 : Int) ≤ l1 ∧ l1 < 48) ∧ (if I (S (a0 + 2) l1) = I (-1) then ((I 0 = I 0 ∨ I 0 = I 1) ∧ r = rI 0 SH S) else (((0 : Int) ≤ S (a0 + 2) l1 ∧ S (a0 + 2) l1 < 48) ∧ (if I (S (a0 + 6) (S (a0 + 2) l1)) = I (-1) then ((I 0 = I 0 ∨ I 0 = I 1) ∧ r = rI 0 SH S) else ((I 1 = I 0 ∨ I 1 = I 1) ∧ r = rI 1 SH S)))))) → G sc MX7_isMerged 0 [some (.ref a0), some (.int (I l1)), u2] [] SH S r := by
  refine tt_ld (M := MX7_isMerged) (pc := 0) dX7_isMerged_0 rfl rfl rfl rfl rfl ?_
  refine tt_getR (M := MX7_isMerged) (pc := 1) dX7_isMerged_1 rfl h0.1 rfl ?_
  refine tt_getR (M := MX7_isMerged) (pc := 4) dX7_isMerged_4 rfl h0.2.1.1 rfl ?_
  refine tt_ld (M := MX7_isMerged) (pc := 7) dX7_isMerged_7 rfl rfl rfl rfl rfl ?_
  refine tt_iaload (M := MX7_isMerged) (pc := 8) dX7_isMerged_8 h0.2.1.2.1 rfl ?_
  refine tt_st (M := MX7_isMerged) (pc := 9) [some (.ref a0), some (.int (I l1)), some (.int (I (S (a0 + 2) l1)))] dX7_isMerged_9 rfl rfl rfl rfl rfl rfl ?_
  refine tt_ld (M := MX7_isMerged) (pc := 10) dX7_isMerged_10 rfl rfl rfl rfl rfl ?_
  refine tt_iconst (M := MX7_isMerged) (pc := 11) dX7_isMerged_11 ?_
  refine tt_ic_eq (M := MX7_isMerged) (pc := 12) 32 dX7_isMerged_12 rfl ?_ ?_
  · refine tt_iconst (M := MX7_isMerged) (pc := 32) dX7_isMerged_32 ?_
    exact tt_zret (M := MX7_isMerged) (pc := 33) dX7_isMerged_33 rfl
  · refine tt_ld (M := MX7_isMerged) (pc := 15) dX7_isMerged_15 rfl rfl rfl rfl rfl ?_
    refine tt_getR (M := MX7_isMerged) (pc := 16) dX7_isMerged_16 rfl h0.1 rfl ?_
    refine tt_getR (M := MX7_isMerged) (pc := 19) dX7_isMerged_19 rfl h0.2.2.1.1 rfl ?_
    refine tt_ld (M := MX7_isMerged) (pc := 22) dX7_isMerged_22 rfl rfl rfl rfl rfl ?_
    refine tt_iaload (M := MX7_isMerged) (pc := 23) dX7_isMerged_23 h0.2.2.1.2.1 rfl ?_
    refine tt_iconst (M := MX7_isMerged) (pc := 24) dX7_isMerged_24 ?_
    refine tt_ic_eq (M := MX7_isMerged) (pc := 25) 32 dX7_isMerged_25 rfl ?_ ?_
    · refine tt_iconst (M := MX7_isMerged) (pc := 32) dX7_isMerged_32 ?_
      exact tt_zret (M := MX7_isMerged) (pc := 33) dX7_isMerged_33 rfl
    · refine tt_iconst (M := MX7_isMerged) (pc := 28) dX7_isMerged_28 ?_
      refine tt_goto (M := MX7_isMerged) (pc := 29) 33 dX7_isMerged_29 rfl ?_
      exact tt_zret (M := MX7_isMerged) (pc := 33) dX7_isMerged_33 rfl
theorem qX7_cellsAt_0 {sc : Nat × (Nat → Int32)} {SH : List mCell} {S : mStore} {r : mR × mW} {a0 : Nat} (h0 : sState SH a0) {l1 : Int} {u2 : Option Value} : ((((0 : Int) ≤ l1 ∧ l1 < 48) ∧ (if I (S (a0 + 2) l1) = I (-1) then r = rI 0 SH S else (((0 : Int) ≤ S (a0 + 2) l1 ∧ S (a0 + 2) l1 < 48) ∧ r = rI (S (a0 + 13) (S (a0 + 2) l1)) SH S)))) → G sc MX7_cellsAt 0 [some (.ref a0), some (.int (I l1)), u2] [] SH S r := by
  refine tt_ld (M := MX7_cellsAt) (pc := 0) dX7_cellsAt_0 rfl rfl rfl rfl rfl ?_
  refine tt_getR (M := MX7_cellsAt) (pc := 1) dX7_cellsAt_1 rfl h0.1 rfl ?_
  refine tt_getR (M := MX7_cellsAt) (pc := 4) dX7_cellsAt_4 rfl h0.2.1.1 rfl ?_
  refine tt_ld (M := MX7_cellsAt) (pc := 7) dX7_cellsAt_7 rfl rfl rfl rfl rfl ?_
  refine tt_iaload (M := MX7_cellsAt) (pc := 8) dX7_cellsAt_8 h0.2.1.2.1 rfl ?_
  refine tt_st (M := MX7_cellsAt) (pc := 9) [some (.ref a0), some (.int (I l1)), some (.int (I (S (a0 + 2) l1)))] dX7_cellsAt_9 rfl rfl rfl rfl rfl rfl ?_
  refine tt_ld (M := MX7_cellsAt) (pc := 10) dX7_cellsAt_10 rfl rfl rfl rfl rfl ?_
  refine tt_iconst (M := MX7_cellsAt) (pc := 11) dX7_cellsAt_11 ?_
  refine tt_ic_ne (M := MX7_cellsAt) (pc := 12) 19 dX7_cellsAt_12 rfl ?_ ?_
  · refine tt_ld (M := MX7_cellsAt) (pc := 19) dX7_cellsAt_19 rfl rfl rfl rfl rfl ?_
    refine tt_getR (M := MX7_cellsAt) (pc := 20) dX7_cellsAt_20 rfl h0.1 rfl ?_
    refine tt_ld (M := MX7_cellsAt) (pc := 23) dX7_cellsAt_23 rfl rfl rfl rfl rfl ?_
    refine tt_iaload (M := MX7_cellsAt) (pc := 24) dX7_cellsAt_24 h0.2.2.2.2.2.1 rfl ?_
    exact tt_iret (M := MX7_cellsAt) (pc := 25) dX7_cellsAt_25 rfl
  · refine tt_iconst (M := MX7_cellsAt) (pc := 15) dX7_cellsAt_15 ?_
    refine tt_goto (M := MX7_cellsAt) (pc := 16) 25 dX7_cellsAt_16 rfl ?_
    exact tt_iret (M := MX7_cellsAt) (pc := 25) dX7_cellsAt_25 rfl
theorem qX7_freeFrame_0 {sc : Nat × (Nat → Int32)} {SH : List mCell} {S : mStore} {r : mR × mW} {a0 : Nat} (h0 : sState SH a0) {u1 : Option Value} : (G sc MX7_freeFrame 2 [some (.ref a0), some (.int (I 0))] [] SH S r) → G sc MX7_freeFrame 0 [some (.ref a0), u1] [] SH S r := by
  refine tt_iconst (M := MX7_freeFrame) (pc := 0) dX7_freeFrame_0 ?_
  refine tt_st (M := MX7_freeFrame) (pc := 1) [some (.ref a0), some (.int (I 0))] dX7_freeFrame_1 rfl rfl rfl rfl rfl rfl ?_
  exact id
theorem qX7_freeFrame_2 {sc : Nat × (Nat → Int32)} {SH : List mCell} {S : mStore} {r : mR × mW} {a0 : Nat} (h0 : sState SH a0) {l1 : Int} : ((if I (S 1 0) ≤ I l1 then r = rI (-1) SH S else (((0 : Int) ≤ l1 ∧ l1 < 48) ∧ (if I (S (a0 + 4) l1) = I (-1) then r = rI l1 SH S else G sc MX7_freeFrame 2 [some (.ref a0), some (.int (I (l1 + 1)))] [] SH S r)))) → G sc MX7_freeFrame 2 [some (.ref a0), some (.int (I l1))] [] SH S r := by
  refine tt_ld (M := MX7_freeFrame) (pc := 2) dX7_freeFrame_2 rfl rfl rfl rfl rfl ?_
  refine tt_ld (M := MX7_freeFrame) (pc := 3) dX7_freeFrame_3 rfl rfl rfl rfl rfl ?_
  refine tt_getR (M := MX7_freeFrame) (pc := 4) dX7_freeFrame_4 rfl h0.1 rfl ?_
  refine tt_getI (M := MX7_freeFrame) (pc := 7) dX7_freeFrame_7 rfl h0.2.2.2.2.2.2.2.2.2.2.2.2.1 rfl ?_
  refine tt_ic_ge (M := MX7_freeFrame) (pc := 10) 34 dX7_freeFrame_10 rfl ?_ ?_
  · refine tt_iconst (M := MX7_freeFrame) (pc := 34) dX7_freeFrame_34 ?_
    exact tt_iret (M := MX7_freeFrame) (pc := 35) dX7_freeFrame_35 rfl
  · refine tt_ld (M := MX7_freeFrame) (pc := 13) dX7_freeFrame_13 rfl rfl rfl rfl rfl ?_
    refine tt_getR (M := MX7_freeFrame) (pc := 14) dX7_freeFrame_14 rfl h0.1 rfl ?_
    refine tt_getR (M := MX7_freeFrame) (pc := 17) dX7_freeFrame_17 rfl h0.2.1.1 rfl ?_
    refine tt_ld (M := MX7_freeFrame) (pc := 20) dX7_freeFrame_20 rfl rfl rfl rfl rfl ?_
    refine tt_iaload (M := MX7_freeFrame) (pc := 21) dX7_freeFrame_21 h0.2.1.2.2.2 rfl ?_
    refine tt_iconst (M := MX7_freeFrame) (pc := 22) dX7_freeFrame_22 ?_
    refine tt_ic_ne (M := MX7_freeFrame) (pc := 23) 28 dX7_freeFrame_23 rfl ?_ ?_
    · refine tt_iinc (M := MX7_freeFrame) (pc := 28) [some (.ref a0), some (.int (I (l1 + 1)))] dX7_freeFrame_28 rfl rfl ?_
      refine tt_goto (M := MX7_freeFrame) (pc := 31) 2 dX7_freeFrame_31 rfl ?_
      exact id
    · refine tt_ld (M := MX7_freeFrame) (pc := 26) dX7_freeFrame_26 rfl rfl rfl rfl rfl ?_
      exact tt_iret (M := MX7_freeFrame) (pc := 27) dX7_freeFrame_27 rfl
theorem qX7_put_0 {sc : Nat × (Nat → Int32)} {SH : List mCell} {S : mStore} {r : mR × mW} {a0 : Nat} (h0 : sState SH a0) {l1 : Int} {l2 : Int} {u3 : Option Value} {u4 : Option Value} : ((∃ v101 S102, G sc MX7_makeOwn 0 [some (.ref a0), some (.int (I l1)), none, none] [] SH S (rI v101 SH S102) ∧ (((0 : Int) ≤ l1 ∧ l1 < 48) ∧ (if I v101 = I (-1) then r = rI v101 SH S102 else (if I (S102 (a0 + 2) l1) = I (-1) then r = rI v101 SH S102 else (((0 : Int) ≤ S102 (a0 + 2) l1 ∧ S102 (a0 + 2) l1 < 48) ∧ r = rI v101 SH (up S102 (a0 + 13) (S102 (a0 + 2) l1) l2))))))) → G sc MX7_put 0 [some (.ref a0), some (.int (I l1)), some (.int (I l2)), u3, u4] [] SH S r := by
  refine tt_ld (M := MX7_put) (pc := 0) dX7_put_0 rfl rfl rfl rfl rfl ?_
  refine tt_ld (M := MX7_put) (pc := 1) dX7_put_1 rfl rfl rfl rfl rfl ?_
  refine tt_vcIN (M := MX7_put) (pc := 2) dX7_put_2 rfl rfl [] rfl rfl ⟨rfl, by decide, Nat.le_of_ble_eq_true rfl⟩ h0.1 fun v101 S102 => ?_
  refine tt_st (M := MX7_put) (pc := 5) [some (.ref a0), some (.int (I l1)), some (.int (I l2)), some (.int (I v101)), u4] dX7_put_5 rfl rfl rfl rfl rfl rfl ?_
  refine tt_ld (M := MX7_put) (pc := 6) dX7_put_6 rfl rfl rfl rfl rfl ?_
  refine tt_getR (M := MX7_put) (pc := 7) dX7_put_7 rfl h0.1 rfl ?_
  refine tt_getR (M := MX7_put) (pc := 10) dX7_put_10 rfl h0.2.1.1 rfl ?_
  refine tt_ld (M := MX7_put) (pc := 13) dX7_put_13 rfl rfl rfl rfl rfl ?_
  refine tt_iaload (M := MX7_put) (pc := 14) dX7_put_14 h0.2.1.2.1 rfl ?_
  refine tt_st (M := MX7_put) (pc := 15) [some (.ref a0), some (.int (I l1)), some (.int (I l2)), some (.int (I v101)), some (.int (I (S102 (a0 + 2) l1)))] dX7_put_15 rfl rfl rfl rfl rfl rfl ?_
  refine tt_ld (M := MX7_put) (pc := 17) dX7_put_17 rfl rfl rfl rfl rfl ?_
  refine tt_iconst (M := MX7_put) (pc := 18) dX7_put_18 ?_
  refine tt_ic_eq (M := MX7_put) (pc := 19) 36 dX7_put_19 rfl ?_ ?_
  · refine tt_ld (M := MX7_put) (pc := 36) dX7_put_36 rfl rfl rfl rfl rfl ?_
    exact tt_iret (M := MX7_put) (pc := 37) dX7_put_37 rfl
  · refine tt_ld (M := MX7_put) (pc := 22) dX7_put_22 rfl rfl rfl rfl rfl ?_
    refine tt_iconst (M := MX7_put) (pc := 24) dX7_put_24 ?_
    refine tt_ic_eq (M := MX7_put) (pc := 25) 36 dX7_put_25 rfl ?_ ?_
    · refine tt_ld (M := MX7_put) (pc := 36) dX7_put_36 rfl rfl rfl rfl rfl ?_
      exact tt_iret (M := MX7_put) (pc := 37) dX7_put_37 rfl
    · refine tt_ld (M := MX7_put) (pc := 28) dX7_put_28 rfl rfl rfl rfl rfl ?_
      refine tt_getR (M := MX7_put) (pc := 29) dX7_put_29 rfl h0.1 rfl ?_
      refine tt_ld (M := MX7_put) (pc := 32) dX7_put_32 rfl rfl rfl rfl rfl ?_
      refine tt_ld (M := MX7_put) (pc := 34) dX7_put_34 rfl rfl rfl rfl rfl ?_
      refine tt_iastore (M := MX7_put) (pc := 35) dX7_put_35 h0.2.2.2.2.2.1 rfl ?_
      refine tt_ld (M := MX7_put) (pc := 36) dX7_put_36 rfl rfl rfl rfl rfl ?_
      exact tt_iret (M := MX7_put) (pc := 37) dX7_put_37 rfl
theorem qX7_putCell_0 {sc : Nat × (Nat → Int32)} {SH : List mCell} {S : mStore} {r : mR × mW} {a0 : Nat} (h0 : sState SH a0) {l1 : Int} {l2 : Int} {l3 : Int} {u4 : Option Value} : ((∃ v101 S102, G sc MX7_cellsAt 0 [some (.ref a0), some (.int (I l1)), none] [] SH S (rI v101 SH S102) ∧ (∃ v103 S104, G sc MX7_put 0 [some (.ref a0), some (.int (I l1)), some (.int (I (iro (ian v101 (ixr (isl 15 (12 - (4 * l2))) (-1))) (isl l3 (12 - (4 * l2)))))), none, none] [] SH S102 (rI v103 SH S104) ∧ r = rI v103 SH S104))) → G sc MX7_putCell 0 [some (.ref a0), some (.int (I l1)), some (.int (I l2)), some (.int (I l3)), u4] [] SH S r := by
  refine tt_bipush (M := MX7_putCell) (pc := 0) dX7_putCell_0 (by decide) ?_
  refine tt_iconst (M := MX7_putCell) (pc := 2) dX7_putCell_2 ?_
  refine tt_ld (M := MX7_putCell) (pc := 3) dX7_putCell_3 rfl rfl rfl rfl rfl ?_
  refine tt_imul (M := MX7_putCell) (pc := 4) dX7_putCell_4 ?_
  refine tt_isub (M := MX7_putCell) (pc := 5) dX7_putCell_5 ?_
  refine tt_st (M := MX7_putCell) (pc := 6) [some (.ref a0), some (.int (I l1)), some (.int (I l2)), some (.int (I l3)), some (.int (I (12 - (4 * l2))))] dX7_putCell_6 rfl rfl rfl rfl rfl rfl ?_
  refine tt_ld (M := MX7_putCell) (pc := 8) dX7_putCell_8 rfl rfl rfl rfl rfl ?_
  refine tt_ld (M := MX7_putCell) (pc := 9) dX7_putCell_9 rfl rfl rfl rfl rfl ?_
  refine tt_ld (M := MX7_putCell) (pc := 10) dX7_putCell_10 rfl rfl rfl rfl rfl ?_
  refine tt_ld (M := MX7_putCell) (pc := 11) dX7_putCell_11 rfl rfl rfl rfl rfl ?_
  refine tt_vcIN (M := MX7_putCell) (pc := 12) dX7_putCell_12 rfl rfl [.int (I l1), .ref a0] rfl rfl ⟨rfl, by decide, Nat.le_of_ble_eq_true rfl⟩ h0.1 fun v101 S102 => ?_
  refine tt_bipush (M := MX7_putCell) (pc := 15) dX7_putCell_15 (by decide) ?_
  refine tt_ld (M := MX7_putCell) (pc := 17) dX7_putCell_17 rfl rfl rfl rfl rfl ?_
  refine tt_ishl (M := MX7_putCell) (pc := 19) dX7_putCell_19 ?_
  refine tt_iconst (M := MX7_putCell) (pc := 20) dX7_putCell_20 ?_
  refine tt_ixor (M := MX7_putCell) (pc := 21) dX7_putCell_21 ?_
  refine tt_iand (M := MX7_putCell) (pc := 22) dX7_putCell_22 ?_
  refine tt_ld (M := MX7_putCell) (pc := 23) dX7_putCell_23 rfl rfl rfl rfl rfl ?_
  refine tt_ld (M := MX7_putCell) (pc := 24) dX7_putCell_24 rfl rfl rfl rfl rfl ?_
  refine tt_ishl (M := MX7_putCell) (pc := 26) dX7_putCell_26 ?_
  refine tt_ior (M := MX7_putCell) (pc := 27) dX7_putCell_27 ?_
  refine tt_vcIN (M := MX7_putCell) (pc := 28) dX7_putCell_28 rfl rfl [] rfl rfl ⟨rfl, by decide, Nat.le_of_ble_eq_true rfl⟩ h0.1 fun v103 S104 => ?_
  exact tt_iret (M := MX7_putCell) (pc := 31) dX7_putCell_31 rfl
theorem qX7_makeOwn_0 {sc : Nat × (Nat → Int32)} {SH : List mCell} {S : mStore} {r : mR × mW} {a0 : Nat} (h0 : sState SH a0) {l1 : Int} {u2 : Option Value} {u3 : Option Value} : ((((0 : Int) ≤ l1 ∧ l1 < 48) ∧ (if I (S (a0 + 2) l1) = I (-1) then (if I (S (a0 + 2) l1) = I (-1) then G sc MX7_makeOwn 54 [some (.ref a0), some (.int (I l1)), some (.int (I (S (a0 + 2) l1))), u3] [] SH S r else (∃ v101 S102, G sc MX6_sizeOf 0 [some (.ref (a0 + 1)), some (.int (I (S (a0 + 2) l1))), none, none] [] SH S (rI v101 SH S102) ∧ (if I v101 = I 1 then (∃ S103, G sc MX7_leaveKnot 0 [some (.ref a0), some (.int (I (S (a0 + 2) l1))), none] [] SH S102 (rV SH S103) ∧ r = rI 3 SH S103) else G sc MX7_makeOwn 54 [some (.ref a0), some (.int (I l1)), some (.int (I (S (a0 + 2) l1))), u3] [] SH S102 r))) else (((0 : Int) ≤ S (a0 + 2) l1 ∧ S (a0 + 2) l1 < 48) ∧ (if I (S (a0 + 6) (S (a0 + 2) l1)) = I (-1) then r = rI 0 SH S else (if I (S (a0 + 2) l1) = I (-1) then G sc MX7_makeOwn 54 [some (.ref a0), some (.int (I l1)), some (.int (I (S (a0 + 2) l1))), u3] [] SH S r else (∃ v104 S105, G sc MX6_sizeOf 0 [some (.ref (a0 + 1)), some (.int (I (S (a0 + 2) l1))), none, none] [] SH S (rI v104 SH S105) ∧ (if I v104 = I 1 then (∃ S106, G sc MX7_leaveKnot 0 [some (.ref a0), some (.int (I (S (a0 + 2) l1))), none] [] SH S105 (rV SH S106) ∧ r = rI 3 SH S106) else G sc MX7_makeOwn 54 [some (.ref a0), some (.int (I l1)), some (.int (I (S (a0 + 2) l1))), u3] [] SH S105 r)))))))) → G sc MX7_makeOwn 0 [some (.ref a0), some (.int (I l1)), u2, u3] [] SH S r := by
  refine tt_ld (M := MX7_makeOwn) (pc := 0) dX7_makeOwn_0 rfl rfl rfl rfl rfl ?_
  refine tt_getR (M := MX7_makeOwn) (pc := 1) dX7_makeOwn_1 rfl h0.1 rfl ?_
  refine tt_getR (M := MX7_makeOwn) (pc := 4) dX7_makeOwn_4 rfl h0.2.1.1 rfl ?_
  refine tt_ld (M := MX7_makeOwn) (pc := 7) dX7_makeOwn_7 rfl rfl rfl rfl rfl ?_
  refine tt_iaload (M := MX7_makeOwn) (pc := 8) dX7_makeOwn_8 h0.2.1.2.1 rfl ?_
  refine tt_st (M := MX7_makeOwn) (pc := 9) [some (.ref a0), some (.int (I l1)), some (.int (I (S (a0 + 2) l1))), u3] dX7_makeOwn_9 rfl rfl rfl rfl rfl rfl ?_
  refine tt_ld (M := MX7_makeOwn) (pc := 10) dX7_makeOwn_10 rfl rfl rfl rfl rfl ?_
  refine tt_iconst (M := MX7_makeOwn) (pc := 11) dX7_makeOwn_11 ?_
  refine tt_ic_eq (M := MX7_makeOwn) (pc := 12) 30 dX7_makeOwn_12 rfl ?_ ?_
  · refine tt_ld (M := MX7_makeOwn) (pc := 30) dX7_makeOwn_30 rfl rfl rfl rfl rfl ?_
    refine tt_iconst (M := MX7_makeOwn) (pc := 31) dX7_makeOwn_31 ?_
    refine tt_ic_eq (M := MX7_makeOwn) (pc := 32) 54 dX7_makeOwn_32 rfl ?_ ?_
    · exact id
    · refine tt_ld (M := MX7_makeOwn) (pc := 35) dX7_makeOwn_35 rfl rfl rfl rfl rfl ?_
      refine tt_getR (M := MX7_makeOwn) (pc := 36) dX7_makeOwn_36 rfl h0.1 rfl ?_
      refine tt_ld (M := MX7_makeOwn) (pc := 39) dX7_makeOwn_39 rfl rfl rfl rfl rfl ?_
      refine tt_vcIN (M := MX7_makeOwn) (pc := 40) dX7_makeOwn_40 rfl rfl [] rfl rfl ⟨rfl, by decide, Nat.le_of_ble_eq_true rfl⟩ h0.2.1.1 fun v101 S102 => ?_
      refine tt_iconst (M := MX7_makeOwn) (pc := 43) dX7_makeOwn_43 ?_
      refine tt_ic_ne (M := MX7_makeOwn) (pc := 44) 54 dX7_makeOwn_44 rfl ?_ ?_
      · exact id
      · refine tt_ld (M := MX7_makeOwn) (pc := 47) dX7_makeOwn_47 rfl rfl rfl rfl rfl ?_
        refine tt_ld (M := MX7_makeOwn) (pc := 48) dX7_makeOwn_48 rfl rfl rfl rfl rfl ?_
        refine tt_vcVN (M := MX7_makeOwn) (pc := 49) dX7_makeOwn_49 rfl rfl [] rfl rfl ⟨rfl, by decide, Nat.le_of_ble_eq_true rfl⟩ h0.1 fun S103 => ?_
        refine tt_iconst (M := MX7_makeOwn) (pc := 52) dX7_makeOwn_52 ?_
        exact tt_iret (M := MX7_makeOwn) (pc := 53) dX7_makeOwn_53 rfl
  · refine tt_ld (M := MX7_makeOwn) (pc := 15) dX7_makeOwn_15 rfl rfl rfl rfl rfl ?_
    refine tt_getR (M := MX7_makeOwn) (pc := 16) dX7_makeOwn_16 rfl h0.1 rfl ?_
    refine tt_getR (M := MX7_makeOwn) (pc := 19) dX7_makeOwn_19 rfl h0.2.2.1.1 rfl ?_
    refine tt_ld (M := MX7_makeOwn) (pc := 22) dX7_makeOwn_22 rfl rfl rfl rfl rfl ?_
    refine tt_iaload (M := MX7_makeOwn) (pc := 23) dX7_makeOwn_23 h0.2.2.1.2.1 rfl ?_
    refine tt_iconst (M := MX7_makeOwn) (pc := 24) dX7_makeOwn_24 ?_
    refine tt_ic_ne (M := MX7_makeOwn) (pc := 25) 30 dX7_makeOwn_25 rfl ?_ ?_
    · refine tt_ld (M := MX7_makeOwn) (pc := 30) dX7_makeOwn_30 rfl rfl rfl rfl rfl ?_
      refine tt_iconst (M := MX7_makeOwn) (pc := 31) dX7_makeOwn_31 ?_
      refine tt_ic_eq (M := MX7_makeOwn) (pc := 32) 54 dX7_makeOwn_32 rfl ?_ ?_
      · exact id
      · refine tt_ld (M := MX7_makeOwn) (pc := 35) dX7_makeOwn_35 rfl rfl rfl rfl rfl ?_
        refine tt_getR (M := MX7_makeOwn) (pc := 36) dX7_makeOwn_36 rfl h0.1 rfl ?_
        refine tt_ld (M := MX7_makeOwn) (pc := 39) dX7_makeOwn_39 rfl rfl rfl rfl rfl ?_
        refine tt_vcIN (M := MX7_makeOwn) (pc := 40) dX7_makeOwn_40 rfl rfl [] rfl rfl ⟨rfl, by decide, Nat.le_of_ble_eq_true rfl⟩ h0.2.1.1 fun v104 S105 => ?_
        refine tt_iconst (M := MX7_makeOwn) (pc := 43) dX7_makeOwn_43 ?_
        refine tt_ic_ne (M := MX7_makeOwn) (pc := 44) 54 dX7_makeOwn_44 rfl ?_ ?_
        · exact id
        · refine tt_ld (M := MX7_makeOwn) (pc := 47) dX7_makeOwn_47 rfl rfl rfl rfl rfl ?_
          refine tt_ld (M := MX7_makeOwn) (pc := 48) dX7_makeOwn_48 rfl rfl rfl rfl rfl ?_
          refine tt_vcVN (M := MX7_makeOwn) (pc := 49) dX7_makeOwn_49 rfl rfl [] rfl rfl ⟨rfl, by decide, Nat.le_of_ble_eq_true rfl⟩ h0.1 fun S106 => ?_
          refine tt_iconst (M := MX7_makeOwn) (pc := 52) dX7_makeOwn_52 ?_
          exact tt_iret (M := MX7_makeOwn) (pc := 53) dX7_makeOwn_53 rfl
    · refine tt_iconst (M := MX7_makeOwn) (pc := 28) dX7_makeOwn_28 ?_
      exact tt_iret (M := MX7_makeOwn) (pc := 29) dX7_makeOwn_29 rfl
theorem qX7_makeOwn_54 {sc : Nat × (Nat → Int32)} {SH : List mCell} {S : mStore} {r : mR × mW} {a0 : Nat} (h0 : sState SH a0) {l1 : Int} {l2 : Int} {u3 : Option Value} : ((∃ v101 S102, G sc MX7_freeFrame 0 [some (.ref a0), none] [] SH S (rI v101 SH S102) ∧ (if I v101 = I (-1) then r = rI (-1) SH S102 else (∃ v103 S104, G sc MX7_cellsAt 0 [some (.ref a0), some (.int (I l1)), none] [] SH S102 (rI v103 SH S104) ∧ (((0 : Int) ≤ v101 ∧ v101 < 48) ∧ (∃ S105, G sc MX6_remove 0 [some (.ref (a0 + 1)), some (.int (I l1)), none, none, none, none] [] SH (up S104 (a0 + 13) v101 v103) (rV SH S105) ∧ (∃ S106, G sc MX6_add 0 [some (.ref (a0 + 1)), some (.int (I v101)), some (.int (I l1)), none, none, none] [] SH S105 (rV SH S106) ∧ (if I l2 = I (-1) then r = rI 1 SH S106 else (((0 : Int) ≤ 8 ∧ (8 : Int) < 12) ∧ (((0 : Int) ≤ 8 ∧ (8 : Int) < 12) ∧ r = rI 2 SH (up S106 (a0 + 19) 8 ((S106 (a0 + 19) 8) + 1)))))))))))) → G sc MX7_makeOwn 54 [some (.ref a0), some (.int (I l1)), some (.int (I l2)), u3] [] SH S r := by
  refine tt_ld (M := MX7_makeOwn) (pc := 54) dX7_makeOwn_54 rfl rfl rfl rfl rfl ?_
  refine tt_vcIN (M := MX7_makeOwn) (pc := 55) dX7_makeOwn_55 rfl rfl [] rfl rfl ⟨rfl, by decide, Nat.le_of_ble_eq_true rfl⟩ h0.1 fun v101 S102 => ?_
  refine tt_st (M := MX7_makeOwn) (pc := 58) [some (.ref a0), some (.int (I l1)), some (.int (I l2)), some (.int (I v101))] dX7_makeOwn_58 rfl rfl rfl rfl rfl rfl ?_
  refine tt_ld (M := MX7_makeOwn) (pc := 59) dX7_makeOwn_59 rfl rfl rfl rfl rfl ?_
  refine tt_iconst (M := MX7_makeOwn) (pc := 60) dX7_makeOwn_60 ?_
  refine tt_ic_ne (M := MX7_makeOwn) (pc := 61) 66 dX7_makeOwn_61 rfl ?_ ?_
  · refine tt_ld (M := MX7_makeOwn) (pc := 66) dX7_makeOwn_66 rfl rfl rfl rfl rfl ?_
    refine tt_getR (M := MX7_makeOwn) (pc := 67) dX7_makeOwn_67 rfl h0.1 rfl ?_
    refine tt_ld (M := MX7_makeOwn) (pc := 70) dX7_makeOwn_70 rfl rfl rfl rfl rfl ?_
    refine tt_ld (M := MX7_makeOwn) (pc := 71) dX7_makeOwn_71 rfl rfl rfl rfl rfl ?_
    refine tt_ld (M := MX7_makeOwn) (pc := 72) dX7_makeOwn_72 rfl rfl rfl rfl rfl ?_
    refine tt_vcIN (M := MX7_makeOwn) (pc := 73) dX7_makeOwn_73 rfl rfl [.int (I v101), .ref (a0 + 13)] rfl rfl ⟨rfl, by decide, Nat.le_of_ble_eq_true rfl⟩ h0.1 fun v103 S104 => ?_
    refine tt_iastore (M := MX7_makeOwn) (pc := 76) dX7_makeOwn_76 h0.2.2.2.2.2.1 rfl ?_
    refine tt_ld (M := MX7_makeOwn) (pc := 77) dX7_makeOwn_77 rfl rfl rfl rfl rfl ?_
    refine tt_getR (M := MX7_makeOwn) (pc := 78) dX7_makeOwn_78 rfl h0.1 rfl ?_
    refine tt_ld (M := MX7_makeOwn) (pc := 81) dX7_makeOwn_81 rfl rfl rfl rfl rfl ?_
    refine tt_vcVN (M := MX7_makeOwn) (pc := 82) dX7_makeOwn_82 rfl rfl [] rfl rfl ⟨rfl, by decide, Nat.le_of_ble_eq_true rfl⟩ h0.2.1.1 fun S105 => ?_
    refine tt_ld (M := MX7_makeOwn) (pc := 85) dX7_makeOwn_85 rfl rfl rfl rfl rfl ?_
    refine tt_getR (M := MX7_makeOwn) (pc := 86) dX7_makeOwn_86 rfl h0.1 rfl ?_
    refine tt_ld (M := MX7_makeOwn) (pc := 89) dX7_makeOwn_89 rfl rfl rfl rfl rfl ?_
    refine tt_ld (M := MX7_makeOwn) (pc := 90) dX7_makeOwn_90 rfl rfl rfl rfl rfl ?_
    refine tt_vcVN (M := MX7_makeOwn) (pc := 91) dX7_makeOwn_91 rfl rfl [] rfl rfl ⟨rfl, by decide, Nat.le_of_ble_eq_true rfl⟩ h0.2.1.1 fun S106 => ?_
    refine tt_ld (M := MX7_makeOwn) (pc := 94) dX7_makeOwn_94 rfl rfl rfl rfl rfl ?_
    refine tt_iconst (M := MX7_makeOwn) (pc := 95) dX7_makeOwn_95 ?_
    refine tt_ic_ne (M := MX7_makeOwn) (pc := 96) 101 dX7_makeOwn_96 rfl ?_ ?_
    · refine tt_ld (M := MX7_makeOwn) (pc := 101) dX7_makeOwn_101 rfl rfl rfl rfl rfl ?_
      refine tt_getR (M := MX7_makeOwn) (pc := 102) dX7_makeOwn_102 rfl h0.1 rfl ?_
      refine tt_bipush (M := MX7_makeOwn) (pc := 105) dX7_makeOwn_105 (by decide) ?_
      refine tt_dup2 (M := MX7_makeOwn) (pc := 107) dX7_makeOwn_107 rfl rfl ?_
      refine tt_iaload (M := MX7_makeOwn) (pc := 108) dX7_makeOwn_108 h0.2.2.2.2.2.2.2.2.2.2.2.1 rfl ?_
      refine tt_iconst (M := MX7_makeOwn) (pc := 109) dX7_makeOwn_109 ?_
      refine tt_iadd (M := MX7_makeOwn) (pc := 110) dX7_makeOwn_110 ?_
      refine tt_iastore (M := MX7_makeOwn) (pc := 111) dX7_makeOwn_111 h0.2.2.2.2.2.2.2.2.2.2.2.1 rfl ?_
      refine tt_iconst (M := MX7_makeOwn) (pc := 112) dX7_makeOwn_112 ?_
      exact tt_iret (M := MX7_makeOwn) (pc := 113) dX7_makeOwn_113 rfl
    · refine tt_iconst (M := MX7_makeOwn) (pc := 99) dX7_makeOwn_99 ?_
      exact tt_iret (M := MX7_makeOwn) (pc := 100) dX7_makeOwn_100 rfl
  · refine tt_iconst (M := MX7_makeOwn) (pc := 64) dX7_makeOwn_64 ?_
    exact tt_iret (M := MX7_makeOwn) (pc := 65) dX7_makeOwn_65 rfl
theorem qX7_leaveKnot_0 {sc : Nat × (Nat → Int32)} {SH : List mCell} {S : mStore} {r : mR × mW} {a0 : Nat} (h0 : sState SH a0) {l1 : Int} {u2 : Option Value} : ((((0 : Int) ≤ l1 ∧ l1 < 48) ∧ (if I (S (a0 + 6) l1) = I (-1) then r = rV SH S else (∃ S101, G sc MX6_remove 0 [some (.ref (a0 + 5)), some (.int (I l1)), none, none, none, none] [] SH S (rV SH S101) ∧ (((0 : Int) ≤ S (a0 + 6) l1 ∧ S (a0 + 6) l1 < 48) ∧ (if I (S101 (a0 + 8) (S (a0 + 6) l1)) = I (-1) then (∃ S102, G sc MX9_leave 0 [some (.ref (a0 + 9)), some (.int (I (S (a0 + 6) l1))), none, none, none, none, none, none] [] SH S101 (rV SH S102) ∧ r = rV SH S102) else r = rV SH S101)))))) → G sc MX7_leaveKnot 0 [some (.ref a0), some (.int (I l1)), u2] [] SH S r := by
  refine tt_ld (M := MX7_leaveKnot) (pc := 0) dX7_leaveKnot_0 rfl rfl rfl rfl rfl ?_
  refine tt_getR (M := MX7_leaveKnot) (pc := 1) dX7_leaveKnot_1 rfl h0.1 rfl ?_
  refine tt_getR (M := MX7_leaveKnot) (pc := 4) dX7_leaveKnot_4 rfl h0.2.2.1.1 rfl ?_
  refine tt_ld (M := MX7_leaveKnot) (pc := 7) dX7_leaveKnot_7 rfl rfl rfl rfl rfl ?_
  refine tt_iaload (M := MX7_leaveKnot) (pc := 8) dX7_leaveKnot_8 h0.2.2.1.2.1 rfl ?_
  refine tt_st (M := MX7_leaveKnot) (pc := 9) [some (.ref a0), some (.int (I l1)), some (.int (I (S (a0 + 6) l1)))] dX7_leaveKnot_9 rfl rfl rfl rfl rfl rfl ?_
  refine tt_ld (M := MX7_leaveKnot) (pc := 10) dX7_leaveKnot_10 rfl rfl rfl rfl rfl ?_
  refine tt_iconst (M := MX7_leaveKnot) (pc := 11) dX7_leaveKnot_11 ?_
  refine tt_ic_ne (M := MX7_leaveKnot) (pc := 12) 16 dX7_leaveKnot_12 rfl ?_ ?_
  · refine tt_ld (M := MX7_leaveKnot) (pc := 16) dX7_leaveKnot_16 rfl rfl rfl rfl rfl ?_
    refine tt_getR (M := MX7_leaveKnot) (pc := 17) dX7_leaveKnot_17 rfl h0.1 rfl ?_
    refine tt_ld (M := MX7_leaveKnot) (pc := 20) dX7_leaveKnot_20 rfl rfl rfl rfl rfl ?_
    refine tt_vcVN (M := MX7_leaveKnot) (pc := 21) dX7_leaveKnot_21 rfl rfl [] rfl rfl ⟨rfl, by decide, Nat.le_of_ble_eq_true rfl⟩ h0.2.2.1.1 fun S101 => ?_
    refine tt_ld (M := MX7_leaveKnot) (pc := 24) dX7_leaveKnot_24 rfl rfl rfl rfl rfl ?_
    refine tt_getR (M := MX7_leaveKnot) (pc := 25) dX7_leaveKnot_25 rfl h0.1 rfl ?_
    refine tt_getR (M := MX7_leaveKnot) (pc := 28) dX7_leaveKnot_28 rfl h0.2.2.1.1 rfl ?_
    refine tt_ld (M := MX7_leaveKnot) (pc := 31) dX7_leaveKnot_31 rfl rfl rfl rfl rfl ?_
    refine tt_iaload (M := MX7_leaveKnot) (pc := 32) dX7_leaveKnot_32 h0.2.2.1.2.2.2 rfl ?_
    refine tt_iconst (M := MX7_leaveKnot) (pc := 33) dX7_leaveKnot_33 ?_
    refine tt_ic_ne (M := MX7_leaveKnot) (pc := 34) 45 dX7_leaveKnot_34 rfl ?_ ?_
    · exact tt_ret (M := MX7_leaveKnot) (pc := 45) dX7_leaveKnot_45 rfl
    · refine tt_ld (M := MX7_leaveKnot) (pc := 37) dX7_leaveKnot_37 rfl rfl rfl rfl rfl ?_
      refine tt_getR (M := MX7_leaveKnot) (pc := 38) dX7_leaveKnot_38 rfl h0.1 rfl ?_
      refine tt_ld (M := MX7_leaveKnot) (pc := 41) dX7_leaveKnot_41 rfl rfl rfl rfl rfl ?_
      refine tt_vcVN (M := MX7_leaveKnot) (pc := 42) dX7_leaveKnot_42 rfl rfl [] rfl rfl ⟨rfl, by decide, Nat.le_of_ble_eq_true rfl⟩ h0.2.2.2.1.1 fun S102 => ?_
      exact tt_ret (M := MX7_leaveKnot) (pc := 45) dX7_leaveKnot_45 rfl
  · exact tt_ret (M := MX7_leaveKnot) (pc := 15) dX7_leaveKnot_15 rfl
theorem qX7_dropPage_0 {sc : Nat × (Nat → Int32)} {SH : List mCell} {S : mStore} {r : mR × mW} {a0 : Nat} (h0 : sState SH a0) {l1 : Int} {u2 : Option Value} : ((((0 : Int) ≤ l1 ∧ l1 < 48) ∧ (if I (S (a0 + 2) l1) = I (-1) then r = rI (-1) SH S else (∃ S101, G sc MX6_remove 0 [some (.ref (a0 + 1)), some (.int (I l1)), none, none, none, none] [] SH S (rV SH S101) ∧ (((0 : Int) ≤ S (a0 + 2) l1 ∧ S (a0 + 2) l1 < 48) ∧ (if I (S101 (a0 + 4) (S (a0 + 2) l1)) = I (-1) then (∃ S102, G sc MX7_leaveKnot 0 [some (.ref a0), some (.int (I (S (a0 + 2) l1))), none] [] SH S101 (rV SH S102) ∧ r = rI 1 SH S102) else r = rI 0 SH S101)))))) → G sc MX7_dropPage 0 [some (.ref a0), some (.int (I l1)), u2] [] SH S r := by
  refine tt_ld (M := MX7_dropPage) (pc := 0) dX7_dropPage_0 rfl rfl rfl rfl rfl ?_
  refine tt_getR (M := MX7_dropPage) (pc := 1) dX7_dropPage_1 rfl h0.1 rfl ?_
  refine tt_getR (M := MX7_dropPage) (pc := 4) dX7_dropPage_4 rfl h0.2.1.1 rfl ?_
  refine tt_ld (M := MX7_dropPage) (pc := 7) dX7_dropPage_7 rfl rfl rfl rfl rfl ?_
  refine tt_iaload (M := MX7_dropPage) (pc := 8) dX7_dropPage_8 h0.2.1.2.1 rfl ?_
  refine tt_st (M := MX7_dropPage) (pc := 9) [some (.ref a0), some (.int (I l1)), some (.int (I (S (a0 + 2) l1)))] dX7_dropPage_9 rfl rfl rfl rfl rfl rfl ?_
  refine tt_ld (M := MX7_dropPage) (pc := 10) dX7_dropPage_10 rfl rfl rfl rfl rfl ?_
  refine tt_iconst (M := MX7_dropPage) (pc := 11) dX7_dropPage_11 ?_
  refine tt_ic_ne (M := MX7_dropPage) (pc := 12) 17 dX7_dropPage_12 rfl ?_ ?_
  · refine tt_ld (M := MX7_dropPage) (pc := 17) dX7_dropPage_17 rfl rfl rfl rfl rfl ?_
    refine tt_getR (M := MX7_dropPage) (pc := 18) dX7_dropPage_18 rfl h0.1 rfl ?_
    refine tt_ld (M := MX7_dropPage) (pc := 21) dX7_dropPage_21 rfl rfl rfl rfl rfl ?_
    refine tt_vcVN (M := MX7_dropPage) (pc := 22) dX7_dropPage_22 rfl rfl [] rfl rfl ⟨rfl, by decide, Nat.le_of_ble_eq_true rfl⟩ h0.2.1.1 fun S101 => ?_
    refine tt_ld (M := MX7_dropPage) (pc := 25) dX7_dropPage_25 rfl rfl rfl rfl rfl ?_
    refine tt_getR (M := MX7_dropPage) (pc := 26) dX7_dropPage_26 rfl h0.1 rfl ?_
    refine tt_getR (M := MX7_dropPage) (pc := 29) dX7_dropPage_29 rfl h0.2.1.1 rfl ?_
    refine tt_ld (M := MX7_dropPage) (pc := 32) dX7_dropPage_32 rfl rfl rfl rfl rfl ?_
    refine tt_iaload (M := MX7_dropPage) (pc := 33) dX7_dropPage_33 h0.2.1.2.2.2 rfl ?_
    refine tt_iconst (M := MX7_dropPage) (pc := 34) dX7_dropPage_34 ?_
    refine tt_ic_eq (M := MX7_dropPage) (pc := 35) 40 dX7_dropPage_35 rfl ?_ ?_
    · refine tt_ld (M := MX7_dropPage) (pc := 40) dX7_dropPage_40 rfl rfl rfl rfl rfl ?_
      refine tt_ld (M := MX7_dropPage) (pc := 41) dX7_dropPage_41 rfl rfl rfl rfl rfl ?_
      refine tt_vcVN (M := MX7_dropPage) (pc := 42) dX7_dropPage_42 rfl rfl [] rfl rfl ⟨rfl, by decide, Nat.le_of_ble_eq_true rfl⟩ h0.1 fun S102 => ?_
      refine tt_iconst (M := MX7_dropPage) (pc := 45) dX7_dropPage_45 ?_
      exact tt_iret (M := MX7_dropPage) (pc := 46) dX7_dropPage_46 rfl
    · refine tt_iconst (M := MX7_dropPage) (pc := 38) dX7_dropPage_38 ?_
      exact tt_iret (M := MX7_dropPage) (pc := 39) dX7_dropPage_39 rfl
  · refine tt_iconst (M := MX7_dropPage) (pc := 15) dX7_dropPage_15 ?_
    exact tt_iret (M := MX7_dropPage) (pc := 16) dX7_dropPage_16 rfl
theorem qX7_adviseAll_0 {sc : Nat × (Nat → Int32)} {SH : List mCell} {S : mStore} {r : mR × mW} {a0 : Nat} (h0 : sState SH a0) {l1 : Int} {l2 : Int} {u3 : Option Value} {u4 : Option Value} : (G sc MX7_adviseAll 5 [some (.ref a0), some (.int (I l1)), some (.int (I l2)), some (.int (I 0)), some (.int (I l1))] [] SH S r) → G sc MX7_adviseAll 0 [some (.ref a0), some (.int (I l1)), some (.int (I l2)), u3, u4] [] SH S r := by
  refine tt_iconst (M := MX7_adviseAll) (pc := 0) dX7_adviseAll_0 ?_
  refine tt_st (M := MX7_adviseAll) (pc := 1) [some (.ref a0), some (.int (I l1)), some (.int (I l2)), some (.int (I 0)), u4] dX7_adviseAll_1 rfl rfl rfl rfl rfl rfl ?_
  refine tt_ld (M := MX7_adviseAll) (pc := 2) dX7_adviseAll_2 rfl rfl rfl rfl rfl ?_
  refine tt_st (M := MX7_adviseAll) (pc := 3) [some (.ref a0), some (.int (I l1)), some (.int (I l2)), some (.int (I 0)), some (.int (I l1))] dX7_adviseAll_3 rfl rfl rfl rfl rfl rfl ?_
  exact id
theorem qX7_adviseAll_5 {sc : Nat × (Nat → Int32)} {SH : List mCell} {S : mStore} {r : mR × mW} {a0 : Nat} (h0 : sState SH a0) {l1 : Int} {l2 : Int} {l3 : Int} {l4 : Int} : ((if I l2 < I l4 then r = rI l3 SH S else (((0 : Int) ≤ l4 ∧ l4 < 48) ∧ (if I (S (a0 + 14) l4) = I 0 then (((0 : Int) ≤ l4 ∧ l4 < 48) ∧ G sc MX7_adviseAll 5 [some (.ref a0), some (.int (I l1)), some (.int (I l2)), some (.int (I (l3 + 1))), some (.int (I (l4 + 1)))] [] SH (up S (a0 + 14) l4 1) r) else G sc MX7_adviseAll 5 [some (.ref a0), some (.int (I l1)), some (.int (I l2)), some (.int (I l3)), some (.int (I (l4 + 1)))] [] SH S r)))) → G sc MX7_adviseAll 5 [some (.ref a0), some (.int (I l1)), some (.int (I l2)), some (.int (I l3)), some (.int (I l4))] [] SH S r := by
  refine tt_ld (M := MX7_adviseAll) (pc := 5) dX7_adviseAll_5 rfl rfl rfl rfl rfl ?_
  refine tt_ld (M := MX7_adviseAll) (pc := 7) dX7_adviseAll_7 rfl rfl rfl rfl rfl ?_
  refine tt_ic_gt (M := MX7_adviseAll) (pc := 8) 38 dX7_adviseAll_8 rfl ?_ ?_
  · refine tt_ld (M := MX7_adviseAll) (pc := 38) dX7_adviseAll_38 rfl rfl rfl rfl rfl ?_
    exact tt_iret (M := MX7_adviseAll) (pc := 39) dX7_adviseAll_39 rfl
  · refine tt_ld (M := MX7_adviseAll) (pc := 11) dX7_adviseAll_11 rfl rfl rfl rfl rfl ?_
    refine tt_getR (M := MX7_adviseAll) (pc := 12) dX7_adviseAll_12 rfl h0.1 rfl ?_
    refine tt_ld (M := MX7_adviseAll) (pc := 15) dX7_adviseAll_15 rfl rfl rfl rfl rfl ?_
    refine tt_iaload (M := MX7_adviseAll) (pc := 17) dX7_adviseAll_17 h0.2.2.2.2.2.2.1 rfl ?_
    refine tt_if_ne (M := MX7_adviseAll) (pc := 18) 32 dX7_adviseAll_18 rfl ?_ ?_
    · refine tt_iinc (M := MX7_adviseAll) (pc := 32) [some (.ref a0), some (.int (I l1)), some (.int (I l2)), some (.int (I l3)), some (.int (I (l4 + 1)))] dX7_adviseAll_32 rfl rfl ?_
      refine tt_goto (M := MX7_adviseAll) (pc := 35) 5 dX7_adviseAll_35 rfl ?_
      exact id
    · refine tt_ld (M := MX7_adviseAll) (pc := 21) dX7_adviseAll_21 rfl rfl rfl rfl rfl ?_
      refine tt_getR (M := MX7_adviseAll) (pc := 22) dX7_adviseAll_22 rfl h0.1 rfl ?_
      refine tt_ld (M := MX7_adviseAll) (pc := 25) dX7_adviseAll_25 rfl rfl rfl rfl rfl ?_
      refine tt_iconst (M := MX7_adviseAll) (pc := 27) dX7_adviseAll_27 ?_
      refine tt_iastore (M := MX7_adviseAll) (pc := 28) dX7_adviseAll_28 h0.2.2.2.2.2.2.1 rfl ?_
      refine tt_iinc (M := MX7_adviseAll) (pc := 29) [some (.ref a0), some (.int (I l1)), some (.int (I l2)), some (.int (I (l3 + 1))), some (.int (I l4))] dX7_adviseAll_29 rfl rfl ?_
      refine tt_iinc (M := MX7_adviseAll) (pc := 32) [some (.ref a0), some (.int (I l1)), some (.int (I l2)), some (.int (I (l3 + 1))), some (.int (I (l4 + 1)))] dX7_adviseAll_32 rfl rfl ?_
      refine tt_goto (M := MX7_adviseAll) (pc := 35) 5 dX7_adviseAll_35 rfl ?_
      exact id
theorem qX7_adviseNoMore_0 {sc : Nat × (Nat → Int32)} {SH : List mCell} {S : mStore} {r : mR × mW} {a0 : Nat} (h0 : sState SH a0) {l1 : Int} {l2 : Int} {u3 : Option Value} {u4 : Option Value} : (G sc MX7_adviseNoMore 5 [some (.ref a0), some (.int (I l1)), some (.int (I l2)), some (.int (I 0)), some (.int (I l1))] [] SH S r) → G sc MX7_adviseNoMore 0 [some (.ref a0), some (.int (I l1)), some (.int (I l2)), u3, u4] [] SH S r := by
  refine tt_iconst (M := MX7_adviseNoMore) (pc := 0) dX7_adviseNoMore_0 ?_
  refine tt_st (M := MX7_adviseNoMore) (pc := 1) [some (.ref a0), some (.int (I l1)), some (.int (I l2)), some (.int (I 0)), u4] dX7_adviseNoMore_1 rfl rfl rfl rfl rfl rfl ?_
  refine tt_ld (M := MX7_adviseNoMore) (pc := 2) dX7_adviseNoMore_2 rfl rfl rfl rfl rfl ?_
  refine tt_st (M := MX7_adviseNoMore) (pc := 3) [some (.ref a0), some (.int (I l1)), some (.int (I l2)), some (.int (I 0)), some (.int (I l1))] dX7_adviseNoMore_3 rfl rfl rfl rfl rfl rfl ?_
  exact id
theorem qX7_adviseNoMore_5 {sc : Nat × (Nat → Int32)} {SH : List mCell} {S : mStore} {r : mR × mW} {a0 : Nat} (h0 : sState SH a0) {l1 : Int} {l2 : Int} {l3 : Int} {l4 : Int} : ((if I l2 < I l4 then r = rI l3 SH S else (((0 : Int) ≤ l4 ∧ l4 < 48) ∧ (if I (S (a0 + 14) l4) = I 0 then G sc MX7_adviseNoMore 5 [some (.ref a0), some (.int (I l1)), some (.int (I l2)), some (.int (I l3)), some (.int (I (l4 + 1)))] [] SH S r else (∃ v101 S102, G sc MX7_isMerged 0 [some (.ref a0), some (.int (I l4)), none] [] SH S (rI v101 SH S102) ∧ (if I v101 = I 0 then (∃ S103, G sc MX9_leave 0 [some (.ref (a0 + 11)), some (.int (I l4)), none, none, none, none, none, none] [] SH S102 (rV SH S103) ∧ (((0 : Int) ≤ l4 ∧ l4 < 48) ∧ G sc MX7_adviseNoMore 5 [some (.ref a0), some (.int (I l1)), some (.int (I l2)), some (.int (I (l3 + 1))), some (.int (I (l4 + 1)))] [] SH (up S103 (a0 + 14) l4 0) r)) else (∃ v104 S105, G sc MX7_makeOwn 0 [some (.ref a0), some (.int (I l4)), none, none] [] SH S102 (rI v104 SH S105) ∧ (if I v104 = I (-1) then r = rI l3 SH S105 else (∃ S106, G sc MX9_leave 0 [some (.ref (a0 + 11)), some (.int (I l4)), none, none, none, none, none, none] [] SH S105 (rV SH S106) ∧ (((0 : Int) ≤ l4 ∧ l4 < 48) ∧ G sc MX7_adviseNoMore 5 [some (.ref a0), some (.int (I l1)), some (.int (I l2)), some (.int (I (l3 + 1))), some (.int (I (l4 + 1)))] [] SH (up S106 (a0 + 14) l4 0) r)))))))))) → G sc MX7_adviseNoMore 5 [some (.ref a0), some (.int (I l1)), some (.int (I l2)), some (.int (I l3)), some (.int (I l4))] [] SH S r := by
  refine tt_ld (M := MX7_adviseNoMore) (pc := 5) dX7_adviseNoMore_5 rfl rfl rfl rfl rfl ?_
  refine tt_ld (M := MX7_adviseNoMore) (pc := 7) dX7_adviseNoMore_7 rfl rfl rfl rfl rfl ?_
  refine tt_ic_gt (M := MX7_adviseNoMore) (pc := 8) 71 dX7_adviseNoMore_8 rfl ?_ ?_
  · refine tt_ld (M := MX7_adviseNoMore) (pc := 71) dX7_adviseNoMore_71 rfl rfl rfl rfl rfl ?_
    exact tt_iret (M := MX7_adviseNoMore) (pc := 72) dX7_adviseNoMore_72 rfl
  · refine tt_ld (M := MX7_adviseNoMore) (pc := 11) dX7_adviseNoMore_11 rfl rfl rfl rfl rfl ?_
    refine tt_getR (M := MX7_adviseNoMore) (pc := 12) dX7_adviseNoMore_12 rfl h0.1 rfl ?_
    refine tt_ld (M := MX7_adviseNoMore) (pc := 15) dX7_adviseNoMore_15 rfl rfl rfl rfl rfl ?_
    refine tt_iaload (M := MX7_adviseNoMore) (pc := 17) dX7_adviseNoMore_17 h0.2.2.2.2.2.2.1 rfl ?_
    refine tt_if_ne (M := MX7_adviseNoMore) (pc := 18) 24 dX7_adviseNoMore_18 rfl ?_ ?_
    · refine tt_ld (M := MX7_adviseNoMore) (pc := 24) dX7_adviseNoMore_24 rfl rfl rfl rfl rfl ?_
      refine tt_ld (M := MX7_adviseNoMore) (pc := 25) dX7_adviseNoMore_25 rfl rfl rfl rfl rfl ?_
      refine tt_vcIN (M := MX7_adviseNoMore) (pc := 27) dX7_adviseNoMore_27 rfl rfl [] rfl rfl ⟨rfl, by decide, Nat.le_of_ble_eq_true rfl⟩ h0.1 fun v101 S102 => ?_
      refine tt_if_eq (M := MX7_adviseNoMore) (pc := 30) 45 dX7_adviseNoMore_30 rfl ?_ ?_
      · refine tt_ld (M := MX7_adviseNoMore) (pc := 45) dX7_adviseNoMore_45 rfl rfl rfl rfl rfl ?_
        refine tt_getR (M := MX7_adviseNoMore) (pc := 46) dX7_adviseNoMore_46 rfl h0.1 rfl ?_
        refine tt_ld (M := MX7_adviseNoMore) (pc := 49) dX7_adviseNoMore_49 rfl rfl rfl rfl rfl ?_
        refine tt_vcVN (M := MX7_adviseNoMore) (pc := 51) dX7_adviseNoMore_51 rfl rfl [] rfl rfl ⟨rfl, by decide, Nat.le_of_ble_eq_true rfl⟩ h0.2.2.2.2.1.1 fun S103 => ?_
        refine tt_ld (M := MX7_adviseNoMore) (pc := 54) dX7_adviseNoMore_54 rfl rfl rfl rfl rfl ?_
        refine tt_getR (M := MX7_adviseNoMore) (pc := 55) dX7_adviseNoMore_55 rfl h0.1 rfl ?_
        refine tt_ld (M := MX7_adviseNoMore) (pc := 58) dX7_adviseNoMore_58 rfl rfl rfl rfl rfl ?_
        refine tt_iconst (M := MX7_adviseNoMore) (pc := 60) dX7_adviseNoMore_60 ?_
        refine tt_iastore (M := MX7_adviseNoMore) (pc := 61) dX7_adviseNoMore_61 h0.2.2.2.2.2.2.1 rfl ?_
        refine tt_iinc (M := MX7_adviseNoMore) (pc := 62) [some (.ref a0), some (.int (I l1)), some (.int (I l2)), some (.int (I (l3 + 1))), some (.int (I l4))] dX7_adviseNoMore_62 rfl rfl ?_
        refine tt_iinc (M := MX7_adviseNoMore) (pc := 65) [some (.ref a0), some (.int (I l1)), some (.int (I l2)), some (.int (I (l3 + 1))), some (.int (I (l4 + 1)))] dX7_adviseNoMore_65 rfl rfl ?_
        refine tt_goto (M := MX7_adviseNoMore) (pc := 68) 5 dX7_adviseNoMore_68 rfl ?_
        exact id
      · refine tt_ld (M := MX7_adviseNoMore) (pc := 33) dX7_adviseNoMore_33 rfl rfl rfl rfl rfl ?_
        refine tt_ld (M := MX7_adviseNoMore) (pc := 34) dX7_adviseNoMore_34 rfl rfl rfl rfl rfl ?_
        refine tt_vcIN (M := MX7_adviseNoMore) (pc := 36) dX7_adviseNoMore_36 rfl rfl [] rfl rfl ⟨rfl, by decide, Nat.le_of_ble_eq_true rfl⟩ h0.1 fun v104 S105 => ?_
        refine tt_iconst (M := MX7_adviseNoMore) (pc := 39) dX7_adviseNoMore_39 ?_
        refine tt_ic_ne (M := MX7_adviseNoMore) (pc := 40) 45 dX7_adviseNoMore_40 rfl ?_ ?_
        · refine tt_ld (M := MX7_adviseNoMore) (pc := 45) dX7_adviseNoMore_45 rfl rfl rfl rfl rfl ?_
          refine tt_getR (M := MX7_adviseNoMore) (pc := 46) dX7_adviseNoMore_46 rfl h0.1 rfl ?_
          refine tt_ld (M := MX7_adviseNoMore) (pc := 49) dX7_adviseNoMore_49 rfl rfl rfl rfl rfl ?_
          refine tt_vcVN (M := MX7_adviseNoMore) (pc := 51) dX7_adviseNoMore_51 rfl rfl [] rfl rfl ⟨rfl, by decide, Nat.le_of_ble_eq_true rfl⟩ h0.2.2.2.2.1.1 fun S106 => ?_
          refine tt_ld (M := MX7_adviseNoMore) (pc := 54) dX7_adviseNoMore_54 rfl rfl rfl rfl rfl ?_
          refine tt_getR (M := MX7_adviseNoMore) (pc := 55) dX7_adviseNoMore_55 rfl h0.1 rfl ?_
          refine tt_ld (M := MX7_adviseNoMore) (pc := 58) dX7_adviseNoMore_58 rfl rfl rfl rfl rfl ?_
          refine tt_iconst (M := MX7_adviseNoMore) (pc := 60) dX7_adviseNoMore_60 ?_
          refine tt_iastore (M := MX7_adviseNoMore) (pc := 61) dX7_adviseNoMore_61 h0.2.2.2.2.2.2.1 rfl ?_
          refine tt_iinc (M := MX7_adviseNoMore) (pc := 62) [some (.ref a0), some (.int (I l1)), some (.int (I l2)), some (.int (I (l3 + 1))), some (.int (I l4))] dX7_adviseNoMore_62 rfl rfl ?_
          refine tt_iinc (M := MX7_adviseNoMore) (pc := 65) [some (.ref a0), some (.int (I l1)), some (.int (I l2)), some (.int (I (l3 + 1))), some (.int (I (l4 + 1)))] dX7_adviseNoMore_65 rfl rfl ?_
          refine tt_goto (M := MX7_adviseNoMore) (pc := 68) 5 dX7_adviseNoMore_68 rfl ?_
          exact id
        · refine tt_ld (M := MX7_adviseNoMore) (pc := 43) dX7_adviseNoMore_43 rfl rfl rfl rfl rfl ?_
          exact tt_iret (M := MX7_adviseNoMore) (pc := 44) dX7_adviseNoMore_44 rfl
    · refine tt_goto (M := MX7_adviseNoMore) (pc := 21) 65 dX7_adviseNoMore_21 rfl ?_
      refine tt_iinc (M := MX7_adviseNoMore) (pc := 65) [some (.ref a0), some (.int (I l1)), some (.int (I l2)), some (.int (I l3)), some (.int (I (l4 + 1)))] dX7_adviseNoMore_65 rfl rfl ?_
      refine tt_goto (M := MX7_adviseNoMore) (pc := 68) 5 dX7_adviseNoMore_68 rfl ?_
      exact id
theorem qX7_scanMany_0 {sc : Nat × (Nat → Int32)} {SH : List mCell} {S : mStore} {r : mR × mW} {a0 : Nat} (h0 : sState SH a0) {l1 : Int} {u2 : Option Value} {u3 : Option Value} : (G sc MX7_scanMany 4 [some (.ref a0), some (.int (I l1)), some (.int (I 0)), some (.int (I 0))] [] SH S r) → G sc MX7_scanMany 0 [some (.ref a0), some (.int (I l1)), u2, u3] [] SH S r := by
  refine tt_iconst (M := MX7_scanMany) (pc := 0) dX7_scanMany_0 ?_
  refine tt_st (M := MX7_scanMany) (pc := 1) [some (.ref a0), some (.int (I l1)), some (.int (I 0)), u3] dX7_scanMany_1 rfl rfl rfl rfl rfl rfl ?_
  refine tt_iconst (M := MX7_scanMany) (pc := 2) dX7_scanMany_2 ?_
  refine tt_st (M := MX7_scanMany) (pc := 3) [some (.ref a0), some (.int (I l1)), some (.int (I 0)), some (.int (I 0))] dX7_scanMany_3 rfl rfl rfl rfl rfl rfl ?_
  exact id
theorem qX7_scanMany_4 {sc : Nat × (Nat → Int32)} {SH : List mCell} {S : mStore} {r : mR × mW} {a0 : Nat} (h0 : sState SH a0) {l1 : Int} {l2 : Int} {l3 : Int} : ((if I l1 ≤ I l3 then r = rI l2 SH S else (∃ v101 S102, G sc MX7_scanNext 0 [some (.ref a0), none, none] [] SH S (rI v101 SH S102) ∧ G sc MX7_scanMany 4 [some (.ref a0), some (.int (I l1)), some (.int (I (l2 + v101))), some (.int (I (l3 + 1)))] [] SH S102 r))) → G sc MX7_scanMany 4 [some (.ref a0), some (.int (I l1)), some (.int (I l2)), some (.int (I l3))] [] SH S r := by
  refine tt_ld (M := MX7_scanMany) (pc := 4) dX7_scanMany_4 rfl rfl rfl rfl rfl ?_
  refine tt_ld (M := MX7_scanMany) (pc := 5) dX7_scanMany_5 rfl rfl rfl rfl rfl ?_
  refine tt_ic_ge (M := MX7_scanMany) (pc := 6) 22 dX7_scanMany_6 rfl ?_ ?_
  · refine tt_ld (M := MX7_scanMany) (pc := 22) dX7_scanMany_22 rfl rfl rfl rfl rfl ?_
    exact tt_iret (M := MX7_scanMany) (pc := 23) dX7_scanMany_23 rfl
  · refine tt_ld (M := MX7_scanMany) (pc := 9) dX7_scanMany_9 rfl rfl rfl rfl rfl ?_
    refine tt_ld (M := MX7_scanMany) (pc := 10) dX7_scanMany_10 rfl rfl rfl rfl rfl ?_
    refine tt_vcIN (M := MX7_scanMany) (pc := 11) dX7_scanMany_11 rfl rfl [.int (I l2)] rfl rfl ⟨rfl, by decide, Nat.le_of_ble_eq_true rfl⟩ h0.1 fun v101 S102 => ?_
    refine tt_iadd (M := MX7_scanMany) (pc := 14) dX7_scanMany_14 ?_
    refine tt_st (M := MX7_scanMany) (pc := 15) [some (.ref a0), some (.int (I l1)), some (.int (I (l2 + v101))), some (.int (I l3))] dX7_scanMany_15 rfl rfl rfl rfl rfl rfl ?_
    refine tt_iinc (M := MX7_scanMany) (pc := 16) [some (.ref a0), some (.int (I l1)), some (.int (I (l2 + v101))), some (.int (I (l3 + 1)))] dX7_scanMany_16 rfl rfl ?_
    refine tt_goto (M := MX7_scanMany) (pc := 19) 4 dX7_scanMany_19 rfl ?_
    exact id
theorem qX7_hasTimeFor_0 {sc : Nat × (Nat → Int32)} {SH : List mCell} {S : mStore} {r : mR × mW} {a0 : Nat} (h0 : sState SH a0) {l1 : Int} : ((((0 : Int) ≤ 2 ∧ (2 : Int) < 12) ∧ (if I 9999 < I ((S (a0 + 19) 2) + l1) then ((I 0 = I 0 ∨ I 0 = I 1) ∧ r = rI 0 SH S) else ((I 1 = I 0 ∨ I 1 = I 1) ∧ r = rI 1 SH S)))) → G sc MX7_hasTimeFor 0 [some (.ref a0), some (.int (I l1))] [] SH S r := by
  refine tt_ld (M := MX7_hasTimeFor) (pc := 0) dX7_hasTimeFor_0 rfl rfl rfl rfl rfl ?_
  refine tt_getR (M := MX7_hasTimeFor) (pc := 1) dX7_hasTimeFor_1 rfl h0.1 rfl ?_
  refine tt_iconst (M := MX7_hasTimeFor) (pc := 4) dX7_hasTimeFor_4 ?_
  refine tt_iaload (M := MX7_hasTimeFor) (pc := 5) dX7_hasTimeFor_5 h0.2.2.2.2.2.2.2.2.2.2.2.1 rfl ?_
  refine tt_ld (M := MX7_hasTimeFor) (pc := 6) dX7_hasTimeFor_6 rfl rfl rfl rfl rfl ?_
  refine tt_iadd (M := MX7_hasTimeFor) (pc := 7) dX7_hasTimeFor_7 ?_
  refine tt_sipush (M := MX7_hasTimeFor) (pc := 8) dX7_hasTimeFor_8 (by decide) ?_
  refine tt_ic_gt (M := MX7_hasTimeFor) (pc := 11) 18 dX7_hasTimeFor_11 rfl ?_ ?_
  · refine tt_iconst (M := MX7_hasTimeFor) (pc := 18) dX7_hasTimeFor_18 ?_
    exact tt_zret (M := MX7_hasTimeFor) (pc := 19) dX7_hasTimeFor_19 rfl
  · refine tt_iconst (M := MX7_hasTimeFor) (pc := 14) dX7_hasTimeFor_14 ?_
    refine tt_goto (M := MX7_hasTimeFor) (pc := 15) 19 dX7_hasTimeFor_15 rfl ?_
    exact tt_zret (M := MX7_hasTimeFor) (pc := 19) dX7_hasTimeFor_19 rfl
theorem qX7_tick_0 {sc : Nat × (Nat → Int32)} {SH : List mCell} {S : mStore} {r : mR × mW} {a0 : Nat} (h0 : sState SH a0) {l1 : Int} {u2 : Option Value} {u3 : Option Value} {u4 : Option Value} {u5 : Option Value} : (G sc MX7_tick 4 [some (.ref a0), some (.int (I l1)), some (.int (I 0)), some (.int (I 0)), u4, u5] [] SH S r) → G sc MX7_tick 0 [some (.ref a0), some (.int (I l1)), u2, u3, u4, u5] [] SH S r := by
  refine tt_iconst (M := MX7_tick) (pc := 0) dX7_tick_0 ?_
  refine tt_st (M := MX7_tick) (pc := 1) [some (.ref a0), some (.int (I l1)), some (.int (I 0)), u3, u4, u5] dX7_tick_1 rfl rfl rfl rfl rfl rfl ?_
  refine tt_iconst (M := MX7_tick) (pc := 2) dX7_tick_2 ?_
  refine tt_st (M := MX7_tick) (pc := 3) [some (.ref a0), some (.int (I l1)), some (.int (I 0)), some (.int (I 0)), u4, u5] dX7_tick_3 rfl rfl rfl rfl rfl rfl ?_
  exact id
theorem qX7_tick_4 {sc : Nat × (Nat → Int32)} {SH : List mCell} {S : mStore} {r : mR × mW} {a0 : Nat} (h0 : sState SH a0) {l1 : Int} {l2 : Int} {l3 : Int} {u4 : Option Value} {u5 : Option Value} : ((if I l1 ≤ I l3 then r = rI l2 SH S else (((0 : Int) ≤ 0 ∧ (0 : Int) < 12) ∧ G sc MX7_tick 20 [some (.ref a0), some (.int (I l1)), some (.int (I l2)), some (.int (I l3)), some (.int (I (S (a0 + 19) 0))), some (.int (I 0))] [] SH S r))) → G sc MX7_tick 4 [some (.ref a0), some (.int (I l1)), some (.int (I l2)), some (.int (I l3)), u4, u5] [] SH S r := by
  refine tt_ld (M := MX7_tick) (pc := 4) dX7_tick_4 rfl rfl rfl rfl rfl ?_
  refine tt_ld (M := MX7_tick) (pc := 5) dX7_tick_5 rfl rfl rfl rfl rfl ?_
  refine tt_ic_ge (M := MX7_tick) (pc := 6) 56 dX7_tick_6 rfl ?_ ?_
  · refine tt_ld (M := MX7_tick) (pc := 56) dX7_tick_56 rfl rfl rfl rfl rfl ?_
    exact tt_iret (M := MX7_tick) (pc := 57) dX7_tick_57 rfl
  · refine tt_ld (M := MX7_tick) (pc := 9) dX7_tick_9 rfl rfl rfl rfl rfl ?_
    refine tt_getR (M := MX7_tick) (pc := 10) dX7_tick_10 rfl h0.1 rfl ?_
    refine tt_iconst (M := MX7_tick) (pc := 13) dX7_tick_13 ?_
    refine tt_iaload (M := MX7_tick) (pc := 14) dX7_tick_14 h0.2.2.2.2.2.2.2.2.2.2.2.1 rfl ?_
    refine tt_st (M := MX7_tick) (pc := 15) [some (.ref a0), some (.int (I l1)), some (.int (I l2)), some (.int (I l3)), some (.int (I (S (a0 + 19) 0))), u5] dX7_tick_15 rfl rfl rfl rfl rfl rfl ?_
    refine tt_iconst (M := MX7_tick) (pc := 17) dX7_tick_17 ?_
    refine tt_st (M := MX7_tick) (pc := 18) [some (.ref a0), some (.int (I l1)), some (.int (I l2)), some (.int (I l3)), some (.int (I (S (a0 + 19) 0))), some (.int (I 0))] dX7_tick_18 rfl rfl rfl rfl rfl rfl ?_
    exact id
theorem qX7_tick_20 {sc : Nat × (Nat → Int32)} {SH : List mCell} {S : mStore} {r : mR × mW} {a0 : Nat} (h0 : sState SH a0) {l1 : Int} {l2 : Int} {l3 : Int} {l4 : Int} {l5 : Int} : ((if I l4 ≤ I l5 then (((0 : Int) ≤ 2 ∧ (2 : Int) < 12) ∧ (((0 : Int) ≤ 2 ∧ (2 : Int) < 12) ∧ G sc MX7_tick 4 [some (.ref a0), some (.int (I l1)), some (.int (I l2)), some (.int (I (l3 + 1))), some (.int (I l4)), some (.int (I l5))] [] SH (up S (a0 + 19) 2 ((S (a0 + 19) 2) + 1)) r)) else (∃ v101 S102, G sc MX7_scanNext 0 [some (.ref a0), none, none] [] SH S (rI v101 SH S102) ∧ G sc MX7_tick 20 [some (.ref a0), some (.int (I l1)), some (.int (I (l2 + v101))), some (.int (I l3)), some (.int (I l4)), some (.int (I (l5 + 1)))] [] SH S102 r))) → G sc MX7_tick 20 [some (.ref a0), some (.int (I l1)), some (.int (I l2)), some (.int (I l3)), some (.int (I l4)), some (.int (I l5))] [] SH S r := by
  refine tt_ld (M := MX7_tick) (pc := 20) dX7_tick_20 rfl rfl rfl rfl rfl ?_
  refine tt_ld (M := MX7_tick) (pc := 22) dX7_tick_22 rfl rfl rfl rfl rfl ?_
  refine tt_ic_ge (M := MX7_tick) (pc := 24) 40 dX7_tick_24 rfl ?_ ?_
  · refine tt_ld (M := MX7_tick) (pc := 40) dX7_tick_40 rfl rfl rfl rfl rfl ?_
    refine tt_getR (M := MX7_tick) (pc := 41) dX7_tick_41 rfl h0.1 rfl ?_
    refine tt_iconst (M := MX7_tick) (pc := 44) dX7_tick_44 ?_
    refine tt_dup2 (M := MX7_tick) (pc := 45) dX7_tick_45 rfl rfl ?_
    refine tt_iaload (M := MX7_tick) (pc := 46) dX7_tick_46 h0.2.2.2.2.2.2.2.2.2.2.2.1 rfl ?_
    refine tt_iconst (M := MX7_tick) (pc := 47) dX7_tick_47 ?_
    refine tt_iadd (M := MX7_tick) (pc := 48) dX7_tick_48 ?_
    refine tt_iastore (M := MX7_tick) (pc := 49) dX7_tick_49 h0.2.2.2.2.2.2.2.2.2.2.2.1 rfl ?_
    refine tt_iinc (M := MX7_tick) (pc := 50) [some (.ref a0), some (.int (I l1)), some (.int (I l2)), some (.int (I (l3 + 1))), some (.int (I l4)), some (.int (I l5))] dX7_tick_50 rfl rfl ?_
    refine tt_goto (M := MX7_tick) (pc := 53) 4 dX7_tick_53 rfl ?_
    exact id
  · refine tt_ld (M := MX7_tick) (pc := 27) dX7_tick_27 rfl rfl rfl rfl rfl ?_
    refine tt_ld (M := MX7_tick) (pc := 28) dX7_tick_28 rfl rfl rfl rfl rfl ?_
    refine tt_vcIN (M := MX7_tick) (pc := 29) dX7_tick_29 rfl rfl [.int (I l2)] rfl rfl ⟨rfl, by decide, Nat.le_of_ble_eq_true rfl⟩ h0.1 fun v101 S102 => ?_
    refine tt_iadd (M := MX7_tick) (pc := 32) dX7_tick_32 ?_
    refine tt_st (M := MX7_tick) (pc := 33) [some (.ref a0), some (.int (I l1)), some (.int (I (l2 + v101))), some (.int (I l3)), some (.int (I l4)), some (.int (I l5))] dX7_tick_33 rfl rfl rfl rfl rfl rfl ?_
    refine tt_iinc (M := MX7_tick) (pc := 34) [some (.ref a0), some (.int (I l1)), some (.int (I (l2 + v101))), some (.int (I l3)), some (.int (I l4)), some (.int (I (l5 + 1)))] dX7_tick_34 rfl rfl ?_
    refine tt_goto (M := MX7_tick) (pc := 37) 20 dX7_tick_37 rfl ?_
    exact id
