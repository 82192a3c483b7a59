-- needs: 43.tshape
/-! ===== the program as conditions (gen_vc.py) ===== -/
theorem qX7_clear_0 {sc : Nat × (Nat → Int32)} {SH : List mCell} {S : mStore} {r : mR × mW} {a0 : Nat} (h0 : sState SH a0) : ((∃ S101, G sc MX6_clear 0 [some (.ref (a0 + 1))] [] SH S (rV SH S101) ∧ (∃ S102, G sc MX6_clear 0 [some (.ref (a0 + 5))] [] SH S101 (rV SH S102) ∧ (∃ S103, G sc MX9_clear 0 [some (.ref (a0 + 9))] [] SH S102 (rV SH S103) ∧ (∃ S104, G sc MX9_clear 0 [some (.ref (a0 + 11))] [] SH S103 (rV SH S104) ∧ (∃ S105, G sc MJ7_fill_53178 0 [some (.ref (a0 + 13)), some (.int (I 0)), none, none] [] SH S104 (rV SH S105) ∧ (∃ S106, G sc MJ7_fill_53178 0 [some (.ref (a0 + 14)), some (.int (I 0)), none, none] [] SH S105 (rV SH S106) ∧ (∃ S107, G sc MJ7_fill_53178 0 [some (.ref (a0 + 15)), some (.int (I 0)), none, none] [] SH S106 (rV SH S107) ∧ (∃ S108, G sc MJ7_fill_53178 0 [some (.ref (a0 + 16)), some (.int (I (-1))), none, none] [] SH S107 (rV SH S108) ∧ (∃ S109, G sc MJ7_fill_53178 0 [some (.ref (a0 + 17)), some (.int (I 0)), none, none] [] SH S108 (rV SH S109) ∧ (∃ S110, G sc MJ7_fill_53178 0 [some (.ref (a0 + 18)), some (.int (I 0)), none, none] [] SH S109 (rV SH S110) ∧ (∃ S111, G sc MJ7_fill_53178 0 [some (.ref (a0 + 19)), some (.int (I 0)), none, none] [] SH S110 (rV SH S111) ∧ ((0 ≤ 0 ∧ 0 < 12) ∧ r = rV SH (up S111 (a0 + 19) 0 (S111 1 2))))))))))))))) → G sc MX7_clear 0 [some (.ref a0)] [] SH S r := by
  refine t_ld (pc := 0) dX7_clear_0 rfl rfl rfl rfl rfl ?_
  refine t_getR (pc := 1) dX7_clear_1 rfl h0.1 rfl ?_
  refine t_vcVN (pc := 4) dX7_clear_4 rfl rfl [] rfl rfl ⟨rfl, by decide, Nat.le_of_ble_eq_true rfl⟩ h0.2.1.1 fun S101 => ?_
  refine t_ld (pc := 7) dX7_clear_7 rfl rfl rfl rfl rfl ?_
  refine t_getR (pc := 8) dX7_clear_8 rfl h0.1 rfl ?_
  refine t_vcVN (pc := 11) dX7_clear_11 rfl rfl [] rfl rfl ⟨rfl, by decide, Nat.le_of_ble_eq_true rfl⟩ h0.2.2.1.1 fun S102 => ?_
  refine t_ld (pc := 14) dX7_clear_14 rfl rfl rfl rfl rfl ?_
  refine t_getR (pc := 15) dX7_clear_15 rfl h0.1 rfl ?_
  refine t_vcVN (pc := 18) dX7_clear_18 rfl rfl [] rfl rfl ⟨rfl, by decide, Nat.le_of_ble_eq_true rfl⟩ h0.2.2.2.1.1 fun S103 => ?_
  refine t_ld (pc := 21) dX7_clear_21 rfl rfl rfl rfl rfl ?_
  refine t_getR (pc := 22) dX7_clear_22 rfl h0.1 rfl ?_
  refine t_vcVN (pc := 25) dX7_clear_25 rfl rfl [] rfl rfl ⟨rfl, by decide, Nat.le_of_ble_eq_true rfl⟩ h0.2.2.2.2.1.1 fun S104 => ?_
  refine t_ld (pc := 28) dX7_clear_28 rfl rfl rfl rfl rfl ?_
  refine t_getR (pc := 29) dX7_clear_29 rfl h0.1 rfl ?_
  refine t_iconst (pc := 32) dX7_clear_32 ?_
  refine t_scVN (pc := 33) dX7_clear_33 rfl [] rfl rfl ⟨rfl, by decide, Nat.le_of_ble_eq_true rfl⟩ fun S105 => ?_
  refine t_ld (pc := 36) dX7_clear_36 rfl rfl rfl rfl rfl ?_
  refine t_getR (pc := 37) dX7_clear_37 rfl h0.1 rfl ?_
  refine t_iconst (pc := 40) dX7_clear_40 ?_
  refine t_scVN (pc := 41) dX7_clear_41 rfl [] rfl rfl ⟨rfl, by decide, Nat.le_of_ble_eq_true rfl⟩ fun S106 => ?_
  refine t_ld (pc := 44) dX7_clear_44 rfl rfl rfl rfl rfl ?_
  refine t_getR (pc := 45) dX7_clear_45 rfl h0.1 rfl ?_
  refine t_iconst (pc := 48) dX7_clear_48 ?_
  refine t_scVN (pc := 49) dX7_clear_49 rfl [] rfl rfl ⟨rfl, by decide, Nat.le_of_ble_eq_true rfl⟩ fun S107 => ?_
  refine t_ld (pc := 52) dX7_clear_52 rfl rfl rfl rfl rfl ?_
  refine t_getR (pc := 53) dX7_clear_53 rfl h0.1 rfl ?_
  refine t_iconst (pc := 56) dX7_clear_56 ?_
  refine t_scVN (pc := 57) dX7_clear_57 rfl [] rfl rfl ⟨rfl, by decide, Nat.le_of_ble_eq_true rfl⟩ fun S108 => ?_
  refine t_ld (pc := 60) dX7_clear_60 rfl rfl rfl rfl rfl ?_
  refine t_getR (pc := 61) dX7_clear_61 rfl h0.1 rfl ?_
  refine t_iconst (pc := 64) dX7_clear_64 ?_
  refine t_scVN (pc := 65) dX7_clear_65 rfl [] rfl rfl ⟨rfl, by decide, Nat.le_of_ble_eq_true rfl⟩ fun S109 => ?_
  refine t_ld (pc := 68) dX7_clear_68 rfl rfl rfl rfl rfl ?_
  refine t_getR (pc := 69) dX7_clear_69 rfl h0.1 rfl ?_
  refine t_iconst (pc := 72) dX7_clear_72 ?_
  refine t_scVN (pc := 73) dX7_clear_73 rfl [] rfl rfl ⟨rfl, by decide, Nat.le_of_ble_eq_true rfl⟩ fun S110 => ?_
  refine t_ld (pc := 76) dX7_clear_76 rfl rfl rfl rfl rfl ?_
  refine t_getR (pc := 77) dX7_clear_77 rfl h0.1 rfl ?_
  refine t_iconst (pc := 80) dX7_clear_80 ?_
  refine t_scVN (pc := 81) dX7_clear_81 rfl [] rfl rfl ⟨rfl, by decide, Nat.le_of_ble_eq_true rfl⟩ fun S111 => ?_
  refine t_ld (pc := 84) dX7_clear_84 rfl rfl rfl rfl rfl ?_
  refine t_getR (pc := 85) dX7_clear_85 rfl h0.1 rfl ?_
  refine t_iconst (pc := 88) dX7_clear_88 ?_
  refine t_ld (pc := 89) dX7_clear_89 rfl rfl rfl rfl rfl ?_
  refine t_getR (pc := 90) dX7_clear_90 rfl h0.1 rfl ?_
  refine t_getI (pc := 93) dX7_clear_93 rfl h0.2.2.2.2.2.2.2.2.2.2.2.2.1 rfl ?_
  refine t_iastore (pc := 96) dX7_clear_96 h0.2.2.2.2.2.2.2.2.2.2.2.1 ?_
  exact t_ret (pc := 97) dX7_clear_97 rfl
theorem qX7_become_0 {sc : Nat × (Nat → Int32)} {SH : List mCell} {S : mStore} {r : mR × mW} {a0 a1 : Nat} (h0 : sState SH a0) (h1 : sState SH a1) : ((∃ S101, G sc MX6_become 0 [some (.ref (a0 + 1)), some (.ref (a1 + 1))] [] SH S (rV SH S101) ∧ (∃ S102, G sc MX6_become 0 [some (.ref (a0 + 5)), some (.ref (a1 + 5))] [] SH S101 (rV SH S102) ∧ (∃ S103, G sc MX9_become 0 [some (.ref (a0 + 9)), some (.ref (a1 + 9))] [] SH S102 (rV SH S103) ∧ (∃ S104, G sc MX9_become 0 [some (.ref (a0 + 11)), some (.ref (a1 + 11))] [] SH S103 (rV SH S104) ∧ r = rV SH (cpy (cpy (cpy (cpy (cpy (cpy (cpy S104 (a1 + 13) (a0 + 13) 48) (a1 + 14) (a0 + 14) 48) (a1 + 15) (a0 + 15) 48) (a1 + 16) (a0 + 16) 48) (a1 + 17) (a0 + 17) 48) (a1 + 18) (a0 + 18) 48) (a1 + 19) (a0 + 19) 12)))))) → G sc MX7_become 0 [some (.ref a0), some (.ref a1)] [] SH S r := by
  refine t_ld (pc := 0) dX7_become_0 rfl rfl rfl rfl rfl ?_
  refine t_getR (pc := 1) dX7_become_1 rfl h0.1 rfl ?_
  refine t_ld (pc := 4) dX7_become_4 rfl rfl rfl rfl rfl ?_
  refine t_getR (pc := 5) dX7_become_5 rfl h1.1 rfl ?_
  refine t_vcVN (pc := 8) dX7_become_8 rfl rfl [] rfl rfl ⟨rfl, by decide, Nat.le_of_ble_eq_true rfl⟩ h0.2.1.1 fun S101 => ?_
  refine t_ld (pc := 11) dX7_become_11 rfl rfl rfl rfl rfl ?_
  refine t_getR (pc := 12) dX7_become_12 rfl h0.1 rfl ?_
  refine t_ld (pc := 15) dX7_become_15 rfl rfl rfl rfl rfl ?_
  refine t_getR (pc := 16) dX7_become_16 rfl h1.1 rfl ?_
  refine t_vcVN (pc := 19) dX7_become_19 rfl rfl [] rfl rfl ⟨rfl, by decide, Nat.le_of_ble_eq_true rfl⟩ h0.2.2.1.1 fun S102 => ?_
  refine t_ld (pc := 22) dX7_become_22 rfl rfl rfl rfl rfl ?_
  refine t_getR (pc := 23) dX7_become_23 rfl h0.1 rfl ?_
  refine t_ld (pc := 26) dX7_become_26 rfl rfl rfl rfl rfl ?_
  refine t_getR (pc := 27) dX7_become_27 rfl h1.1 rfl ?_
  refine t_vcVN (pc := 30) dX7_become_30 rfl rfl [] rfl rfl ⟨rfl, by decide, Nat.le_of_ble_eq_true rfl⟩ h0.2.2.2.1.1 fun S103 => ?_
  refine t_ld (pc := 33) dX7_become_33 rfl rfl rfl rfl rfl ?_
  refine t_getR (pc := 34) dX7_become_34 rfl h0.1 rfl ?_
  refine t_ld (pc := 37) dX7_become_37 rfl rfl rfl rfl rfl ?_
  refine t_getR (pc := 38) dX7_become_38 rfl h1.1 rfl ?_
  refine t_vcVN (pc := 41) dX7_become_41 rfl rfl [] rfl rfl ⟨rfl, by decide, Nat.le_of_ble_eq_true rfl⟩ h0.2.2.2.2.1.1 fun S104 => ?_
  refine t_ld (pc := 44) dX7_become_44 rfl rfl rfl rfl rfl ?_
  refine t_getR (pc := 45) dX7_become_45 rfl h1.1 rfl ?_
  refine t_iconst (pc := 48) dX7_become_48 ?_
  refine t_ld (pc := 49) dX7_become_49 rfl rfl rfl rfl rfl ?_
  refine t_getR (pc := 50) dX7_become_50 rfl h0.1 rfl ?_
  refine t_iconst (pc := 53) dX7_become_53 ?_
  refine t_bipush (pc := 54) dX7_become_54 (by decide) ?_
  refine t_copy (pc := 56) dX7_become_56 rfl [] rfl ⟨rfl, by decide, Nat.le_of_ble_eq_true rfl⟩ h1.2.2.2.2.2.1 h0.2.2.2.2.2.1 (by decide) ?_
  refine t_ld (pc := 59) dX7_become_59 rfl rfl rfl rfl rfl ?_
  refine t_getR (pc := 60) dX7_become_60 rfl h1.1 rfl ?_
  refine t_iconst (pc := 63) dX7_become_63 ?_
  refine t_ld (pc := 64) dX7_become_64 rfl rfl rfl rfl rfl ?_
  refine t_getR (pc := 65) dX7_become_65 rfl h0.1 rfl ?_
  refine t_iconst (pc := 68) dX7_become_68 ?_
  refine t_bipush (pc := 69) dX7_become_69 (by decide) ?_
  refine t_copy (pc := 71) dX7_become_71 rfl [] rfl ⟨rfl, by decide, Nat.le_of_ble_eq_true rfl⟩ h1.2.2.2.2.2.2.1 h0.2.2.2.2.2.2.1 (by decide) ?_
  refine t_ld (pc := 74) dX7_become_74 rfl rfl rfl rfl rfl ?_
  refine t_getR (pc := 75) dX7_become_75 rfl h1.1 rfl ?_
  refine t_iconst (pc := 78) dX7_become_78 ?_
  refine t_ld (pc := 79) dX7_become_79 rfl rfl rfl rfl rfl ?_
  refine t_getR (pc := 80) dX7_become_80 rfl h0.1 rfl ?_
  refine t_iconst (pc := 83) dX7_become_83 ?_
  refine t_bipush (pc := 84) dX7_become_84 (by decide) ?_
  refine t_copy (pc := 86) dX7_become_86 rfl [] rfl ⟨rfl, by decide, Nat.le_of_ble_eq_true rfl⟩ h1.2.2.2.2.2.2.2.1 h0.2.2.2.2.2.2.2.1 (by decide) ?_
  refine t_ld (pc := 89) dX7_become_89 rfl rfl rfl rfl rfl ?_
  refine t_getR (pc := 90) dX7_become_90 rfl h1.1 rfl ?_
  refine t_iconst (pc := 93) dX7_become_93 ?_
  refine t_ld (pc := 94) dX7_become_94 rfl rfl rfl rfl rfl ?_
  refine t_getR (pc := 95) dX7_become_95 rfl h0.1 rfl ?_
  refine t_iconst (pc := 98) dX7_become_98 ?_
  refine t_bipush (pc := 99) dX7_become_99 (by decide) ?_
  refine t_copy (pc := 101) dX7_become_101 rfl [] rfl ⟨rfl, by decide, Nat.le_of_ble_eq_true rfl⟩ h1.2.2.2.2.2.2.2.2.1 h0.2.2.2.2.2.2.2.2.1 (by decide) ?_
  refine t_ld (pc := 104) dX7_become_104 rfl rfl rfl rfl rfl ?_
  refine t_getR (pc := 105) dX7_become_105 rfl h1.1 rfl ?_
  refine t_iconst (pc := 108) dX7_become_108 ?_
  refine t_ld (pc := 109) dX7_become_109 rfl rfl rfl rfl rfl ?_
  refine t_getR (pc := 110) dX7_become_110 rfl h0.1 rfl ?_
  refine t_iconst (pc := 113) dX7_become_113 ?_
  refine t_bipush (pc := 114) dX7_become_114 (by decide) ?_
  refine t_copy (pc := 116) dX7_become_116 rfl [] rfl ⟨rfl, by decide, Nat.le_of_ble_eq_true rfl⟩ h1.2.2.2.2.2.2.2.2.2.1 h0.2.2.2.2.2.2.2.2.2.1 (by decide) ?_
  refine t_ld (pc := 119) dX7_become_119 rfl rfl rfl rfl rfl ?_
  refine t_getR (pc := 120) dX7_become_120 rfl h1.1 rfl ?_
  refine t_iconst (pc := 123) dX7_become_123 ?_
  refine t_ld (pc := 124) dX7_become_124 rfl rfl rfl rfl rfl ?_
  refine t_getR (pc := 125) dX7_become_125 rfl h0.1 rfl ?_
  refine t_iconst (pc := 128) dX7_become_128 ?_
  refine t_bipush (pc := 129) dX7_become_129 (by decide) ?_
  refine t_copy (pc := 131) dX7_become_131 rfl [] rfl ⟨rfl, by decide, Nat.le_of_ble_eq_true rfl⟩ h1.2.2.2.2.2.2.2.2.2.2.1 h0.2.2.2.2.2.2.2.2.2.2.1 (by decide) ?_
  refine t_ld (pc := 134) dX7_become_134 rfl rfl rfl rfl rfl ?_
  refine t_getR (pc := 135) dX7_become_135 rfl h1.1 rfl ?_
  refine t_iconst (pc := 138) dX7_become_138 ?_
  refine t_ld (pc := 139) dX7_become_139 rfl rfl rfl rfl rfl ?_
  refine t_getR (pc := 140) dX7_become_140 rfl h0.1 rfl ?_
  refine t_iconst (pc := 143) dX7_become_143 ?_
  refine t_bipush (pc := 144) dX7_become_144 (by decide) ?_
  refine t_copy (pc := 146) dX7_become_146 rfl [] rfl ⟨rfl, by decide, Nat.le_of_ble_eq_true rfl⟩ h1.2.2.2.2.2.2.2.2.2.2.2.1 h0.2.2.2.2.2.2.2.2.2.2.2.1 (by decide) ?_
  exact t_ret (pc := 149) dX7_become_149 rfl
theorem qX7_used_0 {sc : Nat × (Nat → Int32)} {SH : List mCell} {S : mStore} {r : mR × mW} {a0 : Nat} (h0 : sState SH a0) {u1 : Option Value} {u2 : Option Value} : (G sc MX7_used 4 [some (.ref a0), some (.int (I 0)), some (.int (I 0))] [] SH S r) → G sc MX7_used 0 [some (.ref a0), u1, u2] [] SH S r := by
  refine t_iconst (pc := 0) dX7_used_0 ?_
  refine t_st (pc := 1) [some (.ref a0), some (.int (I 0)), u2] dX7_used_1 rfl rfl rfl rfl rfl rfl ?_
  refine t_iconst (pc := 2) dX7_used_2 ?_
  refine t_st (pc := 3) [some (.ref a0), some (.int (I 0)), some (.int (I 0))] dX7_used_3 rfl rfl rfl rfl rfl rfl ?_
  exact id
theorem qX7_used_4 {sc : Nat × (Nat → Int32)} {SH : List mCell} {S : mStore} {r : mR × mW} {a0 : Nat} (h0 : sState SH a0) {l1 : Int} {l2 : Int} : ((if I (S 1 0) ≤ I l2 then r = rI l1 SH S else ((0 ≤ l2 ∧ l2 < 48) ∧ (if I (S (a0 + 4) l2) = I (-1) then G sc MX7_used 4 [some (.ref a0), some (.int (I l1)), some (.int (I (l2 + 1)))] [] SH S r else G sc MX7_used 4 [some (.ref a0), some (.int (I (l1 + 1))), some (.int (I (l2 + 1)))] [] SH S r)))) → G sc MX7_used 4 [some (.ref a0), some (.int (I l1)), some (.int (I l2))] [] SH S r := by
  refine t_ld (pc := 4) dX7_used_4 rfl rfl rfl rfl rfl ?_
  refine t_ld (pc := 5) dX7_used_5 rfl rfl rfl rfl rfl ?_
  refine t_getR (pc := 6) dX7_used_6 rfl h0.1 rfl ?_
  refine t_getI (pc := 9) dX7_used_9 rfl h0.2.2.2.2.2.2.2.2.2.2.2.2.1 rfl ?_
  refine t_ic_ge (pc := 12) 37 dX7_used_12 rfl ?_ ?_
  · refine t_ld (pc := 37) dX7_used_37 rfl rfl rfl rfl rfl ?_
    exact t_iret (pc := 38) dX7_used_38 rfl
  · refine t_ld (pc := 15) dX7_used_15 rfl rfl rfl rfl rfl ?_
    refine t_getR (pc := 16) dX7_used_16 rfl h0.1 rfl ?_
    refine t_getR (pc := 19) dX7_used_19 rfl h0.2.1.1 rfl ?_
    refine t_ld (pc := 22) dX7_used_22 rfl rfl rfl rfl rfl ?_
    refine t_iaload (pc := 23) dX7_used_23 h0.2.1.2.2.2 ?_
    refine t_iconst (pc := 24) dX7_used_24 ?_
    refine t_ic_eq (pc := 25) 31 dX7_used_25 rfl ?_ ?_
    · refine t_iinc (pc := 31) [some (.ref a0), some (.int (I l1)), some (.int (I (l2 + 1)))] dX7_used_31 rfl rfl ?_
      refine t_goto (pc := 34) 4 dX7_used_34 rfl ?_
      exact id
    · refine t_iinc (pc := 28) [some (.ref a0), some (.int (I (l1 + 1))), some (.int (I l2))] dX7_used_28 rfl rfl ?_
      refine t_iinc (pc := 31) [some (.ref a0), some (.int (I (l1 + 1))), some (.int (I (l2 + 1)))] dX7_used_31 rfl rfl ?_
      refine t_goto (pc := 34) 4 dX7_used_34 rfl ?_
      exact id
theorem qX7_mergedFrames_0 {sc : Nat × (Nat → Int32)} {SH : List mCell} {S : mStore} {r : mR × mW} {a0 : Nat} (h0 : sState SH a0) {u1 : Option Value} {u2 : Option Value} : (G sc MX7_mergedFrames 4 [some (.ref a0), some (.int (I 0)), some (.int (I 0))] [] SH S r) → G sc MX7_mergedFrames 0 [some (.ref a0), u1, u2] [] SH S r := by
  refine t_iconst (pc := 0) dX7_mergedFrames_0 ?_
  refine t_st (pc := 1) [some (.ref a0), some (.int (I 0)), u2] dX7_mergedFrames_1 rfl rfl rfl rfl rfl rfl ?_
  refine t_iconst (pc := 2) dX7_mergedFrames_2 ?_
  refine t_st (pc := 3) [some (.ref a0), some (.int (I 0)), some (.int (I 0))] dX7_mergedFrames_3 rfl rfl rfl rfl rfl rfl ?_
  exact id
theorem qX7_mergedFrames_4 {sc : Nat × (Nat → Int32)} {SH : List mCell} {S : mStore} {r : mR × mW} {a0 : Nat} (h0 : sState SH a0) {l1 : Int} {l2 : Int} : ((if I (S 1 0) ≤ I l2 then r = rI l1 SH S else ((0 ≤ l2 ∧ l2 < 48) ∧ (if I (S (a0 + 6) l2) = I (-1) then G sc MX7_mergedFrames 4 [some (.ref a0), some (.int (I l1)), some (.int (I (l2 + 1)))] [] SH S r else G sc MX7_mergedFrames 4 [some (.ref a0), some (.int (I (l1 + 1))), some (.int (I (l2 + 1)))] [] SH S r)))) → G sc MX7_mergedFrames 4 [some (.ref a0), some (.int (I l1)), some (.int (I l2))] [] SH S r := by
  refine t_ld (pc := 4) dX7_mergedFrames_4 rfl rfl rfl rfl rfl ?_
  refine t_ld (pc := 5) dX7_mergedFrames_5 rfl rfl rfl rfl rfl ?_
  refine t_getR (pc := 6) dX7_mergedFrames_6 rfl h0.1 rfl ?_
  refine t_getI (pc := 9) dX7_mergedFrames_9 rfl h0.2.2.2.2.2.2.2.2.2.2.2.2.1 rfl ?_
  refine t_ic_ge (pc := 12) 37 dX7_mergedFrames_12 rfl ?_ ?_
  · refine t_ld (pc := 37) dX7_mergedFrames_37 rfl rfl rfl rfl rfl ?_
    exact t_iret (pc := 38) dX7_mergedFrames_38 rfl
  · refine t_ld (pc := 15) dX7_mergedFrames_15 rfl rfl rfl rfl rfl ?_
    refine t_getR (pc := 16) dX7_mergedFrames_16 rfl h0.1 rfl ?_
    refine t_getR (pc := 19) dX7_mergedFrames_19 rfl h0.2.2.1.1 rfl ?_
    refine t_ld (pc := 22) dX7_mergedFrames_22 rfl rfl rfl rfl rfl ?_
    refine t_iaload (pc := 23) dX7_mergedFrames_23 h0.2.2.1.2.1 ?_
    refine t_iconst (pc := 24) dX7_mergedFrames_24 ?_
    refine t_ic_eq (pc := 25) 31 dX7_mergedFrames_25 rfl ?_ ?_
    · refine t_iinc (pc := 31) [some (.ref a0), some (.int (I l1)), some (.int (I (l2 + 1)))] dX7_mergedFrames_31 rfl rfl ?_
      refine t_goto (pc := 34) 4 dX7_mergedFrames_34 rfl ?_
      exact id
    · refine t_iinc (pc := 28) [some (.ref a0), some (.int (I (l1 + 1))), some (.int (I l2))] dX7_mergedFrames_28 rfl rfl ?_
      refine t_iinc (pc := 31) [some (.ref a0), some (.int (I (l1 + 1))), some (.int (I (l2 + 1)))] dX7_mergedFrames_31 rfl rfl ?_
      refine t_goto (pc := 34) 4 dX7_mergedFrames_34 rfl ?_
      exact id
theorem qX7_mergedPages_0 {sc : Nat × (Nat → Int32)} {SH : List mCell} {S : mStore} {r : mR × mW} {a0 : Nat} (h0 : sState SH a0) {l1 : Int} {l2 : Int} {u3 : Option Value} {u4 : Option Value} : (G sc MX7_mergedPages 5 [some (.ref a0), some (.int (I l1)), some (.int (I l2)), some (.int (I 0)), some (.int (I l1))] [] SH S r) → G sc MX7_mergedPages 0 [some (.ref a0), some (.int (I l1)), some (.int (I l2)), u3, u4] [] SH S r := by
  refine t_iconst (pc := 0) dX7_mergedPages_0 ?_
  refine t_st (pc := 1) [some (.ref a0), some (.int (I l1)), some (.int (I l2)), some (.int (I 0)), u4] dX7_mergedPages_1 rfl rfl rfl rfl rfl rfl ?_
  refine t_ld (pc := 2) dX7_mergedPages_2 rfl rfl rfl rfl rfl ?_
  refine t_st (pc := 3) [some (.ref a0), some (.int (I l1)), some (.int (I l2)), some (.int (I 0)), some (.int (I l1))] dX7_mergedPages_3 rfl rfl rfl rfl rfl rfl ?_
  exact id
theorem qX7_mergedPages_5 {sc : Nat × (Nat → Int32)} {SH : List mCell} {S : mStore} {r : mR × mW} {a0 : Nat} (h0 : sState SH a0) {l1 : Int} {l2 : Int} {l3 : Int} {l4 : Int} : ((if I l2 ≤ I l4 then r = rI l3 SH S else (∃ v101 S102, G sc MX7_isMerged 0 [some (.ref a0), some (.int (I l4)), none] [] SH S (rI v101 SH S102) ∧ (if I v101 = I 0 then G sc MX7_mergedPages 5 [some (.ref a0), some (.int (I l1)), some (.int (I l2)), some (.int (I l3)), some (.int (I (l4 + 1)))] [] SH S102 r else G sc MX7_mergedPages 5 [some (.ref a0), some (.int (I l1)), some (.int (I l2)), some (.int (I (l3 + 1))), some (.int (I (l4 + 1)))] [] SH S102 r)))) → G sc MX7_mergedPages 5 [some (.ref a0), some (.int (I l1)), some (.int (I l2)), some (.int (I l3)), some (.int (I l4))] [] SH S r := by
  refine t_ld (pc := 5) dX7_mergedPages_5 rfl rfl rfl rfl rfl ?_
  refine t_ld (pc := 7) dX7_mergedPages_7 rfl rfl rfl rfl rfl ?_
  refine t_ic_ge (pc := 8) 29 dX7_mergedPages_8 rfl ?_ ?_
  · refine t_ld (pc := 29) dX7_mergedPages_29 rfl rfl rfl rfl rfl ?_
    exact t_iret (pc := 30) dX7_mergedPages_30 rfl
  · refine t_ld (pc := 11) dX7_mergedPages_11 rfl rfl rfl rfl rfl ?_
    refine t_ld (pc := 12) dX7_mergedPages_12 rfl rfl rfl rfl rfl ?_
    refine t_vcIN (pc := 14) dX7_mergedPages_14 rfl rfl [] rfl rfl ⟨rfl, by decide, Nat.le_of_ble_eq_true rfl⟩ h0.1 fun v101 S102 => ?_
    refine t_if_eq (pc := 17) 23 dX7_mergedPages_17 rfl ?_ ?_
    · refine t_iinc (pc := 23) [some (.ref a0), some (.int (I l1)), some (.int (I l2)), some (.int (I l3)), some (.int (I (l4 + 1)))] dX7_mergedPages_23 rfl rfl ?_
      refine t_goto (pc := 26) 5 dX7_mergedPages_26 rfl ?_
      exact id
    · refine t_iinc (pc := 20) [some (.ref a0), some (.int (I l1)), some (.int (I l2)), some (.int (I (l3 + 1))), some (.int (I l4))] dX7_mergedPages_20 rfl rfl ?_
      refine t_iinc (pc := 23) [some (.ref a0), some (.int (I l1)), some (.int (I l2)), some (.int (I (l3 + 1))), some (.int (I (l4 + 1)))] dX7_mergedPages_23 rfl rfl ?_
      refine t_goto (pc := 26) 5 dX7_mergedPages_26 rfl ?_
      exact id
theorem qX7_absentPages_0 {sc : Nat × (Nat → Int32)} {SH : List mCell} {S : mStore} {r : mR × mW} {a0 : Nat} (h0 : sState SH a0) {l1 : Int} {l2 : Int} {u3 : Option Value} {u4 : Option Value} : (G sc MX7_absentPages 5 [some (.ref a0), some (.int (I l1)), some (.int (I l2)), some (.int (I 0)), some (.int (I l1))] [] SH S r) → G sc MX7_absentPages 0 [some (.ref a0), some (.int (I l1)), some (.int (I l2)), u3, u4] [] SH S r := by
  refine t_iconst (pc := 0) dX7_absentPages_0 ?_
  refine t_st (pc := 1) [some (.ref a0), some (.int (I l1)), some (.int (I l2)), some (.int (I 0)), u4] dX7_absentPages_1 rfl rfl rfl rfl rfl rfl ?_
  refine t_ld (pc := 2) dX7_absentPages_2 rfl rfl rfl rfl rfl ?_
  refine t_st (pc := 3) [some (.ref a0), some (.int (I l1)), some (.int (I l2)), some (.int (I 0)), some (.int (I l1))] dX7_absentPages_3 rfl rfl rfl rfl rfl rfl ?_
  exact id
theorem qX7_absentPages_5 {sc : Nat × (Nat → Int32)} {SH : List mCell} {S : mStore} {r : mR × mW} {a0 : Nat} (h0 : sState SH a0) {l1 : Int} {l2 : Int} {l3 : Int} {l4 : Int} : ((if I l2 ≤ I l4 then r = rI l3 SH S else ((0 ≤ l4 ∧ l4 < 48) ∧ (if I (S (a0 + 2) l4) = I (-1) then G sc MX7_absentPages 5 [some (.ref a0), some (.int (I l1)), some (.int (I l2)), some (.int (I (l3 + 1))), some (.int (I (l4 + 1)))] [] SH S r else G sc MX7_absentPages 5 [some (.ref a0), some (.int (I l1)), some (.int (I l2)), some (.int (I l3)), some (.int (I (l4 + 1)))] [] SH S r)))) → G sc MX7_absentPages 5 [some (.ref a0), some (.int (I l1)), some (.int (I l2)), some (.int (I l3)), some (.int (I l4))] [] SH S r := by
  refine t_ld (pc := 5) dX7_absentPages_5 rfl rfl rfl rfl rfl ?_
  refine t_ld (pc := 7) dX7_absentPages_7 rfl rfl rfl rfl rfl ?_
  refine t_ic_ge (pc := 8) 34 dX7_absentPages_8 rfl ?_ ?_
  · refine t_ld (pc := 34) dX7_absentPages_34 rfl rfl rfl rfl rfl ?_
    exact t_iret (pc := 35) dX7_absentPages_35 rfl
  · refine t_ld (pc := 11) dX7_absentPages_11 rfl rfl rfl rfl rfl ?_
    refine t_getR (pc := 12) dX7_absentPages_12 rfl h0.1 rfl ?_
    refine t_getR (pc := 15) dX7_absentPages_15 rfl h0.2.1.1 rfl ?_
    refine t_ld (pc := 18) dX7_absentPages_18 rfl rfl rfl rfl rfl ?_
    refine t_iaload (pc := 20) dX7_absentPages_20 h0.2.1.2.1 ?_
    refine t_iconst (pc := 21) dX7_absentPages_21 ?_
    refine t_ic_ne (pc := 22) 28 dX7_absentPages_22 rfl ?_ ?_
    · refine t_iinc (pc := 28) [some (.ref a0), some (.int (I l1)), some (.int (I l2)), some (.int (I l3)), some (.int (I (l4 + 1)))] dX7_absentPages_28 rfl rfl ?_
      refine t_goto (pc := 31) 5 dX7_absentPages_31 rfl ?_
      exact id
    · refine t_iinc (pc := 25) [some (.ref a0), some (.int (I l1)), some (.int (I l2)), some (.int (I (l3 + 1))), some (.int (I l4))] dX7_absentPages_25 rfl rfl ?_
      refine t_iinc (pc := 28) [some (.ref a0), some (.int (I l1)), some (.int (I l2)), some (.int (I (l3 + 1))), some (.int (I (l4 + 1)))] dX7_absentPages_28 rfl rfl ?_
      refine t_goto (pc := 31) 5 dX7_absentPages_31 rfl ?_
      exact id
theorem qX7_advisedPages_0 {sc : Nat × (Nat → Int32)} {SH : List mCell} {S : mStore} {r : mR × mW} {a0 : Nat} (h0 : sState SH a0) {l1 : Int} {l2 : Int} {u3 : Option Value} {u4 : Option Value} : (G sc MX7_advisedPages 5 [some (.ref a0), some (.int (I l1)), some (.int (I l2)), some (.int (I 0)), some (.int (I l1))] [] SH S r) → G sc MX7_advisedPages 0 [some (.ref a0), some (.int (I l1)), some (.int (I l2)), u3, u4] [] SH S r := by
  refine t_iconst (pc := 0) dX7_advisedPages_0 ?_
  refine t_st (pc := 1) [some (.ref a0), some (.int (I l1)), some (.int (I l2)), some (.int (I 0)), u4] dX7_advisedPages_1 rfl rfl rfl rfl rfl rfl ?_
  refine t_ld (pc := 2) dX7_advisedPages_2 rfl rfl rfl rfl rfl ?_
  refine t_st (pc := 3) [some (.ref a0), some (.int (I l1)), some (.int (I l2)), some (.int (I 0)), some (.int (I l1))] dX7_advisedPages_3 rfl rfl rfl rfl rfl rfl ?_
  exact id
theorem qX7_advisedPages_5 {sc : Nat × (Nat → Int32)} {SH : List mCell} {S : mStore} {r : mR × mW} {a0 : Nat} (h0 : sState SH a0) {l1 : Int} {l2 : Int} {l3 : Int} {l4 : Int} : ((if I l2 ≤ I l4 then r = rI l3 SH S else ((0 ≤ l4 ∧ l4 < 48) ∧ (if I (S (a0 + 14) l4) = I 1 then G sc MX7_advisedPages 5 [some (.ref a0), some (.int (I l1)), some (.int (I l2)), some (.int (I (l3 + 1))), some (.int (I (l4 + 1)))] [] SH S r else G sc MX7_advisedPages 5 [some (.ref a0), some (.int (I l1)), some (.int (I l2)), some (.int (I l3)), some (.int (I (l4 + 1)))] [] SH S r)))) → G sc MX7_advisedPages 5 [some (.ref a0), some (.int (I l1)), some (.int (I l2)), some (.int (I l3)), some (.int (I l4))] [] SH S r := by
  refine t_ld (pc := 5) dX7_advisedPages_5 rfl rfl rfl rfl rfl ?_
  refine t_ld (pc := 7) dX7_advisedPages_7 rfl rfl rfl rfl rfl ?_
  refine t_ic_ge (pc := 8) 31 dX7_advisedPages_8 rfl ?_ ?_
  · refine t_ld (pc := 31) dX7_advisedPages_31 rfl rfl rfl rfl rfl ?_
    exact t_iret (pc := 32) dX7_advisedPages_32 rfl
  · refine t_ld (pc := 11) dX7_advisedPages_11 rfl rfl rfl rfl rfl ?_
    refine t_getR (pc := 12) dX7_advisedPages_12 rfl h0.1 rfl ?_
    refine t_ld (pc := 15) dX7_advisedPages_15 rfl rfl rfl rfl rfl ?_
    refine t_iaload (pc := 17) dX7_advisedPages_17 h0.2.2.2.2.2.2.1 ?_
    refine t_iconst (pc := 18) dX7_advisedPages_18 ?_
    refine t_ic_ne (pc := 19) 25 dX7_advisedPages_19 rfl ?_ ?_
    · refine t_iinc (pc := 25) [some (.ref a0), some (.int (I l1)), some (.int (I l2)), some (.int (I l3)), some (.int (I (l4 + 1)))] dX7_advisedPages_25 rfl rfl ?_
      refine t_goto (pc := 28) 5 dX7_advisedPages_28 rfl ?_
      exact id
    · refine t_iinc (pc := 22) [some (.ref a0), some (.int (I l1)), some (.int (I l2)), some (.int (I (l3 + 1))), some (.int (I l4))] dX7_advisedPages_22 rfl rfl ?_
      refine t_iinc (pc := 25) [some (.ref a0), some (.int (I l1)), some (.int (I l2)), some (.int (I (l3 + 1))), some (.int (I (l4 + 1)))] dX7_advisedPages_25 rfl rfl ?_
      refine t_goto (pc := 28) 5 dX7_advisedPages_28 rfl ?_
      exact id
theorem qX7_framesOf_0 {sc : Nat × (Nat → Int32)} {SH : List mCell} {S : mStore} {r : mR × mW} {a0 : Nat} (h0 : sState SH a0) {l1 : Int} {l2 : Int} {u3 : Option Value} {u4 : Option Value} {u5 : Option Value} : (G sc MX7_framesOf 5 [some (.ref a0), some (.int (I l1)), some (.int (I l2)), some (.long 0), none, some (.int (I l1))] [] SH S r) → G sc MX7_framesOf 0 [some (.ref a0), some (.int (I l1)), some (.int (I l2)), u3, u4, u5] [] SH S r := by
  refine t_pushv (pc := 0) (.long 0) dX7_framesOf_0 rfl rfl ?_
  refine t_st (pc := 1) [some (.ref a0), some (.int (I l1)), some (.int (I l2)), some (.long 0), none, u5] dX7_framesOf_1 rfl rfl rfl rfl rfl rfl ?_
  refine t_ld (pc := 2) dX7_framesOf_2 rfl rfl rfl rfl rfl ?_
  refine t_st (pc := 3) [some (.ref a0), some (.int (I l1)), some (.int (I l2)), some (.long 0), none, some (.int (I l1))] dX7_framesOf_3 rfl rfl rfl rfl rfl rfl ?_
  exact id
theorem qX7_framesOf_5 {sc : Nat × (Nat → Int32)} {SH : List mCell} {S : mStore} {r : mR × mW} {a0 : Nat} (h0 : sState SH a0) {l1 : Int} {l2 : Int} {j3 : Int64} {l5 : Int} : ((if I l2 ≤ I l5 then (∃ v101 S102, G sc MJ13_bitCount_95d88 0 [some (.long j3), none] [] SH S (rI v101 SH S102) ∧ r = rI v101 SH S102) else ((0 ≤ l5 ∧ l5 < 48) ∧ (if I (S (a0 + 2) l5) = I (-1) then G sc MX7_framesOf 5 [some (.ref a0), some (.int (I l1)), some (.int (I l2)), some (.long j3), none, some (.int (I (l5 + 1)))] [] SH S r else ((0 ≤ l5 ∧ l5 < 48) ∧ G sc MX7_framesOf 5 [some (.ref a0), some (.int (I l1)), some (.int (I l2)), some (.long (j3 ||| (jsl 1 (S (a0 + 2) l5)))), none, some (.int (I (l5 + 1)))] [] SH S r))))) → G sc MX7_framesOf 5 [some (.ref a0), some (.int (I l1)), some (.int (I l2)), some (.long j3), none, some (.int (I l5))] [] SH S r := by
  refine t_ld (pc := 5) dX7_framesOf_5 rfl rfl rfl rfl rfl ?_
  refine t_ld (pc := 7) dX7_framesOf_7 rfl rfl rfl rfl rfl ?_
  refine t_ic_ge (pc := 8) 46 dX7_framesOf_8 rfl ?_ ?_
  · refine t_ld (pc := 46) dX7_framesOf_46 rfl rfl rfl rfl rfl ?_
    refine t_scIN (pc := 47) dX7_framesOf_47 rfl [] rfl rfl ⟨rfl, by decide, Nat.le_of_ble_eq_true rfl⟩ fun v101 S102 => ?_
    exact t_iret (pc := 50) dX7_framesOf_50 rfl
  · refine t_ld (pc := 11) dX7_framesOf_11 rfl rfl rfl rfl rfl ?_
    refine t_getR (pc := 12) dX7_framesOf_12 rfl h0.1 rfl ?_
    refine t_getR (pc := 15) dX7_framesOf_15 rfl h0.2.1.1 rfl ?_
    refine t_ld (pc := 18) dX7_framesOf_18 rfl rfl rfl rfl rfl ?_
    refine t_iaload (pc := 20) dX7_framesOf_20 h0.2.1.2.1 ?_
    refine t_iconst (pc := 21) dX7_framesOf_21 ?_
    refine t_ic_eq (pc := 22) 40 dX7_framesOf_22 rfl ?_ ?_
    · refine t_iinc (pc := 40) [some (.ref a0), some (.int (I l1)), some (.int (I l2)), some (.long j3), none, some (.int (I (l5 + 1)))] dX7_framesOf_40 rfl rfl ?_
      refine t_goto (pc := 43) 5 dX7_framesOf_43 rfl ?_
      exact id
    · refine t_ld (pc := 25) dX7_framesOf_25 rfl rfl rfl rfl rfl ?_
      refine t_pushv (pc := 26) (.long 1) dX7_framesOf_26 rfl rfl ?_
      refine t_ld (pc := 27) dX7_framesOf_27 rfl rfl rfl rfl rfl ?_
      refine t_getR (pc := 28) dX7_framesOf_28 rfl h0.1 rfl ?_
      refine t_getR (pc := 31) dX7_framesOf_31 rfl h0.2.1.1 rfl ?_
      refine t_ld (pc := 34) dX7_framesOf_34 rfl rfl rfl rfl rfl ?_
      refine t_iaload (pc := 36) dX7_framesOf_36 h0.2.1.2.1 ?_
      refine t_lshl (pc := 37) dX7_framesOf_37 ?_
      refine t_lor (pc := 38) dX7_framesOf_38 ?_
      refine t_st (pc := 39) [some (.ref a0), some (.int (I l1)), some (.int (I l2)), some (.long (j3 ||| (jsl 1 (S (a0 + 2) l5)))), none, some (.int (I l5))] dX7_framesOf_39 rfl rfl rfl rfl rfl rfl ?_
      refine t_iinc (pc := 40) [some (.ref a0), some (.int (I l1)), some (.int (I l2)), some (.long (j3 ||| (jsl 1 (S (a0 + 2) l5)))), none, some (.int (I (l5 + 1)))] dX7_framesOf_40 rfl rfl ?_
      refine t_goto (pc := 43) 5 dX7_framesOf_43 rfl ?_
      exact id
theorem qX7_isMerged_0 {sc : Nat × (Nat → Int32)} {SH : List mCell} {S : mStore} {r : mR × mW} {a0 : Nat} (h0 : sState SH a0) {l1 : Int} {u2 : Option Value} : (((0 ≤ l1 ∧ l1 < 48) ∧ (if I (S (a0 + 2) l1) = I (-1) then ((I 0 = I 0 ∨ I 0 = I 1) ∧ r = rI 0 SH S) else ((0 ≤ S (a0 + 2) l1 ∧ S (a0 + 2) l1 < 48) ∧ (if I (S (a0 + 6) (S (a0 + 2) l1)) = I (-1) then ((I 0 = I 0 ∨ I 0 = I 1) ∧ r = rI 0 SH S) else ((I 1 = I 0 ∨ I 1 = I 1) ∧ r = rI 1 SH S)))))) → G sc MX7_isMerged 0 [some (.ref a0), some (.int (I l1)), u2] [] SH S r := by
  refine t_ld (pc := 0) dX7_isMerged_0 rfl rfl rfl rfl rfl ?_
  refine t_getR (pc := 1) dX7_isMerged_1 rfl h0.1 rfl ?_
  refine t_getR (pc := 4) dX7_isMerged_4 rfl h0.2.1.1 rfl ?_
  refine t_ld (pc := 7) dX7_isMerged_7 rfl rfl rfl rfl rfl ?_
  refine t_iaload (pc := 8) dX7_isMerged_8 h0.2.1.2.1 ?_
  refine t_st (pc := 9) [some (.ref a0), some (.int (I l1)), some (.int (I (S (a0 + 2) l1)))] dX7_isMerged_9 rfl rfl rfl rfl rfl rfl ?_
  refine t_ld (pc := 10) dX7_isMerged_10 rfl rfl rfl rfl rfl ?_
  refine t_iconst (pc := 11) dX7_isMerged_11 ?_
  refine t_ic_eq (pc := 12) 32 dX7_isMerged_12 rfl ?_ ?_
  · refine t_iconst (pc := 32) dX7_isMerged_32 ?_
    exact t_zret (pc := 33) dX7_isMerged_33 rfl
  · refine t_ld (pc := 15) dX7_isMerged_15 rfl rfl rfl rfl rfl ?_
    refine t_getR (pc := 16) dX7_isMerged_16 rfl h0.1 rfl ?_
    refine t_getR (pc := 19) dX7_isMerged_19 rfl h0.2.2.1.1 rfl ?_
    refine t_ld (pc := 22) dX7_isMerged_22 rfl rfl rfl rfl rfl ?_
    refine t_iaload (pc := 23) dX7_isMerged_23 h0.2.2.1.2.1 ?_
    refine t_iconst (pc := 24) dX7_isMerged_24 ?_
    refine t_ic_eq (pc := 25) 32 dX7_isMerged_25 rfl ?_ ?_
    · refine t_iconst (pc := 32) dX7_isMerged_32 ?_
      exact t_zret (pc := 33) dX7_isMerged_33 rfl
    · refine t_iconst (pc := 28) dX7_isMerged_28 ?_
      refine t_goto (pc := 29) 33 dX7_isMerged_29 rfl ?_
      exact t_zret (pc := 33) dX7_isMerged_33 rfl
theorem qX7_cellsAt_0 {sc : Nat × (Nat → Int32)} {SH : List mCell} {S : mStore} {r : mR × mW} {a0 : Nat} (h0 : sState SH a0) {l1 : Int} {u2 : Option Value} : (((0 ≤ l1 ∧ l1 < 48) ∧ (if I (S (a0 + 2) l1) = I (-1) then r = rI 0 SH S else ((0 ≤ S (a0 + 2) l1 ∧ S (a0 + 2) l1 < 48) ∧ r = rI (S (a0 + 13) (S (a0 + 2) l1)) SH S)))) → G sc MX7_cellsAt 0 [some (.ref a0), some (.int (I l1)), u2] [] SH S r := by
  refine t_ld (pc := 0) dX7_cellsAt_0 rfl rfl rfl rfl rfl ?_
  refine t_getR (pc := 1) dX7_cellsAt_1 rfl h0.1 rfl ?_
  refine t_getR (pc := 4) dX7_cellsAt_4 rfl h0.2.1.1 rfl ?_
  refine t_ld (pc := 7) dX7_cellsAt_7 rfl rfl rfl rfl rfl ?_
  refine t_iaload (pc := 8) dX7_cellsAt_8 h0.2.1.2.1 ?_
  refine t_st (pc := 9) [some (.ref a0), some (.int (I l1)), some (.int (I (S (a0 + 2) l1)))] dX7_cellsAt_9 rfl rfl rfl rfl rfl rfl ?_
  refine t_ld (pc := 10) dX7_cellsAt_10 rfl rfl rfl rfl rfl ?_
  refine t_iconst (pc := 11) dX7_cellsAt_11 ?_
  refine t_ic_ne (pc := 12) 19 dX7_cellsAt_12 rfl ?_ ?_
  · refine t_ld (pc := 19) dX7_cellsAt_19 rfl rfl rfl rfl rfl ?_
    refine t_getR (pc := 20) dX7_cellsAt_20 rfl h0.1 rfl ?_
    refine t_ld (pc := 23) dX7_cellsAt_23 rfl rfl rfl rfl rfl ?_
    refine t_iaload (pc := 24) dX7_cellsAt_24 h0.2.2.2.2.2.1 ?_
    exact t_iret (pc := 25) dX7_cellsAt_25 rfl
  · refine t_iconst (pc := 15) dX7_cellsAt_15 ?_
    refine t_goto (pc := 16) 25 dX7_cellsAt_16 rfl ?_
    exact t_iret (pc := 25) dX7_cellsAt_25 rfl
theorem qX7_freeFrame_0 {sc : Nat × (Nat → Int32)} {SH : List mCell} {S : mStore} {r : mR × mW} {a0 : Nat} (h0 : sState SH a0) {u1 : Option Value} : (G sc MX7_freeFrame 2 [some (.ref a0), some (.int (I 0))] [] SH S r) → G sc MX7_freeFrame 0 [some (.ref a0), u1] [] SH S r := by
  refine t_iconst (pc := 0) dX7_freeFrame_0 ?_
  refine t_st (pc := 1) [some (.ref a0), some (.int (I 0))] dX7_freeFrame_1 rfl rfl rfl rfl rfl rfl ?_
  exact id
theorem qX7_freeFrame_2 {sc : Nat × (Nat → Int32)} {SH : List mCell} {S : mStore} {r : mR × mW} {a0 : Nat} (h0 : sState SH a0) {l1 : Int} : ((if I (S 1 0) ≤ I l1 then r = rI (-1) SH S else ((0 ≤ l1 ∧ l1 < 48) ∧ (if I (S (a0 + 4) l1) = I (-1) then r = rI l1 SH S else G sc MX7_freeFrame 2 [some (.ref a0), some (.int (I (l1 + 1)))] [] SH S r)))) → G sc MX7_freeFrame 2 [some (.ref a0), some (.int (I l1))] [] SH S r := by
  refine t_ld (pc := 2) dX7_freeFrame_2 rfl rfl rfl rfl rfl ?_
  refine t_ld (pc := 3) dX7_freeFrame_3 rfl rfl rfl rfl rfl ?_
  refine t_getR (pc := 4) dX7_freeFrame_4 rfl h0.1 rfl ?_
  refine t_getI (pc := 7) dX7_freeFrame_7 rfl h0.2.2.2.2.2.2.2.2.2.2.2.2.1 rfl ?_
  refine t_ic_ge (pc := 10) 34 dX7_freeFrame_10 rfl ?_ ?_
  · refine t_iconst (pc := 34) dX7_freeFrame_34 ?_
    exact t_iret (pc := 35) dX7_freeFrame_35 rfl
  · refine t_ld (pc := 13) dX7_freeFrame_13 rfl rfl rfl rfl rfl ?_
    refine t_getR (pc := 14) dX7_freeFrame_14 rfl h0.1 rfl ?_
    refine t_getR (pc := 17) dX7_freeFrame_17 rfl h0.2.1.1 rfl ?_
    refine t_ld (pc := 20) dX7_freeFrame_20 rfl rfl rfl rfl rfl ?_
    refine t_iaload (pc := 21) dX7_freeFrame_21 h0.2.1.2.2.2 ?_
    refine t_iconst (pc := 22) dX7_freeFrame_22 ?_
    refine t_ic_ne (pc := 23) 28 dX7_freeFrame_23 rfl ?_ ?_
    · refine t_iinc (pc := 28) [some (.ref a0), some (.int (I (l1 + 1)))] dX7_freeFrame_28 rfl rfl ?_
      refine t_goto (pc := 31) 2 dX7_freeFrame_31 rfl ?_
      exact id
    · refine t_ld (pc := 26) dX7_freeFrame_26 rfl rfl rfl rfl rfl ?_
      exact t_iret (pc := 27) dX7_freeFrame_27 rfl
theorem qX7_put_0 {sc : Nat × (Nat → Int32)} {SH : List mCell} {S : mStore} {r : mR × mW} {a0 : Nat} (h0 : sState SH a0) {l1 : Int} {l2 : Int} {u3 : Option Value} {u4 : Option Value} : ((∃ v101 S102, G sc MX7_makeOwn 0 [some (.ref a0), some (.int (I l1)), none, none] [] SH S (rI v101 SH S102) ∧ ((0 ≤ l1 ∧ l1 < 48) ∧ (if I v101 = I (-1) then r = rI v101 SH S102 else (if I (S102 (a0 + 2) l1) = I (-1) then r = rI v101 SH S102 else ((0 ≤ S102 (a0 + 2) l1 ∧ S102 (a0 + 2) l1 < 48) ∧ r = rI v101 SH (up S102 (a0 + 13) (S102 (a0 + 2) l1) l2))))))) → G sc MX7_put 0 [some (.ref a0), some (.int (I l1)), some (.int (I l2)), u3, u4] [] SH S r := by
  refine t_ld (pc := 0) dX7_put_0 rfl rfl rfl rfl rfl ?_
  refine t_ld (pc := 1) dX7_put_1 rfl rfl rfl rfl rfl ?_
  refine t_vcIN (pc := 2) dX7_put_2 rfl rfl [] rfl rfl ⟨rfl, by decide, Nat.le_of_ble_eq_true rfl⟩ h0.1 fun v101 S102 => ?_
  refine t_st (pc := 5) [some (.ref a0), some (.int (I l1)), some (.int (I l2)), some (.int (I v101)), u4] dX7_put_5 rfl rfl rfl rfl rfl rfl ?_
  refine t_ld (pc := 6) dX7_put_6 rfl rfl rfl rfl rfl ?_
  refine t_getR (pc := 7) dX7_put_7 rfl h0.1 rfl ?_
  refine t_getR (pc := 10) dX7_put_10 rfl h0.2.1.1 rfl ?_
  refine t_ld (pc := 13) dX7_put_13 rfl rfl rfl rfl rfl ?_
  refine t_iaload (pc := 14) dX7_put_14 h0.2.1.2.1 ?_
  refine t_st (pc := 15) [some (.ref a0), some (.int (I l1)), some (.int (I l2)), some (.int (I v101)), some (.int (I (S102 (a0 + 2) l1)))] dX7_put_15 rfl rfl rfl rfl rfl rfl ?_
  refine t_ld (pc := 17) dX7_put_17 rfl rfl rfl rfl rfl ?_
  refine t_iconst (pc := 18) dX7_put_18 ?_
  refine t_ic_eq (pc := 19) 36 dX7_put_19 rfl ?_ ?_
  · refine t_ld (pc := 36) dX7_put_36 rfl rfl rfl rfl rfl ?_
    exact t_iret (pc := 37) dX7_put_37 rfl
  · refine t_ld (pc := 22) dX7_put_22 rfl rfl rfl rfl rfl ?_
    refine t_iconst (pc := 24) dX7_put_24 ?_
    refine t_ic_eq (pc := 25) 36 dX7_put_25 rfl ?_ ?_
    · refine t_ld (pc := 36) dX7_put_36 rfl rfl rfl rfl rfl ?_
      exact t_iret (pc := 37) dX7_put_37 rfl
    · refine t_ld (pc := 28) dX7_put_28 rfl rfl rfl rfl rfl ?_
      refine t_getR (pc := 29) dX7_put_29 rfl h0.1 rfl ?_
      refine t_ld (pc := 32) dX7_put_32 rfl rfl rfl rfl rfl ?_
      refine t_ld (pc := 34) dX7_put_34 rfl rfl rfl rfl rfl ?_
      refine t_iastore (pc := 35) dX7_put_35 h0.2.2.2.2.2.1 ?_
      refine t_ld (pc := 36) dX7_put_36 rfl rfl rfl rfl rfl ?_
      exact t_iret (pc := 37) dX7_put_37 rfl
theorem qX7_putCell_0 {sc : Nat × (Nat → Int32)} {SH : List mCell} {S : mStore} {r : mR × mW} {a0 : Nat} (h0 : sState SH a0) {l1 : Int} {l2 : Int} {l3 : Int} {u4 : Option Value} : ((∃ v101 S102, G sc MX7_cellsAt 0 [some (.ref a0), some (.int (I l1)), none] [] SH S (rI v101 SH S102) ∧ (∃ v103 S104, G sc MX7_put 0 [some (.ref a0), some (.int (I l1)), some (.int (I (iro (ian v101 (ixr (isl 15 (12 - (4 * l2))) (-1))) (isl l3 (12 - (4 * l2)))))), none, none] [] SH S102 (rI v103 SH S104) ∧ r = rI v103 SH S104))) → G sc MX7_putCell 0 [some (.ref a0), some (.int (I l1)), some (.int (I l2)), some (.int (I l3)), u4] [] SH S r := by
  refine t_bipush (pc := 0) dX7_putCell_0 (by decide) ?_
  refine t_iconst (pc := 2) dX7_putCell_2 ?_
  refine t_ld (pc := 3) dX7_putCell_3 rfl rfl rfl rfl rfl ?_
  refine t_imul (pc := 4) dX7_putCell_4 ?_
  refine t_isub (pc := 5) dX7_putCell_5 ?_
  refine t_st (pc := 6) [some (.ref a0), some (.int (I l1)), some (.int (I l2)), some (.int (I l3)), some (.int (I (12 - (4 * l2))))] dX7_putCell_6 rfl rfl rfl rfl rfl rfl ?_
  refine t_ld (pc := 8) dX7_putCell_8 rfl rfl rfl rfl rfl ?_
  refine t_ld (pc := 9) dX7_putCell_9 rfl rfl rfl rfl rfl ?_
  refine t_ld (pc := 10) dX7_putCell_10 rfl rfl rfl rfl rfl ?_
  refine t_ld (pc := 11) dX7_putCell_11 rfl rfl rfl rfl rfl ?_
  refine t_vcIN (pc := 12) dX7_putCell_12 rfl rfl [.int (I l1), .ref a0] rfl rfl ⟨rfl, by decide, Nat.le_of_ble_eq_true rfl⟩ h0.1 fun v101 S102 => ?_
  refine t_bipush (pc := 15) dX7_putCell_15 (by decide) ?_
  refine t_ld (pc := 17) dX7_putCell_17 rfl rfl rfl rfl rfl ?_
  refine t_ishl (pc := 19) dX7_putCell_19 ?_
  refine t_iconst (pc := 20) dX7_putCell_20 ?_
  refine t_ixor (pc := 21) dX7_putCell_21 ?_
  refine t_iand (pc := 22) dX7_putCell_22 ?_
  refine t_ld (pc := 23) dX7_putCell_23 rfl rfl rfl rfl rfl ?_
  refine t_ld (pc := 24) dX7_putCell_24 rfl rfl rfl rfl rfl ?_
  refine t_ishl (pc := 26) dX7_putCell_26 ?_
  refine t_ior (pc := 27) dX7_putCell_27 ?_
  refine t_vcIN (pc := 28) dX7_putCell_28 rfl rfl [] rfl rfl ⟨rfl, by decide, Nat.le_of_ble_eq_true rfl⟩ h0.1 fun v103 S104 => ?_
  exact t_iret (pc := 31) dX7_putCell_31 rfl
theorem qX7_makeOwn_0 {sc : Nat × (Nat → Int32)} {SH : List mCell} {S : mStore} {r : mR × mW} {a0 : Nat} (h0 : sState SH a0) {l1 : Int} {u2 : Option Value} {u3 : Option Value} : (((0 ≤ l1 ∧ l1 < 48) ∧ (if I (S (a0 + 2) l1) = I (-1) then (if I (S (a0 + 2) l1) = I (-1) then G sc MX7_makeOwn 54 [some (.ref a0), some (.int (I l1)), some (.int (I (S (a0 + 2) l1))), u3] [] SH S r else (∃ v101 S102, G sc MX6_sizeOf 0 [some (.ref (a0 + 1)), some (.int (I (S (a0 + 2) l1))), none, none] [] SH S (rI v101 SH S102) ∧ (if I v101 = I 1 then (∃ S103, G sc MX7_leaveKnot 0 [some (.ref a0), some (.int (I (S (a0 + 2) l1))), none] [] SH S102 (rV SH S103) ∧ r = rI 3 SH S103) else G sc MX7_makeOwn 54 [some (.ref a0), some (.int (I l1)), some (.int (I (S (a0 + 2) l1))), u3] [] SH S102 r))) else ((0 ≤ S (a0 + 2) l1 ∧ S (a0 + 2) l1 < 48) ∧ (if I (S (a0 + 6) (S (a0 + 2) l1)) = I (-1) then r = rI 0 SH S else (if I (S (a0 + 2) l1) = I (-1) then G sc MX7_makeOwn 54 [some (.ref a0), some (.int (I l1)), some (.int (I (S (a0 + 2) l1))), u3] [] SH S r else (∃ v104 S105, G sc MX6_sizeOf 0 [some (.ref (a0 + 1)), some (.int (I (S (a0 + 2) l1))), none, none] [] SH S (rI v104 SH S105) ∧ (if I v104 = I 1 then (∃ S106, G sc MX7_leaveKnot 0 [some (.ref a0), some (.int (I (S (a0 + 2) l1))), none] [] SH S105 (rV SH S106) ∧ r = rI 3 SH S106) else G sc MX7_makeOwn 54 [some (.ref a0), some (.int (I l1)), some (.int (I (S (a0 + 2) l1))), u3] [] SH S105 r)))))))) → G sc MX7_makeOwn 0 [some (.ref a0), some (.int (I l1)), u2, u3] [] SH S r := by
  refine t_ld (pc := 0) dX7_makeOwn_0 rfl rfl rfl rfl rfl ?_
  refine t_getR (pc := 1) dX7_makeOwn_1 rfl h0.1 rfl ?_
  refine t_getR (pc := 4) dX7_makeOwn_4 rfl h0.2.1.1 rfl ?_
  refine t_ld (pc := 7) dX7_makeOwn_7 rfl rfl rfl rfl rfl ?_
  refine t_iaload (pc := 8) dX7_makeOwn_8 h0.2.1.2.1 ?_
  refine t_st (pc := 9) [some (.ref a0), some (.int (I l1)), some (.int (I (S (a0 + 2) l1))), u3] dX7_makeOwn_9 rfl rfl rfl rfl rfl rfl ?_
  refine t_ld (pc := 10) dX7_makeOwn_10 rfl rfl rfl rfl rfl ?_
  refine t_iconst (pc := 11) dX7_makeOwn_11 ?_
  refine t_ic_eq (pc := 12) 30 dX7_makeOwn_12 rfl ?_ ?_
  · refine t_ld (pc := 30) dX7_makeOwn_30 rfl rfl rfl rfl rfl ?_
    refine t_iconst (pc := 31) dX7_makeOwn_31 ?_
    refine t_ic_eq (pc := 32) 54 dX7_makeOwn_32 rfl ?_ ?_
    · exact id
    · refine t_ld (pc := 35) dX7_makeOwn_35 rfl rfl rfl rfl rfl ?_
      refine t_getR (pc := 36) dX7_makeOwn_36 rfl h0.1 rfl ?_
      refine t_ld (pc := 39) dX7_makeOwn_39 rfl rfl rfl rfl rfl ?_
      refine t_vcIN (pc := 40) dX7_makeOwn_40 rfl rfl [] rfl rfl ⟨rfl, by decide, Nat.le_of_ble_eq_true rfl⟩ h0.2.1.1 fun v101 S102 => ?_
      refine t_iconst (pc := 43) dX7_makeOwn_43 ?_
      refine t_ic_ne (pc := 44) 54 dX7_makeOwn_44 rfl ?_ ?_
      · exact id
      · refine t_ld (pc := 47) dX7_makeOwn_47 rfl rfl rfl rfl rfl ?_
        refine t_ld (pc := 48) dX7_makeOwn_48 rfl rfl rfl rfl rfl ?_
        refine t_vcVN (pc := 49) dX7_makeOwn_49 rfl rfl [] rfl rfl ⟨rfl, by decide, Nat.le_of_ble_eq_true rfl⟩ h0.1 fun S103 => ?_
        refine t_iconst (pc := 52) dX7_makeOwn_52 ?_
        exact t_iret (pc := 53) dX7_makeOwn_53 rfl
  · refine t_ld (pc := 15) dX7_makeOwn_15 rfl rfl rfl rfl rfl ?_
    refine t_getR (pc := 16) dX7_makeOwn_16 rfl h0.1 rfl ?_
    refine t_getR (pc := 19) dX7_makeOwn_19 rfl h0.2.2.1.1 rfl ?_
    refine t_ld (pc := 22) dX7_makeOwn_22 rfl rfl rfl rfl rfl ?_
    refine t_iaload (pc := 23) dX7_makeOwn_23 h0.2.2.1.2.1 ?_
    refine t_iconst (pc := 24) dX7_makeOwn_24 ?_
    refine t_ic_ne (pc := 25) 30 dX7_makeOwn_25 rfl ?_ ?_
    · refine t_ld (pc := 30) dX7_makeOwn_30 rfl rfl rfl rfl rfl ?_
      refine t_iconst (pc := 31) dX7_makeOwn_31 ?_
      refine t_ic_eq (pc := 32) 54 dX7_makeOwn_32 rfl ?_ ?_
      · exact id
      · refine t_ld (pc := 35) dX7_makeOwn_35 rfl rfl rfl rfl rfl ?_
        refine t_getR (pc := 36) dX7_makeOwn_36 rfl h0.1 rfl ?_
        refine t_ld (pc := 39) dX7_makeOwn_39 rfl rfl rfl rfl rfl ?_
        refine t_vcIN (pc := 40) dX7_makeOwn_40 rfl rfl [] rfl rfl ⟨rfl, by decide, Nat.le_of_ble_eq_true rfl⟩ h0.2.1.1 fun v104 S105 => ?_
        refine t_iconst (pc := 43) dX7_makeOwn_43 ?_
        refine t_ic_ne (pc := 44) 54 dX7_makeOwn_44 rfl ?_ ?_
        · exact id
        · refine t_ld (pc := 47) dX7_makeOwn_47 rfl rfl rfl rfl rfl ?_
          refine t_ld (pc := 48) dX7_makeOwn_48 rfl rfl rfl rfl rfl ?_
          refine t_vcVN (pc := 49) dX7_makeOwn_49 rfl rfl [] rfl rfl ⟨rfl, by decide, Nat.le_of_ble_eq_true rfl⟩ h0.1 fun S106 => ?_
          refine t_iconst (pc := 52) dX7_makeOwn_52 ?_
          exact t_iret (pc := 53) dX7_makeOwn_53 rfl
    · refine t_iconst (pc := 28) dX7_makeOwn_28 ?_
      exact t_iret (pc := 29) dX7_makeOwn_29 rfl
theorem qX7_makeOwn_54 {sc : Nat × (Nat → Int32)} {SH : List mCell} {S : mStore} {r : mR × mW} {a0 : Nat} (h0 : sState SH a0) {l1 : Int} {l2 : Int} {u3 : Option Value} : ((∃ v101 S102, G sc MX7_freeFrame 0 [some (.ref a0), none] [] SH S (rI v101 SH S102) ∧ (if I v101 = I (-1) then r = rI (-1) SH S102 else (∃ v103 S104, G sc MX7_cellsAt 0 [some (.ref a0), some (.int (I l1)), none] [] SH S102 (rI v103 SH S104) ∧ ((0 ≤ v101 ∧ v101 < 48) ∧ (∃ S105, G sc MX6_remove 0 [some (.ref (a0 + 1)), some (.int (I l1)), none, none, none, none] [] SH (up S104 (a0 + 13) v101 v103) (rV SH S105) ∧ (∃ S106, G sc MX6_add 0 [some (.ref (a0 + 1)), some (.int (I v101)), some (.int (I l1)), none, none, none] [] SH S105 (rV SH S106) ∧ (if I l2 = I (-1) then r = rI 1 SH S106 else ((0 ≤ 8 ∧ 8 < 12) ∧ ((0 ≤ 8 ∧ 8 < 12) ∧ r = rI 2 SH (up S106 (a0 + 19) 8 ((S106 (a0 + 19) 8) + 1)))))))))))) → G sc MX7_makeOwn 54 [some (.ref a0), some (.int (I l1)), some (.int (I l2)), u3] [] SH S r := by
  refine t_ld (pc := 54) dX7_makeOwn_54 rfl rfl rfl rfl rfl ?_
  refine t_vcIN (pc := 55) dX7_makeOwn_55 rfl rfl [] rfl rfl ⟨rfl, by decide, Nat.le_of_ble_eq_true rfl⟩ h0.1 fun v101 S102 => ?_
  refine t_st (pc := 58) [some (.ref a0), some (.int (I l1)), some (.int (I l2)), some (.int (I v101))] dX7_makeOwn_58 rfl rfl rfl rfl rfl rfl ?_
  refine t_ld (pc := 59) dX7_makeOwn_59 rfl rfl rfl rfl rfl ?_
  refine t_iconst (pc := 60) dX7_makeOwn_60 ?_
  refine t_ic_ne (pc := 61) 66 dX7_makeOwn_61 rfl ?_ ?_
  · refine t_ld (pc := 66) dX7_makeOwn_66 rfl rfl rfl rfl rfl ?_
    refine t_getR (pc := 67) dX7_makeOwn_67 rfl h0.1 rfl ?_
    refine t_ld (pc := 70) dX7_makeOwn_70 rfl rfl rfl rfl rfl ?_
    refine t_ld (pc := 71) dX7_makeOwn_71 rfl rfl rfl rfl rfl ?_
    refine t_ld (pc := 72) dX7_makeOwn_72 rfl rfl rfl rfl rfl ?_
    refine t_vcIN (pc := 73) dX7_makeOwn_73 rfl rfl [.int (I v101), .ref (a0 + 13)] rfl rfl ⟨rfl, by decide, Nat.le_of_ble_eq_true rfl⟩ h0.1 fun v103 S104 => ?_
    refine t_iastore (pc := 76) dX7_makeOwn_76 h0.2.2.2.2.2.1 ?_
    refine t_ld (pc := 77) dX7_makeOwn_77 rfl rfl rfl rfl rfl ?_
    refine t_getR (pc := 78) dX7_makeOwn_78 rfl h0.1 rfl ?_
    refine t_ld (pc := 81) dX7_makeOwn_81 rfl rfl rfl rfl rfl ?_
    refine t_vcVN (pc := 82) dX7_makeOwn_82 rfl rfl [] rfl rfl ⟨rfl, by decide, Nat.le_of_ble_eq_true rfl⟩ h0.2.1.1 fun S105 => ?_
    refine t_ld (pc := 85) dX7_makeOwn_85 rfl rfl rfl rfl rfl ?_
    refine t_getR (pc := 86) dX7_makeOwn_86 rfl h0.1 rfl ?_
    refine t_ld (pc := 89) dX7_makeOwn_89 rfl rfl rfl rfl rfl ?_
    refine t_ld (pc := 90) dX7_makeOwn_90 rfl rfl rfl rfl rfl ?_
    refine t_vcVN (pc := 91) dX7_makeOwn_91 rfl rfl [] rfl rfl ⟨rfl, by decide, Nat.le_of_ble_eq_true rfl⟩ h0.2.1.1 fun S106 => ?_
    refine t_ld (pc := 94) dX7_makeOwn_94 rfl rfl rfl rfl rfl ?_
    refine t_iconst (pc := 95) dX7_makeOwn_95 ?_
    refine t_ic_ne (pc := 96) 101 dX7_makeOwn_96 rfl ?_ ?_
    · refine t_ld (pc := 101) dX7_makeOwn_101 rfl rfl rfl rfl rfl ?_
      refine t_getR (pc := 102) dX7_makeOwn_102 rfl h0.1 rfl ?_
      refine t_bipush (pc := 105) dX7_makeOwn_105 (by decide) ?_
      refine t_dup2 (pc := 107) dX7_makeOwn_107 rfl rfl ?_
      refine t_iaload (pc := 108) dX7_makeOwn_108 h0.2.2.2.2.2.2.2.2.2.2.2.1 ?_
      refine t_iconst (pc := 109) dX7_makeOwn_109 ?_
      refine t_iadd (pc := 110) dX7_makeOwn_110 ?_
      refine t_iastore (pc := 111) dX7_makeOwn_111 h0.2.2.2.2.2.2.2.2.2.2.2.1 ?_
      refine t_iconst (pc := 112) dX7_makeOwn_112 ?_
      exact t_iret (pc := 113) dX7_makeOwn_113 rfl
    · refine t_iconst (pc := 99) dX7_makeOwn_99 ?_
      exact t_iret (pc := 100) dX7_makeOwn_100 rfl
  · refine t_iconst (pc := 64) dX7_makeOwn_64 ?_
    exact t_iret (pc := 65) dX7_makeOwn_65 rfl
theorem qX7_leaveKnot_0 {sc : Nat × (Nat → Int32)} {SH : List mCell} {S : mStore} {r : mR × mW} {a0 : Nat} (h0 : sState SH a0) {l1 : Int} {u2 : Option Value} : (((0 ≤ l1 ∧ l1 < 48) ∧ (if I (S (a0 + 6) l1) = I (-1) then r = rV SH S else (∃ S101, G sc MX6_remove 0 [some (.ref (a0 + 5)), some (.int (I l1)), none, none, none, none] [] SH S (rV SH S101) ∧ ((0 ≤ S (a0 + 6) l1 ∧ S (a0 + 6) l1 < 48) ∧ (if I (S101 (a0 + 8) (S (a0 + 6) l1)) = I (-1) then (∃ S102, G sc MX9_leave 0 [some (.ref (a0 + 9)), some (.int (I (S (a0 + 6) l1))), none, none, none, none, none, none] [] SH S101 (rV SH S102) ∧ r = rV SH S102) else r = rV SH S101)))))) → G sc MX7_leaveKnot 0 [some (.ref a0), some (.int (I l1)), u2] [] SH S r := by
  refine t_ld (pc := 0) dX7_leaveKnot_0 rfl rfl rfl rfl rfl ?_
  refine t_getR (pc := 1) dX7_leaveKnot_1 rfl h0.1 rfl ?_
  refine t_getR (pc := 4) dX7_leaveKnot_4 rfl h0.2.2.1.1 rfl ?_
  refine t_ld (pc := 7) dX7_leaveKnot_7 rfl rfl rfl rfl rfl ?_
  refine t_iaload (pc := 8) dX7_leaveKnot_8 h0.2.2.1.2.1 ?_
  refine t_st (pc := 9) [some (.ref a0), some (.int (I l1)), some (.int (I (S (a0 + 6) l1)))] dX7_leaveKnot_9 rfl rfl rfl rfl rfl rfl ?_
  refine t_ld (pc := 10) dX7_leaveKnot_10 rfl rfl rfl rfl rfl ?_
  refine t_iconst (pc := 11) dX7_leaveKnot_11 ?_
  refine t_ic_ne (pc := 12) 16 dX7_leaveKnot_12 rfl ?_ ?_
  · refine t_ld (pc := 16) dX7_leaveKnot_16 rfl rfl rfl rfl rfl ?_
    refine t_getR (pc := 17) dX7_leaveKnot_17 rfl h0.1 rfl ?_
    refine t_ld (pc := 20) dX7_leaveKnot_20 rfl rfl rfl rfl rfl ?_
    refine t_vcVN (pc := 21) dX7_leaveKnot_21 rfl rfl [] rfl rfl ⟨rfl, by decide, Nat.le_of_ble_eq_true rfl⟩ h0.2.2.1.1 fun S101 => ?_
    refine t_ld (pc := 24) dX7_leaveKnot_24 rfl rfl rfl rfl rfl ?_
    refine t_getR (pc := 25) dX7_leaveKnot_25 rfl h0.1 rfl ?_
    refine t_getR (pc := 28) dX7_leaveKnot_28 rfl h0.2.2.1.1 rfl ?_
    refine t_ld (pc := 31) dX7_leaveKnot_31 rfl rfl rfl rfl rfl ?_
    refine t_iaload (pc := 32) dX7_leaveKnot_32 h0.2.2.1.2.2.2 ?_
    refine t_iconst (pc := 33) dX7_leaveKnot_33 ?_
    refine t_ic_ne (pc := 34) 45 dX7_leaveKnot_34 rfl ?_ ?_
    · exact t_ret (pc := 45) dX7_leaveKnot_45 rfl
    · refine t_ld (pc := 37) dX7_leaveKnot_37 rfl rfl rfl rfl rfl ?_
      refine t_getR (pc := 38) dX7_leaveKnot_38 rfl h0.1 rfl ?_
      refine t_ld (pc := 41) dX7_leaveKnot_41 rfl rfl rfl rfl rfl ?_
      refine t_vcVN (pc := 42) dX7_leaveKnot_42 rfl rfl [] rfl rfl ⟨rfl, by decide, Nat.le_of_ble_eq_true rfl⟩ h0.2.2.2.1.1 fun S102 => ?_
      exact t_ret (pc := 45) dX7_leaveKnot_45 rfl
  · exact t_ret (pc := 15) dX7_leaveKnot_15 rfl
theorem qX7_dropPage_0 {sc : Nat × (Nat → Int32)} {SH : List mCell} {S : mStore} {r : mR × mW} {a0 : Nat} (h0 : sState SH a0) {l1 : Int} {u2 : Option Value} : (((0 ≤ l1 ∧ l1 < 48) ∧ (if I (S (a0 + 2) l1) = I (-1) then r = rI (-1) SH S else (∃ S101, G sc MX6_remove 0 [some (.ref (a0 + 1)), some (.int (I l1)), none, none, none, none] [] SH S (rV SH S101) ∧ ((0 ≤ S (a0 + 2) l1 ∧ S (a0 + 2) l1 < 48) ∧ (if I (S101 (a0 + 4) (S (a0 + 2) l1)) = I (-1) then (∃ S102, G sc MX7_leaveKnot 0 [some (.ref a0), some (.int (I (S (a0 + 2) l1))), none] [] SH S101 (rV SH S102) ∧ r = rI 1 SH S102) else r = rI 0 SH S101)))))) → G sc MX7_dropPage 0 [some (.ref a0), some (.int (I l1)), u2] [] SH S r := by
  refine t_ld (pc := 0) dX7_dropPage_0 rfl rfl rfl rfl rfl ?_
  refine t_getR (pc := 1) dX7_dropPage_1 rfl h0.1 rfl ?_
  refine t_getR (pc := 4) dX7_dropPage_4 rfl h0.2.1.1 rfl ?_
  refine t_ld (pc := 7) dX7_dropPage_7 rfl rfl rfl rfl rfl ?_
  refine t_iaload (pc := 8) dX7_dropPage_8 h0.2.1.2.1 ?_
  refine t_st (pc := 9) [some (.ref a0), some (.int (I l1)), some (.int (I (S (a0 + 2) l1)))] dX7_dropPage_9 rfl rfl rfl rfl rfl rfl ?_
  refine t_ld (pc := 10) dX7_dropPage_10 rfl rfl rfl rfl rfl ?_
  refine t_iconst (pc := 11) dX7_dropPage_11 ?_
  refine t_ic_ne (pc := 12) 17 dX7_dropPage_12 rfl ?_ ?_
  · refine t_ld (pc := 17) dX7_dropPage_17 rfl rfl rfl rfl rfl ?_
    refine t_getR (pc := 18) dX7_dropPage_18 rfl h0.1 rfl ?_
    refine t_ld (pc := 21) dX7_dropPage_21 rfl rfl rfl rfl rfl ?_
    refine t_vcVN (pc := 22) dX7_dropPage_22 rfl rfl [] rfl rfl ⟨rfl, by decide, Nat.le_of_ble_eq_true rfl⟩ h0.2.1.1 fun S101 => ?_
    refine t_ld (pc := 25) dX7_dropPage_25 rfl rfl rfl rfl rfl ?_
    refine t_getR (pc := 26) dX7_dropPage_26 rfl h0.1 rfl ?_
    refine t_getR (pc := 29) dX7_dropPage_29 rfl h0.2.1.1 rfl ?_
    refine t_ld (pc := 32) dX7_dropPage_32 rfl rfl rfl rfl rfl ?_
    refine t_iaload (pc := 33) dX7_dropPage_33 h0.2.1.2.2.2 ?_
    refine t_iconst (pc := 34) dX7_dropPage_34 ?_
    refine t_ic_eq (pc := 35) 40 dX7_dropPage_35 rfl ?_ ?_
    · refine t_ld (pc := 40) dX7_dropPage_40 rfl rfl rfl rfl rfl ?_
      refine t_ld (pc := 41) dX7_dropPage_41 rfl rfl rfl rfl rfl ?_
      refine t_vcVN (pc := 42) dX7_dropPage_42 rfl rfl [] rfl rfl ⟨rfl, by decide, Nat.le_of_ble_eq_true rfl⟩ h0.1 fun S102 => ?_
      refine t_iconst (pc := 45) dX7_dropPage_45 ?_
      exact t_iret (pc := 46) dX7_dropPage_46 rfl
    · refine t_iconst (pc := 38) dX7_dropPage_38 ?_
      exact t_iret (pc := 39) dX7_dropPage_39 rfl
  · refine t_iconst (pc := 15) dX7_dropPage_15 ?_
    exact t_iret (pc := 16) dX7_dropPage_16 rfl
theorem qX7_adviseAll_0 {sc : Nat × (Nat → Int32)} {SH : List mCell} {S : mStore} {r : mR × mW} {a0 : Nat} (h0 : sState SH a0) {l1 : Int} {l2 : Int} {u3 : Option Value} {u4 : Option Value} : (G sc MX7_adviseAll 5 [some (.ref a0), some (.int (I l1)), some (.int (I l2)), some (.int (I 0)), some (.int (I l1))] [] SH S r) → G sc MX7_adviseAll 0 [some (.ref a0), some (.int (I l1)), some (.int (I l2)), u3, u4] [] SH S r := by
  refine t_iconst (pc := 0) dX7_adviseAll_0 ?_
  refine t_st (pc := 1) [some (.ref a0), some (.int (I l1)), some (.int (I l2)), some (.int (I 0)), u4] dX7_adviseAll_1 rfl rfl rfl rfl rfl rfl ?_
  refine t_ld (pc := 2) dX7_adviseAll_2 rfl rfl rfl rfl rfl ?_
  refine t_st (pc := 3) [some (.ref a0), some (.int (I l1)), some (.int (I l2)), some (.int (I 0)), some (.int (I l1))] dX7_adviseAll_3 rfl rfl rfl rfl rfl rfl ?_
  exact id
theorem qX7_adviseAll_5 {sc : Nat × (Nat → Int32)} {SH : List mCell} {S : mStore} {r : mR × mW} {a0 : Nat} (h0 : sState SH a0) {l1 : Int} {l2 : Int} {l3 : Int} {l4 : Int} : ((if I l2 < I l4 then r = rI l3 SH S else ((0 ≤ l4 ∧ l4 < 48) ∧ (if I (S (a0 + 14) l4) = I 0 then ((0 ≤ l4 ∧ l4 < 48) ∧ G sc MX7_adviseAll 5 [some (.ref a0), some (.int (I l1)), some (.int (I l2)), some (.int (I (l3 + 1))), some (.int (I (l4 + 1)))] [] SH (up S (a0 + 14) l4 1) r) else G sc MX7_adviseAll 5 [some (.ref a0), some (.int (I l1)), some (.int (I l2)), some (.int (I l3)), some (.int (I (l4 + 1)))] [] SH S r)))) → G sc MX7_adviseAll 5 [some (.ref a0), some (.int (I l1)), some (.int (I l2)), some (.int (I l3)), some (.int (I l4))] [] SH S r := by
  refine t_ld (pc := 5) dX7_adviseAll_5 rfl rfl rfl rfl rfl ?_
  refine t_ld (pc := 7) dX7_adviseAll_7 rfl rfl rfl rfl rfl ?_
  refine t_ic_gt (pc := 8) 38 dX7_adviseAll_8 rfl ?_ ?_
  · refine t_ld (pc := 38) dX7_adviseAll_38 rfl rfl rfl rfl rfl ?_
    exact t_iret (pc := 39) dX7_adviseAll_39 rfl
  · refine t_ld (pc := 11) dX7_adviseAll_11 rfl rfl rfl rfl rfl ?_
    refine t_getR (pc := 12) dX7_adviseAll_12 rfl h0.1 rfl ?_
    refine t_ld (pc := 15) dX7_adviseAll_15 rfl rfl rfl rfl rfl ?_
    refine t_iaload (pc := 17) dX7_adviseAll_17 h0.2.2.2.2.2.2.1 ?_
    refine t_if_ne (pc := 18) 32 dX7_adviseAll_18 rfl ?_ ?_
    · refine t_iinc (pc := 32) [some (.ref a0), some (.int (I l1)), some (.int (I l2)), some (.int (I l3)), some (.int (I (l4 + 1)))] dX7_adviseAll_32 rfl rfl ?_
      refine t_goto (pc := 35) 5 dX7_adviseAll_35 rfl ?_
      exact id
    · refine t_ld (pc := 21) dX7_adviseAll_21 rfl rfl rfl rfl rfl ?_
      refine t_getR (pc := 22) dX7_adviseAll_22 rfl h0.1 rfl ?_
      refine t_ld (pc := 25) dX7_adviseAll_25 rfl rfl rfl rfl rfl ?_
      refine t_iconst (pc := 27) dX7_adviseAll_27 ?_
      refine t_iastore (pc := 28) dX7_adviseAll_28 h0.2.2.2.2.2.2.1 ?_
      refine t_iinc (pc := 29) [some (.ref a0), some (.int (I l1)), some (.int (I l2)), some (.int (I (l3 + 1))), some (.int (I l4))] dX7_adviseAll_29 rfl rfl ?_
      refine t_iinc (pc := 32) [some (.ref a0), some (.int (I l1)), some (.int (I l2)), some (.int (I (l3 + 1))), some (.int (I (l4 + 1)))] dX7_adviseAll_32 rfl rfl ?_
      refine t_goto (pc := 35) 5 dX7_adviseAll_35 rfl ?_
      exact id
theorem qX7_adviseNoMore_0 {sc : Nat × (Nat → Int32)} {SH : List mCell} {S : mStore} {r : mR × mW} {a0 : Nat} (h0 : sState SH a0) {l1 : Int} {l2 : Int} {u3 : Option Value} {u4 : Option Value} : (G sc MX7_adviseNoMore 5 [some (.ref a0), some (.int (I l1)), some (.int (I l2)), some (.int (I 0)), some (.int (I l1))] [] SH S r) → G sc MX7_adviseNoMore 0 [some (.ref a0), some (.int (I l1)), some (.int (I l2)), u3, u4] [] SH S r := by
  refine t_iconst (pc := 0) dX7_adviseNoMore_0 ?_
  refine t_st (pc := 1) [some (.ref a0), some (.int (I l1)), some (.int (I l2)), some (.int (I 0)), u4] dX7_adviseNoMore_1 rfl rfl rfl rfl rfl rfl ?_
  refine t_ld (pc := 2) dX7_adviseNoMore_2 rfl rfl rfl rfl rfl ?_
  refine t_st (pc := 3) [some (.ref a0), some (.int (I l1)), some (.int (I l2)), some (.int (I 0)), some (.int (I l1))] dX7_adviseNoMore_3 rfl rfl rfl rfl rfl rfl ?_
  exact id
theorem qX7_adviseNoMore_5 {sc : Nat × (Nat → Int32)} {SH : List mCell} {S : mStore} {r : mR × mW} {a0 : Nat} (h0 : sState SH a0) {l1 : Int} {l2 : Int} {l3 : Int} {l4 : Int} : ((if I l2 < I l4 then r = rI l3 SH S else ((0 ≤ l4 ∧ l4 < 48) ∧ (if I (S (a0 + 14) l4) = I 0 then G sc MX7_adviseNoMore 5 [some (.ref a0), some (.int (I l1)), some (.int (I l2)), some (.int (I l3)), some (.int (I (l4 + 1)))] [] SH S r else (∃ v101 S102, G sc MX7_isMerged 0 [some (.ref a0), some (.int (I l4)), none] [] SH S (rI v101 SH S102) ∧ (if I v101 = I 0 then (∃ S103, G sc MX9_leave 0 [some (.ref (a0 + 11)), some (.int (I l4)), none, none, none, none, none, none] [] SH S102 (rV SH S103) ∧ ((0 ≤ l4 ∧ l4 < 48) ∧ G sc MX7_adviseNoMore 5 [some (.ref a0), some (.int (I l1)), some (.int (I l2)), some (.int (I (l3 + 1))), some (.int (I (l4 + 1)))] [] SH (up S103 (a0 + 14) l4 0) r)) else (∃ v104 S105, G sc MX7_makeOwn 0 [some (.ref a0), some (.int (I l4)), none, none] [] SH S102 (rI v104 SH S105) ∧ (if I v104 = I (-1) then r = rI l3 SH S105 else (∃ S106, G sc MX9_leave 0 [some (.ref (a0 + 11)), some (.int (I l4)), none, none, none, none, none, none] [] SH S105 (rV SH S106) ∧ ((0 ≤ l4 ∧ l4 < 48) ∧ G sc MX7_adviseNoMore 5 [some (.ref a0), some (.int (I l1)), some (.int (I l2)), some (.int (I (l3 + 1))), some (.int (I (l4 + 1)))] [] SH (up S106 (a0 + 14) l4 0) r)))))))))) → G sc MX7_adviseNoMore 5 [some (.ref a0), some (.int (I l1)), some (.int (I l2)), some (.int (I l3)), some (.int (I l4))] [] SH S r := by
  refine t_ld (pc := 5) dX7_adviseNoMore_5 rfl rfl rfl rfl rfl ?_
  refine t_ld (pc := 7) dX7_adviseNoMore_7 rfl rfl rfl rfl rfl ?_
  refine t_ic_gt (pc := 8) 71 dX7_adviseNoMore_8 rfl ?_ ?_
  · refine t_ld (pc := 71) dX7_adviseNoMore_71 rfl rfl rfl rfl rfl ?_
    exact t_iret (pc := 72) dX7_adviseNoMore_72 rfl
  · refine t_ld (pc := 11) dX7_adviseNoMore_11 rfl rfl rfl rfl rfl ?_
    refine t_getR (pc := 12) dX7_adviseNoMore_12 rfl h0.1 rfl ?_
    refine t_ld (pc := 15) dX7_adviseNoMore_15 rfl rfl rfl rfl rfl ?_
    refine t_iaload (pc := 17) dX7_adviseNoMore_17 h0.2.2.2.2.2.2.1 ?_
    refine t_if_ne (pc := 18) 24 dX7_adviseNoMore_18 rfl ?_ ?_
    · refine t_ld (pc := 24) dX7_adviseNoMore_24 rfl rfl rfl rfl rfl ?_
      refine t_ld (pc := 25) dX7_adviseNoMore_25 rfl rfl rfl rfl rfl ?_
      refine t_vcIN (pc := 27) dX7_adviseNoMore_27 rfl rfl [] rfl rfl ⟨rfl, by decide, Nat.le_of_ble_eq_true rfl⟩ h0.1 fun v101 S102 => ?_
      refine t_if_eq (pc := 30) 45 dX7_adviseNoMore_30 rfl ?_ ?_
      · refine t_ld (pc := 45) dX7_adviseNoMore_45 rfl rfl rfl rfl rfl ?_
        refine t_getR (pc := 46) dX7_adviseNoMore_46 rfl h0.1 rfl ?_
        refine t_ld (pc := 49) dX7_adviseNoMore_49 rfl rfl rfl rfl rfl ?_
        refine t_vcVN (pc := 51) dX7_adviseNoMore_51 rfl rfl [] rfl rfl ⟨rfl, by decide, Nat.le_of_ble_eq_true rfl⟩ h0.2.2.2.2.1.1 fun S103 => ?_
        refine t_ld (pc := 54) dX7_adviseNoMore_54 rfl rfl rfl rfl rfl ?_
        refine t_getR (pc := 55) dX7_adviseNoMore_55 rfl h0.1 rfl ?_
        refine t_ld (pc := 58) dX7_adviseNoMore_58 rfl rfl rfl rfl rfl ?_
        refine t_iconst (pc := 60) dX7_adviseNoMore_60 ?_
        refine t_iastore (pc := 61) dX7_adviseNoMore_61 h0.2.2.2.2.2.2.1 ?_
        refine t_iinc (pc := 62) [some (.ref a0), some (.int (I l1)), some (.int (I l2)), some (.int (I (l3 + 1))), some (.int (I l4))] dX7_adviseNoMore_62 rfl rfl ?_
        refine t_iinc (pc := 65) [some (.ref a0), some (.int (I l1)), some (.int (I l2)), some (.int (I (l3 + 1))), some (.int (I (l4 + 1)))] dX7_adviseNoMore_65 rfl rfl ?_
        refine t_goto (pc := 68) 5 dX7_adviseNoMore_68 rfl ?_
        exact id
      · refine t_ld (pc := 33) dX7_adviseNoMore_33 rfl rfl rfl rfl rfl ?_
        refine t_ld (pc := 34) dX7_adviseNoMore_34 rfl rfl rfl rfl rfl ?_
        refine t_vcIN (pc := 36) dX7_adviseNoMore_36 rfl rfl [] rfl rfl ⟨rfl, by decide, Nat.le_of_ble_eq_true rfl⟩ h0.1 fun v104 S105 => ?_
        refine t_iconst (pc := 39) dX7_adviseNoMore_39 ?_
        refine t_ic_ne (pc := 40) 45 dX7_adviseNoMore_40 rfl ?_ ?_
        · refine t_ld (pc := 45) dX7_adviseNoMore_45 rfl rfl rfl rfl rfl ?_
          refine t_getR (pc := 46) dX7_adviseNoMore_46 rfl h0.1 rfl ?_
          refine t_ld (pc := 49) dX7_adviseNoMore_49 rfl rfl rfl rfl rfl ?_
          refine t_vcVN (pc := 51) dX7_adviseNoMore_51 rfl rfl [] rfl rfl ⟨rfl, by decide, Nat.le_of_ble_eq_true rfl⟩ h0.2.2.2.2.1.1 fun S106 => ?_
          refine t_ld (pc := 54) dX7_adviseNoMore_54 rfl rfl rfl rfl rfl ?_
          refine t_getR (pc := 55) dX7_adviseNoMore_55 rfl h0.1 rfl ?_
          refine t_ld (pc := 58) dX7_adviseNoMore_58 rfl rfl rfl rfl rfl ?_
          refine t_iconst (pc := 60) dX7_adviseNoMore_60 ?_
          refine t_iastore (pc := 61) dX7_adviseNoMore_61 h0.2.2.2.2.2.2.1 ?_
          refine t_iinc (pc := 62) [some (.ref a0), some (.int (I l1)), some (.int (I l2)), some (.int (I (l3 + 1))), some (.int (I l4))] dX7_adviseNoMore_62 rfl rfl ?_
          refine t_iinc (pc := 65) [some (.ref a0), some (.int (I l1)), some (.int (I l2)), some (.int (I (l3 + 1))), some (.int (I (l4 + 1)))] dX7_adviseNoMore_65 rfl rfl ?_
          refine t_goto (pc := 68) 5 dX7_adviseNoMore_68 rfl ?_
          exact id
        · refine t_ld (pc := 43) dX7_adviseNoMore_43 rfl rfl rfl rfl rfl ?_
          exact t_iret (pc := 44) dX7_adviseNoMore_44 rfl
    · refine t_goto (pc := 21) 65 dX7_adviseNoMore_21 rfl ?_
      refine t_iinc (pc := 65) [some (.ref a0), some (.int (I l1)), some (.int (I l2)), some (.int (I l3)), some (.int (I (l4 + 1)))] dX7_adviseNoMore_65 rfl rfl ?_
      refine t_goto (pc := 68) 5 dX7_adviseNoMore_68 rfl ?_
      exact id
theorem qX7_scanMany_0 {sc : Nat × (Nat → Int32)} {SH : List mCell} {S : mStore} {r : mR × mW} {a0 : Nat} (h0 : sState SH a0) {l1 : Int} {u2 : Option Value} {u3 : Option Value} : (G sc MX7_scanMany 4 [some (.ref a0), some (.int (I l1)), some (.int (I 0)), some (.int (I 0))] [] SH S r) → G sc MX7_scanMany 0 [some (.ref a0), some (.int (I l1)), u2, u3] [] SH S r := by
  refine t_iconst (pc := 0) dX7_scanMany_0 ?_
  refine t_st (pc := 1) [some (.ref a0), some (.int (I l1)), some (.int (I 0)), u3] dX7_scanMany_1 rfl rfl rfl rfl rfl rfl ?_
  refine t_iconst (pc := 2) dX7_scanMany_2 ?_
  refine t_st (pc := 3) [some (.ref a0), some (.int (I l1)), some (.int (I 0)), some (.int (I 0))] dX7_scanMany_3 rfl rfl rfl rfl rfl rfl ?_
  exact id
theorem qX7_scanMany_4 {sc : Nat × (Nat → Int32)} {SH : List mCell} {S : mStore} {r : mR × mW} {a0 : Nat} (h0 : sState SH a0) {l1 : Int} {l2 : Int} {l3 : Int} : ((if I l1 ≤ I l3 then r = rI l2 SH S else (∃ v101 S102, G sc MX7_scanNext 0 [some (.ref a0), none, none] [] SH S (rI v101 SH S102) ∧ G sc MX7_scanMany 4 [some (.ref a0), some (.int (I l1)), some (.int (I (l2 + v101))), some (.int (I (l3 + 1)))] [] SH S102 r))) → G sc MX7_scanMany 4 [some (.ref a0), some (.int (I l1)), some (.int (I l2)), some (.int (I l3))] [] SH S r := by
  refine t_ld (pc := 4) dX7_scanMany_4 rfl rfl rfl rfl rfl ?_
  refine t_ld (pc := 5) dX7_scanMany_5 rfl rfl rfl rfl rfl ?_
  refine t_ic_ge (pc := 6) 22 dX7_scanMany_6 rfl ?_ ?_
  · refine t_ld (pc := 22) dX7_scanMany_22 rfl rfl rfl rfl rfl ?_
    exact t_iret (pc := 23) dX7_scanMany_23 rfl
  · refine t_ld (pc := 9) dX7_scanMany_9 rfl rfl rfl rfl rfl ?_
    refine t_ld (pc := 10) dX7_scanMany_10 rfl rfl rfl rfl rfl ?_
    refine t_vcIN (pc := 11) dX7_scanMany_11 rfl rfl [.int (I l2)] rfl rfl ⟨rfl, by decide, Nat.le_of_ble_eq_true rfl⟩ h0.1 fun v101 S102 => ?_
    refine t_iadd (pc := 14) dX7_scanMany_14 ?_
    refine t_st (pc := 15) [some (.ref a0), some (.int (I l1)), some (.int (I (l2 + v101))), some (.int (I l3))] dX7_scanMany_15 rfl rfl rfl rfl rfl rfl ?_
    refine t_iinc (pc := 16) [some (.ref a0), some (.int (I l1)), some (.int (I (l2 + v101))), some (.int (I (l3 + 1)))] dX7_scanMany_16 rfl rfl ?_
    refine t_goto (pc := 19) 4 dX7_scanMany_19 rfl ?_
    exact id
theorem qX7_hasTimeFor_0 {sc : Nat × (Nat → Int32)} {SH : List mCell} {S : mStore} {r : mR × mW} {a0 : Nat} (h0 : sState SH a0) {l1 : Int} : (((0 ≤ 2 ∧ 2 < 12) ∧ (if I 9999 < I ((S (a0 + 19) 2) + l1) then ((I 0 = I 0 ∨ I 0 = I 1) ∧ r = rI 0 SH S) else ((I 1 = I 0 ∨ I 1 = I 1) ∧ r = rI 1 SH S)))) → G sc MX7_hasTimeFor 0 [some (.ref a0), some (.int (I l1))] [] SH S r := by
  refine t_ld (pc := 0) dX7_hasTimeFor_0 rfl rfl rfl rfl rfl ?_
  refine t_getR (pc := 1) dX7_hasTimeFor_1 rfl h0.1 rfl ?_
  refine t_iconst (pc := 4) dX7_hasTimeFor_4 ?_
  refine t_iaload (pc := 5) dX7_hasTimeFor_5 h0.2.2.2.2.2.2.2.2.2.2.2.1 ?_
  refine t_ld (pc := 6) dX7_hasTimeFor_6 rfl rfl rfl rfl rfl ?_
  refine t_iadd (pc := 7) dX7_hasTimeFor_7 ?_
  refine t_sipush (pc := 8) dX7_hasTimeFor_8 (by decide) ?_
  refine t_ic_gt (pc := 11) 18 dX7_hasTimeFor_11 rfl ?_ ?_
  · refine t_iconst (pc := 18) dX7_hasTimeFor_18 ?_
    exact t_zret (pc := 19) dX7_hasTimeFor_19 rfl
  · refine t_iconst (pc := 14) dX7_hasTimeFor_14 ?_
    refine t_goto (pc := 15) 19 dX7_hasTimeFor_15 rfl ?_
    exact t_zret (pc := 19) dX7_hasTimeFor_19 rfl
theorem qX7_tick_0 {sc : Nat × (Nat → Int32)} {SH : List mCell} {S : mStore} {r : mR × mW} {a0 : Nat} (h0 : sState SH a0) {l1 : Int} {u2 : Option Value} {u3 : Option Value} {u4 : Option Value} {u5 : Option Value} : (G sc MX7_tick 4 [some (.ref a0), some (.int (I l1)), some (.int (I 0)), some (.int (I 0)), u4, u5] [] SH S r) → G sc MX7_tick 0 [some (.ref a0), some (.int (I l1)), u2, u3, u4, u5] [] SH S r := by
  refine t_iconst (pc := 0) dX7_tick_0 ?_
  refine t_st (pc := 1) [some (.ref a0), some (.int (I l1)), some (.int (I 0)), u3, u4, u5] dX7_tick_1 rfl rfl rfl rfl rfl rfl ?_
  refine t_iconst (pc := 2) dX7_tick_2 ?_
  refine t_st (pc := 3) [some (.ref a0), some (.int (I l1)), some (.int (I 0)), some (.int (I 0)), u4, u5] dX7_tick_3 rfl rfl rfl rfl rfl rfl ?_
  exact id
theorem qX7_tick_4 {sc : Nat × (Nat → Int32)} {SH : List mCell} {S : mStore} {r : mR × mW} {a0 : Nat} (h0 : sState SH a0) {l1 : Int} {l2 : Int} {l3 : Int} {u4 : Option Value} {u5 : Option Value} : ((if I l1 ≤ I l3 then r = rI l2 SH S else ((0 ≤ 0 ∧ 0 < 12) ∧ G sc MX7_tick 20 [some (.ref a0), some (.int (I l1)), some (.int (I l2)), some (.int (I l3)), some (.int (I (S (a0 + 19) 0))), some (.int (I 0))] [] SH S r))) → G sc MX7_tick 4 [some (.ref a0), some (.int (I l1)), some (.int (I l2)), some (.int (I l3)), u4, u5] [] SH S r := by
  refine t_ld (pc := 4) dX7_tick_4 rfl rfl rfl rfl rfl ?_
  refine t_ld (pc := 5) dX7_tick_5 rfl rfl rfl rfl rfl ?_
  refine t_ic_ge (pc := 6) 56 dX7_tick_6 rfl ?_ ?_
  · refine t_ld (pc := 56) dX7_tick_56 rfl rfl rfl rfl rfl ?_
    exact t_iret (pc := 57) dX7_tick_57 rfl
  · refine t_ld (pc := 9) dX7_tick_9 rfl rfl rfl rfl rfl ?_
    refine t_getR (pc := 10) dX7_tick_10 rfl h0.1 rfl ?_
    refine t_iconst (pc := 13) dX7_tick_13 ?_
    refine t_iaload (pc := 14) dX7_tick_14 h0.2.2.2.2.2.2.2.2.2.2.2.1 ?_
    refine t_st (pc := 15) [some (.ref a0), some (.int (I l1)), some (.int (I l2)), some (.int (I l3)), some (.int (I (S (a0 + 19) 0))), u5] dX7_tick_15 rfl rfl rfl rfl rfl rfl ?_
    refine t_iconst (pc := 17) dX7_tick_17 ?_
    refine t_st (pc := 18) [some (.ref a0), some (.int (I l1)), some (.int (I l2)), some (.int (I l3)), some (.int (I (S (a0 + 19) 0))), some (.int (I 0))] dX7_tick_18 rfl rfl rfl rfl rfl rfl ?_
    exact id
theorem qX7_tick_20 {sc : Nat × (Nat → Int32)} {SH : List mCell} {S : mStore} {r : mR × mW} {a0 : Nat} (h0 : sState SH a0) {l1 : Int} {l2 : Int} {l3 : Int} {l4 : Int} {l5 : Int} : ((if I l4 ≤ I l5 then ((0 ≤ 2 ∧ 2 < 12) ∧ ((0 ≤ 2 ∧ 2 < 12) ∧ G sc MX7_tick 4 [some (.ref a0), some (.int (I l1)), some (.int (I l2)), some (.int (I (l3 + 1))), some (.int (I l4)), some (.int (I l5))] [] SH (up S (a0 + 19) 2 ((S (a0 + 19) 2) + 1)) r)) else (∃ v101 S102, G sc MX7_scanNext 0 [some (.ref a0), none, none] [] SH S (rI v101 SH S102) ∧ G sc MX7_tick 20 [some (.ref a0), some (.int (I l1)), some (.int (I (l2 + v101))), some (.int (I l3)), some (.int (I l4)), some (.int (I (l5 + 1)))] [] SH S102 r))) → G sc MX7_tick 20 [some (.ref a0), some (.int (I l1)), some (.int (I l2)), some (.int (I l3)), some (.int (I l4)), some (.int (I l5))] [] SH S r := by
  refine t_ld (pc := 20) dX7_tick_20 rfl rfl rfl rfl rfl ?_
  refine t_ld (pc := 22) dX7_tick_22 rfl rfl rfl rfl rfl ?_
  refine t_ic_ge (pc := 24) 40 dX7_tick_24 rfl ?_ ?_
  · refine t_ld (pc := 40) dX7_tick_40 rfl rfl rfl rfl rfl ?_
    refine t_getR (pc := 41) dX7_tick_41 rfl h0.1 rfl ?_
    refine t_iconst (pc := 44) dX7_tick_44 ?_
    refine t_dup2 (pc := 45) dX7_tick_45 rfl rfl ?_
    refine t_iaload (pc := 46) dX7_tick_46 h0.2.2.2.2.2.2.2.2.2.2.2.1 ?_
    refine t_iconst (pc := 47) dX7_tick_47 ?_
    refine t_iadd (pc := 48) dX7_tick_48 ?_
    refine t_iastore (pc := 49) dX7_tick_49 h0.2.2.2.2.2.2.2.2.2.2.2.1 ?_
    refine t_iinc (pc := 50) [some (.ref a0), some (.int (I l1)), some (.int (I l2)), some (.int (I (l3 + 1))), some (.int (I l4)), some (.int (I l5))] dX7_tick_50 rfl rfl ?_
    refine t_goto (pc := 53) 4 dX7_tick_53 rfl ?_
    exact id
  · refine t_ld (pc := 27) dX7_tick_27 rfl rfl rfl rfl rfl ?_
    refine t_ld (pc := 28) dX7_tick_28 rfl rfl rfl rfl rfl ?_
    refine t_vcIN (pc := 29) dX7_tick_29 rfl rfl [.int (I l2)] rfl rfl ⟨rfl, by decide, Nat.le_of_ble_eq_true rfl⟩ h0.1 fun v101 S102 => ?_
    refine t_iadd (pc := 32) dX7_tick_32 ?_
    refine t_st (pc := 33) [some (.ref a0), some (.int (I l1)), some (.int (I (l2 + v101))), some (.int (I l3)), some (.int (I l4)), some (.int (I l5))] dX7_tick_33 rfl rfl rfl rfl rfl rfl ?_
    refine t_iinc (pc := 34) [some (.ref a0), some (.int (I l1)), some (.int (I (l2 + v101))), some (.int (I l3)), some (.int (I l4)), some (.int (I (l5 + 1)))] dX7_tick_34 rfl rfl ?_
    refine t_goto (pc := 37) 20 dX7_tick_37 rfl ?_
    exact id
theorem qX7_scanNext_0 {sc : Nat × (Nat → Int32)} {SH : List mCell} {S : mStore} {r : mR × mW} {a0 : Nat} (h0 : sState SH a0) {u1 : Option Value} {u2 : Option Value} : (((0 ≤ 9 ∧ 9 < 12) ∧ (∃ v101 S102, G sc MX7_advisedFrom 0 [some (.ref a0), some (.int (I (S (a0 + 19) 9))), none] [] SH S (rI v101 SH S102) ∧ (if I v101 = I (-1) then (∃ v105 S106, G sc MX7_advisedFrom 0 [some (.ref a0), some (.int (I 0)), none] [] SH S102 (rI v105 SH S106) ∧ (if I v105 = I (-1) then r = rI 0 SH S106 else (∃ S107, G sc MX7_endRound 0 [some (.ref a0), none] [] SH S106 (rV SH S107) ∧ ((0 ≤ 9 ∧ 9 < 12) ∧ ((0 ≤ 4 ∧ 4 < 12) ∧ ((0 ≤ 4 ∧ 4 < 12) ∧ ((0 ≤ 11 ∧ 11 < 12) ∧ ((0 ≤ 11 ∧ 11 < 12) ∧ (∃ v108 S109, G sc MX7_befall 0 [some (.ref a0), some (.int (I v105)), none, none, none, none, none, none, none] [] SH (up (up (up S107 (a0 + 19) 9 (v105 + 1)) (a0 + 19) 4 (((up S107 (a0 + 19) 9 (v105 + 1)) (a0 + 19) 4) + 1)) (a0 + 19) 11 (((up (up S107 (a0 + 19) 9 (v105 + 1)) (a0 + 19) 4 (((up S107 (a0 + 19) 9 (v105 + 1)) (a0 + 19) 4) + 1)) (a0 + 19) 11) + 1)) (rI v108 SH S109) ∧ ((0 ≤ v105 ∧ v105 < 48) ∧ (if I v108 = I 3 then G sc MX7_scanNext 128 [some (.ref a0), some (.int (I v105)), some (.int (I v108))] [] SH (up S109 (a0 + 15) v105 v108) r else (if I v108 = I 7 then ((0 ≤ v105 ∧ v105 < 48) ∧ G sc MX7_scanNext 112 [some (.ref a0), some (.int (I v105)), some (.int (I v108))] [.int (I (((up S109 (a0 + 15) v105 v108) (a0 + 17) v105) + 1)), .int (I v105), .ref (a0 + 17)] SH (up S109 (a0 + 15) v105 v108) r) else (if I v108 = I 9 then ((0 ≤ v105 ∧ v105 < 48) ∧ G sc MX7_scanNext 112 [some (.ref a0), some (.int (I v105)), some (.int (I v108))] [.int (I (((up S109 (a0 + 15) v105 v108) (a0 + 17) v105) + 1)), .int (I v105), .ref (a0 + 17)] SH (up S109 (a0 + 15) v105 v108) r) else G sc MX7_scanNext 112 [some (.ref a0), some (.int (I v105)), some (.int (I v108))] [.int (I 0), .int (I v105), .ref (a0 + 17)] SH (up S109 (a0 + 15) v105 v108) r))))))))))))) else ((0 ≤ 9 ∧ 9 < 12) ∧ ((0 ≤ 4 ∧ 4 < 12) ∧ ((0 ≤ 4 ∧ 4 < 12) ∧ ((0 ≤ 11 ∧ 11 < 12) ∧ ((0 ≤ 11 ∧ 11 < 12) ∧ (∃ v103 S104, G sc MX7_befall 0 [some (.ref a0), some (.int (I v101)), none, none, none, none, none, none, none] [] SH (up (up (up S102 (a0 + 19) 9 (v101 + 1)) (a0 + 19) 4 (((up S102 (a0 + 19) 9 (v101 + 1)) (a0 + 19) 4) + 1)) (a0 + 19) 11 (((up (up S102 (a0 + 19) 9 (v101 + 1)) (a0 + 19) 4 (((up S102 (a0 + 19) 9 (v101 + 1)) (a0 + 19) 4) + 1)) (a0 + 19) 11) + 1)) (rI v103 SH S104) ∧ ((0 ≤ v101 ∧ v101 < 48) ∧ (if I v103 = I 3 then G sc MX7_scanNext 128 [some (.ref a0), some (.int (I v101)), some (.int (I v103))] [] SH (up S104 (a0 + 15) v101 v103) r else (if I v103 = I 7 then ((0 ≤ v101 ∧ v101 < 48) ∧ G sc MX7_scanNext 112 [some (.ref a0), some (.int (I v101)), some (.int (I v103))] [.int (I (((up S104 (a0 + 15) v101 v103) (a0 + 17) v101) + 1)), .int (I v101), .ref (a0 + 17)] SH (up S104 (a0 + 15) v101 v103) r) else (if I v103 = I 9 then ((0 ≤ v101 ∧ v101 < 48) ∧ G sc MX7_scanNext 112 [some (.ref a0), some (.int (I v101)), some (.int (I v103))] [.int (I (((up S104 (a0 + 15) v101 v103) (a0 + 17) v101) + 1)), .int (I v101), .ref (a0 + 17)] SH (up S104 (a0 + 15) v101 v103) r) else G sc MX7_scanNext 112 [some (.ref a0), some (.int (I v101)), some (.int (I v103))] [.int (I 0), .int (I v101), .ref (a0 + 17)] SH (up S104 (a0 + 15) v101 v103) r)))))))))))))) → G sc MX7_scanNext 0 [some (.ref a0), u1, u2] [] SH S r := by
  refine t_ld (pc := 0) dX7_scanNext_0 rfl rfl rfl rfl rfl ?_
  refine t_ld (pc := 1) dX7_scanNext_1 rfl rfl rfl rfl rfl ?_
  refine t_getR (pc := 2) dX7_scanNext_2 rfl h0.1 rfl ?_
  refine t_bipush (pc := 5) dX7_scanNext_5 (by decide) ?_
  refine t_iaload (pc := 7) dX7_scanNext_7 h0.2.2.2.2.2.2.2.2.2.2.2.1 ?_
  refine t_vcIN (pc := 8) dX7_scanNext_8 rfl rfl [] rfl rfl ⟨rfl, by decide, Nat.le_of_ble_eq_true rfl⟩ h0.1 fun v101 S102 => ?_
  refine t_st (pc := 11) [some (.ref a0), some (.int (I v101)), u2] dX7_scanNext_11 rfl rfl rfl rfl rfl rfl ?_
  refine t_ld (pc := 12) dX7_scanNext_12 rfl rfl rfl rfl rfl ?_
  refine t_iconst (pc := 13) dX7_scanNext_13 ?_
  refine t_ic_ne (pc := 14) 34 dX7_scanNext_14 rfl ?_ ?_
  · refine t_ld (pc := 34) dX7_scanNext_34 rfl rfl rfl rfl rfl ?_
    refine t_getR (pc := 35) dX7_scanNext_35 rfl h0.1 rfl ?_
    refine t_bipush (pc := 38) dX7_scanNext_38 (by decide) ?_
    refine t_ld (pc := 40) dX7_scanNext_40 rfl rfl rfl rfl rfl ?_
    refine t_iconst (pc := 41) dX7_scanNext_41 ?_
    refine t_iadd (pc := 42) dX7_scanNext_42 ?_
    refine t_iastore (pc := 43) dX7_scanNext_43 h0.2.2.2.2.2.2.2.2.2.2.2.1 ?_
    refine t_ld (pc := 44) dX7_scanNext_44 rfl rfl rfl rfl rfl ?_
    refine t_getR (pc := 45) dX7_scanNext_45 rfl h0.1 rfl ?_
    refine t_iconst (pc := 48) dX7_scanNext_48 ?_
    refine t_dup2 (pc := 49) dX7_scanNext_49 rfl rfl ?_
    refine t_iaload (pc := 50) dX7_scanNext_50 h0.2.2.2.2.2.2.2.2.2.2.2.1 ?_
    refine t_iconst (pc := 51) dX7_scanNext_51 ?_
    refine t_iadd (pc := 52) dX7_scanNext_52 ?_
    refine t_iastore (pc := 53) dX7_scanNext_53 h0.2.2.2.2.2.2.2.2.2.2.2.1 ?_
    refine t_ld (pc := 54) dX7_scanNext_54 rfl rfl rfl rfl rfl ?_
    refine t_getR (pc := 55) dX7_scanNext_55 rfl h0.1 rfl ?_
    refine t_bipush (pc := 58) dX7_scanNext_58 (by decide) ?_
    refine t_dup2 (pc := 60) dX7_scanNext_60 rfl rfl ?_
    refine t_iaload (pc := 61) dX7_scanNext_61 h0.2.2.2.2.2.2.2.2.2.2.2.1 ?_
    refine t_iconst (pc := 62) dX7_scanNext_62 ?_
    refine t_iadd (pc := 63) dX7_scanNext_63 ?_
    refine t_iastore (pc := 64) dX7_scanNext_64 h0.2.2.2.2.2.2.2.2.2.2.2.1 ?_
    refine t_ld (pc := 65) dX7_scanNext_65 rfl rfl rfl rfl rfl ?_
    refine t_ld (pc := 66) dX7_scanNext_66 rfl rfl rfl rfl rfl ?_
    refine t_vcIN (pc := 67) dX7_scanNext_67 rfl rfl [] rfl rfl ⟨rfl, by decide, Nat.le_of_ble_eq_true rfl⟩ h0.1 fun v103 S104 => ?_
    refine t_st (pc := 70) [some (.ref a0), some (.int (I v101)), some (.int (I v103))] dX7_scanNext_70 rfl rfl rfl rfl rfl rfl ?_
    refine t_ld (pc := 71) dX7_scanNext_71 rfl rfl rfl rfl rfl ?_
    refine t_getR (pc := 72) dX7_scanNext_72 rfl h0.1 rfl ?_
    refine t_ld (pc := 75) dX7_scanNext_75 rfl rfl rfl rfl rfl ?_
    refine t_ld (pc := 76) dX7_scanNext_76 rfl rfl rfl rfl rfl ?_
    refine t_iastore (pc := 77) dX7_scanNext_77 h0.2.2.2.2.2.2.2.1 ?_
    refine t_ld (pc := 78) dX7_scanNext_78 rfl rfl rfl rfl rfl ?_
    refine t_iconst (pc := 79) dX7_scanNext_79 ?_
    refine t_ic_eq (pc := 80) 128 dX7_scanNext_80 rfl ?_ ?_
    · exact id
    · refine t_ld (pc := 83) dX7_scanNext_83 rfl rfl rfl rfl rfl ?_
      refine t_getR (pc := 84) dX7_scanNext_84 rfl h0.1 rfl ?_
      refine t_ld (pc := 87) dX7_scanNext_87 rfl rfl rfl rfl rfl ?_
      refine t_ld (pc := 88) dX7_scanNext_88 rfl rfl rfl rfl rfl ?_
      refine t_bipush (pc := 89) dX7_scanNext_89 (by decide) ?_
      refine t_ic_eq (pc := 91) 100 dX7_scanNext_91 rfl ?_ ?_
      · refine t_ld (pc := 100) dX7_scanNext_100 rfl rfl rfl rfl rfl ?_
        refine t_getR (pc := 101) dX7_scanNext_101 rfl h0.1 rfl ?_
        refine t_ld (pc := 104) dX7_scanNext_104 rfl rfl rfl rfl rfl ?_
        refine t_iaload (pc := 105) dX7_scanNext_105 h0.2.2.2.2.2.2.2.2.2.1 ?_
        refine t_iconst (pc := 106) dX7_scanNext_106 ?_
        refine t_iadd (pc := 107) dX7_scanNext_107 ?_
        refine t_goto (pc := 108) 112 dX7_scanNext_108 rfl ?_
        exact id
      · refine t_ld (pc := 94) dX7_scanNext_94 rfl rfl rfl rfl rfl ?_
        refine t_bipush (pc := 95) dX7_scanNext_95 (by decide) ?_
        refine t_ic_ne (pc := 97) 111 dX7_scanNext_97 rfl ?_ ?_
        · refine t_iconst (pc := 111) dX7_scanNext_111 ?_
          exact id
        · refine t_ld (pc := 100) dX7_scanNext_100 rfl rfl rfl rfl rfl ?_
          refine t_getR (pc := 101) dX7_scanNext_101 rfl h0.1 rfl ?_
          refine t_ld (pc := 104) dX7_scanNext_104 rfl rfl rfl rfl rfl ?_
          refine t_iaload (pc := 105) dX7_scanNext_105 h0.2.2.2.2.2.2.2.2.2.1 ?_
          refine t_iconst (pc := 106) dX7_scanNext_106 ?_
          refine t_iadd (pc := 107) dX7_scanNext_107 ?_
          refine t_goto (pc := 108) 112 dX7_scanNext_108 rfl ?_
          exact id
  · refine t_ld (pc := 17) dX7_scanNext_17 rfl rfl rfl rfl rfl ?_
    refine t_iconst (pc := 18) dX7_scanNext_18 ?_
    refine t_vcIN (pc := 19) dX7_scanNext_19 rfl rfl [] rfl rfl ⟨rfl, by decide, Nat.le_of_ble_eq_true rfl⟩ h0.1 fun v105 S106 => ?_
    refine t_st (pc := 22) [some (.ref a0), some (.int (I v105)), u2] dX7_scanNext_22 rfl rfl rfl rfl rfl rfl ?_
    refine t_ld (pc := 23) dX7_scanNext_23 rfl rfl rfl rfl rfl ?_
    refine t_iconst (pc := 24) dX7_scanNext_24 ?_
    refine t_ic_ne (pc := 25) 30 dX7_scanNext_25 rfl ?_ ?_
    · refine t_ld (pc := 30) dX7_scanNext_30 rfl rfl rfl rfl rfl ?_
      refine t_vcVN (pc := 31) dX7_scanNext_31 rfl rfl [] rfl rfl ⟨rfl, by decide, Nat.le_of_ble_eq_true rfl⟩ h0.1 fun S107 => ?_
      refine t_ld (pc := 34) dX7_scanNext_34 rfl rfl rfl rfl rfl ?_
      refine t_getR (pc := 35) dX7_scanNext_35 rfl h0.1 rfl ?_
      refine t_bipush (pc := 38) dX7_scanNext_38 (by decide) ?_
      refine t_ld (pc := 40) dX7_scanNext_40 rfl rfl rfl rfl rfl ?_
      refine t_iconst (pc := 41) dX7_scanNext_41 ?_
      refine t_iadd (pc := 42) dX7_scanNext_42 ?_
      refine t_iastore (pc := 43) dX7_scanNext_43 h0.2.2.2.2.2.2.2.2.2.2.2.1 ?_
      refine t_ld (pc := 44) dX7_scanNext_44 rfl rfl rfl rfl rfl ?_
      refine t_getR (pc := 45) dX7_scanNext_45 rfl h0.1 rfl ?_
      refine t_iconst (pc := 48) dX7_scanNext_48 ?_
      refine t_dup2 (pc := 49) dX7_scanNext_49 rfl rfl ?_
      refine t_iaload (pc := 50) dX7_scanNext_50 h0.2.2.2.2.2.2.2.2.2.2.2.1 ?_
      refine t_iconst (pc := 51) dX7_scanNext_51 ?_
      refine t_iadd (pc := 52) dX7_scanNext_52 ?_
      refine t_iastore (pc := 53) dX7_scanNext_53 h0.2.2.2.2.2.2.2.2.2.2.2.1 ?_
      refine t_ld (pc := 54) dX7_scanNext_54 rfl rfl rfl rfl rfl ?_
      refine t_getR (pc := 55) dX7_scanNext_55 rfl h0.1 rfl ?_
      refine t_bipush (pc := 58) dX7_scanNext_58 (by decide) ?_
      refine t_dup2 (pc := 60) dX7_scanNext_60 rfl rfl ?_
      refine t_iaload (pc := 61) dX7_scanNext_61 h0.2.2.2.2.2.2.2.2.2.2.2.1 ?_
      refine t_iconst (pc := 62) dX7_scanNext_62 ?_
      refine t_iadd (pc := 63) dX7_scanNext_63 ?_
      refine t_iastore (pc := 64) dX7_scanNext_64 h0.2.2.2.2.2.2.2.2.2.2.2.1 ?_
      refine t_ld (pc := 65) dX7_scanNext_65 rfl rfl rfl rfl rfl ?_
      refine t_ld (pc := 66) dX7_scanNext_66 rfl rfl rfl rfl rfl ?_
      refine t_vcIN (pc := 67) dX7_scanNext_67 rfl rfl [] rfl rfl ⟨rfl, by decide, Nat.le_of_ble_eq_true rfl⟩ h0.1 fun v108 S109 => ?_
      refine t_st (pc := 70) [some (.ref a0), some (.int (I v105)), some (.int (I v108))] dX7_scanNext_70 rfl rfl rfl rfl rfl rfl ?_
      refine t_ld (pc := 71) dX7_scanNext_71 rfl rfl rfl rfl rfl ?_
      refine t_getR (pc := 72) dX7_scanNext_72 rfl h0.1 rfl ?_
      refine t_ld (pc := 75) dX7_scanNext_75 rfl rfl rfl rfl rfl ?_
      refine t_ld (pc := 76) dX7_scanNext_76 rfl rfl rfl rfl rfl ?_
      refine t_iastore (pc := 77) dX7_scanNext_77 h0.2.2.2.2.2.2.2.1 ?_
      refine t_ld (pc := 78) dX7_scanNext_78 rfl rfl rfl rfl rfl ?_
      refine t_iconst (pc := 79) dX7_scanNext_79 ?_
      refine t_ic_eq (pc := 80) 128 dX7_scanNext_80 rfl ?_ ?_
      · exact id
      · refine t_ld (pc := 83) dX7_scanNext_83 rfl rfl rfl rfl rfl ?_
        refine t_getR (pc := 84) dX7_scanNext_84 rfl h0.1 rfl ?_
        refine t_ld (pc := 87) dX7_scanNext_87 rfl rfl rfl rfl rfl ?_
        refine t_ld (pc := 88) dX7_scanNext_88 rfl rfl rfl rfl rfl ?_
        refine t_bipush (pc := 89) dX7_scanNext_89 (by decide) ?_
        refine t_ic_eq (pc := 91) 100 dX7_scanNext_91 rfl ?_ ?_
        · refine t_ld (pc := 100) dX7_scanNext_100 rfl rfl rfl rfl rfl ?_
          refine t_getR (pc := 101) dX7_scanNext_101 rfl h0.1 rfl ?_
          refine t_ld (pc := 104) dX7_scanNext_104 rfl rfl rfl rfl rfl ?_
          refine t_iaload (pc := 105) dX7_scanNext_105 h0.2.2.2.2.2.2.2.2.2.1 ?_
          refine t_iconst (pc := 106) dX7_scanNext_106 ?_
          refine t_iadd (pc := 107) dX7_scanNext_107 ?_
          refine t_goto (pc := 108) 112 dX7_scanNext_108 rfl ?_
          exact id
        · refine t_ld (pc := 94) dX7_scanNext_94 rfl rfl rfl rfl rfl ?_
          refine t_bipush (pc := 95) dX7_scanNext_95 (by decide) ?_
          refine t_ic_ne (pc := 97) 111 dX7_scanNext_97 rfl ?_ ?_
          · refine t_iconst (pc := 111) dX7_scanNext_111 ?_
            exact id
          · refine t_ld (pc := 100) dX7_scanNext_100 rfl rfl rfl rfl rfl ?_
            refine t_getR (pc := 101) dX7_scanNext_101 rfl h0.1 rfl ?_
            refine t_ld (pc := 104) dX7_scanNext_104 rfl rfl rfl rfl rfl ?_
            refine t_iaload (pc := 105) dX7_scanNext_105 h0.2.2.2.2.2.2.2.2.2.1 ?_
            refine t_iconst (pc := 106) dX7_scanNext_106 ?_
            refine t_iadd (pc := 107) dX7_scanNext_107 ?_
            refine t_goto (pc := 108) 112 dX7_scanNext_108 rfl ?_
            exact id
    · refine t_iconst (pc := 28) dX7_scanNext_28 ?_
      exact t_iret (pc := 29) dX7_scanNext_29 rfl
theorem qX7_scanNext_112 {sc : Nat × (Nat → Int32)} {SH : List mCell} {S : mStore} {r : mR × mW} {a0 : Nat} (h0 : sState SH a0) {l1 : Int} {l2 : Int} {s0 : Int} {s1 : Int} : (((0 ≤ s1 ∧ s1 < 48) ∧ ((0 ≤ l1 ∧ l1 < 48) ∧ (∃ v101 S102, G sc MX7_restAt 0 [some (.int (I ((up S (a0 + 17) s1 s0) (a0 + 17) l1)))] [] SH (up S (a0 + 17) s1 s0) (rI v101 SH S102) ∧ ((0 ≤ l1 ∧ l1 < 48) ∧ G sc MX7_scanNext 128 [some (.ref a0), some (.int (I l1)), some (.int (I l2))] [] SH (up S102 (a0 + 18) l1 v101) r))))) → G sc MX7_scanNext 112 [some (.ref a0), some (.int (I l1)), some (.int (I l2))] [.int (I s0), .int (I s1), .ref (a0 + 17)] SH S r := by
  refine t_iastore (pc := 112) dX7_scanNext_112 h0.2.2.2.2.2.2.2.2.2.1 ?_
  refine t_ld (pc := 113) dX7_scanNext_113 rfl rfl rfl rfl rfl ?_
  refine t_getR (pc := 114) dX7_scanNext_114 rfl h0.1 rfl ?_
  refine t_ld (pc := 117) dX7_scanNext_117 rfl rfl rfl rfl rfl ?_
  refine t_ld (pc := 118) dX7_scanNext_118 rfl rfl rfl rfl rfl ?_
  refine t_getR (pc := 119) dX7_scanNext_119 rfl h0.1 rfl ?_
  refine t_ld (pc := 122) dX7_scanNext_122 rfl rfl rfl rfl rfl ?_
  refine t_iaload (pc := 123) dX7_scanNext_123 h0.2.2.2.2.2.2.2.2.2.1 ?_
  refine t_scIN (pc := 124) dX7_scanNext_124 rfl [.int (I l1), .ref (a0 + 18)] rfl rfl ⟨rfl, by decide, Nat.le_of_ble_eq_true rfl⟩ fun v101 S102 => ?_
  refine t_iastore (pc := 127) dX7_scanNext_127 h0.2.2.2.2.2.2.2.2.2.2.1 ?_
  exact id
theorem qX7_scanNext_128 {sc : Nat × (Nat → Int32)} {SH : List mCell} {S : mStore} {r : mR × mW} {a0 : Nat} (h0 : sState SH a0) {l1 : Int} {l2 : Int} : ((if I l2 = I 4 then G sc MX7_scanNext 146 [some (.ref a0), some (.int (I l1)), some (.int (I l2))] [] SH S r else (if I l2 = I 5 then G sc MX7_scanNext 146 [some (.ref a0), some (.int (I l1)), some (.int (I l2))] [] SH S r else (if I l2 = I 8 then G sc MX7_scanNext 146 [some (.ref a0), some (.int (I l1)), some (.int (I l2))] [] SH S r else r = rI 0 SH S)))) → G sc MX7_scanNext 128 [some (.ref a0), some (.int (I l1)), some (.int (I l2))] [] SH S r := by
  refine t_ld (pc := 128) dX7_scanNext_128 rfl rfl rfl rfl rfl ?_
  refine t_iconst (pc := 129) dX7_scanNext_129 ?_
  refine t_ic_eq (pc := 130) 146 dX7_scanNext_130 rfl ?_ ?_
  · exact id
  · refine t_ld (pc := 133) dX7_scanNext_133 rfl rfl rfl rfl rfl ?_
    refine t_iconst (pc := 134) dX7_scanNext_134 ?_
    refine t_ic_eq (pc := 135) 146 dX7_scanNext_135 rfl ?_ ?_
    · exact id
    · refine t_ld (pc := 138) dX7_scanNext_138 rfl rfl rfl rfl rfl ?_
      refine t_bipush (pc := 139) dX7_scanNext_139 (by decide) ?_
      refine t_ic_eq (pc := 141) 146 dX7_scanNext_141 rfl ?_ ?_
      · exact id
      · refine t_iconst (pc := 144) dX7_scanNext_144 ?_
        exact t_iret (pc := 145) dX7_scanNext_145 rfl
theorem qX7_scanNext_146 {sc : Nat × (Nat → Int32)} {SH : List mCell} {S : mStore} {r : mR × mW} {a0 : Nat} (h0 : sState SH a0) {l1 : Int} {l2 : Int} : ((if I l2 = I 4 then G sc MX7_scanNext 171 [some (.ref a0), some (.int (I l1)), some (.int (I l2))] [.int (I 7), .ref (a0 + 19)] SH S r else (if I l2 = I 5 then G sc MX7_scanNext 171 [some (.ref a0), some (.int (I l1)), some (.int (I l2))] [.int (I 5), .ref (a0 + 19)] SH S r else G sc MX7_scanNext 171 [some (.ref a0), some (.int (I l1)), some (.int (I l2))] [.int (I 6), .ref (a0 + 19)] SH S r))) → G sc MX7_scanNext 146 [some (.ref a0), some (.int (I l1)), some (.int (I l2))] [] SH S r := by
  refine t_ld (pc := 146) dX7_scanNext_146 rfl rfl rfl rfl rfl ?_
  refine t_getR (pc := 147) dX7_scanNext_147 rfl h0.1 rfl ?_
  refine t_ld (pc := 150) dX7_scanNext_150 rfl rfl rfl rfl rfl ?_
  refine t_iconst (pc := 151) dX7_scanNext_151 ?_
  refine t_ic_ne (pc := 152) 160 dX7_scanNext_152 rfl ?_ ?_
  · refine t_ld (pc := 160) dX7_scanNext_160 rfl rfl rfl rfl rfl ?_
    refine t_iconst (pc := 161) dX7_scanNext_161 ?_
    refine t_ic_ne (pc := 162) 169 dX7_scanNext_162 rfl ?_ ?_
    · refine t_bipush (pc := 169) dX7_scanNext_169 (by decide) ?_
      exact id
    · refine t_iconst (pc := 165) dX7_scanNext_165 ?_
      refine t_goto (pc := 166) 171 dX7_scanNext_166 rfl ?_
      exact id
  · refine t_bipush (pc := 155) dX7_scanNext_155 (by decide) ?_
    refine t_goto (pc := 157) 171 dX7_scanNext_157 rfl ?_
    exact id
theorem qX7_scanNext_171 {sc : Nat × (Nat → Int32)} {SH : List mCell} {S : mStore} {r : mR × mW} {a0 : Nat} (h0 : sState SH a0) {l1 : Int} {l2 : Int} {s0 : Int} : (((0 ≤ s0 ∧ s0 < 12) ∧ ((0 ≤ s0 ∧ s0 < 12) ∧ ((0 ≤ 10 ∧ 10 < 12) ∧ ((0 ≤ 10 ∧ 10 < 12) ∧ r = rI 1 SH (up (up S (a0 + 19) s0 ((S (a0 + 19) s0) + 1)) (a0 + 19) 10 (((up S (a0 + 19) s0 ((S (a0 + 19) s0) + 1)) (a0 + 19) 10) + 1))))))) → G sc MX7_scanNext 171 [some (.ref a0), some (.int (I l1)), some (.int (I l2))] [.int (I s0), .ref (a0 + 19)] SH S r := by
  refine t_dup2 (pc := 171) dX7_scanNext_171 rfl rfl ?_
  refine t_iaload (pc := 172) dX7_scanNext_172 h0.2.2.2.2.2.2.2.2.2.2.2.1 ?_
  refine t_iconst (pc := 173) dX7_scanNext_173 ?_
  refine t_iadd (pc := 174) dX7_scanNext_174 ?_
  refine t_iastore (pc := 175) dX7_scanNext_175 h0.2.2.2.2.2.2.2.2.2.2.2.1 ?_
  refine t_ld (pc := 176) dX7_scanNext_176 rfl rfl rfl rfl rfl ?_
  refine t_getR (pc := 177) dX7_scanNext_177 rfl h0.1 rfl ?_
  refine t_bipush (pc := 180) dX7_scanNext_180 (by decide) ?_
  refine t_dup2 (pc := 182) dX7_scanNext_182 rfl rfl ?_
  refine t_iaload (pc := 183) dX7_scanNext_183 h0.2.2.2.2.2.2.2.2.2.2.2.1 ?_
  refine t_iconst (pc := 184) dX7_scanNext_184 ?_
  refine t_iadd (pc := 185) dX7_scanNext_185 ?_
  refine t_iastore (pc := 186) dX7_scanNext_186 h0.2.2.2.2.2.2.2.2.2.2.2.1 ?_
  refine t_iconst (pc := 187) dX7_scanNext_187 ?_
  exact t_iret (pc := 188) dX7_scanNext_188 rfl
theorem qX7_advisedFrom_0 {sc : Nat × (Nat → Int32)} {SH : List mCell} {S : mStore} {r : mR × mW} {a0 : Nat} (h0 : sState SH a0) {l1 : Int} {u2 : Option Value} : (G sc MX7_advisedFrom 2 [some (.ref a0), some (.int (I l1)), some (.int (I l1))] [] SH S r) → G sc MX7_advisedFrom 0 [some (.ref a0), some (.int (I l1)), u2] [] SH S r := by
  refine t_ld (pc := 0) dX7_advisedFrom_0 rfl rfl rfl rfl rfl ?_
  refine t_st (pc := 1) [some (.ref a0), some (.int (I l1)), some (.int (I l1))] dX7_advisedFrom_1 rfl rfl rfl rfl rfl rfl ?_
  exact id
theorem qX7_advisedFrom_2 {sc : Nat × (Nat → Int32)} {SH : List mCell} {S : mStore} {r : mR × mW} {a0 : Nat} (h0 : sState SH a0) {l1 : Int} {l2 : Int} : ((if I (S 1 7) ≤ I l2 then r = rI (-1) SH S else ((0 ≤ l2 ∧ l2 < 48) ∧ (if I (S (a0 + 14) l2) = I 1 then r = rI l2 SH S else G sc MX7_advisedFrom 2 [some (.ref a0), some (.int (I l1)), some (.int (I (l2 + 1)))] [] SH S r)))) → G sc MX7_advisedFrom 2 [some (.ref a0), some (.int (I l1)), some (.int (I l2))] [] SH S r := by
  refine t_ld (pc := 2) dX7_advisedFrom_2 rfl rfl rfl rfl rfl ?_
  refine t_ld (pc := 3) dX7_advisedFrom_3 rfl rfl rfl rfl rfl ?_
  refine t_getR (pc := 4) dX7_advisedFrom_4 rfl h0.1 rfl ?_
  refine t_getI (pc := 7) dX7_advisedFrom_7 rfl h0.2.2.2.2.2.2.2.2.2.2.2.2.1 rfl ?_
  refine t_ic_ge (pc := 10) 31 dX7_advisedFrom_10 rfl ?_ ?_
  · refine t_iconst (pc := 31) dX7_advisedFrom_31 ?_
    exact t_iret (pc := 32) dX7_advisedFrom_32 rfl
  · refine t_ld (pc := 13) dX7_advisedFrom_13 rfl rfl rfl rfl rfl ?_
    refine t_getR (pc := 14) dX7_advisedFrom_14 rfl h0.1 rfl ?_
    refine t_ld (pc := 17) dX7_advisedFrom_17 rfl rfl rfl rfl rfl ?_
    refine t_iaload (pc := 18) dX7_advisedFrom_18 h0.2.2.2.2.2.2.1 ?_
    refine t_iconst (pc := 19) dX7_advisedFrom_19 ?_
    refine t_ic_ne (pc := 20) 25 dX7_advisedFrom_20 rfl ?_ ?_
    · refine t_iinc (pc := 25) [some (.ref a0), some (.int (I l1)), some (.int (I (l2 + 1)))] dX7_advisedFrom_25 rfl rfl ?_
      refine t_goto (pc := 28) 2 dX7_advisedFrom_28 rfl ?_
      exact id
    · refine t_ld (pc := 23) dX7_advisedFrom_23 rfl rfl rfl rfl rfl ?_
      exact t_iret (pc := 24) dX7_advisedFrom_24 rfl
theorem qX7_endRound_0 {sc : Nat × (Nat → Int32)} {SH : List mCell} {S : mStore} {r : mR × mW} {a0 : Nat} (h0 : sState SH a0) {u1 : Option Value} : ((∃ S101, G sc MX9_clear 0 [some (.ref (a0 + 11))] [] SH S (rV SH S101) ∧ ((0 ≤ 0 ∧ 0 < 12) ∧ ((0 ≤ 10 ∧ 10 < 12) ∧ ((0 ≤ 11 ∧ 11 < 12) ∧ (if I (4 * (S101 (a0 + 19) 10)) < I (S101 (a0 + 19) 11) then ((0 ≤ 10 ∧ 10 < 12) ∧ (if I (S101 (a0 + 19) 10) = I 0 then (if I (idv (S101 (a0 + 19) 0) 2) ≤ I (S101 1 2) then ((0 ≤ 0 ∧ 0 < 12) ∧ G sc MX7_endRound 110 [some (.ref a0), some (.int (I (S101 (a0 + 19) 0)))] [] SH (up S101 (a0 + 19) 0 (S101 1 2)) r) else ((0 ≤ 0 ∧ 0 < 12) ∧ G sc MX7_endRound 110 [some (.ref a0), some (.int (I (S101 (a0 + 19) 0)))] [] SH (up S101 (a0 + 19) 0 (idv (S101 (a0 + 19) 0) 2)) r)) else G sc MX7_endRound 110 [some (.ref a0), some (.int (I (S101 (a0 + 19) 0)))] [] SH S101 r)) else (if I (S101 1 3) ≤ I (2 * (S101 (a0 + 19) 0)) then ((0 ≤ 0 ∧ 0 < 12) ∧ G sc MX7_endRound 110 [some (.ref a0), some (.int (I (S101 (a0 + 19) 0)))] [] SH (up S101 (a0 + 19) 0 (S101 1 3)) r) else ((0 ≤ 0 ∧ 0 < 12) ∧ G sc MX7_endRound 110 [some (.ref a0), some (.int (I (S101 (a0 + 19) 0)))] [] SH (up S101 (a0 + 19) 0 (2 * (S101 (a0 + 19) 0))) r)))))))) → G sc MX7_endRound 0 [some (.ref a0), u1] [] SH S r := by
  refine t_ld (pc := 0) dX7_endRound_0 rfl rfl rfl rfl rfl ?_
  refine t_getR (pc := 1) dX7_endRound_1 rfl h0.1 rfl ?_
  refine t_vcVN (pc := 4) dX7_endRound_4 rfl rfl [] rfl rfl ⟨rfl, by decide, Nat.le_of_ble_eq_true rfl⟩ h0.2.2.2.2.1.1 fun S101 => ?_
  refine t_ld (pc := 7) dX7_endRound_7 rfl rfl rfl rfl rfl ?_
  refine t_getR (pc := 8) dX7_endRound_8 rfl h0.1 rfl ?_
  refine t_iconst (pc := 11) dX7_endRound_11 ?_
  refine t_iaload (pc := 12) dX7_endRound_12 h0.2.2.2.2.2.2.2.2.2.2.2.1 ?_
  refine t_st (pc := 13) [some (.ref a0), some (.int (I (S101 (a0 + 19) 0)))] dX7_endRound_13 rfl rfl rfl rfl rfl rfl ?_
  refine t_iconst (pc := 14) dX7_endRound_14 ?_
  refine t_ld (pc := 15) dX7_endRound_15 rfl rfl rfl rfl rfl ?_
  refine t_getR (pc := 16) dX7_endRound_16 rfl h0.1 rfl ?_
  refine t_bipush (pc := 19) dX7_endRound_19 (by decide) ?_
  refine t_iaload (pc := 21) dX7_endRound_21 h0.2.2.2.2.2.2.2.2.2.2.2.1 ?_
  refine t_imul (pc := 22) dX7_endRound_22 ?_
  refine t_ld (pc := 23) dX7_endRound_23 rfl rfl rfl rfl rfl ?_
  refine t_getR (pc := 24) dX7_endRound_24 rfl h0.1 rfl ?_
  refine t_bipush (pc := 27) dX7_endRound_27 (by decide) ?_
  refine t_iaload (pc := 29) dX7_endRound_29 h0.2.2.2.2.2.2.2.2.2.2.2.1 ?_
  refine t_ic_lt (pc := 30) 68 dX7_endRound_30 rfl ?_ ?_
  · refine t_ld (pc := 68) dX7_endRound_68 rfl rfl rfl rfl rfl ?_
    refine t_getR (pc := 69) dX7_endRound_69 rfl h0.1 rfl ?_
    refine t_bipush (pc := 72) dX7_endRound_72 (by decide) ?_
    refine t_iaload (pc := 74) dX7_endRound_74 h0.2.2.2.2.2.2.2.2.2.2.2.1 ?_
    refine t_if_ne (pc := 75) 110 dX7_endRound_75 rfl ?_ ?_
    · exact id
    · refine t_ld (pc := 78) dX7_endRound_78 rfl rfl rfl rfl rfl ?_
      refine t_getR (pc := 79) dX7_endRound_79 rfl h0.1 rfl ?_
      refine t_iconst (pc := 82) dX7_endRound_82 ?_
      refine t_ld (pc := 83) dX7_endRound_83 rfl rfl rfl rfl rfl ?_
      refine t_iconst (pc := 84) dX7_endRound_84 ?_
      refine t_idiv (pc := 85) dX7_endRound_85 (by decide) ?_
      refine t_ld (pc := 86) dX7_endRound_86 rfl rfl rfl rfl rfl ?_
      refine t_getR (pc := 87) dX7_endRound_87 rfl h0.1 rfl ?_
      refine t_getI (pc := 90) dX7_endRound_90 rfl h0.2.2.2.2.2.2.2.2.2.2.2.2.1 rfl ?_
      refine t_ic_le (pc := 93) 102 dX7_endRound_93 rfl ?_ ?_
      · refine t_ld (pc := 102) dX7_endRound_102 rfl rfl rfl rfl rfl ?_
        refine t_getR (pc := 103) dX7_endRound_103 rfl h0.1 rfl ?_
        refine t_getI (pc := 106) dX7_endRound_106 rfl h0.2.2.2.2.2.2.2.2.2.2.2.2.1 rfl ?_
        refine t_iastore (pc := 109) dX7_endRound_109 h0.2.2.2.2.2.2.2.2.2.2.2.1 ?_
        exact id
      · refine t_ld (pc := 96) dX7_endRound_96 rfl rfl rfl rfl rfl ?_
        refine t_iconst (pc := 97) dX7_endRound_97 ?_
        refine t_idiv (pc := 98) dX7_endRound_98 (by decide) ?_
        refine t_goto (pc := 99) 109 dX7_endRound_99 rfl ?_
        refine t_iastore (pc := 109) dX7_endRound_109 h0.2.2.2.2.2.2.2.2.2.2.2.1 ?_
        exact id
  · refine t_ld (pc := 33) dX7_endRound_33 rfl rfl rfl rfl rfl ?_
    refine t_getR (pc := 34) dX7_endRound_34 rfl h0.1 rfl ?_
    refine t_iconst (pc := 37) dX7_endRound_37 ?_
    refine t_iconst (pc := 38) dX7_endRound_38 ?_
    refine t_ld (pc := 39) dX7_endRound_39 rfl rfl rfl rfl rfl ?_
    refine t_imul (pc := 40) dX7_endRound_40 ?_
    refine t_ld (pc := 41) dX7_endRound_41 rfl rfl rfl rfl rfl ?_
    refine t_getR (pc := 42) dX7_endRound_42 rfl h0.1 rfl ?_
    refine t_getI (pc := 45) dX7_endRound_45 rfl h0.2.2.2.2.2.2.2.2.2.2.2.2.1 rfl ?_
    refine t_ic_ge (pc := 48) 57 dX7_endRound_48 rfl ?_ ?_
    · refine t_ld (pc := 57) dX7_endRound_57 rfl rfl rfl rfl rfl ?_
      refine t_getR (pc := 58) dX7_endRound_58 rfl h0.1 rfl ?_
      refine t_getI (pc := 61) dX7_endRound_61 rfl h0.2.2.2.2.2.2.2.2.2.2.2.2.1 rfl ?_
      refine t_iastore (pc := 64) dX7_endRound_64 h0.2.2.2.2.2.2.2.2.2.2.2.1 ?_
      refine t_goto (pc := 65) 110 dX7_endRound_65 rfl ?_
      exact id
    · refine t_iconst (pc := 51) dX7_endRound_51 ?_
      refine t_ld (pc := 52) dX7_endRound_52 rfl rfl rfl rfl rfl ?_
      refine t_imul (pc := 53) dX7_endRound_53 ?_
      refine t_goto (pc := 54) 64 dX7_endRound_54 rfl ?_
      refine t_iastore (pc := 64) dX7_endRound_64 h0.2.2.2.2.2.2.2.2.2.2.2.1 ?_
      refine t_goto (pc := 65) 110 dX7_endRound_65 rfl ?_
      exact id
theorem qX7_endRound_110 {sc : Nat × (Nat → Int32)} {SH : List mCell} {S : mStore} {r : mR × mW} {a0 : Nat} (h0 : sState SH a0) {l1 : Int} : (((0 ≤ 10 ∧ 10 < 12) ∧ ((0 ≤ 11 ∧ 11 < 12) ∧ ((0 ≤ 9 ∧ 9 < 12) ∧ ((0 ≤ 1 ∧ 1 < 12) ∧ ((0 ≤ 1 ∧ 1 < 12) ∧ r = rV SH (up (up (up (up S (a0 + 19) 10 0) (a0 + 19) 11 0) (a0 + 19) 9 0) (a0 + 19) 1 (((up (up (up S (a0 + 19) 10 0) (a0 + 19) 11 0) (a0 + 19) 9 0) (a0 + 19) 1) + 1)))))))) → G sc MX7_endRound 110 [some (.ref a0), some (.int (I l1))] [] SH S r := by
  refine t_ld (pc := 110) dX7_endRound_110 rfl rfl rfl rfl rfl ?_
  refine t_getR (pc := 111) dX7_endRound_111 rfl h0.1 rfl ?_
  refine t_bipush (pc := 114) dX7_endRound_114 (by decide) ?_
  refine t_iconst (pc := 116) dX7_endRound_116 ?_
  refine t_iastore (pc := 117) dX7_endRound_117 h0.2.2.2.2.2.2.2.2.2.2.2.1 ?_
  refine t_ld (pc := 118) dX7_endRound_118 rfl rfl rfl rfl rfl ?_
  refine t_getR (pc := 119) dX7_endRound_119 rfl h0.1 rfl ?_
  refine t_bipush (pc := 122) dX7_endRound_122 (by decide) ?_
  refine t_iconst (pc := 124) dX7_endRound_124 ?_
  refine t_iastore (pc := 125) dX7_endRound_125 h0.2.2.2.2.2.2.2.2.2.2.2.1 ?_
  refine t_ld (pc := 126) dX7_endRound_126 rfl rfl rfl rfl rfl ?_
  refine t_getR (pc := 127) dX7_endRound_127 rfl h0.1 rfl ?_
  refine t_bipush (pc := 130) dX7_endRound_130 (by decide) ?_
  refine t_iconst (pc := 132) dX7_endRound_132 ?_
  refine t_iastore (pc := 133) dX7_endRound_133 h0.2.2.2.2.2.2.2.2.2.2.2.1 ?_
  refine t_ld (pc := 134) dX7_endRound_134 rfl rfl rfl rfl rfl ?_
  refine t_getR (pc := 135) dX7_endRound_135 rfl h0.1 rfl ?_
  refine t_iconst (pc := 138) dX7_endRound_138 ?_
  refine t_dup2 (pc := 139) dX7_endRound_139 rfl rfl ?_
  refine t_iaload (pc := 140) dX7_endRound_140 h0.2.2.2.2.2.2.2.2.2.2.2.1 ?_
  refine t_iconst (pc := 141) dX7_endRound_141 ?_
  refine t_iadd (pc := 142) dX7_endRound_142 ?_
  refine t_iastore (pc := 143) dX7_endRound_143 h0.2.2.2.2.2.2.2.2.2.2.2.1 ?_
  exact t_ret (pc := 144) dX7_endRound_144 rfl
theorem qX7_restAt_0 {sc : Nat × (Nat → Int32)} {SH : List mCell} {S : mStore} {r : mR × mW} {l0 : Int} : ((if I 5 ≤ I l0 then (if I 8 ≤ I l0 then r = rI 4 SH S else r = rI 2 SH S) else (if I 3 ≤ I l0 then r = rI 1 SH S else r = rI 0 SH S))) → G sc MX7_restAt 0 [some (.int (I l0))] [] SH S r := by
  refine t_ld (pc := 0) dX7_restAt_0 rfl rfl rfl rfl rfl ?_
  refine t_iconst (pc := 1) dX7_restAt_1 ?_
  refine t_ic_ge (pc := 2) 16 dX7_restAt_2 rfl ?_ ?_
  · refine t_ld (pc := 16) dX7_restAt_16 rfl rfl rfl rfl rfl ?_
    refine t_bipush (pc := 17) dX7_restAt_17 (by decide) ?_
    refine t_ic_ge (pc := 19) 26 dX7_restAt_19 rfl ?_ ?_
    · refine t_iconst (pc := 26) dX7_restAt_26 ?_
      exact t_iret (pc := 27) dX7_restAt_27 rfl
    · refine t_iconst (pc := 22) dX7_restAt_22 ?_
      refine t_goto (pc := 23) 27 dX7_restAt_23 rfl ?_
      exact t_iret (pc := 27) dX7_restAt_27 rfl
  · refine t_ld (pc := 5) dX7_restAt_5 rfl rfl rfl rfl rfl ?_
    refine t_iconst (pc := 6) dX7_restAt_6 ?_
    refine t_ic_ge (pc := 7) 14 dX7_restAt_7 rfl ?_ ?_
    · refine t_iconst (pc := 14) dX7_restAt_14 ?_
      exact t_iret (pc := 15) dX7_restAt_15 rfl
    · refine t_iconst (pc := 10) dX7_restAt_10 ?_
      refine t_goto (pc := 11) 15 dX7_restAt_11 rfl ?_
      exact t_iret (pc := 15) dX7_restAt_15 rfl
