-- needs: 43.tshape
/-! ===== the program as conditions (gen_vc.py) ===== -/
theorem qX11_years_0 {sc : Nat × (Nat → Int32)} {SH : List mCell} {S : mStore} {r : mR × mW} (h0 : sMod SH) {l1 : Int} {l2 : Int} {l3 : Int} {u4 : Option Value} {u5 : Option Value} {u6 : Option Value} : ((∃ v101 S102, G sc MX11_within 0 [some (.int (I l3)), some (.int (I 0)), some (.int (I 2))] [] SH (up S 90 4 0) (rI v101 SH S102) ∧ (∃ v103 S104, G sc MX11_right 0 [some (.ref 90), some (.int (I v101)), some (.int (I 1))] [] SH S102 (rI v103 SH S104) ∧ (if I v103 = I 0 then r = rI 0 SH S104 else (∃ v105 S106, G sc MX11_within 0 [some (.int (I l2)), some (.int (I 0)), some (.int (I 60))] [] SH S104 (rI v105 SH S106) ∧ (∃ v107 S108, G sc MX11_right 0 [some (.ref 90), some (.int (I v105)), some (.int (I 2))] [] SH S106 (rI v107 SH S108) ∧ (if I v107 = I 0 then r = rI 0 SH S108 else (∃ S109, G sc MX11_tries 0 [some (.ref 90)] [] SH S108 (rV SH S109) ∧ G sc MX11_years 54 [some (.ref 90), some (.int (I l1)), some (.int (I l2)), some (.int (I l3)), some (.int (I 0)), some (.int (I 0)), some (.int (I 0))] [] SH (up S109 90 58 l1) r)))))))) → G sc MX11_years 0 [some (.ref 90), some (.int (I l1)), some (.int (I l2)), some (.int (I l3)), u4, u5, u6] [] SH S r := by
  refine t_ld (pc := 0) dX11_years_0 rfl rfl rfl rfl rfl ?_
  refine t_iconst (pc := 1) dX11_years_1 ?_
  refine t_putI (pc := 2) dX11_years_2 rfl rfl (Or.inl rfl) h0.1 rfl ?_
  refine t_ld (pc := 5) dX11_years_5 rfl rfl rfl rfl rfl ?_
  refine t_ld (pc := 6) dX11_years_6 rfl rfl rfl rfl rfl ?_
  refine t_iconst (pc := 7) dX11_years_7 ?_
  refine t_iconst (pc := 8) dX11_years_8 ?_
  refine t_scIN (pc := 9) dX11_years_9 rfl [.ref 90] rfl rfl ⟨rfl, by decide, Nat.le_of_ble_eq_true rfl⟩ fun v101 S102 => ?_
  refine t_iconst (pc := 12) dX11_years_12 ?_
  refine t_vcIN (pc := 13) dX11_years_13 rfl rfl [] rfl rfl ⟨rfl, by decide, Nat.le_of_ble_eq_true rfl⟩ h0.1 fun v103 S104 => ?_
  refine t_if_eq (pc := 16) 34 dX11_years_16 rfl ?_ ?_
  · refine t_iconst (pc := 34) dX11_years_34 ?_
    exact t_iret (pc := 35) dX11_years_35 rfl
  · refine t_ld (pc := 19) dX11_years_19 rfl rfl rfl rfl rfl ?_
    refine t_ld (pc := 20) dX11_years_20 rfl rfl rfl rfl rfl ?_
    refine t_iconst (pc := 21) dX11_years_21 ?_
    refine t_bipush (pc := 22) dX11_years_22 (by decide) ?_
    refine t_scIN (pc := 24) dX11_years_24 rfl [.ref 90] rfl rfl ⟨rfl, by decide, Nat.le_of_ble_eq_true rfl⟩ fun v105 S106 => ?_
    refine t_iconst (pc := 27) dX11_years_27 ?_
    refine t_vcIN (pc := 28) dX11_years_28 rfl rfl [] rfl rfl ⟨rfl, by decide, Nat.le_of_ble_eq_true rfl⟩ h0.1 fun v107 S108 => ?_
    refine t_if_ne (pc := 31) 36 dX11_years_31 rfl ?_ ?_
    · refine t_ld (pc := 36) dX11_years_36 rfl rfl rfl rfl rfl ?_
      refine t_vcVN (pc := 37) dX11_years_37 rfl rfl [] rfl rfl ⟨rfl, by decide, Nat.le_of_ble_eq_true rfl⟩ h0.1 fun S109 => ?_
      refine t_ld (pc := 40) dX11_years_40 rfl rfl rfl rfl rfl ?_
      refine t_ld (pc := 41) dX11_years_41 rfl rfl rfl rfl rfl ?_
      refine t_putI (pc := 42) dX11_years_42 rfl rfl (Or.inl rfl) h0.1 rfl ?_
      refine t_iconst (pc := 45) dX11_years_45 ?_
      refine t_st (pc := 46) [some (.ref 90), some (.int (I l1)), some (.int (I l2)), some (.int (I l3)), some (.int (I 0)), u5, u6] dX11_years_46 rfl rfl rfl rfl rfl rfl ?_
      refine t_iconst (pc := 48) dX11_years_48 ?_
      refine t_st (pc := 49) [some (.ref 90), some (.int (I l1)), some (.int (I l2)), some (.int (I l3)), some (.int (I 0)), some (.int (I 0)), u6] dX11_years_49 rfl rfl rfl rfl rfl rfl ?_
      refine t_iconst (pc := 51) dX11_years_51 ?_
      refine t_st (pc := 52) [some (.ref 90), some (.int (I l1)), some (.int (I l2)), some (.int (I l3)), some (.int (I 0)), some (.int (I 0)), some (.int (I 0))] dX11_years_52 rfl rfl rfl rfl rfl rfl ?_
      exact id
    · refine t_iconst (pc := 34) dX11_years_34 ?_
      exact t_iret (pc := 35) dX11_years_35 rfl
theorem qX11_years_54 {sc : Nat × (Nat → Int32)} {SH : List mCell} {S : mStore} {r : mR × mW} (h0 : sMod SH) {l1 : Int} {l2 : Int} {l3 : Int} {l4 : Int} {l5 : Int} {l6 : Int} : ((if I l2 ≤ I l6 then (if I l3 = I 0 then r = rI l4 SH S else (if I l3 = I 1 then (∃ v101 S102, G sc MX11_usedOf 0 [some (.ref 90), some (.int (I 1654)), none, none] [] SH S (rI v101 SH S102) ∧ r = rI v101 SH S102) else r = rI l5 SH S)) else (∃ v103 S104, G sc MX11_fails 0 [some (.ref 90), none, none, none] [] SH S (rI v103 SH S104) ∧ (if I v103 = I 0 then (∃ v105 S106, G sc MX11_ticksOf 0 [some (.ref 90), some (.int (I 1654)), some (.int (I 1)), none, none] [] SH S104 (rI v105 SH S106) ∧ G sc MX11_years 54 [some (.ref 90), some (.int (I l1)), some (.int (I l2)), some (.int (I l3)), some (.int (I (l4 + v105))), some (.int (I (l5 + 0))), some (.int (I (l6 + 1)))] [] SH S106 r) else (∃ v107 S108, G sc MX11_ticksOf 0 [some (.ref 90), some (.int (I 1654)), some (.int (I 1)), none, none] [] SH S104 (rI v107 SH S108) ∧ G sc MX11_years 54 [some (.ref 90), some (.int (I l1)), some (.int (I l2)), some (.int (I l3)), some (.int (I (l4 + v107))), some (.int (I (l5 + 1))), some (.int (I (l6 + 1)))] [] SH S108 r))))) → G sc MX11_years 54 [some (.ref 90), some (.int (I l1)), some (.int (I l2)), some (.int (I l3)), some (.int (I l4)), some (.int (I l5)), some (.int (I l6))] [] SH S r := by
  refine t_ld (pc := 54) dX11_years_54 rfl rfl rfl rfl rfl ?_
  refine t_ld (pc := 56) dX11_years_56 rfl rfl rfl rfl rfl ?_
  refine t_ic_ge (pc := 57) 96 dX11_years_57 rfl ?_ ?_
  · refine t_ld (pc := 96) dX11_years_96 rfl rfl rfl rfl rfl ?_
    refine t_if_ne (pc := 97) 105 dX11_years_97 rfl ?_ ?_
    · refine t_ld (pc := 105) dX11_years_105 rfl rfl rfl rfl rfl ?_
      refine t_iconst (pc := 106) dX11_years_106 ?_
      refine t_ic_ne (pc := 107) 120 dX11_years_107 rfl ?_ ?_
      · refine t_ld (pc := 120) dX11_years_120 rfl rfl rfl rfl rfl ?_
        exact t_iret (pc := 122) dX11_years_122 rfl
      · refine t_ld (pc := 110) dX11_years_110 rfl rfl rfl rfl rfl ?_
        refine t_sipush (pc := 111) dX11_years_111 (by decide) ?_
        refine t_vcIN (pc := 114) dX11_years_114 rfl rfl [] rfl rfl ⟨rfl, by decide, Nat.le_of_ble_eq_true rfl⟩ h0.1 fun v101 S102 => ?_
        refine t_goto (pc := 117) 122 dX11_years_117 rfl ?_
        exact t_iret (pc := 122) dX11_years_122 rfl
    · refine t_ld (pc := 100) dX11_years_100 rfl rfl rfl rfl rfl ?_
      refine t_goto (pc := 102) 122 dX11_years_102 rfl ?_
      exact t_iret (pc := 122) dX11_years_122 rfl
  · refine t_ld (pc := 60) dX11_years_60 rfl rfl rfl rfl rfl ?_
    refine t_ld (pc := 62) dX11_years_62 rfl rfl rfl rfl rfl ?_
    refine t_vcIN (pc := 63) dX11_years_63 rfl rfl [.int (I l5)] rfl rfl ⟨rfl, by decide, Nat.le_of_ble_eq_true rfl⟩ h0.1 fun v103 S104 => ?_
    refine t_if_eq (pc := 66) 73 dX11_years_66 rfl ?_ ?_
    · refine t_iconst (pc := 73) dX11_years_73 ?_
      refine t_iadd (pc := 74) dX11_years_74 ?_
      refine t_st (pc := 75) [some (.ref 90), some (.int (I l1)), some (.int (I l2)), some (.int (I l3)), some (.int (I l4)), some (.int (I (l5 + 0))), some (.int (I l6))] dX11_years_75 rfl rfl rfl rfl rfl rfl ?_
      refine t_ld (pc := 77) dX11_years_77 rfl rfl rfl rfl rfl ?_
      refine t_ld (pc := 79) dX11_years_79 rfl rfl rfl rfl rfl ?_
      refine t_sipush (pc := 80) dX11_years_80 (by decide) ?_
      refine t_iconst (pc := 83) dX11_years_83 ?_
      refine t_vcIN (pc := 84) dX11_years_84 rfl rfl [.int (I l4)] rfl rfl ⟨rfl, by decide, Nat.le_of_ble_eq_true rfl⟩ h0.1 fun v105 S106 => ?_
      refine t_iadd (pc := 87) dX11_years_87 ?_
      refine t_st (pc := 88) [some (.ref 90), some (.int (I l1)), some (.int (I l2)), some (.int (I l3)), some (.int (I (l4 + v105))), some (.int (I (l5 + 0))), some (.int (I l6))] dX11_years_88 rfl rfl rfl rfl rfl rfl ?_
      refine t_iinc (pc := 90) [some (.ref 90), some (.int (I l1)), some (.int (I l2)), some (.int (I l3)), some (.int (I (l4 + v105))), some (.int (I (l5 + 0))), some (.int (I (l6 + 1)))] dX11_years_90 rfl rfl ?_
      refine t_goto (pc := 93) 54 dX11_years_93 rfl ?_
      exact id
    · refine t_iconst (pc := 69) dX11_years_69 ?_
      refine t_goto (pc := 70) 74 dX11_years_70 rfl ?_
      refine t_iadd (pc := 74) dX11_years_74 ?_
      refine t_st (pc := 75) [some (.ref 90), some (.int (I l1)), some (.int (I l2)), some (.int (I l3)), some (.int (I l4)), some (.int (I (l5 + 1))), some (.int (I l6))] dX11_years_75 rfl rfl rfl rfl rfl rfl ?_
      refine t_ld (pc := 77) dX11_years_77 rfl rfl rfl rfl rfl ?_
      refine t_ld (pc := 79) dX11_years_79 rfl rfl rfl rfl rfl ?_
      refine t_sipush (pc := 80) dX11_years_80 (by decide) ?_
      refine t_iconst (pc := 83) dX11_years_83 ?_
      refine t_vcIN (pc := 84) dX11_years_84 rfl rfl [.int (I l4)] rfl rfl ⟨rfl, by decide, Nat.le_of_ble_eq_true rfl⟩ h0.1 fun v107 S108 => ?_
      refine t_iadd (pc := 87) dX11_years_87 ?_
      refine t_st (pc := 88) [some (.ref 90), some (.int (I l1)), some (.int (I l2)), some (.int (I l3)), some (.int (I (l4 + v107))), some (.int (I (l5 + 1))), some (.int (I l6))] dX11_years_88 rfl rfl rfl rfl rfl rfl ?_
      refine t_iinc (pc := 90) [some (.ref 90), some (.int (I l1)), some (.int (I l2)), some (.int (I l3)), some (.int (I (l4 + v107))), some (.int (I (l5 + 1))), some (.int (I (l6 + 1)))] dX11_years_90 rfl rfl ?_
      refine t_goto (pc := 93) 54 dX11_years_93 rfl ?_
      exact id
theorem qX11_image_0 {sc : Nat × (Nat → Int32)} {SH : List mCell} {S : mStore} {r : mR × mW} (h0 : sMod SH) {u1 : Option Value} : ((∃ S101, G sc MX11_copies 0 [some (.ref 90), some (.int (I 0)), some (.int (I 69468)), some (.int (I 1654)), none] [] SH (up S 90 4 0) (rV SH S101) ∧ (∃ S102, G sc MX11_copies 0 [some (.ref 90), some (.int (I 3308)), some (.int (I 71122)), some (.int (I 66160)), none] [] SH S101 (rV SH S102) ∧ G sc MX11_image 55 [some (.ref 90), some (.int (I 0))] [] SH (up (up (up S102 90 8 (S102 90 5)) 90 9 ((up S102 90 8 (S102 90 5)) 90 6)) 90 10 ((up (up S102 90 8 (S102 90 5)) 90 9 ((up S102 90 8 (S102 90 5)) 90 6)) 90 7)) r))) → G sc MX11_image 0 [some (.ref 90), u1] [] SH S r := by
  refine t_ld (pc := 0) dX11_image_0 rfl rfl rfl rfl rfl ?_
  refine t_iconst (pc := 1) dX11_image_1 ?_
  refine t_putI (pc := 2) dX11_image_2 rfl rfl (Or.inl rfl) h0.1 rfl ?_
  refine t_ld (pc := 5) dX11_image_5 rfl rfl rfl rfl rfl ?_
  refine t_iconst (pc := 6) dX11_image_6 ?_
  refine t_push (pc := 7) 69468 dX11_image_7 rfl (by decide +kernel) ?_
  refine t_sipush (pc := 10) dX11_image_10 (by decide) ?_
  refine t_vcVN (pc := 13) dX11_image_13 rfl rfl [] rfl rfl ⟨rfl, by decide, Nat.le_of_ble_eq_true rfl⟩ h0.1 fun S101 => ?_
  refine t_ld (pc := 16) dX11_image_16 rfl rfl rfl rfl rfl ?_
  refine t_sipush (pc := 17) dX11_image_17 (by decide) ?_
  refine t_push (pc := 20) 71122 dX11_image_20 rfl (by decide +kernel) ?_
  refine t_push (pc := 23) 66160 dX11_image_23 rfl (by decide +kernel) ?_
  refine t_vcVN (pc := 26) dX11_image_26 rfl rfl [] rfl rfl ⟨rfl, by decide, Nat.le_of_ble_eq_true rfl⟩ h0.1 fun S102 => ?_
  refine t_ld (pc := 29) dX11_image_29 rfl rfl rfl rfl rfl ?_
  refine t_ld (pc := 30) dX11_image_30 rfl rfl rfl rfl rfl ?_
  refine t_getI (pc := 31) dX11_image_31 rfl h0.1 rfl ?_
  refine t_putI (pc := 34) dX11_image_34 rfl rfl (Or.inl rfl) h0.1 rfl ?_
  refine t_ld (pc := 37) dX11_image_37 rfl rfl rfl rfl rfl ?_
  refine t_ld (pc := 38) dX11_image_38 rfl rfl rfl rfl rfl ?_
  refine t_getI (pc := 39) dX11_image_39 rfl h0.1 rfl ?_
  refine t_putI (pc := 42) dX11_image_42 rfl rfl (Or.inl rfl) h0.1 rfl ?_
  refine t_ld (pc := 45) dX11_image_45 rfl rfl rfl rfl rfl ?_
  refine t_ld (pc := 46) dX11_image_46 rfl rfl rfl rfl rfl ?_
  refine t_getI (pc := 47) dX11_image_47 rfl h0.1 rfl ?_
  refine t_putI (pc := 50) dX11_image_50 rfl rfl (Or.inl rfl) h0.1 rfl ?_
  refine t_iconst (pc := 53) dX11_image_53 ?_
  refine t_st (pc := 54) [some (.ref 90), some (.int (I 0))] dX11_image_54 rfl rfl rfl rfl rfl rfl ?_
  exact id
theorem qX11_image_55 {sc : Nat × (Nat → Int32)} {SH : List mCell} {S : mStore} {r : mR × mW} (h0 : sMod SH) {l1 : Int} : ((if I 8 ≤ I l1 then G sc MX11_image 99 [some (.ref 90), some (.int (I 0))] [] SH S r else ((0 ≤ l1 ∧ l1 < 16) ∧ ((0 ≤ 8 + l1 ∧ 8 + l1 < 16) ∧ ((0 ≤ l1 ∧ l1 < 16) ∧ ((0 ≤ 8 + l1 ∧ 8 + l1 < 16) ∧ G sc MX11_image 55 [some (.ref 90), some (.int (I (l1 + 1)))] [] SH (up (up S 92 (8 + l1) (S 92 l1)) 93 (8 + l1) ((up S 92 (8 + l1) (S 92 l1)) 93 l1)) r)))))) → G sc MX11_image 55 [some (.ref 90), some (.int (I l1))] [] SH S r := by
  refine t_ld (pc := 55) dX11_image_55 rfl rfl rfl rfl rfl ?_
  refine t_bipush (pc := 56) dX11_image_56 (by decide) ?_
  refine t_ic_ge (pc := 58) 97 dX11_image_58 rfl ?_ ?_
  · refine t_iconst (pc := 97) dX11_image_97 ?_
    refine t_st (pc := 98) [some (.ref 90), some (.int (I 0))] dX11_image_98 rfl rfl rfl rfl rfl rfl ?_
    exact id
  · refine t_ld (pc := 61) dX11_image_61 rfl rfl rfl rfl rfl ?_
    refine t_getR (pc := 62) dX11_image_62 rfl h0.1 rfl ?_
    refine t_bipush (pc := 65) dX11_image_65 (by decide) ?_
    refine t_ld (pc := 67) dX11_image_67 rfl rfl rfl rfl rfl ?_
    refine t_iadd (pc := 68) dX11_image_68 ?_
    refine t_ld (pc := 69) dX11_image_69 rfl rfl rfl rfl rfl ?_
    refine t_getR (pc := 70) dX11_image_70 rfl h0.1 rfl ?_
    refine t_ld (pc := 73) dX11_image_73 rfl rfl rfl rfl rfl ?_
    refine t_iaload (pc := 74) dX11_image_74 h0.2.2.1 ?_
    refine t_iastore (pc := 75) dX11_image_75 h0.2.2.1 ?_
    refine t_ld (pc := 76) dX11_image_76 rfl rfl rfl rfl rfl ?_
    refine t_getR (pc := 77) dX11_image_77 rfl h0.1 rfl ?_
    refine t_bipush (pc := 80) dX11_image_80 (by decide) ?_
    refine t_ld (pc := 82) dX11_image_82 rfl rfl rfl rfl rfl ?_
    refine t_iadd (pc := 83) dX11_image_83 ?_
    refine t_ld (pc := 84) dX11_image_84 rfl rfl rfl rfl rfl ?_
    refine t_getR (pc := 85) dX11_image_85 rfl h0.1 rfl ?_
    refine t_ld (pc := 88) dX11_image_88 rfl rfl rfl rfl rfl ?_
    refine t_iaload (pc := 89) dX11_image_89 h0.2.2.2.1 ?_
    refine t_iastore (pc := 90) dX11_image_90 h0.2.2.2.1 ?_
    refine t_iinc (pc := 91) [some (.ref 90), some (.int (I (l1 + 1)))] dX11_image_91 rfl rfl ?_
    refine t_goto (pc := 94) 55 dX11_image_94 rfl ?_
    exact id
theorem qX11_image_99 {sc : Nat × (Nat → Int32)} {SH : List mCell} {S : mStore} {r : mR × mW} (h0 : sMod SH) {l1 : Int} : ((if I 3 ≤ I l1 then r = rV SH (up S 90 11 1) else ((0 ≤ l1 ∧ l1 < 6) ∧ ((0 ≤ 3 + l1 ∧ 3 + l1 < 6) ∧ G sc MX11_image 99 [some (.ref 90), some (.int (I (l1 + 1)))] [] SH (up S 94 (3 + l1) (S 94 l1)) r)))) → G sc MX11_image 99 [some (.ref 90), some (.int (I l1))] [] SH S r := by
  refine t_ld (pc := 99) dX11_image_99 rfl rfl rfl rfl rfl ?_
  refine t_iconst (pc := 100) dX11_image_100 ?_
  refine t_ic_ge (pc := 101) 124 dX11_image_101 rfl ?_ ?_
  · refine t_ld (pc := 124) dX11_image_124 rfl rfl rfl rfl rfl ?_
    refine t_iconst (pc := 125) dX11_image_125 ?_
    refine t_putI (pc := 126) dX11_image_126 rfl rfl (Or.inl rfl) h0.1 rfl ?_
    exact t_ret (pc := 129) dX11_image_129 rfl
  · refine t_ld (pc := 104) dX11_image_104 rfl rfl rfl rfl rfl ?_
    refine t_getR (pc := 105) dX11_image_105 rfl h0.1 rfl ?_
    refine t_iconst (pc := 108) dX11_image_108 ?_
    refine t_ld (pc := 109) dX11_image_109 rfl rfl rfl rfl rfl ?_
    refine t_iadd (pc := 110) dX11_image_110 ?_
    refine t_ld (pc := 111) dX11_image_111 rfl rfl rfl rfl rfl ?_
    refine t_getR (pc := 112) dX11_image_112 rfl h0.1 rfl ?_
    refine t_ld (pc := 115) dX11_image_115 rfl rfl rfl rfl rfl ?_
    refine t_iaload (pc := 116) dX11_image_116 h0.2.2.2.2.1 ?_
    refine t_iastore (pc := 117) dX11_image_117 h0.2.2.2.2.1 ?_
    refine t_iinc (pc := 118) [some (.ref 90), some (.int (I (l1 + 1)))] dX11_image_118 rfl rfl ?_
    refine t_goto (pc := 121) 99 dX11_image_121 rfl ?_
    exact id
theorem qX11_restore_0 {sc : Nat × (Nat → Int32)} {SH : List mCell} {S : mStore} {r : mR × mW} (h0 : sMod SH) {u1 : Option Value} : ((if I ((up S 90 4 0) 90 11) = I 0 then ((I 0 = I 0 ∨ I 0 = I 1) ∧ r = rI 0 SH (up S 90 4 0)) else (∃ S101, G sc MX11_copies 0 [some (.ref 90), some (.int (I 69468)), some (.int (I 0)), some (.int (I 1654)), none] [] SH (up S 90 4 0) (rV SH S101) ∧ (∃ S102, G sc MX11_copies 0 [some (.ref 90), some (.int (I 71122)), some (.int (I 3308)), some (.int (I 66160)), none] [] SH S101 (rV SH S102) ∧ G sc MX11_restore 64 [some (.ref 90), some (.int (I 0))] [] SH (up (up (up S102 90 5 (S102 90 8)) 90 6 ((up S102 90 5 (S102 90 8)) 90 9)) 90 7 ((up (up S102 90 5 (S102 90 8)) 90 6 ((up S102 90 5 (S102 90 8)) 90 9)) 90 10)) r)))) → G sc MX11_restore 0 [some (.ref 90), u1] [] SH S r := by
  refine t_ld (pc := 0) dX11_restore_0 rfl rfl rfl rfl rfl ?_
  refine t_iconst (pc := 1) dX11_restore_1 ?_
  refine t_putI (pc := 2) dX11_restore_2 rfl rfl (Or.inl rfl) h0.1 rfl ?_
  refine t_ld (pc := 5) dX11_restore_5 rfl rfl rfl rfl rfl ?_
  refine t_getI (pc := 6) dX11_restore_6 rfl h0.1 rfl ?_
  refine t_if_ne (pc := 9) 14 dX11_restore_9 rfl ?_ ?_
  · refine t_ld (pc := 14) dX11_restore_14 rfl rfl rfl rfl rfl ?_
    refine t_push (pc := 15) 69468 dX11_restore_15 rfl (by decide +kernel) ?_
    refine t_iconst (pc := 18) dX11_restore_18 ?_
    refine t_sipush (pc := 19) dX11_restore_19 (by decide) ?_
    refine t_vcVN (pc := 22) dX11_restore_22 rfl rfl [] rfl rfl ⟨rfl, by decide, Nat.le_of_ble_eq_true rfl⟩ h0.1 fun S101 => ?_
    refine t_ld (pc := 25) dX11_restore_25 rfl rfl rfl rfl rfl ?_
    refine t_push (pc := 26) 71122 dX11_restore_26 rfl (by decide +kernel) ?_
    refine t_sipush (pc := 29) dX11_restore_29 (by decide) ?_
    refine t_push (pc := 32) 66160 dX11_restore_32 rfl (by decide +kernel) ?_
    refine t_vcVN (pc := 35) dX11_restore_35 rfl rfl [] rfl rfl ⟨rfl, by decide, Nat.le_of_ble_eq_true rfl⟩ h0.1 fun S102 => ?_
    refine t_ld (pc := 38) dX11_restore_38 rfl rfl rfl rfl rfl ?_
    refine t_ld (pc := 39) dX11_restore_39 rfl rfl rfl rfl rfl ?_
    refine t_getI (pc := 40) dX11_restore_40 rfl h0.1 rfl ?_
    refine t_putI (pc := 43) dX11_restore_43 rfl rfl (Or.inl rfl) h0.1 rfl ?_
    refine t_ld (pc := 46) dX11_restore_46 rfl rfl rfl rfl rfl ?_
    refine t_ld (pc := 47) dX11_restore_47 rfl rfl rfl rfl rfl ?_
    refine t_getI (pc := 48) dX11_restore_48 rfl h0.1 rfl ?_
    refine t_putI (pc := 51) dX11_restore_51 rfl rfl (Or.inl rfl) h0.1 rfl ?_
    refine t_ld (pc := 54) dX11_restore_54 rfl rfl rfl rfl rfl ?_
    refine t_ld (pc := 55) dX11_restore_55 rfl rfl rfl rfl rfl ?_
    refine t_getI (pc := 56) dX11_restore_56 rfl h0.1 rfl ?_
    refine t_putI (pc := 59) dX11_restore_59 rfl rfl (Or.inl rfl) h0.1 rfl ?_
    refine t_iconst (pc := 62) dX11_restore_62 ?_
    refine t_st (pc := 63) [some (.ref 90), some (.int (I 0))] dX11_restore_63 rfl rfl rfl rfl rfl rfl ?_
    exact id
  · refine t_iconst (pc := 12) dX11_restore_12 ?_
    exact t_zret (pc := 13) dX11_restore_13 rfl
theorem qX11_restore_64 {sc : Nat × (Nat → Int32)} {SH : List mCell} {S : mStore} {r : mR × mW} (h0 : sMod SH) {l1 : Int} : ((if I 8 ≤ I l1 then G sc MX11_restore 108 [some (.ref 90), some (.int (I 0))] [] SH S r else ((0 ≤ 8 + l1 ∧ 8 + l1 < 16) ∧ ((0 ≤ l1 ∧ l1 < 16) ∧ ((0 ≤ 8 + l1 ∧ 8 + l1 < 16) ∧ ((0 ≤ l1 ∧ l1 < 16) ∧ G sc MX11_restore 64 [some (.ref 90), some (.int (I (l1 + 1)))] [] SH (up (up S 92 l1 (S 92 (8 + l1))) 93 l1 ((up S 92 l1 (S 92 (8 + l1))) 93 (8 + l1))) r)))))) → G sc MX11_restore 64 [some (.ref 90), some (.int (I l1))] [] SH S r := by
  refine t_ld (pc := 64) dX11_restore_64 rfl rfl rfl rfl rfl ?_
  refine t_bipush (pc := 65) dX11_restore_65 (by decide) ?_
  refine t_ic_ge (pc := 67) 106 dX11_restore_67 rfl ?_ ?_
  · refine t_iconst (pc := 106) dX11_restore_106 ?_
    refine t_st (pc := 107) [some (.ref 90), some (.int (I 0))] dX11_restore_107 rfl rfl rfl rfl rfl rfl ?_
    exact id
  · refine t_ld (pc := 70) dX11_restore_70 rfl rfl rfl rfl rfl ?_
    refine t_getR (pc := 71) dX11_restore_71 rfl h0.1 rfl ?_
    refine t_ld (pc := 74) dX11_restore_74 rfl rfl rfl rfl rfl ?_
    refine t_ld (pc := 75) dX11_restore_75 rfl rfl rfl rfl rfl ?_
    refine t_getR (pc := 76) dX11_restore_76 rfl h0.1 rfl ?_
    refine t_bipush (pc := 79) dX11_restore_79 (by decide) ?_
    refine t_ld (pc := 81) dX11_restore_81 rfl rfl rfl rfl rfl ?_
    refine t_iadd (pc := 82) dX11_restore_82 ?_
    refine t_iaload (pc := 83) dX11_restore_83 h0.2.2.1 ?_
    refine t_iastore (pc := 84) dX11_restore_84 h0.2.2.1 ?_
    refine t_ld (pc := 85) dX11_restore_85 rfl rfl rfl rfl rfl ?_
    refine t_getR (pc := 86) dX11_restore_86 rfl h0.1 rfl ?_
    refine t_ld (pc := 89) dX11_restore_89 rfl rfl rfl rfl rfl ?_
    refine t_ld (pc := 90) dX11_restore_90 rfl rfl rfl rfl rfl ?_
    refine t_getR (pc := 91) dX11_restore_91 rfl h0.1 rfl ?_
    refine t_bipush (pc := 94) dX11_restore_94 (by decide) ?_
    refine t_ld (pc := 96) dX11_restore_96 rfl rfl rfl rfl rfl ?_
    refine t_iadd (pc := 97) dX11_restore_97 ?_
    refine t_iaload (pc := 98) dX11_restore_98 h0.2.2.2.1 ?_
    refine t_iastore (pc := 99) dX11_restore_99 h0.2.2.2.1 ?_
    refine t_iinc (pc := 100) [some (.ref 90), some (.int (I (l1 + 1)))] dX11_restore_100 rfl rfl ?_
    refine t_goto (pc := 103) 64 dX11_restore_103 rfl ?_
    exact id
theorem qX11_restore_108 {sc : Nat × (Nat → Int32)} {SH : List mCell} {S : mStore} {r : mR × mW} (h0 : sMod SH) {l1 : Int} : ((if I 3 ≤ I l1 then ((I 1 = I 0 ∨ I 1 = I 1) ∧ r = rI 1 SH S) else ((0 ≤ 3 + l1 ∧ 3 + l1 < 6) ∧ ((0 ≤ l1 ∧ l1 < 6) ∧ G sc MX11_restore 108 [some (.ref 90), some (.int (I (l1 + 1)))] [] SH (up S 94 l1 (S 94 (3 + l1))) r)))) → G sc MX11_restore 108 [some (.ref 90), some (.int (I l1))] [] SH S r := by
  refine t_ld (pc := 108) dX11_restore_108 rfl rfl rfl rfl rfl ?_
  refine t_iconst (pc := 109) dX11_restore_109 ?_
  refine t_ic_ge (pc := 110) 133 dX11_restore_110 rfl ?_ ?_
  · refine t_iconst (pc := 133) dX11_restore_133 ?_
    exact t_zret (pc := 134) dX11_restore_134 rfl
  · refine t_ld (pc := 113) dX11_restore_113 rfl rfl rfl rfl rfl ?_
    refine t_getR (pc := 114) dX11_restore_114 rfl h0.1 rfl ?_
    refine t_ld (pc := 117) dX11_restore_117 rfl rfl rfl rfl rfl ?_
    refine t_ld (pc := 118) dX11_restore_118 rfl rfl rfl rfl rfl ?_
    refine t_getR (pc := 119) dX11_restore_119 rfl h0.1 rfl ?_
    refine t_iconst (pc := 122) dX11_restore_122 ?_
    refine t_ld (pc := 123) dX11_restore_123 rfl rfl rfl rfl rfl ?_
    refine t_iadd (pc := 124) dX11_restore_124 ?_
    refine t_iaload (pc := 125) dX11_restore_125 h0.2.2.2.2.1 ?_
    refine t_iastore (pc := 126) dX11_restore_126 h0.2.2.2.2.1 ?_
    refine t_iinc (pc := 127) [some (.ref 90), some (.int (I (l1 + 1)))] dX11_restore_127 rfl rfl ?_
    refine t_goto (pc := 130) 108 dX11_restore_130 rfl ?_
    exact id
