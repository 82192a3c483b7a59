-- needs: 43.tshape
/-! ===== the program as conditions (gen_vc.py) ===== -/
theorem qX11_cellsOf_0 {sc : Nat × (Nat → Int32)} {SH : List mCell} {S : mStore} {r : mR × mW} (h0 : sMod SH) {l1 : Int} {l2 : Int} {l3 : Int} {u4 : Option Value} : ((if I l2 = I 0 then ((0 ≤ (l1 + 16) + l3 ∧ (l1 + 16) + l3 < 137400) ∧ (if I (S 91 ((l1 + 16) + l3)) = I (-1) then r = rI (-1) SH S else r = rI (352 + (4 * (S 91 ((l1 + 16) + l3)))) SH S)) else (∃ v101 S102, G sc MX11_frameAt 0 [some (.ref 90), some (.int (I l1)), some (.int (I l3)), some (.int (I 0)), none, none, none] [] SH S (rI v101 SH S102) ∧ (if I v101 = I (-1) then r = rI (-1) SH S102 else r = rI (352 + (4 * v101)) SH S102)))) → G sc MX11_cellsOf 0 [some (.ref 90), some (.int (I l1)), some (.int (I l2)), some (.int (I l3)), u4] [] SH S r := by
  refine t_ld (pc := 0) dX11_cellsOf_0 rfl rfl rfl rfl rfl ?_
  refine t_if_eq (pc := 1) 14 dX11_cellsOf_1 rfl ?_ ?_
  · refine t_ld (pc := 14) dX11_cellsOf_14 rfl rfl rfl rfl rfl ?_
    refine t_getR (pc := 15) dX11_cellsOf_15 rfl h0.1 rfl ?_
    refine t_ld (pc := 18) dX11_cellsOf_18 rfl rfl rfl rfl rfl ?_
    refine t_bipush (pc := 19) dX11_cellsOf_19 (by decide) ?_
    refine t_iadd (pc := 21) dX11_cellsOf_21 ?_
    refine t_ld (pc := 22) dX11_cellsOf_22 rfl rfl rfl rfl rfl ?_
    refine t_iadd (pc := 23) dX11_cellsOf_23 ?_
    refine t_iaload (pc := 24) dX11_cellsOf_24 h0.2.1 ?_
    refine t_st (pc := 25) [some (.ref 90), some (.int (I l1)), some (.int (I l2)), some (.int (I l3)), some (.int (I (S 91 ((l1 + 16) + l3))))] dX11_cellsOf_25 rfl rfl rfl rfl rfl rfl ?_
    refine t_ld (pc := 27) dX11_cellsOf_27 rfl rfl rfl rfl rfl ?_
    refine t_iconst (pc := 29) dX11_cellsOf_29 ?_
    refine t_ic_ne (pc := 30) 37 dX11_cellsOf_30 rfl ?_ ?_
    · refine t_sipush (pc := 37) dX11_cellsOf_37 (by decide) ?_
      refine t_iconst (pc := 40) dX11_cellsOf_40 ?_
      refine t_ld (pc := 41) dX11_cellsOf_41 rfl rfl rfl rfl rfl ?_
      refine t_imul (pc := 43) dX11_cellsOf_43 ?_
      refine t_iadd (pc := 44) dX11_cellsOf_44 ?_
      exact t_iret (pc := 45) dX11_cellsOf_45 rfl
    · refine t_iconst (pc := 33) dX11_cellsOf_33 ?_
      refine t_goto (pc := 34) 45 dX11_cellsOf_34 rfl ?_
      exact t_iret (pc := 45) dX11_cellsOf_45 rfl
  · refine t_ld (pc := 4) dX11_cellsOf_4 rfl rfl rfl rfl rfl ?_
    refine t_ld (pc := 5) dX11_cellsOf_5 rfl rfl rfl rfl rfl ?_
    refine t_ld (pc := 6) dX11_cellsOf_6 rfl rfl rfl rfl rfl ?_
    refine t_iconst (pc := 7) dX11_cellsOf_7 ?_
    refine t_vcIN (pc := 8) dX11_cellsOf_8 rfl rfl [] rfl rfl ⟨rfl, by decide, Nat.le_of_ble_eq_true rfl⟩ h0.1 fun v101 S102 => ?_
    refine t_goto (pc := 11) 25 dX11_cellsOf_11 rfl ?_
    refine t_st (pc := 25) [some (.ref 90), some (.int (I l1)), some (.int (I l2)), some (.int (I l3)), some (.int (I v101))] dX11_cellsOf_25 rfl rfl rfl rfl rfl rfl ?_
    refine t_ld (pc := 27) dX11_cellsOf_27 rfl rfl rfl rfl rfl ?_
    refine t_iconst (pc := 29) dX11_cellsOf_29 ?_
    refine t_ic_ne (pc := 30) 37 dX11_cellsOf_30 rfl ?_ ?_
    · refine t_sipush (pc := 37) dX11_cellsOf_37 (by decide) ?_
      refine t_iconst (pc := 40) dX11_cellsOf_40 ?_
      refine t_ld (pc := 41) dX11_cellsOf_41 rfl rfl rfl rfl rfl ?_
      refine t_imul (pc := 43) dX11_cellsOf_43 ?_
      refine t_iadd (pc := 44) dX11_cellsOf_44 ?_
      exact t_iret (pc := 45) dX11_cellsOf_45 rfl
    · refine t_iconst (pc := 33) dX11_cellsOf_33 ?_
      refine t_goto (pc := 34) 45 dX11_cellsOf_34 rfl ?_
      exact t_iret (pc := 45) dX11_cellsOf_45 rfl
theorem qX11_searches_0 {sc : Nat × (Nat → Int32)} {SH : List mCell} {S : mStore} {r : mR × mW} (h0 : sMod SH) {l1 : Int} {l2 : Int} {l3 : Int} {u4 : Option Value} {u5 : Option Value} {u6 : Option Value} {u7 : Option Value} {u8 : Option Value} : (((0 ≤ l2 ∧ l2 < 137400) ∧ ((I 0 = I 0 ∨ I 0 = I 1) ∧ G sc MX11_searches 26 [some (.ref 90), some (.int (I l1)), some (.int (I l2)), some (.int (I l3)), some (.int (I 0)), some (.int (I (S 91 l2))), u6, u7, u8] [] SH (up (up (up S 90 30 (-1)) 90 31 0) 90 29 0) r))) → G sc MX11_searches 0 [some (.ref 90), some (.int (I l1)), some (.int (I l2)), some (.int (I l3)), u4, u5, u6, u7, u8] [] SH S r := by
  refine t_iconst (pc := 0) dX11_searches_0 ?_
  refine t_st (pc := 1) [some (.ref 90), some (.int (I l1)), some (.int (I l2)), some (.int (I l3)), some (.int (I 0)), u5, u6, u7, u8] dX11_searches_1 rfl rfl rfl rfl rfl rfl ?_
  refine t_ld (pc := 3) dX11_searches_3 rfl rfl rfl rfl rfl ?_
  refine t_getR (pc := 4) dX11_searches_4 rfl h0.1 rfl ?_
  refine t_ld (pc := 7) dX11_searches_7 rfl rfl rfl rfl rfl ?_
  refine t_iaload (pc := 8) dX11_searches_8 h0.2.1 ?_
  refine t_st (pc := 9) [some (.ref 90), some (.int (I l1)), some (.int (I l2)), some (.int (I l3)), some (.int (I 0)), some (.int (I (S 91 l2))), u6, u7, u8] dX11_searches_9 rfl rfl rfl rfl rfl rfl ?_
  refine t_ld (pc := 11) dX11_searches_11 rfl rfl rfl rfl rfl ?_
  refine t_iconst (pc := 12) dX11_searches_12 ?_
  refine t_putI (pc := 13) dX11_searches_13 rfl rfl (Or.inl rfl) h0.1 rfl ?_
  refine t_ld (pc := 16) dX11_searches_16 rfl rfl rfl rfl rfl ?_
  refine t_iconst (pc := 17) dX11_searches_17 ?_
  refine t_putZ (pc := 18) dX11_searches_18 rfl rfl (Or.inl rfl) h0.1 rfl ?_
  refine t_ld (pc := 21) dX11_searches_21 rfl rfl rfl rfl rfl ?_
  refine t_iconst (pc := 22) dX11_searches_22 ?_
  refine t_putI (pc := 23) dX11_searches_23 rfl rfl (Or.inl rfl) h0.1 rfl ?_
  exact id
theorem qX11_searches_26 {sc : Nat × (Nat → Int32)} {SH : List mCell} {S : mStore} {r : mR × mW} (h0 : sMod SH) {l1 : Int} {l2 : Int} {l3 : Int} {l4 : Int} {l5 : Int} {u6 : Option Value} {u7 : Option Value} {u8 : Option Value} : ((if I l5 ≤ I l4 then r = rV SH (up S 90 28 l4) else (∃ v101 S102, G sc MX11_top 0 [some (.ref 90), some (.int (I l2)), some (.int (I l4)), some (.int (I l5)), some (.int (I (S 90 29))), none] [] SH S (rI v101 SH S102) ∧ ((0 ≤ (l2 + 1) + v101 ∧ (l2 + 1) + v101 < 137400) ∧ (∃ v103 S104, G sc MX11_cellsOf 0 [some (.ref 90), some (.int (I l1)), some (.int (I l3)), some (.int (I (S102 91 ((l2 + 1) + v101)))), none] [] SH S102 (rI v103 SH S104) ∧ (if I v103 = I (-1) then ((I 1 = I 0 ∨ I 1 = I 1) ∧ (if I ((up S104 90 31 1) 90 31) = I 0 then (∃ v107 S108, G sc MX11_compares 0 [some (.ref 90), some (.int (I l1)), some (.int (I v103)), none, none] [] SH (up S104 90 31 1) (rI v107 SH S108) ∧ (if I v107 = I 0 then r = rV SH (up S108 90 30 v101) else (if I 0 ≤ I v107 then G sc MX11_searches 26 [some (.ref 90), some (.int (I l1)), some (.int (I l2)), some (.int (I l3)), some (.int (I (v101 + 1))), some (.int (I l5)), some (.int (I v101)), some (.int (I v103)), some (.int (I v107))] [] SH (up S108 90 29 ((S108 90 29) + 1)) r else G sc MX11_searches 26 [some (.ref 90), some (.int (I l1)), some (.int (I l2)), some (.int (I l3)), some (.int (I l4)), some (.int (I v101)), some (.int (I v101)), some (.int (I v103)), some (.int (I v107))] [] SH (up S108 90 29 ((S108 90 29) + 1)) r))) else r = rV SH (up S104 90 31 1))) else ((I 0 = I 0 ∨ I 0 = I 1) ∧ (if I ((up S104 90 31 0) 90 31) = I 0 then (∃ v105 S106, G sc MX11_compares 0 [some (.ref 90), some (.int (I l1)), some (.int (I v103)), none, none] [] SH (up S104 90 31 0) (rI v105 SH S106) ∧ (if I v105 = I 0 then r = rV SH (up S106 90 30 v101) else (if I 0 ≤ I v105 then G sc MX11_searches 26 [some (.ref 90), some (.int (I l1)), some (.int (I l2)), some (.int (I l3)), some (.int (I (v101 + 1))), some (.int (I l5)), some (.int (I v101)), some (.int (I v103)), some (.int (I v105))] [] SH (up S106 90 29 ((S106 90 29) + 1)) r else G sc MX11_searches 26 [some (.ref 90), some (.int (I l1)), some (.int (I l2)), some (.int (I l3)), some (.int (I l4)), some (.int (I v101)), some (.int (I v101)), some (.int (I v103)), some (.int (I v105))] [] SH (up S106 90 29 ((S106 90 29) + 1)) r))) else r = rV SH (up S104 90 31 0))))))))) → G sc MX11_searches 26 [some (.ref 90), some (.int (I l1)), some (.int (I l2)), some (.int (I l3)), some (.int (I l4)), some (.int (I l5)), u6, u7, u8] [] SH S r := by
  refine t_ld (pc := 26) dX11_searches_26 rfl rfl rfl rfl rfl ?_
  refine t_ld (pc := 28) dX11_searches_28 rfl rfl rfl rfl rfl ?_
  refine t_ic_ge (pc := 30) 142 dX11_searches_30 rfl ?_ ?_
  · refine t_ld (pc := 142) dX11_searches_142 rfl rfl rfl rfl rfl ?_
    refine t_ld (pc := 143) dX11_searches_143 rfl rfl rfl rfl rfl ?_
    refine t_putI (pc := 145) dX11_searches_145 rfl rfl (Or.inl rfl) h0.1 rfl ?_
    exact t_ret (pc := 148) dX11_searches_148 rfl
  · refine t_ld (pc := 33) dX11_searches_33 rfl rfl rfl rfl rfl ?_
    refine t_ld (pc := 34) dX11_searches_34 rfl rfl rfl rfl rfl ?_
    refine t_ld (pc := 35) dX11_searches_35 rfl rfl rfl rfl rfl ?_
    refine t_ld (pc := 37) dX11_searches_37 rfl rfl rfl rfl rfl ?_
    refine t_ld (pc := 39) dX11_searches_39 rfl rfl rfl rfl rfl ?_
    refine t_getI (pc := 40) dX11_searches_40 rfl h0.1 rfl ?_
    refine t_vcIN (pc := 43) dX11_searches_43 rfl rfl [] rfl rfl ⟨rfl, by decide, Nat.le_of_ble_eq_true rfl⟩ h0.1 fun v101 S102 => ?_
    refine t_st (pc := 46) [some (.ref 90), some (.int (I l1)), some (.int (I l2)), some (.int (I l3)), some (.int (I l4)), some (.int (I l5)), some (.int (I v101)), u7, u8] dX11_searches_46 rfl rfl rfl rfl rfl rfl ?_
    refine t_ld (pc := 48) dX11_searches_48 rfl rfl rfl rfl rfl ?_
    refine t_ld (pc := 49) dX11_searches_49 rfl rfl rfl rfl rfl ?_
    refine t_ld (pc := 50) dX11_searches_50 rfl rfl rfl rfl rfl ?_
    refine t_ld (pc := 51) dX11_searches_51 rfl rfl rfl rfl rfl ?_
    refine t_getR (pc := 52) dX11_searches_52 rfl h0.1 rfl ?_
    refine t_ld (pc := 55) dX11_searches_55 rfl rfl rfl rfl rfl ?_
    refine t_iconst (pc := 56) dX11_searches_56 ?_
    refine t_iadd (pc := 57) dX11_searches_57 ?_
    refine t_ld (pc := 58) dX11_searches_58 rfl rfl rfl rfl rfl ?_
    refine t_iadd (pc := 60) dX11_searches_60 ?_
    refine t_iaload (pc := 61) dX11_searches_61 h0.2.1 ?_
    refine t_vcIN (pc := 62) dX11_searches_62 rfl rfl [] rfl rfl ⟨rfl, by decide, Nat.le_of_ble_eq_true rfl⟩ h0.1 fun v103 S104 => ?_
    refine t_st (pc := 65) [some (.ref 90), some (.int (I l1)), some (.int (I l2)), some (.int (I l3)), some (.int (I l4)), some (.int (I l5)), some (.int (I v101)), some (.int (I v103)), u8] dX11_searches_65 rfl rfl rfl rfl rfl rfl ?_
    refine t_ld (pc := 67) dX11_searches_67 rfl rfl rfl rfl rfl ?_
    refine t_ld (pc := 68) dX11_searches_68 rfl rfl rfl rfl rfl ?_
    refine t_iconst (pc := 70) dX11_searches_70 ?_
    refine t_ic_ne (pc := 71) 78 dX11_searches_71 rfl ?_ ?_
    · refine t_iconst (pc := 78) dX11_searches_78 ?_
      refine t_putZ (pc := 79) dX11_searches_79 rfl rfl (Or.inl rfl) h0.1 rfl ?_
      refine t_ld (pc := 82) dX11_searches_82 rfl rfl rfl rfl rfl ?_
      refine t_getI (pc := 83) dX11_searches_83 rfl h0.1 rfl ?_
      refine t_if_eq (pc := 86) 90 dX11_searches_86 rfl ?_ ?_
      · refine t_ld (pc := 90) dX11_searches_90 rfl rfl rfl rfl rfl ?_
        refine t_ld (pc := 91) dX11_searches_91 rfl rfl rfl rfl rfl ?_
        refine t_ld (pc := 92) dX11_searches_92 rfl rfl rfl rfl rfl ?_
        refine t_vcIN (pc := 94) dX11_searches_94 rfl rfl [] rfl rfl ⟨rfl, by decide, Nat.le_of_ble_eq_true rfl⟩ h0.1 fun v105 S106 => ?_
        refine t_st (pc := 97) [some (.ref 90), some (.int (I l1)), some (.int (I l2)), some (.int (I l3)), some (.int (I l4)), some (.int (I l5)), some (.int (I v101)), some (.int (I v103)), some (.int (I v105))] dX11_searches_97 rfl rfl rfl rfl rfl rfl ?_
        refine t_ld (pc := 99) dX11_searches_99 rfl rfl rfl rfl rfl ?_
        refine t_if_ne (pc := 101) 111 dX11_searches_101 rfl ?_ ?_
        · refine t_ld (pc := 111) dX11_searches_111 rfl rfl rfl rfl rfl ?_
          refine t_if_ge (pc := 113) 123 dX11_searches_113 rfl ?_ ?_
          · refine t_ld (pc := 123) dX11_searches_123 rfl rfl rfl rfl rfl ?_
            refine t_iconst (pc := 125) dX11_searches_125 ?_
            refine t_iadd (pc := 126) dX11_searches_126 ?_
            refine t_st (pc := 127) [some (.ref 90), some (.int (I l1)), some (.int (I l2)), some (.int (I l3)), some (.int (I (v101 + 1))), some (.int (I l5)), some (.int (I v101)), some (.int (I v103)), some (.int (I v105))] dX11_searches_127 rfl rfl rfl rfl rfl rfl ?_
            refine t_ld (pc := 129) dX11_searches_129 rfl rfl rfl rfl rfl ?_
            refine t_dup (pc := 130) dX11_searches_130 rfl ?_
            refine t_getI (pc := 131) dX11_searches_131 rfl h0.1 rfl ?_
            refine t_iconst (pc := 134) dX11_searches_134 ?_
            refine t_iadd (pc := 135) dX11_searches_135 ?_
            refine t_putI (pc := 136) dX11_searches_136 rfl rfl (Or.inl rfl) h0.1 rfl ?_
            refine t_goto (pc := 139) 26 dX11_searches_139 rfl ?_
            exact id
          · refine t_ld (pc := 116) dX11_searches_116 rfl rfl rfl rfl rfl ?_
            refine t_st (pc := 118) [some (.ref 90), some (.int (I l1)), some (.int (I l2)), some (.int (I l3)), some (.int (I l4)), some (.int (I v101)), some (.int (I v101)), some (.int (I v103)), some (.int (I v105))] dX11_searches_118 rfl rfl rfl rfl rfl rfl ?_
            refine t_goto (pc := 120) 129 dX11_searches_120 rfl ?_
            refine t_ld (pc := 129) dX11_searches_129 rfl rfl rfl rfl rfl ?_
            refine t_dup (pc := 130) dX11_searches_130 rfl ?_
            refine t_getI (pc := 131) dX11_searches_131 rfl h0.1 rfl ?_
            refine t_iconst (pc := 134) dX11_searches_134 ?_
            refine t_iadd (pc := 135) dX11_searches_135 ?_
            refine t_putI (pc := 136) dX11_searches_136 rfl rfl (Or.inl rfl) h0.1 rfl ?_
            refine t_goto (pc := 139) 26 dX11_searches_139 rfl ?_
            exact id
        · refine t_ld (pc := 104) dX11_searches_104 rfl rfl rfl rfl rfl ?_
          refine t_ld (pc := 105) dX11_searches_105 rfl rfl rfl rfl rfl ?_
          refine t_putI (pc := 107) dX11_searches_107 rfl rfl (Or.inl rfl) h0.1 rfl ?_
          exact t_ret (pc := 110) dX11_searches_110 rfl
      · exact t_ret (pc := 89) dX11_searches_89 rfl
    · refine t_iconst (pc := 74) dX11_searches_74 ?_
      refine t_goto (pc := 75) 79 dX11_searches_75 rfl ?_
      refine t_putZ (pc := 79) dX11_searches_79 rfl rfl (Or.inl rfl) h0.1 rfl ?_
      refine t_ld (pc := 82) dX11_searches_82 rfl rfl rfl rfl rfl ?_
      refine t_getI (pc := 83) dX11_searches_83 rfl h0.1 rfl ?_
      refine t_if_eq (pc := 86) 90 dX11_searches_86 rfl ?_ ?_
      · refine t_ld (pc := 90) dX11_searches_90 rfl rfl rfl rfl rfl ?_
        refine t_ld (pc := 91) dX11_searches_91 rfl rfl rfl rfl rfl ?_
        refine t_ld (pc := 92) dX11_searches_92 rfl rfl rfl rfl rfl ?_
        refine t_vcIN (pc := 94) dX11_searches_94 rfl rfl [] rfl rfl ⟨rfl, by decide, Nat.le_of_ble_eq_true rfl⟩ h0.1 fun v107 S108 => ?_
        refine t_st (pc := 97) [some (.ref 90), some (.int (I l1)), some (.int (I l2)), some (.int (I l3)), some (.int (I l4)), some (.int (I l5)), some (.int (I v101)), some (.int (I v103)), some (.int (I v107))] dX11_searches_97 rfl rfl rfl rfl rfl rfl ?_
        refine t_ld (pc := 99) dX11_searches_99 rfl rfl rfl rfl rfl ?_
        refine t_if_ne (pc := 101) 111 dX11_searches_101 rfl ?_ ?_
        · refine t_ld (pc := 111) dX11_searches_111 rfl rfl rfl rfl rfl ?_
          refine t_if_ge (pc := 113) 123 dX11_searches_113 rfl ?_ ?_
          · refine t_ld (pc := 123) dX11_searches_123 rfl rfl rfl rfl rfl ?_
            refine t_iconst (pc := 125) dX11_searches_125 ?_
            refine t_iadd (pc := 126) dX11_searches_126 ?_
            refine t_st (pc := 127) [some (.ref 90), some (.int (I l1)), some (.int (I l2)), some (.int (I l3)), some (.int (I (v101 + 1))), some (.int (I l5)), some (.int (I v101)), some (.int (I v103)), some (.int (I v107))] dX11_searches_127 rfl rfl rfl rfl rfl rfl ?_
            refine t_ld (pc := 129) dX11_searches_129 rfl rfl rfl rfl rfl ?_
            refine t_dup (pc := 130) dX11_searches_130 rfl ?_
            refine t_getI (pc := 131) dX11_searches_131 rfl h0.1 rfl ?_
            refine t_iconst (pc := 134) dX11_searches_134 ?_
            refine t_iadd (pc := 135) dX11_searches_135 ?_
            refine t_putI (pc := 136) dX11_searches_136 rfl rfl (Or.inl rfl) h0.1 rfl ?_
            refine t_goto (pc := 139) 26 dX11_searches_139 rfl ?_
            exact id
          · refine t_ld (pc := 116) dX11_searches_116 rfl rfl rfl rfl rfl ?_
            refine t_st (pc := 118) [some (.ref 90), some (.int (I l1)), some (.int (I l2)), some (.int (I l3)), some (.int (I l4)), some (.int (I v101)), some (.int (I v101)), some (.int (I v103)), some (.int (I v107))] dX11_searches_118 rfl rfl rfl rfl rfl rfl ?_
            refine t_goto (pc := 120) 129 dX11_searches_120 rfl ?_
            refine t_ld (pc := 129) dX11_searches_129 rfl rfl rfl rfl rfl ?_
            refine t_dup (pc := 130) dX11_searches_130 rfl ?_
            refine t_getI (pc := 131) dX11_searches_131 rfl h0.1 rfl ?_
            refine t_iconst (pc := 134) dX11_searches_134 ?_
            refine t_iadd (pc := 135) dX11_searches_135 ?_
            refine t_putI (pc := 136) dX11_searches_136 rfl rfl (Or.inl rfl) h0.1 rfl ?_
            refine t_goto (pc := 139) 26 dX11_searches_139 rfl ?_
            exact id
        · refine t_ld (pc := 104) dX11_searches_104 rfl rfl rfl rfl rfl ?_
          refine t_ld (pc := 105) dX11_searches_105 rfl rfl rfl rfl rfl ?_
          refine t_putI (pc := 107) dX11_searches_107 rfl rfl (Or.inl rfl) h0.1 rfl ?_
          exact t_ret (pc := 110) dX11_searches_110 rfl
      · exact t_ret (pc := 89) dX11_searches_89 rfl
theorem qX11_laysCells_0 {sc : Nat × (Nat → Int32)} {SH : List mCell} {S : mStore} {r : mR × mW} (h0 : sMod SH) {l1 : Int} {l2 : Int} {u3 : Option Value} : (G sc MX11_laysCells 2 [some (.ref 90), some (.int (I l1)), some (.int (I l2)), some (.int (I 0))] [] SH S r) → G sc MX11_laysCells 0 [some (.ref 90), some (.int (I l1)), some (.int (I l2)), u3] [] SH S r := by
  refine t_iconst (pc := 0) dX11_laysCells_0 ?_
  refine t_st (pc := 1) [some (.ref 90), some (.int (I l1)), some (.int (I l2)), some (.int (I 0))] dX11_laysCells_1 rfl rfl rfl rfl rfl rfl ?_
  exact id
theorem qX11_laysCells_2 {sc : Nat × (Nat → Int32)} {SH : List mCell} {S : mStore} {r : mR × mW} (h0 : sMod SH) {l1 : Int} {l2 : Int} {l3 : Int} : ((if I 4 ≤ I l3 then r = rV SH S else ((0 ≤ l3 ∧ l3 < 4) ∧ ((0 ≤ ((l1 + 352) + (4 * l2)) + l3 ∧ ((l1 + 352) + (4 * l2)) + l3 < 137400) ∧ G sc MX11_laysCells 2 [some (.ref 90), some (.int (I l1)), some (.int (I l2)), some (.int (I (l3 + 1)))] [] SH (up S 91 (((l1 + 352) + (4 * l2)) + l3) (S 101 l3)) r)))) → G sc MX11_laysCells 2 [some (.ref 90), some (.int (I l1)), some (.int (I l2)), some (.int (I l3))] [] SH S r := by
  refine t_ld (pc := 2) dX11_laysCells_2 rfl rfl rfl rfl rfl ?_
  refine t_iconst (pc := 3) dX11_laysCells_3 ?_
  refine t_ic_ge (pc := 4) 35 dX11_laysCells_4 rfl ?_ ?_
  · exact t_ret (pc := 35) dX11_laysCells_35 rfl
  · refine t_ld (pc := 7) dX11_laysCells_7 rfl rfl rfl rfl rfl ?_
    refine t_getR (pc := 8) dX11_laysCells_8 rfl h0.1 rfl ?_
    refine t_ld (pc := 11) dX11_laysCells_11 rfl rfl rfl rfl rfl ?_
    refine t_sipush (pc := 12) dX11_laysCells_12 (by decide) ?_
    refine t_iadd (pc := 15) dX11_laysCells_15 ?_
    refine t_iconst (pc := 16) dX11_laysCells_16 ?_
    refine t_ld (pc := 17) dX11_laysCells_17 rfl rfl rfl rfl rfl ?_
    refine t_imul (pc := 18) dX11_laysCells_18 ?_
    refine t_iadd (pc := 19) dX11_laysCells_19 ?_
    refine t_ld (pc := 20) dX11_laysCells_20 rfl rfl rfl rfl rfl ?_
    refine t_iadd (pc := 21) dX11_laysCells_21 ?_
    refine t_ld (pc := 22) dX11_laysCells_22 rfl rfl rfl rfl rfl ?_
    refine t_getR (pc := 23) dX11_laysCells_23 rfl h0.1 rfl ?_
    refine t_ld (pc := 26) dX11_laysCells_26 rfl rfl rfl rfl rfl ?_
    refine t_iaload (pc := 27) dX11_laysCells_27 h0.2.2.2.2.2.2.2.2.2.2.2.1 ?_
    refine t_iastore (pc := 28) dX11_laysCells_28 h0.2.1 ?_
    refine t_iinc (pc := 29) [some (.ref 90), some (.int (I l1)), some (.int (I l2)), some (.int (I (l3 + 1)))] dX11_laysCells_29 rfl rfl ?_
    refine t_goto (pc := 32) 2 dX11_laysCells_32 rfl ?_
    exact id
theorem qX11_writes_0 {sc : Nat × (Nat → Int32)} {SH : List mCell} {S : mStore} {r : mR × mW} (h0 : sMod SH) {l1 : Int} {l2 : Int} {u3 : Option Value} {u4 : Option Value} {u5 : Option Value} {u6 : Option Value} : (((0 ≤ (l1 + 16) + l2 ∧ (l1 + 16) + l2 < 137400) ∧ (if I (S 91 ((l1 + 16) + l2)) = I (-1) then (if I (S 91 ((l1 + 16) + l2)) = I (-1) then G sc MX11_writes 95 [some (.ref 90), some (.int (I l1)), some (.int (I l2)), some (.int (I (S 91 ((l1 + 16) + l2)))), some (.int (I 0)), u5, u6] [.int (I 1)] SH S r else (if I 0 = I 0 then ((0 ≤ (l1 + 976) + (S 91 ((l1 + 16) + l2)) ∧ (l1 + 976) + (S 91 ((l1 + 16) + l2)) < 137400) ∧ (if I (S 91 ((l1 + 976) + (S 91 ((l1 + 16) + l2)))) = I (-1) then G sc MX11_writes 95 [some (.ref 90), some (.int (I l1)), some (.int (I l2)), some (.int (I (S 91 ((l1 + 16) + l2)))), some (.int (I 0)), u5, u6] [.int (I 0)] SH S r else G sc MX11_writes 95 [some (.ref 90), some (.int (I l1)), some (.int (I l2)), some (.int (I (S 91 ((l1 + 16) + l2)))), some (.int (I 0)), u5, u6] [.int (I 3)] SH S r)) else G sc MX11_writes 95 [some (.ref 90), some (.int (I l1)), some (.int (I l2)), some (.int (I (S 91 ((l1 + 16) + l2)))), some (.int (I 0)), u5, u6] [.int (I 2)] SH S r)) else ((0 ≤ (l1 + 976) + (S 91 ((l1 + 16) + l2)) ∧ (l1 + 976) + (S 91 ((l1 + 16) + l2)) < 137400) ∧ (if I (S 91 ((l1 + 976) + (S 91 ((l1 + 16) + l2)))) = I (-1) then (if I (S 91 ((l1 + 16) + l2)) = I (-1) then G sc MX11_writes 95 [some (.ref 90), some (.int (I l1)), some (.int (I l2)), some (.int (I (S 91 ((l1 + 16) + l2)))), some (.int (I 0)), u5, u6] [.int (I 1)] SH S r else (if I 0 = I 0 then ((0 ≤ (l1 + 976) + (S 91 ((l1 + 16) + l2)) ∧ (l1 + 976) + (S 91 ((l1 + 16) + l2)) < 137400) ∧ (if I (S 91 ((l1 + 976) + (S 91 ((l1 + 16) + l2)))) = I (-1) then G sc MX11_writes 95 [some (.ref 90), some (.int (I l1)), some (.int (I l2)), some (.int (I (S 91 ((l1 + 16) + l2)))), some (.int (I 0)), u5, u6] [.int (I 0)] SH S r else G sc MX11_writes 95 [some (.ref 90), some (.int (I l1)), some (.int (I l2)), some (.int (I (S 91 ((l1 + 16) + l2)))), some (.int (I 0)), u5, u6] [.int (I 3)] SH S r)) else G sc MX11_writes 95 [some (.ref 90), some (.int (I l1)), some (.int (I l2)), some (.int (I (S 91 ((l1 + 16) + l2)))), some (.int (I 0)), u5, u6] [.int (I 2)] SH S r)) else ((0 ≤ (l1 + 544) + (S 91 ((l1 + 16) + l2)) ∧ (l1 + 544) + (S 91 ((l1 + 16) + l2)) < 137400) ∧ (if I (S 91 ((l1 + 544) + (S 91 ((l1 + 16) + l2)))) ≤ I 1 then (if I (S 91 ((l1 + 16) + l2)) = I (-1) then G sc MX11_writes 95 [some (.ref 90), some (.int (I l1)), some (.int (I l2)), some (.int (I (S 91 ((l1 + 16) + l2)))), some (.int (I 0)), u5, u6] [.int (I 1)] SH S r else (if I 0 = I 0 then ((0 ≤ (l1 + 976) + (S 91 ((l1 + 16) + l2)) ∧ (l1 + 976) + (S 91 ((l1 + 16) + l2)) < 137400) ∧ (if I (S 91 ((l1 + 976) + (S 91 ((l1 + 16) + l2)))) = I (-1) then G sc MX11_writes 95 [some (.ref 90), some (.int (I l1)), some (.int (I l2)), some (.int (I (S 91 ((l1 + 16) + l2)))), some (.int (I 0)), u5, u6] [.int (I 0)] SH S r else G sc MX11_writes 95 [some (.ref 90), some (.int (I l1)), some (.int (I l2)), some (.int (I (S 91 ((l1 + 16) + l2)))), some (.int (I 0)), u5, u6] [.int (I 3)] SH S r)) else G sc MX11_writes 95 [some (.ref 90), some (.int (I l1)), some (.int (I l2)), some (.int (I (S 91 ((l1 + 16) + l2)))), some (.int (I 0)), u5, u6] [.int (I 2)] SH S r)) else (if I (S 91 ((l1 + 16) + l2)) = I (-1) then G sc MX11_writes 95 [some (.ref 90), some (.int (I l1)), some (.int (I l2)), some (.int (I (S 91 ((l1 + 16) + l2)))), some (.int (I 1)), u5, u6] [.int (I 1)] SH S r else (if I 1 = I 0 then ((0 ≤ (l1 + 976) + (S 91 ((l1 + 16) + l2)) ∧ (l1 + 976) + (S 91 ((l1 + 16) + l2)) < 137400) ∧ (if I (S 91 ((l1 + 976) + (S 91 ((l1 + 16) + l2)))) = I (-1) then G sc MX11_writes 95 [some (.ref 90), some (.int (I l1)), some (.int (I l2)), some (.int (I (S 91 ((l1 + 16) + l2)))), some (.int (I 1)), u5, u6] [.int (I 0)] SH S r else G sc MX11_writes 95 [some (.ref 90), some (.int (I l1)), some (.int (I l2)), some (.int (I (S 91 ((l1 + 16) + l2)))), some (.int (I 1)), u5, u6] [.int (I 3)] SH S r)) else G sc MX11_writes 95 [some (.ref 90), some (.int (I l1)), some (.int (I l2)), some (.int (I (S 91 ((l1 + 16) + l2)))), some (.int (I 1)), u5, u6] [.int (I 2)] SH S r))))))))) → G sc MX11_writes 0 [some (.ref 90), some (.int (I l1)), some (.int (I l2)), u3, u4, u5, u6] [] SH S r := by
  refine t_ld (pc := 0) dX11_writes_0 rfl rfl rfl rfl rfl ?_
  refine t_getR (pc := 1) dX11_writes_1 rfl h0.1 rfl ?_
  refine t_ld (pc := 4) dX11_writes_4 rfl rfl rfl rfl rfl ?_
  refine t_bipush (pc := 5) dX11_writes_5 (by decide) ?_
  refine t_iadd (pc := 7) dX11_writes_7 ?_
  refine t_ld (pc := 8) dX11_writes_8 rfl rfl rfl rfl rfl ?_
  refine t_iadd (pc := 9) dX11_writes_9 ?_
  refine t_iaload (pc := 10) dX11_writes_10 h0.2.1 ?_
  refine t_st (pc := 11) [some (.ref 90), some (.int (I l1)), some (.int (I l2)), some (.int (I (S 91 ((l1 + 16) + l2)))), u4, u5, u6] dX11_writes_11 rfl rfl rfl rfl rfl rfl ?_
  refine t_ld (pc := 12) dX11_writes_12 rfl rfl rfl rfl rfl ?_
  refine t_iconst (pc := 13) dX11_writes_13 ?_
  refine t_ic_eq (pc := 14) 53 dX11_writes_14 rfl ?_ ?_
  · refine t_iconst (pc := 53) dX11_writes_53 ?_
    refine t_st (pc := 54) [some (.ref 90), some (.int (I l1)), some (.int (I l2)), some (.int (I (S 91 ((l1 + 16) + l2)))), some (.int (I 0)), u5, u6] dX11_writes_54 rfl rfl rfl rfl rfl rfl ?_
    refine t_ld (pc := 56) dX11_writes_56 rfl rfl rfl rfl rfl ?_
    refine t_iconst (pc := 57) dX11_writes_57 ?_
    refine t_ic_ne (pc := 58) 65 dX11_writes_58 rfl ?_ ?_
    · refine t_ld (pc := 65) dX11_writes_65 rfl rfl rfl rfl rfl ?_
      refine t_if_eq (pc := 67) 74 dX11_writes_67 rfl ?_ ?_
      · refine t_ld (pc := 74) dX11_writes_74 rfl rfl rfl rfl rfl ?_
        refine t_getR (pc := 75) dX11_writes_75 rfl h0.1 rfl ?_
        refine t_ld (pc := 78) dX11_writes_78 rfl rfl rfl rfl rfl ?_
        refine t_sipush (pc := 79) dX11_writes_79 (by decide) ?_
        refine t_iadd (pc := 82) dX11_writes_82 ?_
        refine t_ld (pc := 83) dX11_writes_83 rfl rfl rfl rfl rfl ?_
        refine t_iadd (pc := 84) dX11_writes_84 ?_
        refine t_iaload (pc := 85) dX11_writes_85 h0.2.1 ?_
        refine t_iconst (pc := 86) dX11_writes_86 ?_
        refine t_ic_eq (pc := 87) 94 dX11_writes_87 rfl ?_ ?_
        · refine t_iconst (pc := 94) dX11_writes_94 ?_
          exact id
        · refine t_iconst (pc := 90) dX11_writes_90 ?_
          refine t_goto (pc := 91) 95 dX11_writes_91 rfl ?_
          exact id
      · refine t_iconst (pc := 70) dX11_writes_70 ?_
        refine t_goto (pc := 71) 95 dX11_writes_71 rfl ?_
        exact id
    · refine t_iconst (pc := 61) dX11_writes_61 ?_
      refine t_goto (pc := 62) 95 dX11_writes_62 rfl ?_
      exact id
  · refine t_ld (pc := 17) dX11_writes_17 rfl rfl rfl rfl rfl ?_
    refine t_getR (pc := 18) dX11_writes_18 rfl h0.1 rfl ?_
    refine t_ld (pc := 21) dX11_writes_21 rfl rfl rfl rfl rfl ?_
    refine t_sipush (pc := 22) dX11_writes_22 (by decide) ?_
    refine t_iadd (pc := 25) dX11_writes_25 ?_
    refine t_ld (pc := 26) dX11_writes_26 rfl rfl rfl rfl rfl ?_
    refine t_iadd (pc := 27) dX11_writes_27 ?_
    refine t_iaload (pc := 28) dX11_writes_28 h0.2.1 ?_
    refine t_iconst (pc := 29) dX11_writes_29 ?_
    refine t_ic_eq (pc := 30) 53 dX11_writes_30 rfl ?_ ?_
    · refine t_iconst (pc := 53) dX11_writes_53 ?_
      refine t_st (pc := 54) [some (.ref 90), some (.int (I l1)), some (.int (I l2)), some (.int (I (S 91 ((l1 + 16) + l2)))), some (.int (I 0)), u5, u6] dX11_writes_54 rfl rfl rfl rfl rfl rfl ?_
      refine t_ld (pc := 56) dX11_writes_56 rfl rfl rfl rfl rfl ?_
      refine t_iconst (pc := 57) dX11_writes_57 ?_
      refine t_ic_ne (pc := 58) 65 dX11_writes_58 rfl ?_ ?_
      · refine t_ld (pc := 65) dX11_writes_65 rfl rfl rfl rfl rfl ?_
        refine t_if_eq (pc := 67) 74 dX11_writes_67 rfl ?_ ?_
        · refine t_ld (pc := 74) dX11_writes_74 rfl rfl rfl rfl rfl ?_
          refine t_getR (pc := 75) dX11_writes_75 rfl h0.1 rfl ?_
          refine t_ld (pc := 78) dX11_writes_78 rfl rfl rfl rfl rfl ?_
          refine t_sipush (pc := 79) dX11_writes_79 (by decide) ?_
          refine t_iadd (pc := 82) dX11_writes_82 ?_
          refine t_ld (pc := 83) dX11_writes_83 rfl rfl rfl rfl rfl ?_
          refine t_iadd (pc := 84) dX11_writes_84 ?_
          refine t_iaload (pc := 85) dX11_writes_85 h0.2.1 ?_
          refine t_iconst (pc := 86) dX11_writes_86 ?_
          refine t_ic_eq (pc := 87) 94 dX11_writes_87 rfl ?_ ?_
          · refine t_iconst (pc := 94) dX11_writes_94 ?_
            exact id
          · refine t_iconst (pc := 90) dX11_writes_90 ?_
            refine t_goto (pc := 91) 95 dX11_writes_91 rfl ?_
            exact id
        · refine t_iconst (pc := 70) dX11_writes_70 ?_
          refine t_goto (pc := 71) 95 dX11_writes_71 rfl ?_
          exact id
      · refine t_iconst (pc := 61) dX11_writes_61 ?_
        refine t_goto (pc := 62) 95 dX11_writes_62 rfl ?_
        exact id
    · refine t_ld (pc := 33) dX11_writes_33 rfl rfl rfl rfl rfl ?_
      refine t_getR (pc := 34) dX11_writes_34 rfl h0.1 rfl ?_
      refine t_ld (pc := 37) dX11_writes_37 rfl rfl rfl rfl rfl ?_
      refine t_sipush (pc := 38) dX11_writes_38 (by decide) ?_
      refine t_iadd (pc := 41) dX11_writes_41 ?_
      refine t_ld (pc := 42) dX11_writes_42 rfl rfl rfl rfl rfl ?_
      refine t_iadd (pc := 43) dX11_writes_43 ?_
      refine t_iaload (pc := 44) dX11_writes_44 h0.2.1 ?_
      refine t_iconst (pc := 45) dX11_writes_45 ?_
      refine t_ic_le (pc := 46) 53 dX11_writes_46 rfl ?_ ?_
      · refine t_iconst (pc := 53) dX11_writes_53 ?_
        refine t_st (pc := 54) [some (.ref 90), some (.int (I l1)), some (.int (I l2)), some (.int (I (S 91 ((l1 + 16) + l2)))), some (.int (I 0)), u5, u6] dX11_writes_54 rfl rfl rfl rfl rfl rfl ?_
        refine t_ld (pc := 56) dX11_writes_56 rfl rfl rfl rfl rfl ?_
        refine t_iconst (pc := 57) dX11_writes_57 ?_
        refine t_ic_ne (pc := 58) 65 dX11_writes_58 rfl ?_ ?_
        · refine t_ld (pc := 65) dX11_writes_65 rfl rfl rfl rfl rfl ?_
          refine t_if_eq (pc := 67) 74 dX11_writes_67 rfl ?_ ?_
          · refine t_ld (pc := 74) dX11_writes_74 rfl rfl rfl rfl rfl ?_
            refine t_getR (pc := 75) dX11_writes_75 rfl h0.1 rfl ?_
            refine t_ld (pc := 78) dX11_writes_78 rfl rfl rfl rfl rfl ?_
            refine t_sipush (pc := 79) dX11_writes_79 (by decide) ?_
            refine t_iadd (pc := 82) dX11_writes_82 ?_
            refine t_ld (pc := 83) dX11_writes_83 rfl rfl rfl rfl rfl ?_
            refine t_iadd (pc := 84) dX11_writes_84 ?_
            refine t_iaload (pc := 85) dX11_writes_85 h0.2.1 ?_
            refine t_iconst (pc := 86) dX11_writes_86 ?_
            refine t_ic_eq (pc := 87) 94 dX11_writes_87 rfl ?_ ?_
            · refine t_iconst (pc := 94) dX11_writes_94 ?_
              exact id
            · refine t_iconst (pc := 90) dX11_writes_90 ?_
              refine t_goto (pc := 91) 95 dX11_writes_91 rfl ?_
              exact id
          · refine t_iconst (pc := 70) dX11_writes_70 ?_
            refine t_goto (pc := 71) 95 dX11_writes_71 rfl ?_
            exact id
        · refine t_iconst (pc := 61) dX11_writes_61 ?_
          refine t_goto (pc := 62) 95 dX11_writes_62 rfl ?_
          exact id
      · refine t_iconst (pc := 49) dX11_writes_49 ?_
        refine t_goto (pc := 50) 54 dX11_writes_50 rfl ?_
        refine t_st (pc := 54) [some (.ref 90), some (.int (I l1)), some (.int (I l2)), some (.int (I (S 91 ((l1 + 16) + l2)))), some (.int (I 1)), u5, u6] dX11_writes_54 rfl rfl rfl rfl rfl rfl ?_
        refine t_ld (pc := 56) dX11_writes_56 rfl rfl rfl rfl rfl ?_
        refine t_iconst (pc := 57) dX11_writes_57 ?_
        refine t_ic_ne (pc := 58) 65 dX11_writes_58 rfl ?_ ?_
        · refine t_ld (pc := 65) dX11_writes_65 rfl rfl rfl rfl rfl ?_
          refine t_if_eq (pc := 67) 74 dX11_writes_67 rfl ?_ ?_
          · refine t_ld (pc := 74) dX11_writes_74 rfl rfl rfl rfl rfl ?_
            refine t_getR (pc := 75) dX11_writes_75 rfl h0.1 rfl ?_
            refine t_ld (pc := 78) dX11_writes_78 rfl rfl rfl rfl rfl ?_
            refine t_sipush (pc := 79) dX11_writes_79 (by decide) ?_
            refine t_iadd (pc := 82) dX11_writes_82 ?_
            refine t_ld (pc := 83) dX11_writes_83 rfl rfl rfl rfl rfl ?_
            refine t_iadd (pc := 84) dX11_writes_84 ?_
            refine t_iaload (pc := 85) dX11_writes_85 h0.2.1 ?_
            refine t_iconst (pc := 86) dX11_writes_86 ?_
            refine t_ic_eq (pc := 87) 94 dX11_writes_87 rfl ?_ ?_
            · refine t_iconst (pc := 94) dX11_writes_94 ?_
              exact id
            · refine t_iconst (pc := 90) dX11_writes_90 ?_
              refine t_goto (pc := 91) 95 dX11_writes_91 rfl ?_
              exact id
          · refine t_iconst (pc := 70) dX11_writes_70 ?_
            refine t_goto (pc := 71) 95 dX11_writes_71 rfl ?_
            exact id
        · refine t_iconst (pc := 61) dX11_writes_61 ?_
          refine t_goto (pc := 62) 95 dX11_writes_62 rfl ?_
          exact id
theorem qX11_writes_95 {sc : Nat × (Nat → Int32)} {SH : List mCell} {S : mStore} {r : mR × mW} (h0 : sMod SH) {l1 : Int} {l2 : Int} {l3 : Int} {l4 : Int} {u5 : Option Value} {u6 : Option Value} {s0 : Int} : ((if I l3 = I (-1) then G sc MX11_writes 107 [some (.ref 90), some (.int (I l1)), some (.int (I l2)), some (.int (I l3)), some (.int (I l4)), some (.int (I s0)), u6] [] SH S r else (if I l4 = I 0 then G sc MX11_writes 154 [some (.ref 90), some (.int (I l1)), some (.int (I l2)), some (.int (I l3)), some (.int (I l4)), some (.int (I s0)), u6] [] SH S r else G sc MX11_writes 107 [some (.ref 90), some (.int (I l1)), some (.int (I l2)), some (.int (I l3)), some (.int (I l4)), some (.int (I s0)), u6] [] SH S r))) → G sc MX11_writes 95 [some (.ref 90), some (.int (I l1)), some (.int (I l2)), some (.int (I l3)), some (.int (I l4)), u5, u6] [.int (I s0)] SH S r := by
  refine t_st (pc := 95) [some (.ref 90), some (.int (I l1)), some (.int (I l2)), some (.int (I l3)), some (.int (I l4)), some (.int (I s0)), u6] dX11_writes_95 rfl rfl rfl rfl rfl rfl ?_
  refine t_ld (pc := 97) dX11_writes_97 rfl rfl rfl rfl rfl ?_
  refine t_iconst (pc := 98) dX11_writes_98 ?_
  refine t_ic_eq (pc := 99) 107 dX11_writes_99 rfl ?_ ?_
  · exact id
  · refine t_ld (pc := 102) dX11_writes_102 rfl rfl rfl rfl rfl ?_
    refine t_if_eq (pc := 104) 154 dX11_writes_104 rfl ?_ ?_
    · exact id
    · exact id
theorem qX11_writes_107 {sc : Nat × (Nat → Int32)} {SH : List mCell} {S : mStore} {r : mR × mW} (h0 : sMod SH) {l1 : Int} {l2 : Int} {l3 : Int} {l4 : Int} {l5 : Int} {u6 : Option Value} : ((∃ v101 S102, G sc MX11_free 0 [some (.ref 90), some (.int (I l1)), none] [] SH S (rI v101 SH S102) ∧ (if I v101 = I (-1) then r = rI (-1) SH S102 else (if I l4 = I 0 then G sc MX11_writes 146 [some (.ref 90), some (.int (I l1)), some (.int (I l2)), some (.int (I l3)), some (.int (I l4)), some (.int (I l5)), some (.int (I v101))] [] SH S102 r else ((0 ≤ l1 + 8 ∧ l1 + 8 < 137400) ∧ ((0 ≤ l1 + 8 ∧ l1 + 8 < 137400) ∧ (∃ S103, G sc MX11_leavesFrame 0 [some (.ref 90), some (.int (I l1)), some (.int (I l2)), none, none, none, none] [] SH (up S102 91 (l1 + 8) ((S102 91 (l1 + 8)) + 1)) (rV SH S103) ∧ G sc MX11_writes 146 [some (.ref 90), some (.int (I l1)), some (.int (I l2)), some (.int (I l3)), some (.int (I l4)), some (.int (I l5)), some (.int (I v101))] [] SH S103 r))))))) → G sc MX11_writes 107 [some (.ref 90), some (.int (I l1)), some (.int (I l2)), some (.int (I l3)), some (.int (I l4)), some (.int (I l5)), u6] [] SH S r := by
  refine t_ld (pc := 107) dX11_writes_107 rfl rfl rfl rfl rfl ?_
  refine t_ld (pc := 108) dX11_writes_108 rfl rfl rfl rfl rfl ?_
  refine t_vcIN (pc := 109) dX11_writes_109 rfl rfl [] rfl rfl ⟨rfl, by decide, Nat.le_of_ble_eq_true rfl⟩ h0.1 fun v101 S102 => ?_
  refine t_st (pc := 112) [some (.ref 90), some (.int (I l1)), some (.int (I l2)), some (.int (I l3)), some (.int (I l4)), some (.int (I l5)), some (.int (I v101))] dX11_writes_112 rfl rfl rfl rfl rfl rfl ?_
  refine t_ld (pc := 114) dX11_writes_114 rfl rfl rfl rfl rfl ?_
  refine t_iconst (pc := 116) dX11_writes_116 ?_
  refine t_ic_ne (pc := 117) 122 dX11_writes_117 rfl ?_ ?_
  · refine t_ld (pc := 122) dX11_writes_122 rfl rfl rfl rfl rfl ?_
    refine t_if_eq (pc := 124) 146 dX11_writes_124 rfl ?_ ?_
    · exact id
    · refine t_ld (pc := 127) dX11_writes_127 rfl rfl rfl rfl rfl ?_
      refine t_getR (pc := 128) dX11_writes_128 rfl h0.1 rfl ?_
      refine t_ld (pc := 131) dX11_writes_131 rfl rfl rfl rfl rfl ?_
      refine t_bipush (pc := 132) dX11_writes_132 (by decide) ?_
      refine t_iadd (pc := 134) dX11_writes_134 ?_
      refine t_dup2 (pc := 135) dX11_writes_135 rfl rfl ?_
      refine t_iaload (pc := 136) dX11_writes_136 h0.2.1 ?_
      refine t_iconst (pc := 137) dX11_writes_137 ?_
      refine t_iadd (pc := 138) dX11_writes_138 ?_
      refine t_iastore (pc := 139) dX11_writes_139 h0.2.1 ?_
      refine t_ld (pc := 140) dX11_writes_140 rfl rfl rfl rfl rfl ?_
      refine t_ld (pc := 141) dX11_writes_141 rfl rfl rfl rfl rfl ?_
      refine t_ld (pc := 142) dX11_writes_142 rfl rfl rfl rfl rfl ?_
      refine t_vcVN (pc := 143) dX11_writes_143 rfl rfl [] rfl rfl ⟨rfl, by decide, Nat.le_of_ble_eq_true rfl⟩ h0.1 fun S103 => ?_
      exact id
  · refine t_iconst (pc := 120) dX11_writes_120 ?_
    exact t_iret (pc := 121) dX11_writes_121 rfl
theorem qX11_writes_146 {sc : Nat × (Nat → Int32)} {SH : List mCell} {S : mStore} {r : mR × mW} (h0 : sMod SH) {l1 : Int} {l2 : Int} {l3 : Int} {l4 : Int} {l5 : Int} {l6 : Int} : ((∃ S101, G sc MX11_liesIn 0 [some (.ref 90), some (.int (I l1)), some (.int (I l2)), some (.int (I l6))] [] SH S (rV SH S101) ∧ G sc MX11_writes 154 [some (.ref 90), some (.int (I l1)), some (.int (I l2)), some (.int (I l3)), some (.int (I l4)), some (.int (I l5)), some (.int (I l6))] [] SH S101 r)) → G sc MX11_writes 146 [some (.ref 90), some (.int (I l1)), some (.int (I l2)), some (.int (I l3)), some (.int (I l4)), some (.int (I l5)), some (.int (I l6))] [] SH S r := by
  refine t_ld (pc := 146) dX11_writes_146 rfl rfl rfl rfl rfl ?_
  refine t_ld (pc := 147) dX11_writes_147 rfl rfl rfl rfl rfl ?_
  refine t_ld (pc := 148) dX11_writes_148 rfl rfl rfl rfl rfl ?_
  refine t_ld (pc := 149) dX11_writes_149 rfl rfl rfl rfl rfl ?_
  refine t_vcVN (pc := 151) dX11_writes_151 rfl rfl [] rfl rfl ⟨rfl, by decide, Nat.le_of_ble_eq_true rfl⟩ h0.1 fun S101 => ?_
  exact id
theorem qX11_writes_154 {sc : Nat × (Nat → Int32)} {SH : List mCell} {S : mStore} {r : mR × mW} (h0 : sMod SH) {l1 : Int} {l2 : Int} {l3 : Int} {l4 : Int} {l5 : Int} {u6 : Option Value} : ((if I l5 = I 3 then (∃ S101, G sc MX11_leavesKnot 0 [some (.ref 90), some (.int (I l1)), some (.int (I l3)), none, none, none, none] [] SH S (rV SH S101) ∧ G sc MX11_writes 166 [some (.ref 90), some (.int (I l1)), some (.int (I l2)), some (.int (I l3)), some (.int (I l4)), some (.int (I l5)), u6] [] SH S101 r) else G sc MX11_writes 166 [some (.ref 90), some (.int (I l1)), some (.int (I l2)), some (.int (I l3)), some (.int (I l4)), some (.int (I l5)), u6] [] SH S r)) → G sc MX11_writes 154 [some (.ref 90), some (.int (I l1)), some (.int (I l2)), some (.int (I l3)), some (.int (I l4)), some (.int (I l5)), u6] [] SH S r := by
  refine t_ld (pc := 154) dX11_writes_154 rfl rfl rfl rfl rfl ?_
  refine t_iconst (pc := 156) dX11_writes_156 ?_
  refine t_ic_ne (pc := 157) 166 dX11_writes_157 rfl ?_ ?_
  · exact id
  · refine t_ld (pc := 160) dX11_writes_160 rfl rfl rfl rfl rfl ?_
    refine t_ld (pc := 161) dX11_writes_161 rfl rfl rfl rfl rfl ?_
    refine t_ld (pc := 162) dX11_writes_162 rfl rfl rfl rfl rfl ?_
    refine t_vcVN (pc := 163) dX11_writes_163 rfl rfl [] rfl rfl ⟨rfl, by decide, Nat.le_of_ble_eq_true rfl⟩ h0.1 fun S101 => ?_
    exact id
theorem qX11_writes_166 {sc : Nat × (Nat → Int32)} {SH : List mCell} {S : mStore} {r : mR × mW} (h0 : sMod SH) {l1 : Int} {l2 : Int} {l3 : Int} {l4 : Int} {l5 : Int} {u6 : Option Value} : (((0 ≤ (l1 + 16) + l2 ∧ (l1 + 16) + l2 < 137400) ∧ (∃ S101, G sc MX11_laysCells 0 [some (.ref 90), some (.int (I l1)), some (.int (I (S 91 ((l1 + 16) + l2)))), none] [] SH S (rV SH S101) ∧ r = rI l5 SH S101))) → G sc MX11_writes 166 [some (.ref 90), some (.int (I l1)), some (.int (I l2)), some (.int (I l3)), some (.int (I l4)), some (.int (I l5)), u6] [] SH S r := by
  refine t_ld (pc := 166) dX11_writes_166 rfl rfl rfl rfl rfl ?_
  refine t_ld (pc := 167) dX11_writes_167 rfl rfl rfl rfl rfl ?_
  refine t_ld (pc := 168) dX11_writes_168 rfl rfl rfl rfl rfl ?_
  refine t_getR (pc := 169) dX11_writes_169 rfl h0.1 rfl ?_
  refine t_ld (pc := 172) dX11_writes_172 rfl rfl rfl rfl rfl ?_
  refine t_bipush (pc := 173) dX11_writes_173 (by decide) ?_
  refine t_iadd (pc := 175) dX11_writes_175 ?_
  refine t_ld (pc := 176) dX11_writes_176 rfl rfl rfl rfl rfl ?_
  refine t_iadd (pc := 177) dX11_writes_177 ?_
  refine t_iaload (pc := 178) dX11_writes_178 h0.2.1 ?_
  refine t_vcVN (pc := 179) dX11_writes_179 rfl rfl [] rfl rfl ⟨rfl, by decide, Nat.le_of_ble_eq_true rfl⟩ h0.1 fun S101 => ?_
  refine t_ld (pc := 182) dX11_writes_182 rfl rfl rfl rfl rfl ?_
  exact t_iret (pc := 184) dX11_writes_184 rfl
theorem qX11_saysAs_0 {sc : Nat × (Nat → Int32)} {SH : List mCell} {S : mStore} {r : mR × mW} (h0 : sMod SH) {l1 : Int} {l2 : Int} {u3 : Option Value} : (G sc MX11_saysAs 2 [some (.ref 90), some (.int (I l1)), some (.int (I l2)), some (.int (I 0))] [] SH S r) → G sc MX11_saysAs 0 [some (.ref 90), some (.int (I l1)), some (.int (I l2)), u3] [] SH S r := by
  refine t_iconst (pc := 0) dX11_saysAs_0 ?_
  refine t_st (pc := 1) [some (.ref 90), some (.int (I l1)), some (.int (I l2)), some (.int (I 0))] dX11_saysAs_1 rfl rfl rfl rfl rfl rfl ?_
  exact id
theorem qX11_saysAs_2 {sc : Nat × (Nat → Int32)} {SH : List mCell} {S : mStore} {r : mR × mW} (h0 : sMod SH) {l1 : Int} {l2 : Int} {l3 : Int} : ((if I 4 ≤ I l3 then r = rV SH S else (∃ v101 S102, G sc MX11_cellOf 0 [some (.ref 90), some (.int (I l1)), some (.int (I l2)), some (.int (I l3)), none] [] SH S (rI v101 SH S102) ∧ ((0 ≤ l3 ∧ l3 < 4) ∧ G sc MX11_saysAs 2 [some (.ref 90), some (.int (I l1)), some (.int (I l2)), some (.int (I (l3 + 1)))] [] SH (up S102 101 l3 v101) r)))) → G sc MX11_saysAs 2 [some (.ref 90), some (.int (I l1)), some (.int (I l2)), some (.int (I l3))] [] SH S r := by
  refine t_ld (pc := 2) dX11_saysAs_2 rfl rfl rfl rfl rfl ?_
  refine t_iconst (pc := 3) dX11_saysAs_3 ?_
  refine t_ic_ge (pc := 4) 26 dX11_saysAs_4 rfl ?_ ?_
  · exact t_ret (pc := 26) dX11_saysAs_26 rfl
  · refine t_ld (pc := 7) dX11_saysAs_7 rfl rfl rfl rfl rfl ?_
    refine t_getR (pc := 8) dX11_saysAs_8 rfl h0.1 rfl ?_
    refine t_ld (pc := 11) dX11_saysAs_11 rfl rfl rfl rfl rfl ?_
    refine t_ld (pc := 12) dX11_saysAs_12 rfl rfl rfl rfl rfl ?_
    refine t_ld (pc := 13) dX11_saysAs_13 rfl rfl rfl rfl rfl ?_
    refine t_ld (pc := 14) dX11_saysAs_14 rfl rfl rfl rfl rfl ?_
    refine t_ld (pc := 15) dX11_saysAs_15 rfl rfl rfl rfl rfl ?_
    refine t_vcIN (pc := 16) dX11_saysAs_16 rfl rfl [.int (I l3), .ref 101] rfl rfl ⟨rfl, by decide, Nat.le_of_ble_eq_true rfl⟩ h0.1 fun v101 S102 => ?_
    refine t_iastore (pc := 19) dX11_saysAs_19 h0.2.2.2.2.2.2.2.2.2.2.2.1 ?_
    refine t_iinc (pc := 20) [some (.ref 90), some (.int (I l1)), some (.int (I l2)), some (.int (I (l3 + 1)))] dX11_saysAs_20 rfl rfl ?_
    refine t_goto (pc := 23) 2 dX11_saysAs_23 rfl ?_
    exact id
theorem qX11_writesCell_0 {sc : Nat × (Nat → Int32)} {SH : List mCell} {S : mStore} {r : mR × mW} (h0 : sMod SH) {l1 : Int} {l2 : Int} {l3 : Int} {l4 : Int} : ((∃ S101, G sc MX11_saysAs 0 [some (.ref 90), some (.int (I l1)), some (.int (I l2)), none] [] SH S (rV SH S101) ∧ ((0 ≤ l3 ∧ l3 < 4) ∧ (∃ v102 S103, G sc MX11_writes 0 [some (.ref 90), some (.int (I l1)), some (.int (I l2)), none, none, none, none] [] SH (up S101 101 l3 l4) (rI v102 SH S103) ∧ r = rI v102 SH S103)))) → G sc MX11_writesCell 0 [some (.ref 90), some (.int (I l1)), some (.int (I l2)), some (.int (I l3)), some (.int (I l4))] [] SH S r := by
  refine t_ld (pc := 0) dX11_writesCell_0 rfl rfl rfl rfl rfl ?_
  refine t_ld (pc := 1) dX11_writesCell_1 rfl rfl rfl rfl rfl ?_
  refine t_ld (pc := 2) dX11_writesCell_2 rfl rfl rfl rfl rfl ?_
  refine t_vcVN (pc := 3) dX11_writesCell_3 rfl rfl [] rfl rfl ⟨rfl, by decide, Nat.le_of_ble_eq_true rfl⟩ h0.1 fun S101 => ?_
  refine t_ld (pc := 6) dX11_writesCell_6 rfl rfl rfl rfl rfl ?_
  refine t_getR (pc := 7) dX11_writesCell_7 rfl h0.1 rfl ?_
  refine t_ld (pc := 10) dX11_writesCell_10 rfl rfl rfl rfl rfl ?_
  refine t_ld (pc := 11) dX11_writesCell_11 rfl rfl rfl rfl rfl ?_
  refine t_iastore (pc := 13) dX11_writesCell_13 h0.2.2.2.2.2.2.2.2.2.2.2.1 ?_
  refine t_ld (pc := 14) dX11_writesCell_14 rfl rfl rfl rfl rfl ?_
  refine t_ld (pc := 15) dX11_writesCell_15 rfl rfl rfl rfl rfl ?_
  refine t_ld (pc := 16) dX11_writesCell_16 rfl rfl rfl rfl rfl ?_
  refine t_vcIN (pc := 17) dX11_writesCell_17 rfl rfl [] rfl rfl ⟨rfl, by decide, Nat.le_of_ble_eq_true rfl⟩ h0.1 fun v102 S103 => ?_
  exact t_iret (pc := 20) dX11_writesCell_20 rfl
theorem qX11_drops_0 {sc : Nat × (Nat → Int32)} {SH : List mCell} {S : mStore} {r : mR × mW} (h0 : sMod SH) {l1 : Int} {l2 : Int} {u3 : Option Value} : (((0 ≤ (l1 + 16) + l2 ∧ (l1 + 16) + l2 < 137400) ∧ (if I (S 91 ((l1 + 16) + l2)) = I (-1) then r = rI (-1) SH S else (∃ S101, G sc MX11_leavesFrame 0 [some (.ref 90), some (.int (I l1)), some (.int (I l2)), none, none, none, none] [] SH S (rV SH S101) ∧ ((0 ≤ (l1 + 544) + (S 91 ((l1 + 16) + l2)) ∧ (l1 + 544) + (S 91 ((l1 + 16) + l2)) < 137400) ∧ (if I (S101 91 ((l1 + 544) + (S 91 ((l1 + 16) + l2)))) = I 0 then r = rI 1 SH S101 else r = rI 0 SH S101)))))) → G sc MX11_drops 0 [some (.ref 90), some (.int (I l1)), some (.int (I l2)), u3] [] SH S r := by
  refine t_ld (pc := 0) dX11_drops_0 rfl rfl rfl rfl rfl ?_
  refine t_getR (pc := 1) dX11_drops_1 rfl h0.1 rfl ?_
  refine t_ld (pc := 4) dX11_drops_4 rfl rfl rfl rfl rfl ?_
  refine t_bipush (pc := 5) dX11_drops_5 (by decide) ?_
  refine t_iadd (pc := 7) dX11_drops_7 ?_
  refine t_ld (pc := 8) dX11_drops_8 rfl rfl rfl rfl rfl ?_
  refine t_iadd (pc := 9) dX11_drops_9 ?_
  refine t_iaload (pc := 10) dX11_drops_10 h0.2.1 ?_
  refine t_st (pc := 11) [some (.ref 90), some (.int (I l1)), some (.int (I l2)), some (.int (I (S 91 ((l1 + 16) + l2))))] dX11_drops_11 rfl rfl rfl rfl rfl rfl ?_
  refine t_ld (pc := 12) dX11_drops_12 rfl rfl rfl rfl rfl ?_
  refine t_iconst (pc := 13) dX11_drops_13 ?_
  refine t_ic_ne (pc := 14) 19 dX11_drops_14 rfl ?_ ?_
  · refine t_ld (pc := 19) dX11_drops_19 rfl rfl rfl rfl rfl ?_
    refine t_ld (pc := 20) dX11_drops_20 rfl rfl rfl rfl rfl ?_
    refine t_ld (pc := 21) dX11_drops_21 rfl rfl rfl rfl rfl ?_
    refine t_vcVN (pc := 22) dX11_drops_22 rfl rfl [] rfl rfl ⟨rfl, by decide, Nat.le_of_ble_eq_true rfl⟩ h0.1 fun S101 => ?_
    refine t_ld (pc := 25) dX11_drops_25 rfl rfl rfl rfl rfl ?_
    refine t_getR (pc := 26) dX11_drops_26 rfl h0.1 rfl ?_
    refine t_ld (pc := 29) dX11_drops_29 rfl rfl rfl rfl rfl ?_
    refine t_sipush (pc := 30) dX11_drops_30 (by decide) ?_
    refine t_iadd (pc := 33) dX11_drops_33 ?_
    refine t_ld (pc := 34) dX11_drops_34 rfl rfl rfl rfl rfl ?_
    refine t_iadd (pc := 35) dX11_drops_35 ?_
    refine t_iaload (pc := 36) dX11_drops_36 h0.2.1 ?_
    refine t_if_ne (pc := 37) 44 dX11_drops_37 rfl ?_ ?_
    · refine t_iconst (pc := 44) dX11_drops_44 ?_
      exact t_iret (pc := 45) dX11_drops_45 rfl
    · refine t_iconst (pc := 40) dX11_drops_40 ?_
      refine t_goto (pc := 41) 45 dX11_drops_41 rfl ?_
      exact t_iret (pc := 45) dX11_drops_45 rfl
  · refine t_iconst (pc := 17) dX11_drops_17 ?_
    exact t_iret (pc := 18) dX11_drops_18 rfl
theorem qX11_waitsNoMore_0 {sc : Nat × (Nat → Int32)} {SH : List mCell} {S : mStore} {r : mR × mW} (h0 : sMod SH) {l1 : Int} {l2 : Int} {u3 : Option Value} {u4 : Option Value} : ((∃ v101 S102, G sc MX11_realm 0 [some (.ref 90), some (.int (I l2))] [] SH S (rI v101 SH S102) ∧ (∃ v103 S104, G sc MX11_placeIn 0 [some (.ref 90), some (.int (I ((l1 + 1363) + (97 * v101)))), some (.int (I l2)), none] [] SH S102 (rI v103 SH S104) ∧ (if I v103 = I (-1) then ((0 ≤ (l1 + 304) + l2 ∧ (l1 + 304) + l2 < 137400) ∧ r = rV SH (up S104 91 ((l1 + 304) + l2) 0)) else (∃ S105, G sc MX11_takesOut 0 [some (.ref 90), some (.int (I ((l1 + 1363) + (97 * v101)))), some (.int (I v103)), none] [] SH S104 (rV SH S105) ∧ ((0 ≤ (l1 + 304) + l2 ∧ (l1 + 304) + l2 < 137400) ∧ r = rV SH (up S105 91 ((l1 + 304) + l2) 0))))))) → G sc MX11_waitsNoMore 0 [some (.ref 90), some (.int (I l1)), some (.int (I l2)), u3, u4] [] SH S r := by
  refine t_ld (pc := 0) dX11_waitsNoMore_0 rfl rfl rfl rfl rfl ?_
  refine t_sipush (pc := 1) dX11_waitsNoMore_1 (by decide) ?_
  refine t_iadd (pc := 4) dX11_waitsNoMore_4 ?_
  refine t_bipush (pc := 5) dX11_waitsNoMore_5 (by decide) ?_
  refine t_ld (pc := 7) dX11_waitsNoMore_7 rfl rfl rfl rfl rfl ?_
  refine t_ld (pc := 8) dX11_waitsNoMore_8 rfl rfl rfl rfl rfl ?_
  refine t_vcIN (pc := 9) dX11_waitsNoMore_9 rfl rfl [.int (I 97), .int (I (l1 + 1363))] rfl rfl ⟨rfl, by decide, Nat.le_of_ble_eq_true rfl⟩ h0.1 fun v101 S102 => ?_
  refine t_imul (pc := 12) dX11_waitsNoMore_12 ?_
  refine t_iadd (pc := 13) dX11_waitsNoMore_13 ?_
  refine t_st (pc := 14) [some (.ref 90), some (.int (I l1)), some (.int (I l2)), some (.int (I ((l1 + 1363) + (97 * v101)))), u4] dX11_waitsNoMore_14 rfl rfl rfl rfl rfl rfl ?_
  refine t_ld (pc := 15) dX11_waitsNoMore_15 rfl rfl rfl rfl rfl ?_
  refine t_ld (pc := 16) dX11_waitsNoMore_16 rfl rfl rfl rfl rfl ?_
  refine t_ld (pc := 17) dX11_waitsNoMore_17 rfl rfl rfl rfl rfl ?_
  refine t_vcIN (pc := 18) dX11_waitsNoMore_18 rfl rfl [] rfl rfl ⟨rfl, by decide, Nat.le_of_ble_eq_true rfl⟩ h0.1 fun v103 S104 => ?_
  refine t_st (pc := 21) [some (.ref 90), some (.int (I l1)), some (.int (I l2)), some (.int (I ((l1 + 1363) + (97 * v101)))), some (.int (I v103))] dX11_waitsNoMore_21 rfl rfl rfl rfl rfl rfl ?_
  refine t_ld (pc := 23) dX11_waitsNoMore_23 rfl rfl rfl rfl rfl ?_
  refine t_iconst (pc := 25) dX11_waitsNoMore_25 ?_
  refine t_ic_eq (pc := 26) 36 dX11_waitsNoMore_26 rfl ?_ ?_
  · refine t_ld (pc := 36) dX11_waitsNoMore_36 rfl rfl rfl rfl rfl ?_
    refine t_getR (pc := 37) dX11_waitsNoMore_37 rfl h0.1 rfl ?_
    refine t_ld (pc := 40) dX11_waitsNoMore_40 rfl rfl rfl rfl rfl ?_
    refine t_sipush (pc := 41) dX11_waitsNoMore_41 (by decide) ?_
    refine t_iadd (pc := 44) dX11_waitsNoMore_44 ?_
    refine t_ld (pc := 45) dX11_waitsNoMore_45 rfl rfl rfl rfl rfl ?_
    refine t_iadd (pc := 46) dX11_waitsNoMore_46 ?_
    refine t_iconst (pc := 47) dX11_waitsNoMore_47 ?_
    refine t_iastore (pc := 48) dX11_waitsNoMore_48 h0.2.1 ?_
    exact t_ret (pc := 49) dX11_waitsNoMore_49 rfl
  · refine t_ld (pc := 29) dX11_waitsNoMore_29 rfl rfl rfl rfl rfl ?_
    refine t_ld (pc := 30) dX11_waitsNoMore_30 rfl rfl rfl rfl rfl ?_
    refine t_ld (pc := 31) dX11_waitsNoMore_31 rfl rfl rfl rfl rfl ?_
    refine t_vcVN (pc := 33) dX11_waitsNoMore_33 rfl rfl [] rfl rfl ⟨rfl, by decide, Nat.le_of_ble_eq_true rfl⟩ h0.1 fun S105 => ?_
    refine t_ld (pc := 36) dX11_waitsNoMore_36 rfl rfl rfl rfl rfl ?_
    refine t_getR (pc := 37) dX11_waitsNoMore_37 rfl h0.1 rfl ?_
    refine t_ld (pc := 40) dX11_waitsNoMore_40 rfl rfl rfl rfl rfl ?_
    refine t_sipush (pc := 41) dX11_waitsNoMore_41 (by decide) ?_
    refine t_iadd (pc := 44) dX11_waitsNoMore_44 ?_
    refine t_ld (pc := 45) dX11_waitsNoMore_45 rfl rfl rfl rfl rfl ?_
    refine t_iadd (pc := 46) dX11_waitsNoMore_46 ?_
    refine t_iconst (pc := 47) dX11_waitsNoMore_47 ?_
    refine t_iastore (pc := 48) dX11_waitsNoMore_48 h0.2.1 ?_
    exact t_ret (pc := 49) dX11_waitsNoMore_49 rfl
theorem qX11_advises_0 {sc : Nat × (Nat → Int32)} {SH : List mCell} {S : mStore} {r : mR × mW} (h0 : sMod SH) {l1 : Int} {l2 : Int} {l3 : Int} {l4 : Int} {u5 : Option Value} {u6 : Option Value} : (G sc MX11_advises 6 [some (.ref 90), some (.int (I l1)), some (.int (I l2)), some (.int (I l3)), some (.int (I l4)), some (.int (I 0)), some (.int (I l2))] [] SH S r) → G sc MX11_advises 0 [some (.ref 90), some (.int (I l1)), some (.int (I l2)), some (.int (I l3)), some (.int (I l4)), u5, u6] [] SH S r := by
  refine t_iconst (pc := 0) dX11_advises_0 ?_
  refine t_st (pc := 1) [some (.ref 90), some (.int (I l1)), some (.int (I l2)), some (.int (I l3)), some (.int (I l4)), some (.int (I 0)), u6] dX11_advises_1 rfl rfl rfl rfl rfl rfl ?_
  refine t_ld (pc := 3) dX11_advises_3 rfl rfl rfl rfl rfl ?_
  refine t_st (pc := 4) [some (.ref 90), some (.int (I l1)), some (.int (I l2)), some (.int (I l3)), some (.int (I l4)), some (.int (I 0)), some (.int (I l2))] dX11_advises_4 rfl rfl rfl rfl rfl rfl ?_
  exact id
theorem qX11_advises_6 {sc : Nat × (Nat → Int32)} {SH : List mCell} {S : mStore} {r : mR × mW} (h0 : sMod SH) {l1 : Int} {l2 : Int} {l3 : Int} {l4 : Int} {l5 : Int} {l6 : Int} : ((if I l3 < I l6 then r = rI l5 SH S else ((0 ≤ (l1 + 64) + l6 ∧ (l1 + 64) + l6 < 137400) ∧ (if I (S 91 ((l1 + 64) + l6)) = I l4 then G sc MX11_advises 114 [some (.ref 90), some (.int (I l1)), some (.int (I l2)), some (.int (I l3)), some (.int (I l4)), some (.int (I l5)), some (.int (I l6))] [] SH S r else (if I l4 = I 0 then (∃ v102 S103, G sc MX11_isMerged 0 [some (.ref 90), some (.int (I l1)), some (.int (I l6))] [] SH S (rI v102 SH S103) ∧ (if I v102 = I 0 then (if I l4 = I 0 then ((0 ≤ (l1 + 304) + l6 ∧ (l1 + 304) + l6 < 137400) ∧ (if I (S103 91 ((l1 + 304) + l6)) = I 1 then (∃ S104, G sc MX11_waitsNoMore 0 [some (.ref 90), some (.int (I l1)), some (.int (I l6)), none, none] [] SH S103 (rV SH S104) ∧ G sc MX11_advises 97 [some (.ref 90), some (.int (I l1)), some (.int (I l2)), some (.int (I l3)), some (.int (I l4)), some (.int (I l5)), some (.int (I l6))] [] SH S104 r) else G sc MX11_advises 97 [some (.ref 90), some (.int (I l1)), some (.int (I l2)), some (.int (I l3)), some (.int (I l4)), some (.int (I l5)), some (.int (I l6))] [] SH S103 r)) else G sc MX11_advises 97 [some (.ref 90), some (.int (I l1)), some (.int (I l2)), some (.int (I l3)), some (.int (I l4)), some (.int (I l5)), some (.int (I l6))] [] SH S103 r) else (∃ S105, G sc MX11_saysAs 0 [some (.ref 90), some (.int (I l1)), some (.int (I l6)), none] [] SH S103 (rV SH S105) ∧ (∃ v106 S107, G sc MX11_writes 0 [some (.ref 90), some (.int (I l1)), some (.int (I l6)), none, none, none, none] [] SH S105 (rI v106 SH S107) ∧ (if I v106 = I (-1) then r = rI l5 SH S107 else (if I l4 = I 0 then ((0 ≤ (l1 + 304) + l6 ∧ (l1 + 304) + l6 < 137400) ∧ (if I (S107 91 ((l1 + 304) + l6)) = I 1 then (∃ S108, G sc MX11_waitsNoMore 0 [some (.ref 90), some (.int (I l1)), some (.int (I l6)), none, none] [] SH S107 (rV SH S108) ∧ G sc MX11_advises 97 [some (.ref 90), some (.int (I l1)), some (.int (I l2)), some (.int (I l3)), some (.int (I l4)), some (.int (I l5)), some (.int (I l6))] [] SH S108 r) else G sc MX11_advises 97 [some (.ref 90), some (.int (I l1)), some (.int (I l2)), some (.int (I l3)), some (.int (I l4)), some (.int (I l5)), some (.int (I l6))] [] SH S107 r)) else G sc MX11_advises 97 [some (.ref 90), some (.int (I l1)), some (.int (I l2)), some (.int (I l3)), some (.int (I l4)), some (.int (I l5)), some (.int (I l6))] [] SH S107 r)))))) else (if I l4 = I 0 then ((0 ≤ (l1 + 304) + l6 ∧ (l1 + 304) + l6 < 137400) ∧ (if I (S 91 ((l1 + 304) + l6)) = I 1 then (∃ S101, G sc MX11_waitsNoMore 0 [some (.ref 90), some (.int (I l1)), some (.int (I l6)), none, none] [] SH S (rV SH S101) ∧ G sc MX11_advises 97 [some (.ref 90), some (.int (I l1)), some (.int (I l2)), some (.int (I l3)), some (.int (I l4)), some (.int (I l5)), some (.int (I l6))] [] SH S101 r) else G sc MX11_advises 97 [some (.ref 90), some (.int (I l1)), some (.int (I l2)), some (.int (I l3)), some (.int (I l4)), some (.int (I l5)), some (.int (I l6))] [] SH S r)) else G sc MX11_advises 97 [some (.ref 90), some (.int (I l1)), some (.int (I l2)), some (.int (I l3)), some (.int (I l4)), some (.int (I l5)), some (.int (I l6))] [] SH S r)))))) → G sc MX11_advises 6 [some (.ref 90), some (.int (I l1)), some (.int (I l2)), some (.int (I l3)), some (.int (I l4)), some (.int (I l5)), some (.int (I l6))] [] SH S r := by
  refine t_ld (pc := 6) dX11_advises_6 rfl rfl rfl rfl rfl ?_
  refine t_ld (pc := 8) dX11_advises_8 rfl rfl rfl rfl rfl ?_
  refine t_ic_gt (pc := 9) 120 dX11_advises_9 rfl ?_ ?_
  · refine t_ld (pc := 120) dX11_advises_120 rfl rfl rfl rfl rfl ?_
    exact t_iret (pc := 122) dX11_advises_122 rfl
  · refine t_ld (pc := 12) dX11_advises_12 rfl rfl rfl rfl rfl ?_
    refine t_getR (pc := 13) dX11_advises_13 rfl h0.1 rfl ?_
    refine t_ld (pc := 16) dX11_advises_16 rfl rfl rfl rfl rfl ?_
    refine t_bipush (pc := 17) dX11_advises_17 (by decide) ?_
    refine t_iadd (pc := 19) dX11_advises_19 ?_
    refine t_ld (pc := 20) dX11_advises_20 rfl rfl rfl rfl rfl ?_
    refine t_iadd (pc := 22) dX11_advises_22 ?_
    refine t_iaload (pc := 23) dX11_advises_23 h0.2.1 ?_
    refine t_ld (pc := 24) dX11_advises_24 rfl rfl rfl rfl rfl ?_
    refine t_ic_ne (pc := 26) 32 dX11_advises_26 rfl ?_ ?_
    · refine t_ld (pc := 32) dX11_advises_32 rfl rfl rfl rfl rfl ?_
      refine t_if_ne (pc := 34) 68 dX11_advises_34 rfl ?_ ?_
      · refine t_ld (pc := 68) dX11_advises_68 rfl rfl rfl rfl rfl ?_
        refine t_if_ne (pc := 70) 97 dX11_advises_70 rfl ?_ ?_
        · exact id
        · refine t_ld (pc := 73) dX11_advises_73 rfl rfl rfl rfl rfl ?_
          refine t_getR (pc := 74) dX11_advises_74 rfl h0.1 rfl ?_
          refine t_ld (pc := 77) dX11_advises_77 rfl rfl rfl rfl rfl ?_
          refine t_sipush (pc := 78) dX11_advises_78 (by decide) ?_
          refine t_iadd (pc := 81) dX11_advises_81 ?_
          refine t_ld (pc := 82) dX11_advises_82 rfl rfl rfl rfl rfl ?_
          refine t_iadd (pc := 84) dX11_advises_84 ?_
          refine t_iaload (pc := 85) dX11_advises_85 h0.2.1 ?_
          refine t_iconst (pc := 86) dX11_advises_86 ?_
          refine t_ic_ne (pc := 87) 97 dX11_advises_87 rfl ?_ ?_
          · exact id
          · refine t_ld (pc := 90) dX11_advises_90 rfl rfl rfl rfl rfl ?_
            refine t_ld (pc := 91) dX11_advises_91 rfl rfl rfl rfl rfl ?_
            refine t_ld (pc := 92) dX11_advises_92 rfl rfl rfl rfl rfl ?_
            refine t_vcVN (pc := 94) dX11_advises_94 rfl rfl [] rfl rfl ⟨rfl, by decide, Nat.le_of_ble_eq_true rfl⟩ h0.1 fun S101 => ?_
            exact id
      · refine t_ld (pc := 37) dX11_advises_37 rfl rfl rfl rfl rfl ?_
        refine t_ld (pc := 38) dX11_advises_38 rfl rfl rfl rfl rfl ?_
        refine t_ld (pc := 39) dX11_advises_39 rfl rfl rfl rfl rfl ?_
        refine t_vcIN (pc := 41) dX11_advises_41 rfl rfl [] rfl rfl ⟨rfl, by decide, Nat.le_of_ble_eq_true rfl⟩ h0.1 fun v102 S103 => ?_
        refine t_if_eq (pc := 44) 68 dX11_advises_44 rfl ?_ ?_
        · refine t_ld (pc := 68) dX11_advises_68 rfl rfl rfl rfl rfl ?_
          refine t_if_ne (pc := 70) 97 dX11_advises_70 rfl ?_ ?_
          · exact id
          · refine t_ld (pc := 73) dX11_advises_73 rfl rfl rfl rfl rfl ?_
            refine t_getR (pc := 74) dX11_advises_74 rfl h0.1 rfl ?_
            refine t_ld (pc := 77) dX11_advises_77 rfl rfl rfl rfl rfl ?_
            refine t_sipush (pc := 78) dX11_advises_78 (by decide) ?_
            refine t_iadd (pc := 81) dX11_advises_81 ?_
            refine t_ld (pc := 82) dX11_advises_82 rfl rfl rfl rfl rfl ?_
            refine t_iadd (pc := 84) dX11_advises_84 ?_
            refine t_iaload (pc := 85) dX11_advises_85 h0.2.1 ?_
            refine t_iconst (pc := 86) dX11_advises_86 ?_
            refine t_ic_ne (pc := 87) 97 dX11_advises_87 rfl ?_ ?_
            · exact id
            · refine t_ld (pc := 90) dX11_advises_90 rfl rfl rfl rfl rfl ?_
              refine t_ld (pc := 91) dX11_advises_91 rfl rfl rfl rfl rfl ?_
              refine t_ld (pc := 92) dX11_advises_92 rfl rfl rfl rfl rfl ?_
              refine t_vcVN (pc := 94) dX11_advises_94 rfl rfl [] rfl rfl ⟨rfl, by decide, Nat.le_of_ble_eq_true rfl⟩ h0.1 fun S104 => ?_
              exact id
        · refine t_ld (pc := 47) dX11_advises_47 rfl rfl rfl rfl rfl ?_
          refine t_ld (pc := 48) dX11_advises_48 rfl rfl rfl rfl rfl ?_
          refine t_ld (pc := 49) dX11_advises_49 rfl rfl rfl rfl rfl ?_
          refine t_vcVN (pc := 51) dX11_advises_51 rfl rfl [] rfl rfl ⟨rfl, by decide, Nat.le_of_ble_eq_true rfl⟩ h0.1 fun S105 => ?_
          refine t_ld (pc := 54) dX11_advises_54 rfl rfl rfl rfl rfl ?_
          refine t_ld (pc := 55) dX11_advises_55 rfl rfl rfl rfl rfl ?_
          refine t_ld (pc := 56) dX11_advises_56 rfl rfl rfl rfl rfl ?_
          refine t_vcIN (pc := 58) dX11_advises_58 rfl rfl [] rfl rfl ⟨rfl, by decide, Nat.le_of_ble_eq_true rfl⟩ h0.1 fun v106 S107 => ?_
          refine t_iconst (pc := 61) dX11_advises_61 ?_
          refine t_ic_ne (pc := 62) 68 dX11_advises_62 rfl ?_ ?_
          · refine t_ld (pc := 68) dX11_advises_68 rfl rfl rfl rfl rfl ?_
            refine t_if_ne (pc := 70) 97 dX11_advises_70 rfl ?_ ?_
            · exact id
            · refine t_ld (pc := 73) dX11_advises_73 rfl rfl rfl rfl rfl ?_
              refine t_getR (pc := 74) dX11_advises_74 rfl h0.1 rfl ?_
              refine t_ld (pc := 77) dX11_advises_77 rfl rfl rfl rfl rfl ?_
              refine t_sipush (pc := 78) dX11_advises_78 (by decide) ?_
              refine t_iadd (pc := 81) dX11_advises_81 ?_
              refine t_ld (pc := 82) dX11_advises_82 rfl rfl rfl rfl rfl ?_
              refine t_iadd (pc := 84) dX11_advises_84 ?_
              refine t_iaload (pc := 85) dX11_advises_85 h0.2.1 ?_
              refine t_iconst (pc := 86) dX11_advises_86 ?_
              refine t_ic_ne (pc := 87) 97 dX11_advises_87 rfl ?_ ?_
              · exact id
              · refine t_ld (pc := 90) dX11_advises_90 rfl rfl rfl rfl rfl ?_
                refine t_ld (pc := 91) dX11_advises_91 rfl rfl rfl rfl rfl ?_
                refine t_ld (pc := 92) dX11_advises_92 rfl rfl rfl rfl rfl ?_
                refine t_vcVN (pc := 94) dX11_advises_94 rfl rfl [] rfl rfl ⟨rfl, by decide, Nat.le_of_ble_eq_true rfl⟩ h0.1 fun S108 => ?_
                exact id
          · refine t_ld (pc := 65) dX11_advises_65 rfl rfl rfl rfl rfl ?_
            exact t_iret (pc := 67) dX11_advises_67 rfl
    · refine t_goto (pc := 29) 114 dX11_advises_29 rfl ?_
      exact id
theorem qX11_advises_97 {sc : Nat × (Nat → Int32)} {SH : List mCell} {S : mStore} {r : mR × mW} (h0 : sMod SH) {l1 : Int} {l2 : Int} {l3 : Int} {l4 : Int} {l5 : Int} {l6 : Int} : (((0 ≤ (l1 + 64) + l6 ∧ (l1 + 64) + l6 < 137400) ∧ G sc MX11_advises 114 [some (.ref 90), some (.int (I l1)), some (.int (I l2)), some (.int (I l3)), some (.int (I l4)), some (.int (I (l5 + 1))), some (.int (I l6))] [] SH (up S 91 ((l1 + 64) + l6) l4) r)) → G sc MX11_advises 97 [some (.ref 90), some (.int (I l1)), some (.int (I l2)), some (.int (I l3)), some (.int (I l4)), some (.int (I l5)), some (.int (I l6))] [] SH S r := by
  refine t_ld (pc := 97) dX11_advises_97 rfl rfl rfl rfl rfl ?_
  refine t_getR (pc := 98) dX11_advises_98 rfl h0.1 rfl ?_
  refine t_ld (pc := 101) dX11_advises_101 rfl rfl rfl rfl rfl ?_
  refine t_bipush (pc := 102) dX11_advises_102 (by decide) ?_
  refine t_iadd (pc := 104) dX11_advises_104 ?_
  refine t_ld (pc := 105) dX11_advises_105 rfl rfl rfl rfl rfl ?_
  refine t_iadd (pc := 107) dX11_advises_107 ?_
  refine t_ld (pc := 108) dX11_advises_108 rfl rfl rfl rfl rfl ?_
  refine t_iastore (pc := 110) dX11_advises_110 h0.2.1 ?_
  refine t_iinc (pc := 111) [some (.ref 90), some (.int (I l1)), some (.int (I l2)), some (.int (I l3)), some (.int (I l4)), some (.int (I (l5 + 1))), some (.int (I l6))] dX11_advises_111 rfl rfl ?_
  exact id
theorem qX11_advises_114 {sc : Nat × (Nat → Int32)} {SH : List mCell} {S : mStore} {r : mR × mW} (h0 : sMod SH) {l1 : Int} {l2 : Int} {l3 : Int} {l4 : Int} {l5 : Int} {l6 : Int} : (G sc MX11_advises 6 [some (.ref 90), some (.int (I l1)), some (.int (I l2)), some (.int (I l3)), some (.int (I l4)), some (.int (I l5)), some (.int (I (l6 + 1)))] [] SH S r) → G sc MX11_advises 114 [some (.ref 90), some (.int (I l1)), some (.int (I l2)), some (.int (I l3)), some (.int (I l4)), some (.int (I l5)), some (.int (I l6))] [] SH S r := by
  refine t_iinc (pc := 114) [some (.ref 90), some (.int (I l1)), some (.int (I l2)), some (.int (I l3)), some (.int (I l4)), some (.int (I l5)), some (.int (I (l6 + 1)))] dX11_advises_114 rfl rfl ?_
  refine t_goto (pc := 117) 6 dX11_advises_117 rfl ?_
  exact id
theorem qX11_nextAdvised_0 {sc : Nat × (Nat → Int32)} {SH : List mCell} {S : mStore} {r : mR × mW} (h0 : sMod SH) {l1 : Int} {l2 : Int} {u3 : Option Value} : (G sc MX11_nextAdvised 2 [some (.ref 90), some (.int (I l1)), some (.int (I l2)), some (.int (I l2))] [] SH S r) → G sc MX11_nextAdvised 0 [some (.ref 90), some (.int (I l1)), some (.int (I l2)), u3] [] SH S r := by
  refine t_ld (pc := 0) dX11_nextAdvised_0 rfl rfl rfl rfl rfl ?_
  refine t_st (pc := 1) [some (.ref 90), some (.int (I l1)), some (.int (I l2)), some (.int (I l2))] dX11_nextAdvised_1 rfl rfl rfl rfl rfl rfl ?_
  exact id
theorem qX11_nextAdvised_2 {sc : Nat × (Nat → Int32)} {SH : List mCell} {S : mStore} {r : mR × mW} (h0 : sMod SH) {l1 : Int} {l2 : Int} {l3 : Int} : ((if I (S 90 19) ≤ I l3 then (if I (S 90 19) ≤ I l3 then r = rI (-1) SH S else r = rI l3 SH S) else ((0 ≤ (l1 + 64) + l3 ∧ (l1 + 64) + l3 < 137400) ∧ (if I (S 91 ((l1 + 64) + l3)) = I 0 then G sc MX11_nextAdvised 2 [some (.ref 90), some (.int (I l1)), some (.int (I l2)), some (.int (I (l3 + 1)))] [] SH S r else (if I (S 90 19) ≤ I l3 then r = rI (-1) SH S else r = rI l3 SH S))))) → G sc MX11_nextAdvised 2 [some (.ref 90), some (.int (I l1)), some (.int (I l2)), some (.int (I l3))] [] SH S r := by
  refine t_ld (pc := 2) dX11_nextAdvised_2 rfl rfl rfl rfl rfl ?_
  refine t_ld (pc := 3) dX11_nextAdvised_3 rfl rfl rfl rfl rfl ?_
  refine t_getI (pc := 4) dX11_nextAdvised_4 rfl h0.1 rfl ?_
  refine t_ic_ge (pc := 7) 30 dX11_nextAdvised_7 rfl ?_ ?_
  · refine t_ld (pc := 30) dX11_nextAdvised_30 rfl rfl rfl rfl rfl ?_
    refine t_ld (pc := 31) dX11_nextAdvised_31 rfl rfl rfl rfl rfl ?_
    refine t_getI (pc := 32) dX11_nextAdvised_32 rfl h0.1 rfl ?_
    refine t_ic_ge (pc := 35) 42 dX11_nextAdvised_35 rfl ?_ ?_
    · refine t_iconst (pc := 42) dX11_nextAdvised_42 ?_
      exact t_iret (pc := 43) dX11_nextAdvised_43 rfl
    · refine t_ld (pc := 38) dX11_nextAdvised_38 rfl rfl rfl rfl rfl ?_
      refine t_goto (pc := 39) 43 dX11_nextAdvised_39 rfl ?_
      exact t_iret (pc := 43) dX11_nextAdvised_43 rfl
  · refine t_ld (pc := 10) dX11_nextAdvised_10 rfl rfl rfl rfl rfl ?_
    refine t_getR (pc := 11) dX11_nextAdvised_11 rfl h0.1 rfl ?_
    refine t_ld (pc := 14) dX11_nextAdvised_14 rfl rfl rfl rfl rfl ?_
    refine t_bipush (pc := 15) dX11_nextAdvised_15 (by decide) ?_
    refine t_iadd (pc := 17) dX11_nextAdvised_17 ?_
    refine t_ld (pc := 18) dX11_nextAdvised_18 rfl rfl rfl rfl rfl ?_
    refine t_iadd (pc := 19) dX11_nextAdvised_19 ?_
    refine t_iaload (pc := 20) dX11_nextAdvised_20 h0.2.1 ?_
    refine t_if_ne (pc := 21) 30 dX11_nextAdvised_21 rfl ?_ ?_
    · refine t_ld (pc := 30) dX11_nextAdvised_30 rfl rfl rfl rfl rfl ?_
      refine t_ld (pc := 31) dX11_nextAdvised_31 rfl rfl rfl rfl rfl ?_
      refine t_getI (pc := 32) dX11_nextAdvised_32 rfl h0.1 rfl ?_
      refine t_ic_ge (pc := 35) 42 dX11_nextAdvised_35 rfl ?_ ?_
      · refine t_iconst (pc := 42) dX11_nextAdvised_42 ?_
        exact t_iret (pc := 43) dX11_nextAdvised_43 rfl
      · refine t_ld (pc := 38) dX11_nextAdvised_38 rfl rfl rfl rfl rfl ?_
        refine t_goto (pc := 39) 43 dX11_nextAdvised_39 rfl ?_
        exact t_iret (pc := 43) dX11_nextAdvised_43 rfl
    · refine t_iinc (pc := 24) [some (.ref 90), some (.int (I l1)), some (.int (I l2)), some (.int (I (l3 + 1)))] dX11_nextAdvised_24 rfl rfl ?_
      refine t_goto (pc := 27) 2 dX11_nextAdvised_27 rfl ?_
      exact id
theorem qX11_endsRound_0 {sc : Nat × (Nat → Int32)} {SH : List mCell} {S : mStore} {r : mR × mW} (h0 : sMod SH) {l1 : Int} {u2 : Option Value} : (G sc MX11_endsRound 2 [some (.ref 90), some (.int (I l1)), some (.int (I 0))] [] SH S r) → G sc MX11_endsRound 0 [some (.ref 90), some (.int (I l1)), u2] [] SH S r := by
  refine t_iconst (pc := 0) dX11_endsRound_0 ?_
  refine t_st (pc := 1) [some (.ref 90), some (.int (I l1)), some (.int (I 0))] dX11_endsRound_1 rfl rfl rfl rfl rfl rfl ?_
  exact id
theorem qX11_endsRound_2 {sc : Nat × (Nat → Int32)} {SH : List mCell} {S : mStore} {r : mR × mW} (h0 : sMod SH) {l1 : Int} {l2 : Int} : ((if I 3 ≤ I l2 then G sc MX11_endsRound 31 [some (.ref 90), some (.int (I l1)), some (.int (I 0))] [] SH S r else ((0 ≤ (l1 + 1363) + (97 * l2) ∧ (l1 + 1363) + (97 * l2) < 137400) ∧ G sc MX11_endsRound 2 [some (.ref 90), some (.int (I l1)), some (.int (I (l2 + 1)))] [] SH (up S 91 ((l1 + 1363) + (97 * l2)) 0) r))) → G sc MX11_endsRound 2 [some (.ref 90), some (.int (I l1)), some (.int (I l2))] [] SH S r := by
  refine t_ld (pc := 2) dX11_endsRound_2 rfl rfl rfl rfl rfl ?_
  refine t_iconst (pc := 3) dX11_endsRound_3 ?_
  refine t_ic_ge (pc := 4) 29 dX11_endsRound_4 rfl ?_ ?_
  · refine t_iconst (pc := 29) dX11_endsRound_29 ?_
    refine t_st (pc := 30) [some (.ref 90), some (.int (I l1)), some (.int (I 0))] dX11_endsRound_30 rfl rfl rfl rfl rfl rfl ?_
    exact id
  · refine t_ld (pc := 7) dX11_endsRound_7 rfl rfl rfl rfl rfl ?_
    refine t_getR (pc := 8) dX11_endsRound_8 rfl h0.1 rfl ?_
    refine t_ld (pc := 11) dX11_endsRound_11 rfl rfl rfl rfl rfl ?_
    refine t_sipush (pc := 12) dX11_endsRound_12 (by decide) ?_
    refine t_iadd (pc := 15) dX11_endsRound_15 ?_
    refine t_bipush (pc := 16) dX11_endsRound_16 (by decide) ?_
    refine t_ld (pc := 18) dX11_endsRound_18 rfl rfl rfl rfl rfl ?_
    refine t_imul (pc := 19) dX11_endsRound_19 ?_
    refine t_iadd (pc := 20) dX11_endsRound_20 ?_
    refine t_iconst (pc := 21) dX11_endsRound_21 ?_
    refine t_iastore (pc := 22) dX11_endsRound_22 h0.2.1 ?_
    refine t_iinc (pc := 23) [some (.ref 90), some (.int (I l1)), some (.int (I (l2 + 1)))] dX11_endsRound_23 rfl rfl ?_
    refine t_goto (pc := 26) 2 dX11_endsRound_26 rfl ?_
    exact id
theorem qX11_endsRound_31 {sc : Nat × (Nat → Int32)} {SH : List mCell} {S : mStore} {r : mR × mW} (h0 : sMod SH) {l1 : Int} {l2 : Int} : ((if I 48 ≤ I l2 then ((0 ≤ l1 + 10 ∧ l1 + 10 < 137400) ∧ ((0 ≤ l1 + 11 ∧ l1 + 11 < 137400) ∧ (if I (4 * (S 91 (l1 + 10))) < I (S 91 (l1 + 11)) then ((0 ≤ l1 + 10 ∧ l1 + 10 < 137400) ∧ (if I (S 91 (l1 + 10)) = I 0 then ((0 ≤ l1 + 0 ∧ l1 + 0 < 137400) ∧ (∃ v101 S102, G sc MX11_greater 0 [some (.int (I (S 90 14))), some (.int (I (idv (S 91 (l1 + 0)) 2)))] [] SH S (rI v101 SH S102) ∧ ((0 ≤ l1 + 0 ∧ l1 + 0 < 137400) ∧ G sc MX11_endsRound 144 [some (.ref 90), some (.int (I l1)), some (.int (I l2))] [] SH (up S102 91 (l1 + 0) v101) r))) else G sc MX11_endsRound 144 [some (.ref 90), some (.int (I l1)), some (.int (I l2))] [] SH S r)) else ((0 ≤ l1 + 0 ∧ l1 + 0 < 137400) ∧ (∃ v103 S104, G sc MX11_lesser 0 [some (.int (I (S 90 15))), some (.int (I (2 * (S 91 (l1 + 0)))))] [] SH S (rI v103 SH S104) ∧ ((0 ≤ l1 + 0 ∧ l1 + 0 < 137400) ∧ G sc MX11_endsRound 144 [some (.ref 90), some (.int (I l1)), some (.int (I l2))] [] SH (up S104 91 (l1 + 0) v103) r)))))) else ((0 ≤ (l1 + 304) + l2 ∧ (l1 + 304) + l2 < 137400) ∧ G sc MX11_endsRound 31 [some (.ref 90), some (.int (I l1)), some (.int (I (l2 + 1)))] [] SH (up S 91 ((l1 + 304) + l2) 0) r))) → G sc MX11_endsRound 31 [some (.ref 90), some (.int (I l1)), some (.int (I l2))] [] SH S r := by
  refine t_ld (pc := 31) dX11_endsRound_31 rfl rfl rfl rfl rfl ?_
  refine t_bipush (pc := 32) dX11_endsRound_32 (by decide) ?_
  refine t_ic_ge (pc := 34) 56 dX11_endsRound_34 rfl ?_ ?_
  · refine t_iconst (pc := 56) dX11_endsRound_56 ?_
    refine t_ld (pc := 57) dX11_endsRound_57 rfl rfl rfl rfl rfl ?_
    refine t_getR (pc := 58) dX11_endsRound_58 rfl h0.1 rfl ?_
    refine t_ld (pc := 61) dX11_endsRound_61 rfl rfl rfl rfl rfl ?_
    refine t_bipush (pc := 62) dX11_endsRound_62 (by decide) ?_
    refine t_iadd (pc := 64) dX11_endsRound_64 ?_
    refine t_iaload (pc := 65) dX11_endsRound_65 h0.2.1 ?_
    refine t_imul (pc := 66) dX11_endsRound_66 ?_
    refine t_ld (pc := 67) dX11_endsRound_67 rfl rfl rfl rfl rfl ?_
    refine t_getR (pc := 68) dX11_endsRound_68 rfl h0.1 rfl ?_
    refine t_ld (pc := 71) dX11_endsRound_71 rfl rfl rfl rfl rfl ?_
    refine t_bipush (pc := 72) dX11_endsRound_72 (by decide) ?_
    refine t_iadd (pc := 74) dX11_endsRound_74 ?_
    refine t_iaload (pc := 75) dX11_endsRound_75 h0.2.1 ?_
    refine t_ic_lt (pc := 76) 107 dX11_endsRound_76 rfl ?_ ?_
    · refine t_ld (pc := 107) dX11_endsRound_107 rfl rfl rfl rfl rfl ?_
      refine t_getR (pc := 108) dX11_endsRound_108 rfl h0.1 rfl ?_
      refine t_ld (pc := 111) dX11_endsRound_111 rfl rfl rfl rfl rfl ?_
      refine t_bipush (pc := 112) dX11_endsRound_112 (by decide) ?_
      refine t_iadd (pc := 114) dX11_endsRound_114 ?_
      refine t_iaload (pc := 115) dX11_endsRound_115 h0.2.1 ?_
      refine t_if_ne (pc := 116) 144 dX11_endsRound_116 rfl ?_ ?_
      · exact id
      · refine t_ld (pc := 119) dX11_endsRound_119 rfl rfl rfl rfl rfl ?_
        refine t_getR (pc := 120) dX11_endsRound_120 rfl h0.1 rfl ?_
        refine t_ld (pc := 123) dX11_endsRound_123 rfl rfl rfl rfl rfl ?_
        refine t_iconst (pc := 124) dX11_endsRound_124 ?_
        refine t_iadd (pc := 125) dX11_endsRound_125 ?_
        refine t_ld (pc := 126) dX11_endsRound_126 rfl rfl rfl rfl rfl ?_
        refine t_getI (pc := 127) dX11_endsRound_127 rfl h0.1 rfl ?_
        refine t_ld (pc := 130) dX11_endsRound_130 rfl rfl rfl rfl rfl ?_
        refine t_getR (pc := 131) dX11_endsRound_131 rfl h0.1 rfl ?_
        refine t_ld (pc := 134) dX11_endsRound_134 rfl rfl rfl rfl rfl ?_
        refine t_iconst (pc := 135) dX11_endsRound_135 ?_
        refine t_iadd (pc := 136) dX11_endsRound_136 ?_
        refine t_iaload (pc := 137) dX11_endsRound_137 h0.2.1 ?_
        refine t_iconst (pc := 138) dX11_endsRound_138 ?_
        refine t_idiv (pc := 139) dX11_endsRound_139 (by decide) ?_
        refine t_scIN (pc := 140) dX11_endsRound_140 rfl [.int (I (l1 + 0)), .ref 91] rfl rfl ⟨rfl, by decide, Nat.le_of_ble_eq_true rfl⟩ fun v101 S102 => ?_
        refine t_iastore (pc := 143) dX11_endsRound_143 h0.2.1 ?_
        exact id
    · refine t_ld (pc := 79) dX11_endsRound_79 rfl rfl rfl rfl rfl ?_
      refine t_getR (pc := 80) dX11_endsRound_80 rfl h0.1 rfl ?_
      refine t_ld (pc := 83) dX11_endsRound_83 rfl rfl rfl rfl rfl ?_
      refine t_iconst (pc := 84) dX11_endsRound_84 ?_
      refine t_iadd (pc := 85) dX11_endsRound_85 ?_
      refine t_ld (pc := 86) dX11_endsRound_86 rfl rfl rfl rfl rfl ?_
      refine t_getI (pc := 87) dX11_endsRound_87 rfl h0.1 rfl ?_
      refine t_iconst (pc := 90) dX11_endsRound_90 ?_
      refine t_ld (pc := 91) dX11_endsRound_91 rfl rfl rfl rfl rfl ?_
      refine t_getR (pc := 92) dX11_endsRound_92 rfl h0.1 rfl ?_
      refine t_ld (pc := 95) dX11_endsRound_95 rfl rfl rfl rfl rfl ?_
      refine t_iconst (pc := 96) dX11_endsRound_96 ?_
      refine t_iadd (pc := 97) dX11_endsRound_97 ?_
      refine t_iaload (pc := 98) dX11_endsRound_98 h0.2.1 ?_
      refine t_imul (pc := 99) dX11_endsRound_99 ?_
      refine t_scIN (pc := 100) dX11_endsRound_100 rfl [.int (I (l1 + 0)), .ref 91] rfl rfl ⟨rfl, by decide, Nat.le_of_ble_eq_true rfl⟩ fun v103 S104 => ?_
      refine t_iastore (pc := 103) dX11_endsRound_103 h0.2.1 ?_
      refine t_goto (pc := 104) 144 dX11_endsRound_104 rfl ?_
      exact id
  · refine t_ld (pc := 37) dX11_endsRound_37 rfl rfl rfl rfl rfl ?_
    refine t_getR (pc := 38) dX11_endsRound_38 rfl h0.1 rfl ?_
    refine t_ld (pc := 41) dX11_endsRound_41 rfl rfl rfl rfl rfl ?_
    refine t_sipush (pc := 42) dX11_endsRound_42 (by decide) ?_
    refine t_iadd (pc := 45) dX11_endsRound_45 ?_
    refine t_ld (pc := 46) dX11_endsRound_46 rfl rfl rfl rfl rfl ?_
    refine t_iadd (pc := 47) dX11_endsRound_47 ?_
    refine t_iconst (pc := 48) dX11_endsRound_48 ?_
    refine t_iastore (pc := 49) dX11_endsRound_49 h0.2.1 ?_
    refine t_iinc (pc := 50) [some (.ref 90), some (.int (I l1)), some (.int (I (l2 + 1)))] dX11_endsRound_50 rfl rfl ?_
    refine t_goto (pc := 53) 31 dX11_endsRound_53 rfl ?_
    exact id
theorem qX11_endsRound_144 {sc : Nat × (Nat → Int32)} {SH : List mCell} {S : mStore} {r : mR × mW} (h0 : sMod SH) {l1 : Int} {l2 : Int} : (((0 ≤ l1 + 1 ∧ l1 + 1 < 137400) ∧ ((0 ≤ l1 + 1 ∧ l1 + 1 < 137400) ∧ ((0 ≤ l1 + 10 ∧ l1 + 10 < 137400) ∧ ((0 ≤ l1 + 11 ∧ l1 + 11 < 137400) ∧ ((0 ≤ l1 + 9 ∧ l1 + 9 < 137400) ∧ r = rV SH (up (up (up (up S 91 (l1 + 1) ((S 91 (l1 + 1)) + 1)) 91 (l1 + 10) 0) 91 (l1 + 11) 0) 91 (l1 + 9) 0))))))) → G sc MX11_endsRound 144 [some (.ref 90), some (.int (I l1)), some (.int (I l2))] [] SH S r := by
  refine t_ld (pc := 144) dX11_endsRound_144 rfl rfl rfl rfl rfl ?_
  refine t_getR (pc := 145) dX11_endsRound_145 rfl h0.1 rfl ?_
  refine t_ld (pc := 148) dX11_endsRound_148 rfl rfl rfl rfl rfl ?_
  refine t_iconst (pc := 149) dX11_endsRound_149 ?_
  refine t_iadd (pc := 150) dX11_endsRound_150 ?_
  refine t_dup2 (pc := 151) dX11_endsRound_151 rfl rfl ?_
  refine t_iaload (pc := 152) dX11_endsRound_152 h0.2.1 ?_
  refine t_iconst (pc := 153) dX11_endsRound_153 ?_
  refine t_iadd (pc := 154) dX11_endsRound_154 ?_
  refine t_iastore (pc := 155) dX11_endsRound_155 h0.2.1 ?_
  refine t_ld (pc := 156) dX11_endsRound_156 rfl rfl rfl rfl rfl ?_
  refine t_getR (pc := 157) dX11_endsRound_157 rfl h0.1 rfl ?_
  refine t_ld (pc := 160) dX11_endsRound_160 rfl rfl rfl rfl rfl ?_
  refine t_bipush (pc := 161) dX11_endsRound_161 (by decide) ?_
  refine t_iadd (pc := 163) dX11_endsRound_163 ?_
  refine t_iconst (pc := 164) dX11_endsRound_164 ?_
  refine t_iastore (pc := 165) dX11_endsRound_165 h0.2.1 ?_
  refine t_ld (pc := 166) dX11_endsRound_166 rfl rfl rfl rfl rfl ?_
  refine t_getR (pc := 167) dX11_endsRound_167 rfl h0.1 rfl ?_
  refine t_ld (pc := 170) dX11_endsRound_170 rfl rfl rfl rfl rfl ?_
  refine t_bipush (pc := 171) dX11_endsRound_171 (by decide) ?_
  refine t_iadd (pc := 173) dX11_endsRound_173 ?_
  refine t_iconst (pc := 174) dX11_endsRound_174 ?_
  refine t_iastore (pc := 175) dX11_endsRound_175 h0.2.1 ?_
  refine t_ld (pc := 176) dX11_endsRound_176 rfl rfl rfl rfl rfl ?_
  refine t_getR (pc := 177) dX11_endsRound_177 rfl h0.1 rfl ?_
  refine t_ld (pc := 180) dX11_endsRound_180 rfl rfl rfl rfl rfl ?_
  refine t_bipush (pc := 181) dX11_endsRound_181 (by decide) ?_
  refine t_iadd (pc := 183) dX11_endsRound_183 ?_
  refine t_iconst (pc := 184) dX11_endsRound_184 ?_
  refine t_iastore (pc := 185) dX11_endsRound_185 h0.2.1 ?_
  exact t_ret (pc := 186) dX11_endsRound_186 rfl
theorem qX11_sumOf_0 {sc : Nat × (Nat → Int32)} {SH : List mCell} {S : mStore} {r : mR × mW} (h0 : sMod SH) {l1 : Int} {l2 : Int} : ((∃ v101 S102, G sc MX11_cellOf 0 [some (.ref 90), some (.int (I l1)), some (.int (I l2)), some (.int (I 0)), none] [] SH S (rI v101 SH S102) ∧ (∃ v103 S104, G sc MX11_cellOf 0 [some (.ref 90), some (.int (I l1)), some (.int (I l2)), some (.int (I 1)), none] [] SH S102 (rI v103 SH S104) ∧ (∃ v105 S106, G sc MX11_cellOf 0 [some (.ref 90), some (.int (I l1)), some (.int (I l2)), some (.int (I 2)), none] [] SH S104 (rI v105 SH S106) ∧ (∃ v107 S108, G sc MX11_cellOf 0 [some (.ref 90), some (.int (I l1)), some (.int (I l2)), some (.int (I 3)), none] [] SH S106 (rI v107 SH S108) ∧ r = rI (((((343 * v101) + (49 * v103)) + (7 * v105)) + v107) - idv ((((343 * v101) + (49 * v103)) + (7 * v105)) + v107) 64 * 64) SH S108))))) → G sc MX11_sumOf 0 [some (.ref 90), some (.int (I l1)), some (.int (I l2))] [] SH S r := by
  refine t_sipush (pc := 0) dX11_sumOf_0 (by decide) ?_
  refine t_ld (pc := 3) dX11_sumOf_3 rfl rfl rfl rfl rfl ?_
  refine t_ld (pc := 4) dX11_sumOf_4 rfl rfl rfl rfl rfl ?_
  refine t_ld (pc := 5) dX11_sumOf_5 rfl rfl rfl rfl rfl ?_
  refine t_iconst (pc := 6) dX11_sumOf_6 ?_
  refine t_vcIN (pc := 7) dX11_sumOf_7 rfl rfl [.int (I 343)] rfl rfl ⟨rfl, by decide, Nat.le_of_ble_eq_true rfl⟩ h0.1 fun v101 S102 => ?_
  refine t_imul (pc := 10) dX11_sumOf_10 ?_
  refine t_bipush (pc := 11) dX11_sumOf_11 (by decide) ?_
  refine t_ld (pc := 13) dX11_sumOf_13 rfl rfl rfl rfl rfl ?_
  refine t_ld (pc := 14) dX11_sumOf_14 rfl rfl rfl rfl rfl ?_
  refine t_ld (pc := 15) dX11_sumOf_15 rfl rfl rfl rfl rfl ?_
  refine t_iconst (pc := 16) dX11_sumOf_16 ?_
  refine t_vcIN (pc := 17) dX11_sumOf_17 rfl rfl [.int (I 49), .int (I (343 * v101))] rfl rfl ⟨rfl, by decide, Nat.le_of_ble_eq_true rfl⟩ h0.1 fun v103 S104 => ?_
  refine t_imul (pc := 20) dX11_sumOf_20 ?_
  refine t_iadd (pc := 21) dX11_sumOf_21 ?_
  refine t_bipush (pc := 22) dX11_sumOf_22 (by decide) ?_
  refine t_ld (pc := 24) dX11_sumOf_24 rfl rfl rfl rfl rfl ?_
  refine t_ld (pc := 25) dX11_sumOf_25 rfl rfl rfl rfl rfl ?_
  refine t_ld (pc := 26) dX11_sumOf_26 rfl rfl rfl rfl rfl ?_
  refine t_iconst (pc := 27) dX11_sumOf_27 ?_
  refine t_vcIN (pc := 28) dX11_sumOf_28 rfl rfl [.int (I 7), .int (I ((343 * v101) + (49 * v103)))] rfl rfl ⟨rfl, by decide, Nat.le_of_ble_eq_true rfl⟩ h0.1 fun v105 S106 => ?_
  refine t_imul (pc := 31) dX11_sumOf_31 ?_
  refine t_iadd (pc := 32) dX11_sumOf_32 ?_
  refine t_ld (pc := 33) dX11_sumOf_33 rfl rfl rfl rfl rfl ?_
  refine t_ld (pc := 34) dX11_sumOf_34 rfl rfl rfl rfl rfl ?_
  refine t_ld (pc := 35) dX11_sumOf_35 rfl rfl rfl rfl rfl ?_
  refine t_iconst (pc := 36) dX11_sumOf_36 ?_
  refine t_vcIN (pc := 37) dX11_sumOf_37 rfl rfl [.int (I (((343 * v101) + (49 * v103)) + (7 * v105)))] rfl rfl ⟨rfl, by decide, Nat.le_of_ble_eq_true rfl⟩ h0.1 fun v107 S108 => ?_
  refine t_iadd (pc := 40) dX11_sumOf_40 ?_
  refine t_bipush (pc := 41) dX11_sumOf_41 (by decide) ?_
  refine t_irem (pc := 43) dX11_sumOf_43 (by decide) ?_
  exact t_iret (pc := 44) dX11_sumOf_44 rfl
theorem qX11_roomIn_0 {sc : Nat × (Nat → Int32)} {SH : List mCell} {S : mStore} {r : mR × mW} (h0 : sMod SH) {l1 : Int} {l2 : Int} {u3 : Option Value} {u4 : Option Value} {u5 : Option Value} {u6 : Option Value} : ((∃ v101 S102, G sc MX11_framesOf 0 [some (.ref 90), some (.int (I l1)), some (.int (I l2)), none, none] [] SH S (rI v101 SH S102) ∧ G sc MX11_roomIn 13 [some (.ref 90), some (.int (I l1)), some (.int (I l2)), some (.int (I (-1))), some (.int (I v101)), some (.int (I 0)), u6] [] SH S102 r)) → G sc MX11_roomIn 0 [some (.ref 90), some (.int (I l1)), some (.int (I l2)), u3, u4, u5, u6] [] SH S r := by
  refine t_iconst (pc := 0) dX11_roomIn_0 ?_
  refine t_st (pc := 1) [some (.ref 90), some (.int (I l1)), some (.int (I l2)), some (.int (I (-1))), u4, u5, u6] dX11_roomIn_1 rfl rfl rfl rfl rfl rfl ?_
  refine t_ld (pc := 2) dX11_roomIn_2 rfl rfl rfl rfl rfl ?_
  refine t_ld (pc := 3) dX11_roomIn_3 rfl rfl rfl rfl rfl ?_
  refine t_ld (pc := 4) dX11_roomIn_4 rfl rfl rfl rfl rfl ?_
  refine t_vcIN (pc := 5) dX11_roomIn_5 rfl rfl [] rfl rfl ⟨rfl, by decide, Nat.le_of_ble_eq_true rfl⟩ h0.1 fun v101 S102 => ?_
  refine t_st (pc := 8) [some (.ref 90), some (.int (I l1)), some (.int (I l2)), some (.int (I (-1))), some (.int (I v101)), u5, u6] dX11_roomIn_8 rfl rfl rfl rfl rfl rfl ?_
  refine t_iconst (pc := 10) dX11_roomIn_10 ?_
  refine t_st (pc := 11) [some (.ref 90), some (.int (I l1)), some (.int (I l2)), some (.int (I (-1))), some (.int (I v101)), some (.int (I 0)), u6] dX11_roomIn_11 rfl rfl rfl rfl rfl rfl ?_
  exact id
theorem qX11_roomIn_13 {sc : Nat × (Nat → Int32)} {SH : List mCell} {S : mStore} {r : mR × mW} (h0 : sMod SH) {l1 : Int} {l2 : Int} {l3 : Int} {l4 : Int} {l5 : Int} {u6 : Option Value} : ((if I l4 ≤ I l5 then r = rI l3 SH S else (∃ v101 S102, G sc MX11_frameAt 0 [some (.ref 90), some (.int (I l1)), some (.int (I l2)), some (.int (I l5)), none, none, none] [] SH S (rI v101 SH S102) ∧ ((0 ≤ (l1 + 544) + v101 ∧ (l1 + 544) + v101 < 137400) ∧ (if I (S102 90 13) ≤ I (S102 91 ((l1 + 544) + v101)) then G sc MX11_roomIn 13 [some (.ref 90), some (.int (I l1)), some (.int (I l2)), some (.int (I l3)), some (.int (I l4)), some (.int (I (l5 + 1))), some (.int (I v101))] [] SH S102 r else (if I l3 = I (-1) then G sc MX11_roomIn 13 [some (.ref 90), some (.int (I l1)), some (.int (I l2)), some (.int (I v101)), some (.int (I l4)), some (.int (I (l5 + 1))), some (.int (I v101))] [] SH S102 r else ((0 ≤ (l1 + 544) + v101 ∧ (l1 + 544) + v101 < 137400) ∧ ((0 ≤ (l1 + 544) + l3 ∧ (l1 + 544) + l3 < 137400) ∧ (if I (S102 91 ((l1 + 544) + v101)) ≤ I (S102 91 ((l1 + 544) + l3)) then G sc MX11_roomIn 13 [some (.ref 90), some (.int (I l1)), some (.int (I l2)), some (.int (I l3)), some (.int (I l4)), some (.int (I (l5 + 1))), some (.int (I v101))] [] SH S102 r else G sc MX11_roomIn 13 [some (.ref 90), some (.int (I l1)), some (.int (I l2)), some (.int (I v101)), some (.int (I l4)), some (.int (I (l5 + 1))), some (.int (I v101))] [] SH S102 r))))))))) → G sc MX11_roomIn 13 [some (.ref 90), some (.int (I l1)), some (.int (I l2)), some (.int (I l3)), some (.int (I l4)), some (.int (I l5)), u6] [] SH S r := by
  refine t_ld (pc := 13) dX11_roomIn_13 rfl rfl rfl rfl rfl ?_
  refine t_ld (pc := 15) dX11_roomIn_15 rfl rfl rfl rfl rfl ?_
  refine t_ic_ge (pc := 17) 92 dX11_roomIn_17 rfl ?_ ?_
  · refine t_ld (pc := 92) dX11_roomIn_92 rfl rfl rfl rfl rfl ?_
    exact t_iret (pc := 93) dX11_roomIn_93 rfl
  · refine t_ld (pc := 20) dX11_roomIn_20 rfl rfl rfl rfl rfl ?_
    refine t_ld (pc := 21) dX11_roomIn_21 rfl rfl rfl rfl rfl ?_
    refine t_ld (pc := 22) dX11_roomIn_22 rfl rfl rfl rfl rfl ?_
    refine t_ld (pc := 23) dX11_roomIn_23 rfl rfl rfl rfl rfl ?_
    refine t_vcIN (pc := 25) dX11_roomIn_25 rfl rfl [] rfl rfl ⟨rfl, by decide, Nat.le_of_ble_eq_true rfl⟩ h0.1 fun v101 S102 => ?_
    refine t_st (pc := 28) [some (.ref 90), some (.int (I l1)), some (.int (I l2)), some (.int (I l3)), some (.int (I l4)), some (.int (I l5)), some (.int (I v101))] dX11_roomIn_28 rfl rfl rfl rfl rfl rfl ?_
    refine t_ld (pc := 30) dX11_roomIn_30 rfl rfl rfl rfl rfl ?_
    refine t_getR (pc := 31) dX11_roomIn_31 rfl h0.1 rfl ?_
    refine t_ld (pc := 34) dX11_roomIn_34 rfl rfl rfl rfl rfl ?_
    refine t_sipush (pc := 35) dX11_roomIn_35 (by decide) ?_
    refine t_iadd (pc := 38) dX11_roomIn_38 ?_
    refine t_ld (pc := 39) dX11_roomIn_39 rfl rfl rfl rfl rfl ?_
    refine t_iadd (pc := 41) dX11_roomIn_41 ?_
    refine t_iaload (pc := 42) dX11_roomIn_42 h0.2.1 ?_
    refine t_ld (pc := 43) dX11_roomIn_43 rfl rfl rfl rfl rfl ?_
    refine t_getI (pc := 44) dX11_roomIn_44 rfl h0.1 rfl ?_
    refine t_ic_ge (pc := 47) 86 dX11_roomIn_47 rfl ?_ ?_
    · refine t_iinc (pc := 86) [some (.ref 90), some (.int (I l1)), some (.int (I l2)), some (.int (I l3)), some (.int (I l4)), some (.int (I (l5 + 1))), some (.int (I v101))] dX11_roomIn_86 rfl rfl ?_
      refine t_goto (pc := 89) 13 dX11_roomIn_89 rfl ?_
      exact id
    · refine t_ld (pc := 50) dX11_roomIn_50 rfl rfl rfl rfl rfl ?_
      refine t_iconst (pc := 51) dX11_roomIn_51 ?_
      refine t_ic_eq (pc := 52) 83 dX11_roomIn_52 rfl ?_ ?_
      · refine t_ld (pc := 83) dX11_roomIn_83 rfl rfl rfl rfl rfl ?_
        refine t_st (pc := 85) [some (.ref 90), some (.int (I l1)), some (.int (I l2)), some (.int (I v101)), some (.int (I l4)), some (.int (I l5)), some (.int (I v101))] dX11_roomIn_85 rfl rfl rfl rfl rfl rfl ?_
        refine t_iinc (pc := 86) [some (.ref 90), some (.int (I l1)), some (.int (I l2)), some (.int (I v101)), some (.int (I l4)), some (.int (I (l5 + 1))), some (.int (I v101))] dX11_roomIn_86 rfl rfl ?_
        refine t_goto (pc := 89) 13 dX11_roomIn_89 rfl ?_
        exact id
      · refine t_ld (pc := 55) dX11_roomIn_55 rfl rfl rfl rfl rfl ?_
        refine t_getR (pc := 56) dX11_roomIn_56 rfl h0.1 rfl ?_
        refine t_ld (pc := 59) dX11_roomIn_59 rfl rfl rfl rfl rfl ?_
        refine t_sipush (pc := 60) dX11_roomIn_60 (by decide) ?_
        refine t_iadd (pc := 63) dX11_roomIn_63 ?_
        refine t_ld (pc := 64) dX11_roomIn_64 rfl rfl rfl rfl rfl ?_
        refine t_iadd (pc := 66) dX11_roomIn_66 ?_
        refine t_iaload (pc := 67) dX11_roomIn_67 h0.2.1 ?_
        refine t_ld (pc := 68) dX11_roomIn_68 rfl rfl rfl rfl rfl ?_
        refine t_getR (pc := 69) dX11_roomIn_69 rfl h0.1 rfl ?_
        refine t_ld (pc := 72) dX11_roomIn_72 rfl rfl rfl rfl rfl ?_
        refine t_sipush (pc := 73) dX11_roomIn_73 (by decide) ?_
        refine t_iadd (pc := 76) dX11_roomIn_76 ?_
        refine t_ld (pc := 77) dX11_roomIn_77 rfl rfl rfl rfl rfl ?_
        refine t_iadd (pc := 78) dX11_roomIn_78 ?_
        refine t_iaload (pc := 79) dX11_roomIn_79 h0.2.1 ?_
        refine t_ic_le (pc := 80) 86 dX11_roomIn_80 rfl ?_ ?_
        · refine t_iinc (pc := 86) [some (.ref 90), some (.int (I l1)), some (.int (I l2)), some (.int (I l3)), some (.int (I l4)), some (.int (I (l5 + 1))), some (.int (I v101))] dX11_roomIn_86 rfl rfl ?_
          refine t_goto (pc := 89) 13 dX11_roomIn_89 rfl ?_
          exact id
        · refine t_ld (pc := 83) dX11_roomIn_83 rfl rfl rfl rfl rfl ?_
          refine t_st (pc := 85) [some (.ref 90), some (.int (I l1)), some (.int (I l2)), some (.int (I v101)), some (.int (I l4)), some (.int (I l5)), some (.int (I v101))] dX11_roomIn_85 rfl rfl rfl rfl rfl rfl ?_
          refine t_iinc (pc := 86) [some (.ref 90), some (.int (I l1)), some (.int (I l2)), some (.int (I v101)), some (.int (I l4)), some (.int (I (l5 + 1))), some (.int (I v101))] dX11_roomIn_86 rfl rfl ?_
          refine t_goto (pc := 89) 13 dX11_roomIn_89 rfl ?_
          exact id
theorem qX11_movesTo_0 {sc : Nat × (Nat → Int32)} {SH : List mCell} {S : mStore} {r : mR × mW} (h0 : sMod SH) {l1 : Int} {l2 : Int} {l3 : Int} : ((∃ S101, G sc MX11_leavesFrame 0 [some (.ref 90), some (.int (I l1)), some (.int (I l2)), none, none, none, none] [] SH S (rV SH S101) ∧ (∃ S102, G sc MX11_liesIn 0 [some (.ref 90), some (.int (I l1)), some (.int (I l2)), some (.int (I l3))] [] SH S101 (rV SH S102) ∧ r = rV SH S102))) → G sc MX11_movesTo 0 [some (.ref 90), some (.int (I l1)), some (.int (I l2)), some (.int (I l3))] [] SH S r := by
  refine t_ld (pc := 0) dX11_movesTo_0 rfl rfl rfl rfl rfl ?_
  refine t_ld (pc := 1) dX11_movesTo_1 rfl rfl rfl rfl rfl ?_
  refine t_ld (pc := 2) dX11_movesTo_2 rfl rfl rfl rfl rfl ?_
  refine t_vcVN (pc := 3) dX11_movesTo_3 rfl rfl [] rfl rfl ⟨rfl, by decide, Nat.le_of_ble_eq_true rfl⟩ h0.1 fun S101 => ?_
  refine t_ld (pc := 6) dX11_movesTo_6 rfl rfl rfl rfl rfl ?_
  refine t_ld (pc := 7) dX11_movesTo_7 rfl rfl rfl rfl rfl ?_
  refine t_ld (pc := 8) dX11_movesTo_8 rfl rfl rfl rfl rfl ?_
  refine t_ld (pc := 9) dX11_movesTo_9 rfl rfl rfl rfl rfl ?_
  refine t_vcVN (pc := 10) dX11_movesTo_10 rfl rfl [] rfl rfl ⟨rfl, by decide, Nat.le_of_ble_eq_true rfl⟩ h0.1 fun S102 => ?_
  exact t_ret (pc := 13) dX11_movesTo_13 rfl
theorem qX11_isZero_0 {sc : Nat × (Nat → Int32)} {SH : List mCell} {S : mStore} {r : mR × mW} (h0 : sMod SH) {l1 : Int} {l2 : Int} : ((∃ v101 S102, G sc MX11_cellOf 0 [some (.ref 90), some (.int (I l1)), some (.int (I l2)), some (.int (I 0)), none] [] SH S (rI v101 SH S102) ∧ (∃ v103 S104, G sc MX11_cellOf 0 [some (.ref 90), some (.int (I l1)), some (.int (I l2)), some (.int (I 1)), none] [] SH S102 (rI v103 SH S104) ∧ (∃ v105 S106, G sc MX11_cellOf 0 [some (.ref 90), some (.int (I l1)), some (.int (I l2)), some (.int (I 2)), none] [] SH S104 (rI v105 SH S106) ∧ (∃ v107 S108, G sc MX11_cellOf 0 [some (.ref 90), some (.int (I l1)), some (.int (I l2)), some (.int (I 3)), none] [] SH S106 (rI v107 SH S108) ∧ (if I (((v101 + v103) + v105) + v107) = I 0 then ((I 1 = I 0 ∨ I 1 = I 1) ∧ r = rI 1 SH S108) else ((I 0 = I 0 ∨ I 0 = I 1) ∧ r = rI 0 SH S108))))))) → G sc MX11_isZero 0 [some (.ref 90), some (.int (I l1)), some (.int (I l2))] [] SH S r := by
  refine t_ld (pc := 0) dX11_isZero_0 rfl rfl rfl rfl rfl ?_
  refine t_ld (pc := 1) dX11_isZero_1 rfl rfl rfl rfl rfl ?_
  refine t_ld (pc := 2) dX11_isZero_2 rfl rfl rfl rfl rfl ?_
  refine t_iconst (pc := 3) dX11_isZero_3 ?_
  refine t_vcIN (pc := 4) dX11_isZero_4 rfl rfl [] rfl rfl ⟨rfl, by decide, Nat.le_of_ble_eq_true rfl⟩ h0.1 fun v101 S102 => ?_
  refine t_ld (pc := 7) dX11_isZero_7 rfl rfl rfl rfl rfl ?_
  refine t_ld (pc := 8) dX11_isZero_8 rfl rfl rfl rfl rfl ?_
  refine t_ld (pc := 9) dX11_isZero_9 rfl rfl rfl rfl rfl ?_
  refine t_iconst (pc := 10) dX11_isZero_10 ?_
  refine t_vcIN (pc := 11) dX11_isZero_11 rfl rfl [.int (I v101)] rfl rfl ⟨rfl, by decide, Nat.le_of_ble_eq_true rfl⟩ h0.1 fun v103 S104 => ?_
  refine t_iadd (pc := 14) dX11_isZero_14 ?_
  refine t_ld (pc := 15) dX11_isZero_15 rfl rfl rfl rfl rfl ?_
  refine t_ld (pc := 16) dX11_isZero_16 rfl rfl rfl rfl rfl ?_
  refine t_ld (pc := 17) dX11_isZero_17 rfl rfl rfl rfl rfl ?_
  refine t_iconst (pc := 18) dX11_isZero_18 ?_
  refine t_vcIN (pc := 19) dX11_isZero_19 rfl rfl [.int (I (v101 + v103))] rfl rfl ⟨rfl, by decide, Nat.le_of_ble_eq_true rfl⟩ h0.1 fun v105 S106 => ?_
  refine t_iadd (pc := 22) dX11_isZero_22 ?_
  refine t_ld (pc := 23) dX11_isZero_23 rfl rfl rfl rfl rfl ?_
  refine t_ld (pc := 24) dX11_isZero_24 rfl rfl rfl rfl rfl ?_
  refine t_ld (pc := 25) dX11_isZero_25 rfl rfl rfl rfl rfl ?_
  refine t_iconst (pc := 26) dX11_isZero_26 ?_
  refine t_vcIN (pc := 27) dX11_isZero_27 rfl rfl [.int (I ((v101 + v103) + v105))] rfl rfl ⟨rfl, by decide, Nat.le_of_ble_eq_true rfl⟩ h0.1 fun v107 S108 => ?_
  refine t_iadd (pc := 30) dX11_isZero_30 ?_
  refine t_if_ne (pc := 31) 38 dX11_isZero_31 rfl ?_ ?_
  · refine t_iconst (pc := 38) dX11_isZero_38 ?_
    exact t_zret (pc := 39) dX11_isZero_39 rfl
  · refine t_iconst (pc := 34) dX11_isZero_34 ?_
    refine t_goto (pc := 35) 39 dX11_isZero_35 rfl ?_
    exact t_zret (pc := 39) dX11_isZero_39 rfl
