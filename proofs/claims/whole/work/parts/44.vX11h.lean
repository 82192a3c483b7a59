-- needs: 43.tshape
/-! ===== the program as conditions (gen_vc.py) ===== -/
theorem qX11_toRate_0 {sc : Nat × (Nat → Int32)} {SH : List mCell} {S : mStore} {r : mR × mW} (h0 : sMod SH) {l1 : Int} {l2 : Int} {u3 : Option Value} {u4 : Option Value} {u5 : Option Value} {u6 : Option Value} {u7 : Option Value} : ((∃ v101 S102, G sc MX11_within 0 [some (.int (I l2)), some (.int (I 0)), some (.int (I 1))] [] SH (up S 90 4 0) (rI v101 SH S102) ∧ (∃ v103 S104, G sc MX11_right 0 [some (.ref 90), some (.int (I v101)), some (.int (I 1))] [] SH S102 (rI v103 SH S104) ∧ (if I v103 = I 0 then r = rI 0 SH S104 else (∃ v105 S106, G sc MX11_within 0 [some (.int (I l1)), some (.int (I 1)), some (.int (I 20))] [] SH S104 (rI v105 SH S106) ∧ (∃ v107 S108, G sc MX11_right 0 [some (.ref 90), some (.int (I v105)), some (.int (I 2))] [] SH S106 (rI v107 SH S108) ∧ (if I v107 = I 0 then r = rI 0 SH S108 else G sc MX11_toRate 50 [some (.ref 90), some (.int (I l1)), some (.int (I l2)), some (.int (I (-1))), some (.int (I 0)), some (.int (I 0)), some (.int (I (S108 90 14))), u7] [] SH S108 r))))))) → G sc MX11_toRate 0 [some (.ref 90), some (.int (I l1)), some (.int (I l2)), u3, u4, u5, u6, u7] [] SH S r := by
  refine t_ld (pc := 0) dX11_toRate_0 rfl rfl rfl rfl rfl ?_
  refine t_iconst (pc := 1) dX11_toRate_1 ?_
  refine t_putI (pc := 2) dX11_toRate_2 rfl rfl (Or.inl rfl) h0.1 rfl ?_
  refine t_ld (pc := 5) dX11_toRate_5 rfl rfl rfl rfl rfl ?_
  refine t_ld (pc := 6) dX11_toRate_6 rfl rfl rfl rfl rfl ?_
  refine t_iconst (pc := 7) dX11_toRate_7 ?_
  refine t_iconst (pc := 8) dX11_toRate_8 ?_
  refine t_scIN (pc := 9) dX11_toRate_9 rfl [.ref 90] rfl rfl ⟨rfl, by decide, Nat.le_of_ble_eq_true rfl⟩ fun v101 S102 => ?_
  refine t_iconst (pc := 12) dX11_toRate_12 ?_
  refine t_vcIN (pc := 13) dX11_toRate_13 rfl rfl [] rfl rfl ⟨rfl, by decide, Nat.le_of_ble_eq_true rfl⟩ h0.1 fun v103 S104 => ?_
  refine t_if_eq (pc := 16) 34 dX11_toRate_16 rfl ?_ ?_
  · refine t_iconst (pc := 34) dX11_toRate_34 ?_
    exact t_iret (pc := 35) dX11_toRate_35 rfl
  · refine t_ld (pc := 19) dX11_toRate_19 rfl rfl rfl rfl rfl ?_
    refine t_ld (pc := 20) dX11_toRate_20 rfl rfl rfl rfl rfl ?_
    refine t_iconst (pc := 21) dX11_toRate_21 ?_
    refine t_bipush (pc := 22) dX11_toRate_22 (by decide) ?_
    refine t_scIN (pc := 24) dX11_toRate_24 rfl [.ref 90] rfl rfl ⟨rfl, by decide, Nat.le_of_ble_eq_true rfl⟩ fun v105 S106 => ?_
    refine t_iconst (pc := 27) dX11_toRate_27 ?_
    refine t_vcIN (pc := 28) dX11_toRate_28 rfl rfl [] rfl rfl ⟨rfl, by decide, Nat.le_of_ble_eq_true rfl⟩ h0.1 fun v107 S108 => ?_
    refine t_if_ne (pc := 31) 36 dX11_toRate_31 rfl ?_ ?_
    · refine t_iconst (pc := 36) dX11_toRate_36 ?_
      refine t_st (pc := 37) [some (.ref 90), some (.int (I l1)), some (.int (I l2)), some (.int (I (-1))), u4, u5, u6, u7] dX11_toRate_37 rfl rfl rfl rfl rfl rfl ?_
      refine t_iconst (pc := 38) dX11_toRate_38 ?_
      refine t_st (pc := 39) [some (.ref 90), some (.int (I l1)), some (.int (I l2)), some (.int (I (-1))), some (.int (I 0)), u5, u6, u7] dX11_toRate_39 rfl rfl rfl rfl rfl rfl ?_
      refine t_iconst (pc := 41) dX11_toRate_41 ?_
      refine t_st (pc := 42) [some (.ref 90), some (.int (I l1)), some (.int (I l2)), some (.int (I (-1))), some (.int (I 0)), some (.int (I 0)), u6, u7] dX11_toRate_42 rfl rfl rfl rfl rfl rfl ?_
      refine t_ld (pc := 44) dX11_toRate_44 rfl rfl rfl rfl rfl ?_
      refine t_getI (pc := 45) dX11_toRate_45 rfl h0.1 rfl ?_
      refine t_st (pc := 48) [some (.ref 90), some (.int (I l1)), some (.int (I l2)), some (.int (I (-1))), some (.int (I 0)), some (.int (I 0)), some (.int (I (S108 90 14))), u7] dX11_toRate_48 rfl rfl rfl rfl rfl rfl ?_
      exact id
    · refine t_iconst (pc := 34) dX11_toRate_34 ?_
      exact t_iret (pc := 35) dX11_toRate_35 rfl
theorem qX11_toRate_50 {sc : Nat × (Nat → Int32)} {SH : List mCell} {S : mStore} {r : mR × mW} (h0 : sMod SH) {l1 : Int} {l2 : Int} {l3 : Int} {l4 : Int} {l5 : Int} {l6 : Int} {u7 : Option Value} : ((if I (S 90 15) < I l6 then (if I l2 = I 0 then r = rI l3 SH S else r = rI l4 SH S) else (∃ S101, G sc MX11_tries 0 [some (.ref 90)] [] SH S (rV SH S101) ∧ ((0 ≤ 1654 ∧ 1654 < 137400) ∧ (∃ v102 S103, G sc MX11_ticksOf 0 [some (.ref 90), some (.int (I 1654)), some (.int (I l1)), none, none] [] SH (up S101 91 1654 l6) (rI v102 SH S103) ∧ (∃ v104 S105, G sc MX11_usedOf 0 [some (.ref 90), some (.int (I 1654)), none, none] [] SH S103 (rI v104 SH S105) ∧ (if I l3 = I (-1) then ((0 ≤ 1657 ∧ 1657 < 137400) ∧ G sc MX11_toRate 50 [some (.ref 90), some (.int (I l1)), some (.int (I l2)), some (.int (I l6)), some (.int (I v104)), some (.int (I (S105 91 1657))), some (.int (I (l6 + 1))), some (.int (I v104))] [] SH S105 r) else (if I l4 < I v104 then G sc MX11_toRate 50 [some (.ref 90), some (.int (I l1)), some (.int (I l2)), some (.int (I l3)), some (.int (I l4)), some (.int (I l5)), some (.int (I (l6 + 1))), some (.int (I v104))] [] SH S105 r else (if I v104 = I l4 then ((0 ≤ 1657 ∧ 1657 < 137400) ∧ (if I (S105 91 1657) < I l5 then ((0 ≤ 1657 ∧ 1657 < 137400) ∧ G sc MX11_toRate 50 [some (.ref 90), some (.int (I l1)), some (.int (I l2)), some (.int (I l6)), some (.int (I v104)), some (.int (I (S105 91 1657))), some (.int (I (l6 + 1))), some (.int (I v104))] [] SH S105 r) else G sc MX11_toRate 50 [some (.ref 90), some (.int (I l1)), some (.int (I l2)), some (.int (I l3)), some (.int (I l4)), some (.int (I l5)), some (.int (I (l6 + 1))), some (.int (I v104))] [] SH S105 r)) else ((0 ≤ 1657 ∧ 1657 < 137400) ∧ G sc MX11_toRate 50 [some (.ref 90), some (.int (I l1)), some (.int (I l2)), some (.int (I l6)), some (.int (I v104)), some (.int (I (S105 91 1657))), some (.int (I (l6 + 1))), some (.int (I v104))] [] SH S105 r)))))))))) → G sc MX11_toRate 50 [some (.ref 90), some (.int (I l1)), some (.int (I l2)), some (.int (I l3)), some (.int (I l4)), some (.int (I l5)), some (.int (I l6)), u7] [] SH S r := by
  refine t_ld (pc := 50) dX11_toRate_50 rfl rfl rfl rfl rfl ?_
  refine t_ld (pc := 52) dX11_toRate_52 rfl rfl rfl rfl rfl ?_
  refine t_getI (pc := 53) dX11_toRate_53 rfl h0.1 rfl ?_
  refine t_ic_gt (pc := 56) 149 dX11_toRate_56 rfl ?_ ?_
  · refine t_ld (pc := 149) dX11_toRate_149 rfl rfl rfl rfl rfl ?_
    refine t_if_ne (pc := 150) 157 dX11_toRate_150 rfl ?_ ?_
    · refine t_ld (pc := 157) dX11_toRate_157 rfl rfl rfl rfl rfl ?_
      exact t_iret (pc := 159) dX11_toRate_159 rfl
    · refine t_ld (pc := 153) dX11_toRate_153 rfl rfl rfl rfl rfl ?_
      refine t_goto (pc := 154) 159 dX11_toRate_154 rfl ?_
      exact t_iret (pc := 159) dX11_toRate_159 rfl
  · refine t_ld (pc := 59) dX11_toRate_59 rfl rfl rfl rfl rfl ?_
    refine t_vcVN (pc := 60) dX11_toRate_60 rfl rfl [] rfl rfl ⟨rfl, by decide, Nat.le_of_ble_eq_true rfl⟩ h0.1 fun S101 => ?_
    refine t_ld (pc := 63) dX11_toRate_63 rfl rfl rfl rfl rfl ?_
    refine t_getR (pc := 64) dX11_toRate_64 rfl h0.1 rfl ?_
    refine t_sipush (pc := 67) dX11_toRate_67 (by decide) ?_
    refine t_ld (pc := 70) dX11_toRate_70 rfl rfl rfl rfl rfl ?_
    refine t_iastore (pc := 72) dX11_toRate_72 h0.2.1 ?_
    refine t_ld (pc := 73) dX11_toRate_73 rfl rfl rfl rfl rfl ?_
    refine t_sipush (pc := 74) dX11_toRate_74 (by decide) ?_
    refine t_ld (pc := 77) dX11_toRate_77 rfl rfl rfl rfl rfl ?_
    refine t_vcIN (pc := 78) dX11_toRate_78 rfl rfl [] rfl rfl ⟨rfl, by decide, Nat.le_of_ble_eq_true rfl⟩ h0.1 fun v102 S103 => ?_
    refine t_pop (pc := 81) dX11_toRate_81 rfl ?_
    refine t_ld (pc := 82) dX11_toRate_82 rfl rfl rfl rfl rfl ?_
    refine t_sipush (pc := 83) dX11_toRate_83 (by decide) ?_
    refine t_vcIN (pc := 86) dX11_toRate_86 rfl rfl [] rfl rfl ⟨rfl, by decide, Nat.le_of_ble_eq_true rfl⟩ h0.1 fun v104 S105 => ?_
    refine t_st (pc := 89) [some (.ref 90), some (.int (I l1)), some (.int (I l2)), some (.int (I l3)), some (.int (I l4)), some (.int (I l5)), some (.int (I l6)), some (.int (I v104))] dX11_toRate_89 rfl rfl rfl rfl rfl rfl ?_
    refine t_ld (pc := 91) dX11_toRate_91 rfl rfl rfl rfl rfl ?_
    refine t_iconst (pc := 92) dX11_toRate_92 ?_
    refine t_ic_eq (pc := 93) 126 dX11_toRate_93 rfl ?_ ?_
    · refine t_ld (pc := 126) dX11_toRate_126 rfl rfl rfl rfl rfl ?_
      refine t_st (pc := 128) [some (.ref 90), some (.int (I l1)), some (.int (I l2)), some (.int (I l6)), some (.int (I l4)), some (.int (I l5)), some (.int (I l6)), some (.int (I v104))] dX11_toRate_128 rfl rfl rfl rfl rfl rfl ?_
      refine t_ld (pc := 129) dX11_toRate_129 rfl rfl rfl rfl rfl ?_
      refine t_st (pc := 131) [some (.ref 90), some (.int (I l1)), some (.int (I l2)), some (.int (I l6)), some (.int (I v104)), some (.int (I l5)), some (.int (I l6)), some (.int (I v104))] dX11_toRate_131 rfl rfl rfl rfl rfl rfl ?_
      refine t_ld (pc := 133) dX11_toRate_133 rfl rfl rfl rfl rfl ?_
      refine t_getR (pc := 134) dX11_toRate_134 rfl h0.1 rfl ?_
      refine t_sipush (pc := 137) dX11_toRate_137 (by decide) ?_
      refine t_iaload (pc := 140) dX11_toRate_140 h0.2.1 ?_
      refine t_st (pc := 141) [some (.ref 90), some (.int (I l1)), some (.int (I l2)), some (.int (I l6)), some (.int (I v104)), some (.int (I (S105 91 1657))), some (.int (I l6)), some (.int (I v104))] dX11_toRate_141 rfl rfl rfl rfl rfl rfl ?_
      refine t_iinc (pc := 143) [some (.ref 90), some (.int (I l1)), some (.int (I l2)), some (.int (I l6)), some (.int (I v104)), some (.int (I (S105 91 1657))), some (.int (I (l6 + 1))), some (.int (I v104))] dX11_toRate_143 rfl rfl ?_
      refine t_goto (pc := 146) 50 dX11_toRate_146 rfl ?_
      exact id
    · refine t_ld (pc := 96) dX11_toRate_96 rfl rfl rfl rfl rfl ?_
      refine t_ld (pc := 98) dX11_toRate_98 rfl rfl rfl rfl rfl ?_
      refine t_ic_gt (pc := 100) 143 dX11_toRate_100 rfl ?_ ?_
      · refine t_iinc (pc := 143) [some (.ref 90), some (.int (I l1)), some (.int (I l2)), some (.int (I l3)), some (.int (I l4)), some (.int (I l5)), some (.int (I (l6 + 1))), some (.int (I v104))] dX11_toRate_143 rfl rfl ?_
        refine t_goto (pc := 146) 50 dX11_toRate_146 rfl ?_
        exact id
      · refine t_ld (pc := 103) dX11_toRate_103 rfl rfl rfl rfl rfl ?_
        refine t_ld (pc := 105) dX11_toRate_105 rfl rfl rfl rfl rfl ?_
        refine t_ic_ne (pc := 107) 126 dX11_toRate_107 rfl ?_ ?_
        · refine t_ld (pc := 126) dX11_toRate_126 rfl rfl rfl rfl rfl ?_
          refine t_st (pc := 128) [some (.ref 90), some (.int (I l1)), some (.int (I l2)), some (.int (I l6)), some (.int (I l4)), some (.int (I l5)), some (.int (I l6)), some (.int (I v104))] dX11_toRate_128 rfl rfl rfl rfl rfl rfl ?_
          refine t_ld (pc := 129) dX11_toRate_129 rfl rfl rfl rfl rfl ?_
          refine t_st (pc := 131) [some (.ref 90), some (.int (I l1)), some (.int (I l2)), some (.int (I l6)), some (.int (I v104)), some (.int (I l5)), some (.int (I l6)), some (.int (I v104))] dX11_toRate_131 rfl rfl rfl rfl rfl rfl ?_
          refine t_ld (pc := 133) dX11_toRate_133 rfl rfl rfl rfl rfl ?_
          refine t_getR (pc := 134) dX11_toRate_134 rfl h0.1 rfl ?_
          refine t_sipush (pc := 137) dX11_toRate_137 (by decide) ?_
          refine t_iaload (pc := 140) dX11_toRate_140 h0.2.1 ?_
          refine t_st (pc := 141) [some (.ref 90), some (.int (I l1)), some (.int (I l2)), some (.int (I l6)), some (.int (I v104)), some (.int (I (S105 91 1657))), some (.int (I l6)), some (.int (I v104))] dX11_toRate_141 rfl rfl rfl rfl rfl rfl ?_
          refine t_iinc (pc := 143) [some (.ref 90), some (.int (I l1)), some (.int (I l2)), some (.int (I l6)), some (.int (I v104)), some (.int (I (S105 91 1657))), some (.int (I (l6 + 1))), some (.int (I v104))] dX11_toRate_143 rfl rfl ?_
          refine t_goto (pc := 146) 50 dX11_toRate_146 rfl ?_
          exact id
        · refine t_ld (pc := 110) dX11_toRate_110 rfl rfl rfl rfl rfl ?_
          refine t_getR (pc := 111) dX11_toRate_111 rfl h0.1 rfl ?_
          refine t_sipush (pc := 114) dX11_toRate_114 (by decide) ?_
          refine t_iaload (pc := 117) dX11_toRate_117 h0.2.1 ?_
          refine t_ld (pc := 118) dX11_toRate_118 rfl rfl rfl rfl rfl ?_
          refine t_ic_lt (pc := 120) 126 dX11_toRate_120 rfl ?_ ?_
          · refine t_ld (pc := 126) dX11_toRate_126 rfl rfl rfl rfl rfl ?_
            refine t_st (pc := 128) [some (.ref 90), some (.int (I l1)), some (.int (I l2)), some (.int (I l6)), some (.int (I l4)), some (.int (I l5)), some (.int (I l6)), some (.int (I v104))] dX11_toRate_128 rfl rfl rfl rfl rfl rfl ?_
            refine t_ld (pc := 129) dX11_toRate_129 rfl rfl rfl rfl rfl ?_
            refine t_st (pc := 131) [some (.ref 90), some (.int (I l1)), some (.int (I l2)), some (.int (I l6)), some (.int (I v104)), some (.int (I l5)), some (.int (I l6)), some (.int (I v104))] dX11_toRate_131 rfl rfl rfl rfl rfl rfl ?_
            refine t_ld (pc := 133) dX11_toRate_133 rfl rfl rfl rfl rfl ?_
            refine t_getR (pc := 134) dX11_toRate_134 rfl h0.1 rfl ?_
            refine t_sipush (pc := 137) dX11_toRate_137 (by decide) ?_
            refine t_iaload (pc := 140) dX11_toRate_140 h0.2.1 ?_
            refine t_st (pc := 141) [some (.ref 90), some (.int (I l1)), some (.int (I l2)), some (.int (I l6)), some (.int (I v104)), some (.int (I (S105 91 1657))), some (.int (I l6)), some (.int (I v104))] dX11_toRate_141 rfl rfl rfl rfl rfl rfl ?_
            refine t_iinc (pc := 143) [some (.ref 90), some (.int (I l1)), some (.int (I l2)), some (.int (I l6)), some (.int (I v104)), some (.int (I (S105 91 1657))), some (.int (I (l6 + 1))), some (.int (I v104))] dX11_toRate_143 rfl rfl ?_
            refine t_goto (pc := 146) 50 dX11_toRate_146 rfl ?_
            exact id
          · refine t_goto (pc := 123) 143 dX11_toRate_123 rfl ?_
            refine t_iinc (pc := 143) [some (.ref 90), some (.int (I l1)), some (.int (I l2)), some (.int (I l3)), some (.int (I l4)), some (.int (I l5)), some (.int (I (l6 + 1))), some (.int (I v104))] dX11_toRate_143 rfl rfl ?_
            refine t_goto (pc := 146) 50 dX11_toRate_146 rfl ?_
            exact id
theorem qX11_note_0 {sc : Nat × (Nat → Int32)} {SH : List mCell} {S : mStore} {r : mR × mW} (h0 : sMod SH) {l1 : Int} {l2 : Int} : ((if I ((up S 90 4 0) 90 7) = I 8 then (∃ v101 S102, G sc MX11_refuses 0 [some (.ref 90), some (.int (I 2))] [] SH (up S 90 4 0) (rI v101 SH S102) ∧ r = rI v101 SH S102) else (∃ v103 S104, G sc MX11_within 0 [some (.int (I l1)), some (.int (I 0)), some (.int (I 20))] [] SH (up S 90 4 0) (rI v103 SH S104) ∧ (if I v103 = I 0 then (∃ v105 S106, G sc MX11_refuses 0 [some (.ref 90), some (.int (I 2))] [] SH S104 (rI v105 SH S106) ∧ r = rI v105 SH S106) else (∃ v107 S108, G sc MX11_within 0 [some (.int (I l2)), some (.int (I 0)), some (.int (I 48))] [] SH S104 (rI v107 SH S108) ∧ (if I v107 = I 0 then (∃ v109 S110, G sc MX11_refuses 0 [some (.ref 90), some (.int (I 2))] [] SH S108 (rI v109 SH S110) ∧ r = rI v109 SH S110) else ((0 ≤ S108 90 7 ∧ S108 90 7 < 16) ∧ ((0 ≤ (up S108 92 (S108 90 7) l1) 90 7 ∧ (up S108 92 (S108 90 7) l1) 90 7 < 16) ∧ r = rI ((up (up (up S108 92 (S108 90 7) l1) 93 ((up S108 92 (S108 90 7) l1) 90 7) l2) 90 7 (((up (up S108 92 (S108 90 7) l1) 93 ((up S108 92 (S108 90 7) l1) 90 7) l2) 90 7) + 1)) 90 7) SH (up (up (up S108 92 (S108 90 7) l1) 93 ((up S108 92 (S108 90 7) l1) 90 7) l2) 90 7 (((up (up S108 92 (S108 90 7) l1) 93 ((up S108 92 (S108 90 7) l1) 90 7) l2) 90 7) + 1)))))))))) → G sc MX11_note 0 [some (.ref 90), some (.int (I l1)), some (.int (I l2))] [] SH S r := by
  refine t_ld (pc := 0) dX11_note_0 rfl rfl rfl rfl rfl ?_
  refine t_iconst (pc := 1) dX11_note_1 ?_
  refine t_putI (pc := 2) dX11_note_2 rfl rfl (Or.inl rfl) h0.1 rfl ?_
  refine t_ld (pc := 5) dX11_note_5 rfl rfl rfl rfl rfl ?_
  refine t_getI (pc := 6) dX11_note_6 rfl h0.1 rfl ?_
  refine t_bipush (pc := 9) dX11_note_9 (by decide) ?_
  refine t_ic_eq (pc := 11) 34 dX11_note_11 rfl ?_ ?_
  · refine t_ld (pc := 34) dX11_note_34 rfl rfl rfl rfl rfl ?_
    refine t_iconst (pc := 35) dX11_note_35 ?_
    refine t_vcIN (pc := 36) dX11_note_36 rfl rfl [] rfl rfl ⟨rfl, by decide, Nat.le_of_ble_eq_true rfl⟩ h0.1 fun v101 S102 => ?_
    exact t_iret (pc := 39) dX11_note_39 rfl
  · refine t_ld (pc := 14) dX11_note_14 rfl rfl rfl rfl rfl ?_
    refine t_iconst (pc := 15) dX11_note_15 ?_
    refine t_bipush (pc := 16) dX11_note_16 (by decide) ?_
    refine t_scIN (pc := 18) dX11_note_18 rfl [] rfl rfl ⟨rfl, by decide, Nat.le_of_ble_eq_true rfl⟩ fun v103 S104 => ?_
    refine t_if_eq (pc := 21) 34 dX11_note_21 rfl ?_ ?_
    · refine t_ld (pc := 34) dX11_note_34 rfl rfl rfl rfl rfl ?_
      refine t_iconst (pc := 35) dX11_note_35 ?_
      refine t_vcIN (pc := 36) dX11_note_36 rfl rfl [] rfl rfl ⟨rfl, by decide, Nat.le_of_ble_eq_true rfl⟩ h0.1 fun v105 S106 => ?_
      exact t_iret (pc := 39) dX11_note_39 rfl
    · refine t_ld (pc := 24) dX11_note_24 rfl rfl rfl rfl rfl ?_
      refine t_iconst (pc := 25) dX11_note_25 ?_
      refine t_bipush (pc := 26) dX11_note_26 (by decide) ?_
      refine t_scIN (pc := 28) dX11_note_28 rfl [] rfl rfl ⟨rfl, by decide, Nat.le_of_ble_eq_true rfl⟩ fun v107 S108 => ?_
      refine t_if_ne (pc := 31) 40 dX11_note_31 rfl ?_ ?_
      · refine t_ld (pc := 40) dX11_note_40 rfl rfl rfl rfl rfl ?_
        refine t_getR (pc := 41) dX11_note_41 rfl h0.1 rfl ?_
        refine t_ld (pc := 44) dX11_note_44 rfl rfl rfl rfl rfl ?_
        refine t_getI (pc := 45) dX11_note_45 rfl h0.1 rfl ?_
        refine t_ld (pc := 48) dX11_note_48 rfl rfl rfl rfl rfl ?_
        refine t_iastore (pc := 49) dX11_note_49 h0.2.2.1 ?_
        refine t_ld (pc := 50) dX11_note_50 rfl rfl rfl rfl rfl ?_
        refine t_getR (pc := 51) dX11_note_51 rfl h0.1 rfl ?_
        refine t_ld (pc := 54) dX11_note_54 rfl rfl rfl rfl rfl ?_
        refine t_getI (pc := 55) dX11_note_55 rfl h0.1 rfl ?_
        refine t_ld (pc := 58) dX11_note_58 rfl rfl rfl rfl rfl ?_
        refine t_iastore (pc := 59) dX11_note_59 h0.2.2.2.1 ?_
        refine t_ld (pc := 60) dX11_note_60 rfl rfl rfl rfl rfl ?_
        refine t_dup (pc := 61) dX11_note_61 rfl ?_
        refine t_getI (pc := 62) dX11_note_62 rfl h0.1 rfl ?_
        refine t_iconst (pc := 65) dX11_note_65 ?_
        refine t_iadd (pc := 66) dX11_note_66 ?_
        refine t_putI (pc := 67) dX11_note_67 rfl rfl (Or.inl rfl) h0.1 rfl ?_
        refine t_ld (pc := 70) dX11_note_70 rfl rfl rfl rfl rfl ?_
        refine t_getI (pc := 71) dX11_note_71 rfl h0.1 rfl ?_
        exact t_iret (pc := 74) dX11_note_74 rfl
      · refine t_ld (pc := 34) dX11_note_34 rfl rfl rfl rfl rfl ?_
        refine t_iconst (pc := 35) dX11_note_35 ?_
        refine t_vcIN (pc := 36) dX11_note_36 rfl rfl [] rfl rfl ⟨rfl, by decide, Nat.le_of_ble_eq_true rfl⟩ h0.1 fun v109 S110 => ?_
        exact t_iret (pc := 39) dX11_note_39 rfl
theorem qX11_isNoted_0 {sc : Nat × (Nat → Int32)} {SH : List mCell} {S : mStore} {r : mR × mW} (h0 : sMod SH) {u1 : Option Value} {u2 : Option Value} : (G sc MX11_isNoted 2 [some (.ref 90), some (.int (I 0)), u2] [] SH S r) → G sc MX11_isNoted 0 [some (.ref 90), u1, u2] [] SH S r := by
  refine t_iconst (pc := 0) dX11_isNoted_0 ?_
  refine t_st (pc := 1) [some (.ref 90), some (.int (I 0)), u2] dX11_isNoted_1 rfl rfl rfl rfl rfl rfl ?_
  exact id
theorem qX11_isNoted_2 {sc : Nat × (Nat → Int32)} {SH : List mCell} {S : mStore} {r : mR × mW} (h0 : sMod SH) {l1 : Int} {u2 : Option Value} : ((if I 20 < I l1 then G sc MX11_isNoted 40 [some (.ref 90), some (.int (I 1)), some (.int (I 0))] [] SH S r else (∃ v101 S102, G sc MX11_usedOf 0 [some (.ref 90), some (.int (I 1654)), none, none] [] SH S (rI v101 SH S102) ∧ ((0 ≤ l1 ∧ l1 < 21) ∧ (∃ v103 S104, G sc MX11_ticksOf 0 [some (.ref 90), some (.int (I 1654)), some (.int (I 1)), none, none] [] SH (up S102 108 l1 v101) (rI v103 SH S104) ∧ G sc MX11_isNoted 2 [some (.ref 90), some (.int (I (l1 + 1))), u2] [] SH S104 r))))) → G sc MX11_isNoted 2 [some (.ref 90), some (.int (I l1)), u2] [] SH S r := by
  refine t_ld (pc := 2) dX11_isNoted_2 rfl rfl rfl rfl rfl ?_
  refine t_bipush (pc := 3) dX11_isNoted_3 (by decide) ?_
  refine t_ic_gt (pc := 5) 36 dX11_isNoted_5 rfl ?_ ?_
  · refine t_iconst (pc := 36) dX11_isNoted_36 ?_
    refine t_st (pc := 37) [some (.ref 90), some (.int (I 1)), u2] dX11_isNoted_37 rfl rfl rfl rfl rfl rfl ?_
    refine t_iconst (pc := 38) dX11_isNoted_38 ?_
    refine t_st (pc := 39) [some (.ref 90), some (.int (I 1)), some (.int (I 0))] dX11_isNoted_39 rfl rfl rfl rfl rfl rfl ?_
    exact id
  · refine t_ld (pc := 8) dX11_isNoted_8 rfl rfl rfl rfl rfl ?_
    refine t_getR (pc := 9) dX11_isNoted_9 rfl h0.1 rfl ?_
    refine t_ld (pc := 12) dX11_isNoted_12 rfl rfl rfl rfl rfl ?_
    refine t_ld (pc := 13) dX11_isNoted_13 rfl rfl rfl rfl rfl ?_
    refine t_sipush (pc := 14) dX11_isNoted_14 (by decide) ?_
    refine t_vcIN (pc := 17) dX11_isNoted_17 rfl rfl [.int (I l1), .ref 108] rfl rfl ⟨rfl, by decide, Nat.le_of_ble_eq_true rfl⟩ h0.1 fun v101 S102 => ?_
    refine t_iastore (pc := 20) dX11_isNoted_20 h0.2.2.2.2.2.2.2.2.2.2.2.2.2.2.2.2.2.2.1 ?_
    refine t_ld (pc := 21) dX11_isNoted_21 rfl rfl rfl rfl rfl ?_
    refine t_sipush (pc := 22) dX11_isNoted_22 (by decide) ?_
    refine t_iconst (pc := 25) dX11_isNoted_25 ?_
    refine t_vcIN (pc := 26) dX11_isNoted_26 rfl rfl [] rfl rfl ⟨rfl, by decide, Nat.le_of_ble_eq_true rfl⟩ h0.1 fun v103 S104 => ?_
    refine t_pop (pc := 29) dX11_isNoted_29 rfl ?_
    refine t_iinc (pc := 30) [some (.ref 90), some (.int (I (l1 + 1))), u2] dX11_isNoted_30 rfl rfl ?_
    refine t_goto (pc := 33) 2 dX11_isNoted_33 rfl ?_
    exact id
theorem qX11_isNoted_40 {sc : Nat × (Nat → Int32)} {SH : List mCell} {S : mStore} {r : mR × mW} (h0 : sMod SH) {l1 : Int} {l2 : Int} : ((if I (S 90 7) ≤ I l2 then ((I l1 = I 0 ∨ I l1 = I 1) ∧ r = rI l1 SH S) else (if I l1 = I 0 then G sc MX11_isNoted 40 [some (.ref 90), some (.int (I 0)), some (.int (I (l2 + 1)))] [] SH S r else ((0 ≤ l2 ∧ l2 < 16) ∧ ((0 ≤ S 92 l2 ∧ S 92 l2 < 21) ∧ ((0 ≤ l2 ∧ l2 < 16) ∧ (if I (S 108 (S 92 l2)) = I (S 93 l2) then G sc MX11_isNoted 40 [some (.ref 90), some (.int (I 1)), some (.int (I (l2 + 1)))] [] SH S r else G sc MX11_isNoted 40 [some (.ref 90), some (.int (I 0)), some (.int (I (l2 + 1)))] [] SH S r))))))) → G sc MX11_isNoted 40 [some (.ref 90), some (.int (I l1)), some (.int (I l2))] [] SH S r := by
  refine t_ld (pc := 40) dX11_isNoted_40 rfl rfl rfl rfl rfl ?_
  refine t_ld (pc := 41) dX11_isNoted_41 rfl rfl rfl rfl rfl ?_
  refine t_getI (pc := 42) dX11_isNoted_42 rfl h0.1 rfl ?_
  refine t_ic_ge (pc := 45) 84 dX11_isNoted_45 rfl ?_ ?_
  · refine t_ld (pc := 84) dX11_isNoted_84 rfl rfl rfl rfl rfl ?_
    exact t_zret (pc := 85) dX11_isNoted_85 rfl
  · refine t_ld (pc := 48) dX11_isNoted_48 rfl rfl rfl rfl rfl ?_
    refine t_if_eq (pc := 49) 76 dX11_isNoted_49 rfl ?_ ?_
    · refine t_iconst (pc := 76) dX11_isNoted_76 ?_
      refine t_st (pc := 77) [some (.ref 90), some (.int (I 0)), some (.int (I l2))] dX11_isNoted_77 rfl rfl rfl rfl rfl rfl ?_
      refine t_iinc (pc := 78) [some (.ref 90), some (.int (I 0)), some (.int (I (l2 + 1)))] dX11_isNoted_78 rfl rfl ?_
      refine t_goto (pc := 81) 40 dX11_isNoted_81 rfl ?_
      exact id
    · refine t_ld (pc := 52) dX11_isNoted_52 rfl rfl rfl rfl rfl ?_
      refine t_getR (pc := 53) dX11_isNoted_53 rfl h0.1 rfl ?_
      refine t_ld (pc := 56) dX11_isNoted_56 rfl rfl rfl rfl rfl ?_
      refine t_getR (pc := 57) dX11_isNoted_57 rfl h0.1 rfl ?_
      refine t_ld (pc := 60) dX11_isNoted_60 rfl rfl rfl rfl rfl ?_
      refine t_iaload (pc := 61) dX11_isNoted_61 h0.2.2.1 ?_
      refine t_iaload (pc := 62) dX11_isNoted_62 h0.2.2.2.2.2.2.2.2.2.2.2.2.2.2.2.2.2.2.1 ?_
      refine t_ld (pc := 63) dX11_isNoted_63 rfl rfl rfl rfl rfl ?_
      refine t_getR (pc := 64) dX11_isNoted_64 rfl h0.1 rfl ?_
      refine t_ld (pc := 67) dX11_isNoted_67 rfl rfl rfl rfl rfl ?_
      refine t_iaload (pc := 68) dX11_isNoted_68 h0.2.2.2.1 ?_
      refine t_ic_ne (pc := 69) 76 dX11_isNoted_69 rfl ?_ ?_
      · refine t_iconst (pc := 76) dX11_isNoted_76 ?_
        refine t_st (pc := 77) [some (.ref 90), some (.int (I 0)), some (.int (I l2))] dX11_isNoted_77 rfl rfl rfl rfl rfl rfl ?_
        refine t_iinc (pc := 78) [some (.ref 90), some (.int (I 0)), some (.int (I (l2 + 1)))] dX11_isNoted_78 rfl rfl ?_
        refine t_goto (pc := 81) 40 dX11_isNoted_81 rfl ?_
        exact id
      · refine t_iconst (pc := 72) dX11_isNoted_72 ?_
        refine t_goto (pc := 73) 77 dX11_isNoted_73 rfl ?_
        refine t_st (pc := 77) [some (.ref 90), some (.int (I 1)), some (.int (I l2))] dX11_isNoted_77 rfl rfl rfl rfl rfl rfl ?_
        refine t_iinc (pc := 78) [some (.ref 90), some (.int (I 1)), some (.int (I (l2 + 1)))] dX11_isNoted_78 rfl rfl ?_
        refine t_goto (pc := 81) 40 dX11_isNoted_81 rfl ?_
        exact id
theorem qX11_isGuess_0 {sc : Nat × (Nat → Int32)} {SH : List mCell} {S : mStore} {r : mR × mW} (h0 : sMod SH) {l1 : Int} {l2 : Int} {l3 : Int} : ((∃ v101 S102, G sc MX11_cellOf 0 [some (.ref 90), some (.int (I 0)), some (.int (I l1)), some (.int (I l2)), none] [] SH S (rI v101 SH S102) ∧ (if I l3 = I v101 then ((I 0 = I 0 ∨ I 0 = I 1) ∧ r = rI 0 SH S102) else (∃ S103, G sc MX11_tries 0 [some (.ref 90)] [] SH S102 (rV SH S103) ∧ (∃ v104 S105, G sc MX11_writesCell 0 [some (.ref 90), some (.int (I 1654)), some (.int (I l1)), some (.int (I l2)), some (.int (I l3))] [] SH S103 (rI v104 SH S105) ∧ (if I v104 = I (-1) then ((I 0 = I 0 ∨ I 0 = I 1) ∧ r = rI 0 SH S105) else (∃ v106 S107, G sc MX11_isNoted 0 [some (.ref 90), none, none] [] SH S105 (rI v106 SH S107) ∧ (if I v106 = I 0 then ((I 0 = I 0 ∨ I 0 = I 1) ∧ r = rI 0 SH S107) else ((I 1 = I 0 ∨ I 1 = I 1) ∧ r = rI 1 SH S107))))))))) → G sc MX11_isGuess 0 [some (.ref 90), some (.int (I l1)), some (.int (I l2)), some (.int (I l3))] [] SH S r := by
  refine t_ld (pc := 0) dX11_isGuess_0 rfl rfl rfl rfl rfl ?_
  refine t_ld (pc := 1) dX11_isGuess_1 rfl rfl rfl rfl rfl ?_
  refine t_iconst (pc := 2) dX11_isGuess_2 ?_
  refine t_ld (pc := 3) dX11_isGuess_3 rfl rfl rfl rfl rfl ?_
  refine t_ld (pc := 4) dX11_isGuess_4 rfl rfl rfl rfl rfl ?_
  refine t_vcIN (pc := 5) dX11_isGuess_5 rfl rfl [.int (I l3)] rfl rfl ⟨rfl, by decide, Nat.le_of_ble_eq_true rfl⟩ h0.1 fun v101 S102 => ?_
  refine t_ic_ne (pc := 8) 13 dX11_isGuess_8 rfl ?_ ?_
  · refine t_ld (pc := 13) dX11_isGuess_13 rfl rfl rfl rfl rfl ?_
    refine t_vcVN (pc := 14) dX11_isGuess_14 rfl rfl [] rfl rfl ⟨rfl, by decide, Nat.le_of_ble_eq_true rfl⟩ h0.1 fun S103 => ?_
    refine t_ld (pc := 17) dX11_isGuess_17 rfl rfl rfl rfl rfl ?_
    refine t_sipush (pc := 18) dX11_isGuess_18 (by decide) ?_
    refine t_ld (pc := 21) dX11_isGuess_21 rfl rfl rfl rfl rfl ?_
    refine t_ld (pc := 22) dX11_isGuess_22 rfl rfl rfl rfl rfl ?_
    refine t_ld (pc := 23) dX11_isGuess_23 rfl rfl rfl rfl rfl ?_
    refine t_vcIN (pc := 24) dX11_isGuess_24 rfl rfl [] rfl rfl ⟨rfl, by decide, Nat.le_of_ble_eq_true rfl⟩ h0.1 fun v104 S105 => ?_
    refine t_iconst (pc := 27) dX11_isGuess_27 ?_
    refine t_ic_eq (pc := 28) 42 dX11_isGuess_28 rfl ?_ ?_
    · refine t_iconst (pc := 42) dX11_isGuess_42 ?_
      exact t_zret (pc := 43) dX11_isGuess_43 rfl
    · refine t_ld (pc := 31) dX11_isGuess_31 rfl rfl rfl rfl rfl ?_
      refine t_vcIN (pc := 32) dX11_isGuess_32 rfl rfl [] rfl rfl ⟨rfl, by decide, Nat.le_of_ble_eq_true rfl⟩ h0.1 fun v106 S107 => ?_
      refine t_if_eq (pc := 35) 42 dX11_isGuess_35 rfl ?_ ?_
      · refine t_iconst (pc := 42) dX11_isGuess_42 ?_
        exact t_zret (pc := 43) dX11_isGuess_43 rfl
      · refine t_iconst (pc := 38) dX11_isGuess_38 ?_
        refine t_goto (pc := 39) 43 dX11_isGuess_39 rfl ?_
        exact t_zret (pc := 43) dX11_isGuess_43 rfl
  · refine t_iconst (pc := 11) dX11_isGuess_11 ?_
    exact t_zret (pc := 12) dX11_isGuess_12 rfl
theorem qX11_guess_0 {sc : Nat × (Nat → Int32)} {SH : List mCell} {S : mStore} {r : mR × mW} (h0 : sMod SH) {l1 : Int} {l2 : Int} {l3 : Int} {l4 : Int} {u5 : Option Value} {u6 : Option Value} {u7 : Option Value} : ((∃ v101 S102, G sc MX11_isPage 0 [some (.ref 90), some (.int (I l1)), some (.int (I l2))] [] SH (up S 90 4 0) (rI v101 SH S102) ∧ (if I v101 = I 0 then r = rI 0 SH S102 else (∃ v103 S104, G sc MX11_within 0 [some (.int (I l3)), some (.int (I 0)), some (.int (I 3))] [] SH S102 (rI v103 SH S104) ∧ (if I v103 = I 0 then (∃ v105 S106, G sc MX11_right 0 [some (.ref 90), some (.int (I 0)), some (.int (I 1))] [] SH S104 (rI v105 SH S106) ∧ (if I v105 = I 0 then r = rI 0 SH S106 else (if I l4 = I 2 then (∃ S107, G sc MX11_tries 0 [some (.ref 90)] [] SH S106 (rV SH S107) ∧ (∃ v108 S109, G sc MX11_isNoted 0 [some (.ref 90), none, none] [] SH S107 (rI v108 SH S109) ∧ (if I v108 = I 0 then r = rI 0 SH S109 else r = rI 1 SH S109))) else G sc MX11_guess 81 [some (.ref 90), some (.int (I l1)), some (.int (I l2)), some (.int (I l3)), some (.int (I l4)), some (.int (I 0)), some (.int (I (-1))), some (.int (I 15))] [] SH S106 r))) else (∃ v110 S111, G sc MX11_within 0 [some (.int (I l4)), some (.int (I 0)), some (.int (I 2))] [] SH S104 (rI v110 SH S111) ∧ (if I v110 = I 0 then (∃ v112 S113, G sc MX11_right 0 [some (.ref 90), some (.int (I 0)), some (.int (I 1))] [] SH S111 (rI v112 SH S113) ∧ (if I v112 = I 0 then r = rI 0 SH S113 else (if I l4 = I 2 then (∃ S114, G sc MX11_tries 0 [some (.ref 90)] [] SH S113 (rV SH S114) ∧ (∃ v115 S116, G sc MX11_isNoted 0 [some (.ref 90), none, none] [] SH S114 (rI v115 SH S116) ∧ (if I v115 = I 0 then r = rI 0 SH S116 else r = rI 1 SH S116))) else G sc MX11_guess 81 [some (.ref 90), some (.int (I l1)), some (.int (I l2)), some (.int (I l3)), some (.int (I l4)), some (.int (I 0)), some (.int (I (-1))), some (.int (I 15))] [] SH S113 r))) else (∃ v117 S118, G sc MX11_right 0 [some (.ref 90), some (.int (I 1)), some (.int (I 1))] [] SH S111 (rI v117 SH S118) ∧ (if I v117 = I 0 then r = rI 0 SH S118 else (if I l4 = I 2 then (∃ S119, G sc MX11_tries 0 [some (.ref 90)] [] SH S118 (rV SH S119) ∧ (∃ v120 S121, G sc MX11_isNoted 0 [some (.ref 90), none, none] [] SH S119 (rI v120 SH S121) ∧ (if I v120 = I 0 then r = rI 0 SH S121 else r = rI 1 SH S121))) else G sc MX11_guess 81 [some (.ref 90), some (.int (I l1)), some (.int (I l2)), some (.int (I l3)), some (.int (I l4)), some (.int (I 0)), some (.int (I (-1))), some (.int (I 15))] [] SH S118 r)))))))))) → G sc MX11_guess 0 [some (.ref 90), some (.int (I l1)), some (.int (I l2)), some (.int (I l3)), some (.int (I l4)), u5, u6, u7] [] SH S r := by
  refine t_ld (pc := 0) dX11_guess_0 rfl rfl rfl rfl rfl ?_
  refine t_iconst (pc := 1) dX11_guess_1 ?_
  refine t_putI (pc := 2) dX11_guess_2 rfl rfl (Or.inl rfl) h0.1 rfl ?_
  refine t_ld (pc := 5) dX11_guess_5 rfl rfl rfl rfl rfl ?_
  refine t_ld (pc := 6) dX11_guess_6 rfl rfl rfl rfl rfl ?_
  refine t_ld (pc := 7) dX11_guess_7 rfl rfl rfl rfl rfl ?_
  refine t_vcIN (pc := 8) dX11_guess_8 rfl rfl [] rfl rfl ⟨rfl, by decide, Nat.le_of_ble_eq_true rfl⟩ h0.1 fun v101 S102 => ?_
  refine t_if_eq (pc := 11) 46 dX11_guess_11 rfl ?_ ?_
  · refine t_iconst (pc := 46) dX11_guess_46 ?_
    exact t_iret (pc := 47) dX11_guess_47 rfl
  · refine t_ld (pc := 14) dX11_guess_14 rfl rfl rfl rfl rfl ?_
    refine t_ld (pc := 15) dX11_guess_15 rfl rfl rfl rfl rfl ?_
    refine t_iconst (pc := 16) dX11_guess_16 ?_
    refine t_iconst (pc := 17) dX11_guess_17 ?_
    refine t_scIN (pc := 18) dX11_guess_18 rfl [.ref 90] rfl rfl ⟨rfl, by decide, Nat.le_of_ble_eq_true rfl⟩ fun v103 S104 => ?_
    refine t_if_eq (pc := 21) 38 dX11_guess_21 rfl ?_ ?_
    · refine t_iconst (pc := 38) dX11_guess_38 ?_
      refine t_iconst (pc := 39) dX11_guess_39 ?_
      refine t_vcIN (pc := 40) dX11_guess_40 rfl rfl [] rfl rfl ⟨rfl, by decide, Nat.le_of_ble_eq_true rfl⟩ h0.1 fun v105 S106 => ?_
      refine t_if_ne (pc := 43) 48 dX11_guess_43 rfl ?_ ?_
      · refine t_ld (pc := 48) dX11_guess_48 rfl rfl rfl rfl rfl ?_
        refine t_iconst (pc := 50) dX11_guess_50 ?_
        refine t_ic_ne (pc := 51) 71 dX11_guess_51 rfl ?_ ?_
        · refine t_iconst (pc := 71) dX11_guess_71 ?_
          refine t_st (pc := 72) [some (.ref 90), some (.int (I l1)), some (.int (I l2)), some (.int (I l3)), some (.int (I l4)), some (.int (I 0)), u6, u7] dX11_guess_72 rfl rfl rfl rfl rfl rfl ?_
          refine t_iconst (pc := 74) dX11_guess_74 ?_
          refine t_st (pc := 75) [some (.ref 90), some (.int (I l1)), some (.int (I l2)), some (.int (I l3)), some (.int (I l4)), some (.int (I 0)), some (.int (I (-1))), u7] dX11_guess_75 rfl rfl rfl rfl rfl rfl ?_
          refine t_bipush (pc := 77) dX11_guess_77 (by decide) ?_
          refine t_st (pc := 79) [some (.ref 90), some (.int (I l1)), some (.int (I l2)), some (.int (I l3)), some (.int (I l4)), some (.int (I 0)), some (.int (I (-1))), some (.int (I 15))] dX11_guess_79 rfl rfl rfl rfl rfl rfl ?_
          exact id
        · refine t_ld (pc := 54) dX11_guess_54 rfl rfl rfl rfl rfl ?_
          refine t_vcVN (pc := 55) dX11_guess_55 rfl rfl [] rfl rfl ⟨rfl, by decide, Nat.le_of_ble_eq_true rfl⟩ h0.1 fun S107 => ?_
          refine t_ld (pc := 58) dX11_guess_58 rfl rfl rfl rfl rfl ?_
          refine t_vcIN (pc := 59) dX11_guess_59 rfl rfl [] rfl rfl ⟨rfl, by decide, Nat.le_of_ble_eq_true rfl⟩ h0.1 fun v108 S109 => ?_
          refine t_if_eq (pc := 62) 69 dX11_guess_62 rfl ?_ ?_
          · refine t_iconst (pc := 69) dX11_guess_69 ?_
            exact t_iret (pc := 70) dX11_guess_70 rfl
          · refine t_iconst (pc := 65) dX11_guess_65 ?_
            refine t_goto (pc := 66) 70 dX11_guess_66 rfl ?_
            exact t_iret (pc := 70) dX11_guess_70 rfl
      · refine t_iconst (pc := 46) dX11_guess_46 ?_
        exact t_iret (pc := 47) dX11_guess_47 rfl
    · refine t_ld (pc := 24) dX11_guess_24 rfl rfl rfl rfl rfl ?_
      refine t_iconst (pc := 26) dX11_guess_26 ?_
      refine t_iconst (pc := 27) dX11_guess_27 ?_
      refine t_scIN (pc := 28) dX11_guess_28 rfl [.ref 90] rfl rfl ⟨rfl, by decide, Nat.le_of_ble_eq_true rfl⟩ fun v110 S111 => ?_
      refine t_if_eq (pc := 31) 38 dX11_guess_31 rfl ?_ ?_
      · refine t_iconst (pc := 38) dX11_guess_38 ?_
        refine t_iconst (pc := 39) dX11_guess_39 ?_
        refine t_vcIN (pc := 40) dX11_guess_40 rfl rfl [] rfl rfl ⟨rfl, by decide, Nat.le_of_ble_eq_true rfl⟩ h0.1 fun v112 S113 => ?_
        refine t_if_ne (pc := 43) 48 dX11_guess_43 rfl ?_ ?_
        · refine t_ld (pc := 48) dX11_guess_48 rfl rfl rfl rfl rfl ?_
          refine t_iconst (pc := 50) dX11_guess_50 ?_
          refine t_ic_ne (pc := 51) 71 dX11_guess_51 rfl ?_ ?_
          · refine t_iconst (pc := 71) dX11_guess_71 ?_
            refine t_st (pc := 72) [some (.ref 90), some (.int (I l1)), some (.int (I l2)), some (.int (I l3)), some (.int (I l4)), some (.int (I 0)), u6, u7] dX11_guess_72 rfl rfl rfl rfl rfl rfl ?_
            refine t_iconst (pc := 74) dX11_guess_74 ?_
            refine t_st (pc := 75) [some (.ref 90), some (.int (I l1)), some (.int (I l2)), some (.int (I l3)), some (.int (I l4)), some (.int (I 0)), some (.int (I (-1))), u7] dX11_guess_75 rfl rfl rfl rfl rfl rfl ?_
            refine t_bipush (pc := 77) dX11_guess_77 (by decide) ?_
            refine t_st (pc := 79) [some (.ref 90), some (.int (I l1)), some (.int (I l2)), some (.int (I l3)), some (.int (I l4)), some (.int (I 0)), some (.int (I (-1))), some (.int (I 15))] dX11_guess_79 rfl rfl rfl rfl rfl rfl ?_
            exact id
          · refine t_ld (pc := 54) dX11_guess_54 rfl rfl rfl rfl rfl ?_
            refine t_vcVN (pc := 55) dX11_guess_55 rfl rfl [] rfl rfl ⟨rfl, by decide, Nat.le_of_ble_eq_true rfl⟩ h0.1 fun S114 => ?_
            refine t_ld (pc := 58) dX11_guess_58 rfl rfl rfl rfl rfl ?_
            refine t_vcIN (pc := 59) dX11_guess_59 rfl rfl [] rfl rfl ⟨rfl, by decide, Nat.le_of_ble_eq_true rfl⟩ h0.1 fun v115 S116 => ?_
            refine t_if_eq (pc := 62) 69 dX11_guess_62 rfl ?_ ?_
            · refine t_iconst (pc := 69) dX11_guess_69 ?_
              exact t_iret (pc := 70) dX11_guess_70 rfl
            · refine t_iconst (pc := 65) dX11_guess_65 ?_
              refine t_goto (pc := 66) 70 dX11_guess_66 rfl ?_
              exact t_iret (pc := 70) dX11_guess_70 rfl
        · refine t_iconst (pc := 46) dX11_guess_46 ?_
          exact t_iret (pc := 47) dX11_guess_47 rfl
      · refine t_iconst (pc := 34) dX11_guess_34 ?_
        refine t_goto (pc := 35) 39 dX11_guess_35 rfl ?_
        refine t_iconst (pc := 39) dX11_guess_39 ?_
        refine t_vcIN (pc := 40) dX11_guess_40 rfl rfl [] rfl rfl ⟨rfl, by decide, Nat.le_of_ble_eq_true rfl⟩ h0.1 fun v117 S118 => ?_
        refine t_if_ne (pc := 43) 48 dX11_guess_43 rfl ?_ ?_
        · refine t_ld (pc := 48) dX11_guess_48 rfl rfl rfl rfl rfl ?_
          refine t_iconst (pc := 50) dX11_guess_50 ?_
          refine t_ic_ne (pc := 51) 71 dX11_guess_51 rfl ?_ ?_
          · refine t_iconst (pc := 71) dX11_guess_71 ?_
            refine t_st (pc := 72) [some (.ref 90), some (.int (I l1)), some (.int (I l2)), some (.int (I l3)), some (.int (I l4)), some (.int (I 0)), u6, u7] dX11_guess_72 rfl rfl rfl rfl rfl rfl ?_
            refine t_iconst (pc := 74) dX11_guess_74 ?_
            refine t_st (pc := 75) [some (.ref 90), some (.int (I l1)), some (.int (I l2)), some (.int (I l3)), some (.int (I l4)), some (.int (I 0)), some (.int (I (-1))), u7] dX11_guess_75 rfl rfl rfl rfl rfl rfl ?_
            refine t_bipush (pc := 77) dX11_guess_77 (by decide) ?_
            refine t_st (pc := 79) [some (.ref 90), some (.int (I l1)), some (.int (I l2)), some (.int (I l3)), some (.int (I l4)), some (.int (I 0)), some (.int (I (-1))), some (.int (I 15))] dX11_guess_79 rfl rfl rfl rfl rfl rfl ?_
            exact id
          · refine t_ld (pc := 54) dX11_guess_54 rfl rfl rfl rfl rfl ?_
            refine t_vcVN (pc := 55) dX11_guess_55 rfl rfl [] rfl rfl ⟨rfl, by decide, Nat.le_of_ble_eq_true rfl⟩ h0.1 fun S119 => ?_
            refine t_ld (pc := 58) dX11_guess_58 rfl rfl rfl rfl rfl ?_
            refine t_vcIN (pc := 59) dX11_guess_59 rfl rfl [] rfl rfl ⟨rfl, by decide, Nat.le_of_ble_eq_true rfl⟩ h0.1 fun v120 S121 => ?_
            refine t_if_eq (pc := 62) 69 dX11_guess_62 rfl ?_ ?_
            · refine t_iconst (pc := 69) dX11_guess_69 ?_
              exact t_iret (pc := 70) dX11_guess_70 rfl
            · refine t_iconst (pc := 65) dX11_guess_65 ?_
              refine t_goto (pc := 66) 70 dX11_guess_66 rfl ?_
              exact t_iret (pc := 70) dX11_guess_70 rfl
        · refine t_iconst (pc := 46) dX11_guess_46 ?_
          exact t_iret (pc := 47) dX11_guess_47 rfl
theorem qX11_guess_81 {sc : Nat × (Nat → Int32)} {SH : List mCell} {S : mStore} {r : mR × mW} (h0 : sMod SH) {l1 : Int} {l2 : Int} {l3 : Int} {l4 : Int} {l5 : Int} {l6 : Int} {l7 : Int} : ((if I l7 < I 0 then (if I l4 = I 0 then r = rI l5 SH S else r = rI l6 SH S) else ((0 ≤ l1 ∧ l1 < 5) ∧ (∃ v101 S102, G sc MX11_isGuess 0 [some (.ref 90), some (.int (I ((S 97 l1) + l2))), some (.int (I l3)), some (.int (I l7))] [] SH S (rI v101 SH S102) ∧ (if I v101 = I 0 then G sc MX11_guess 81 [some (.ref 90), some (.int (I l1)), some (.int (I l2)), some (.int (I l3)), some (.int (I l4)), some (.int (I l5)), some (.int (I l6)), some (.int (I (l7 + (-1))))] [] SH S102 r else G sc MX11_guess 81 [some (.ref 90), some (.int (I l1)), some (.int (I l2)), some (.int (I l3)), some (.int (I l4)), some (.int (I (l5 + 1))), some (.int (I l7)), some (.int (I (l7 + (-1))))] [] SH S102 r))))) → G sc MX11_guess 81 [some (.ref 90), some (.int (I l1)), some (.int (I l2)), some (.int (I l3)), some (.int (I l4)), some (.int (I l5)), some (.int (I l6)), some (.int (I l7))] [] SH S r := by
  refine t_ld (pc := 81) dX11_guess_81 rfl rfl rfl rfl rfl ?_
  refine t_if_lt (pc := 83) 120 dX11_guess_83 rfl ?_ ?_
  · refine t_ld (pc := 120) dX11_guess_120 rfl rfl rfl rfl rfl ?_
    refine t_if_ne (pc := 122) 130 dX11_guess_122 rfl ?_ ?_
    · refine t_ld (pc := 130) dX11_guess_130 rfl rfl rfl rfl rfl ?_
      exact t_iret (pc := 132) dX11_guess_132 rfl
    · refine t_ld (pc := 125) dX11_guess_125 rfl rfl rfl rfl rfl ?_
      refine t_goto (pc := 127) 132 dX11_guess_127 rfl ?_
      exact t_iret (pc := 132) dX11_guess_132 rfl
  · refine t_ld (pc := 86) dX11_guess_86 rfl rfl rfl rfl rfl ?_
    refine t_ld (pc := 87) dX11_guess_87 rfl rfl rfl rfl rfl ?_
    refine t_getR (pc := 88) dX11_guess_88 rfl h0.1 rfl ?_
    refine t_ld (pc := 91) dX11_guess_91 rfl rfl rfl rfl rfl ?_
    refine t_iaload (pc := 92) dX11_guess_92 h0.2.2.2.2.2.2.2.1 ?_
    refine t_ld (pc := 93) dX11_guess_93 rfl rfl rfl rfl rfl ?_
    refine t_iadd (pc := 94) dX11_guess_94 ?_
    refine t_ld (pc := 95) dX11_guess_95 rfl rfl rfl rfl rfl ?_
    refine t_ld (pc := 96) dX11_guess_96 rfl rfl rfl rfl rfl ?_
    refine t_vcIN (pc := 98) dX11_guess_98 rfl rfl [] rfl rfl ⟨rfl, by decide, Nat.le_of_ble_eq_true rfl⟩ h0.1 fun v101 S102 => ?_
    refine t_if_ne (pc := 101) 107 dX11_guess_101 rfl ?_ ?_
    · refine t_iinc (pc := 107) [some (.ref 90), some (.int (I l1)), some (.int (I l2)), some (.int (I l3)), some (.int (I l4)), some (.int (I (l5 + 1))), some (.int (I l6)), some (.int (I l7))] dX11_guess_107 rfl rfl ?_
      refine t_ld (pc := 110) dX11_guess_110 rfl rfl rfl rfl rfl ?_
      refine t_st (pc := 112) [some (.ref 90), some (.int (I l1)), some (.int (I l2)), some (.int (I l3)), some (.int (I l4)), some (.int (I (l5 + 1))), some (.int (I l7)), some (.int (I l7))] dX11_guess_112 rfl rfl rfl rfl rfl rfl ?_
      refine t_iinc (pc := 114) [some (.ref 90), some (.int (I l1)), some (.int (I l2)), some (.int (I l3)), some (.int (I l4)), some (.int (I (l5 + 1))), some (.int (I l7)), some (.int (I (l7 + (-1))))] dX11_guess_114 rfl rfl ?_
      refine t_goto (pc := 117) 81 dX11_guess_117 rfl ?_
      exact id
    · refine t_goto (pc := 104) 114 dX11_guess_104 rfl ?_
      refine t_iinc (pc := 114) [some (.ref 90), some (.int (I l1)), some (.int (I l2)), some (.int (I l3)), some (.int (I l4)), some (.int (I l5)), some (.int (I l6)), some (.int (I (l7 + (-1))))] dX11_guess_114 rfl rfl ?_
      refine t_goto (pc := 117) 81 dX11_guess_117 rfl ?_
      exact id
theorem qX11_ones_0 {sc : Nat × (Nat → Int32)} {SH : List mCell} {S : mStore} {r : mR × mW} {j0 : Int64} {u2 : Option Value} {u3 : Option Value} : (G sc MX11_ones 4 [some (.long j0), none, some (.int (I 0)), some (.int (I 0))] [] SH S r) → G sc MX11_ones 0 [some (.long j0), none, u2, u3] [] SH S r := by
  refine t_iconst (pc := 0) dX11_ones_0 ?_
  refine t_st (pc := 1) [some (.long j0), none, some (.int (I 0)), u3] dX11_ones_1 rfl rfl rfl rfl rfl rfl ?_
  refine t_iconst (pc := 2) dX11_ones_2 ?_
  refine t_st (pc := 3) [some (.long j0), none, some (.int (I 0)), some (.int (I 0))] dX11_ones_3 rfl rfl rfl rfl rfl rfl ?_
  exact id
theorem qX11_ones_4 {sc : Nat × (Nat → Int32)} {SH : List mCell} {S : mStore} {r : mR × mW} {j0 : Int64} {l2 : Int} {l3 : Int} : ((if I 48 < I l3 then r = rI l2 SH S else (if I (jcm ((jsr j0 l3) &&& 1) 1) = I 0 then G sc MX11_ones 4 [some (.long j0), none, some (.int (I (l2 + 1))), some (.int (I (l3 + 1)))] [] SH S r else G sc MX11_ones 4 [some (.long j0), none, some (.int (I (l2 + 0))), some (.int (I (l3 + 1)))] [] SH S r))) → G sc MX11_ones 4 [some (.long j0), none, some (.int (I l2)), some (.int (I l3))] [] SH S r := by
  refine t_ld (pc := 4) dX11_ones_4 rfl rfl rfl rfl rfl ?_
  refine t_bipush (pc := 5) dX11_ones_5 (by decide) ?_
  refine t_ic_gt (pc := 7) 34 dX11_ones_7 rfl ?_ ?_
  · refine t_ld (pc := 34) dX11_ones_34 rfl rfl rfl rfl rfl ?_
    exact t_iret (pc := 35) dX11_ones_35 rfl
  · refine t_ld (pc := 10) dX11_ones_10 rfl rfl rfl rfl rfl ?_
    refine t_ld (pc := 11) dX11_ones_11 rfl rfl rfl rfl rfl ?_
    refine t_ld (pc := 12) dX11_ones_12 rfl rfl rfl rfl rfl ?_
    refine t_lshr (pc := 13) dX11_ones_13 ?_
    refine t_pushv (pc := 14) (.long 1) dX11_ones_14 rfl rfl ?_
    refine t_land (pc := 15) dX11_ones_15 ?_
    refine t_pushv (pc := 16) (.long 1) dX11_ones_16 rfl rfl ?_
    refine t_lcmp (pc := 17) dX11_ones_17 ?_
    refine t_if_ne (pc := 18) 25 dX11_ones_18 rfl ?_ ?_
    · refine t_iconst (pc := 25) dX11_ones_25 ?_
      refine t_iadd (pc := 26) dX11_ones_26 ?_
      refine t_st (pc := 27) [some (.long j0), none, some (.int (I (l2 + 0))), some (.int (I l3))] dX11_ones_27 rfl rfl rfl rfl rfl rfl ?_
      refine t_iinc (pc := 28) [some (.long j0), none, some (.int (I (l2 + 0))), some (.int (I (l3 + 1)))] dX11_ones_28 rfl rfl ?_
      refine t_goto (pc := 31) 4 dX11_ones_31 rfl ?_
      exact id
    · refine t_iconst (pc := 21) dX11_ones_21 ?_
      refine t_goto (pc := 22) 26 dX11_ones_22 rfl ?_
      refine t_iadd (pc := 26) dX11_ones_26 ?_
      refine t_st (pc := 27) [some (.long j0), none, some (.int (I (l2 + 1))), some (.int (I l3))] dX11_ones_27 rfl rfl rfl rfl rfl rfl ?_
      refine t_iinc (pc := 28) [some (.long j0), none, some (.int (I (l2 + 1))), some (.int (I (l3 + 1)))] dX11_ones_28 rfl rfl ?_
      refine t_goto (pc := 31) 4 dX11_ones_31 rfl ?_
      exact id
theorem qX11_look_0 {sc : Nat × (Nat → Int32)} {SH : List mCell} {S : mStore} {r : mR × mW} (h0 : sMod SH) {l1 : Int} {l2 : Int} {l3 : Int} {l4 : Int} {u5 : Option Value} {u6 : Option Value} {u7 : Option Value} : ((∃ v101 S102, G sc MX11_isPage 0 [some (.ref 90), some (.int (I l1)), some (.int (I l2))] [] SH (up S 90 4 0) (rI v101 SH S102) ∧ (if I v101 = I 0 then r = rI 0 SH S102 else (∃ v103 S104, G sc MX11_within 0 [some (.int (I l3)), some (.int (I 0)), some (.int (I 3))] [] SH S102 (rI v103 SH S104) ∧ (if I v103 = I 0 then (∃ v105 S106, G sc MX11_right 0 [some (.ref 90), some (.int (I 0)), some (.int (I 1))] [] SH S104 (rI v105 SH S106) ∧ (if I v105 = I 0 then r = rI 0 SH S106 else G sc MX11_look 51 [some (.ref 90), some (.int (I l1)), some (.int (I l2)), some (.int (I l3)), some (.int (I l4)), some (.int (I 0)), u6, u7] [] SH S106 r)) else (∃ v107 S108, G sc MX11_within 0 [some (.int (I l4)), some (.int (I 0)), some (.int (I 1))] [] SH S104 (rI v107 SH S108) ∧ (if I v107 = I 0 then (∃ v109 S110, G sc MX11_right 0 [some (.ref 90), some (.int (I 0)), some (.int (I 1))] [] SH S108 (rI v109 SH S110) ∧ (if I v109 = I 0 then r = rI 0 SH S110 else G sc MX11_look 51 [some (.ref 90), some (.int (I l1)), some (.int (I l2)), some (.int (I l3)), some (.int (I l4)), some (.int (I 0)), u6, u7] [] SH S110 r)) else (∃ v111 S112, G sc MX11_right 0 [some (.ref 90), some (.int (I 1)), some (.int (I 1))] [] SH S108 (rI v111 SH S112) ∧ (if I v111 = I 0 then r = rI 0 SH S112 else G sc MX11_look 51 [some (.ref 90), some (.int (I l1)), some (.int (I l2)), some (.int (I l3)), some (.int (I l4)), some (.int (I 0)), u6, u7] [] SH S112 r))))))))) → G sc MX11_look 0 [some (.ref 90), some (.int (I l1)), some (.int (I l2)), some (.int (I l3)), some (.int (I l4)), u5, u6, u7] [] SH S r := by
  refine t_ld (pc := 0) dX11_look_0 rfl rfl rfl rfl rfl ?_
  refine t_iconst (pc := 1) dX11_look_1 ?_
  refine t_putI (pc := 2) dX11_look_2 rfl rfl (Or.inl rfl) h0.1 rfl ?_
  refine t_ld (pc := 5) dX11_look_5 rfl rfl rfl rfl rfl ?_
  refine t_ld (pc := 6) dX11_look_6 rfl rfl rfl rfl rfl ?_
  refine t_ld (pc := 7) dX11_look_7 rfl rfl rfl rfl rfl ?_
  refine t_vcIN (pc := 8) dX11_look_8 rfl rfl [] rfl rfl ⟨rfl, by decide, Nat.le_of_ble_eq_true rfl⟩ h0.1 fun v101 S102 => ?_
  refine t_if_eq (pc := 11) 46 dX11_look_11 rfl ?_ ?_
  · refine t_iconst (pc := 46) dX11_look_46 ?_
    exact t_iret (pc := 47) dX11_look_47 rfl
  · refine t_ld (pc := 14) dX11_look_14 rfl rfl rfl rfl rfl ?_
    refine t_ld (pc := 15) dX11_look_15 rfl rfl rfl rfl rfl ?_
    refine t_iconst (pc := 16) dX11_look_16 ?_
    refine t_iconst (pc := 17) dX11_look_17 ?_
    refine t_scIN (pc := 18) dX11_look_18 rfl [.ref 90] rfl rfl ⟨rfl, by decide, Nat.le_of_ble_eq_true rfl⟩ fun v103 S104 => ?_
    refine t_if_eq (pc := 21) 38 dX11_look_21 rfl ?_ ?_
    · refine t_iconst (pc := 38) dX11_look_38 ?_
      refine t_iconst (pc := 39) dX11_look_39 ?_
      refine t_vcIN (pc := 40) dX11_look_40 rfl rfl [] rfl rfl ⟨rfl, by decide, Nat.le_of_ble_eq_true rfl⟩ h0.1 fun v105 S106 => ?_
      refine t_if_ne (pc := 43) 48 dX11_look_43 rfl ?_ ?_
      · refine t_iconst (pc := 48) dX11_look_48 ?_
        refine t_st (pc := 49) [some (.ref 90), some (.int (I l1)), some (.int (I l2)), some (.int (I l3)), some (.int (I l4)), some (.int (I 0)), u6, u7] dX11_look_49 rfl rfl rfl rfl rfl rfl ?_
        exact id
      · refine t_iconst (pc := 46) dX11_look_46 ?_
        exact t_iret (pc := 47) dX11_look_47 rfl
    · refine t_ld (pc := 24) dX11_look_24 rfl rfl rfl rfl rfl ?_
      refine t_iconst (pc := 26) dX11_look_26 ?_
      refine t_iconst (pc := 27) dX11_look_27 ?_
      refine t_scIN (pc := 28) dX11_look_28 rfl [.ref 90] rfl rfl ⟨rfl, by decide, Nat.le_of_ble_eq_true rfl⟩ fun v107 S108 => ?_
      refine t_if_eq (pc := 31) 38 dX11_look_31 rfl ?_ ?_
      · refine t_iconst (pc := 38) dX11_look_38 ?_
        refine t_iconst (pc := 39) dX11_look_39 ?_
        refine t_vcIN (pc := 40) dX11_look_40 rfl rfl [] rfl rfl ⟨rfl, by decide, Nat.le_of_ble_eq_true rfl⟩ h0.1 fun v109 S110 => ?_
        refine t_if_ne (pc := 43) 48 dX11_look_43 rfl ?_ ?_
        · refine t_iconst (pc := 48) dX11_look_48 ?_
          refine t_st (pc := 49) [some (.ref 90), some (.int (I l1)), some (.int (I l2)), some (.int (I l3)), some (.int (I l4)), some (.int (I 0)), u6, u7] dX11_look_49 rfl rfl rfl rfl rfl rfl ?_
          exact id
        · refine t_iconst (pc := 46) dX11_look_46 ?_
          exact t_iret (pc := 47) dX11_look_47 rfl
      · refine t_iconst (pc := 34) dX11_look_34 ?_
        refine t_goto (pc := 35) 39 dX11_look_35 rfl ?_
        refine t_iconst (pc := 39) dX11_look_39 ?_
        refine t_vcIN (pc := 40) dX11_look_40 rfl rfl [] rfl rfl ⟨rfl, by decide, Nat.le_of_ble_eq_true rfl⟩ h0.1 fun v111 S112 => ?_
        refine t_if_ne (pc := 43) 48 dX11_look_43 rfl ?_ ?_
        · refine t_iconst (pc := 48) dX11_look_48 ?_
          refine t_st (pc := 49) [some (.ref 90), some (.int (I l1)), some (.int (I l2)), some (.int (I l3)), some (.int (I l4)), some (.int (I 0)), u6, u7] dX11_look_49 rfl rfl rfl rfl rfl rfl ?_
          exact id
        · refine t_iconst (pc := 46) dX11_look_46 ?_
          exact t_iret (pc := 47) dX11_look_47 rfl
theorem qX11_look_51 {sc : Nat × (Nat → Int32)} {SH : List mCell} {S : mStore} {r : mR × mW} (h0 : sMod SH) {l1 : Int} {l2 : Int} {l3 : Int} {l4 : Int} {l5 : Int} {u6 : Option Value} {u7 : Option Value} : ((if I 20 < I l5 then G sc MX11_look 75 [some (.ref 90), some (.int (I l1)), some (.int (I l2)), some (.int (I l3)), some (.int (I l4)), some (.int (I 0)), u6, u7] [] SH S r else ((0 ≤ l5 ∧ l5 < 21) ∧ G sc MX11_look 51 [some (.ref 90), some (.int (I l1)), some (.int (I l2)), some (.int (I l3)), some (.int (I l4)), some (.int (I (l5 + 1))), u6, u7] [] SH (up S 109 l5 (0).toInt) r))) → G sc MX11_look 51 [some (.ref 90), some (.int (I l1)), some (.int (I l2)), some (.int (I l3)), some (.int (I l4)), some (.int (I l5)), u6, u7] [] SH S r := by
  refine t_ld (pc := 51) dX11_look_51 rfl rfl rfl rfl rfl ?_
  refine t_bipush (pc := 53) dX11_look_53 (by decide) ?_
  refine t_ic_gt (pc := 55) 72 dX11_look_55 rfl ?_ ?_
  · refine t_iconst (pc := 72) dX11_look_72 ?_
    refine t_st (pc := 73) [some (.ref 90), some (.int (I l1)), some (.int (I l2)), some (.int (I l3)), some (.int (I l4)), some (.int (I 0)), u6, u7] dX11_look_73 rfl rfl rfl rfl rfl rfl ?_
    exact id
  · refine t_ld (pc := 58) dX11_look_58 rfl rfl rfl rfl rfl ?_
    refine t_getR (pc := 59) dX11_look_59 rfl h0.1 rfl ?_
    refine t_ld (pc := 62) dX11_look_62 rfl rfl rfl rfl rfl ?_
    refine t_pushv (pc := 64) (.long 0) dX11_look_64 rfl rfl ?_
    refine t_lastore (pc := 65) dX11_look_65 h0.2.2.2.2.2.2.2.2.2.2.2.2.2.2.2.2.2.2.2 ?_
    refine t_iinc (pc := 66) [some (.ref 90), some (.int (I l1)), some (.int (I l2)), some (.int (I l3)), some (.int (I l4)), some (.int (I (l5 + 1))), u6, u7] dX11_look_66 rfl rfl ?_
    refine t_goto (pc := 69) 51 dX11_look_69 rfl ?_
    exact id
theorem qX11_look_75 {sc : Nat × (Nat → Int32)} {SH : List mCell} {S : mStore} {r : mR × mW} (h0 : sMod SH) {l1 : Int} {l2 : Int} {l3 : Int} {l4 : Int} {l5 : Int} {u6 : Option Value} {u7 : Option Value} : ((if I 16 ≤ I l5 then G sc MX11_look 153 [some (.ref 90), some (.int (I l1)), some (.int (I l2)), some (.int (I l3)), some (.int (I l4)), some (.int (I (-1))), some (.int (I 0)), some (.int (I 1))] [] SH S r else ((0 ≤ l1 ∧ l1 < 5) ∧ (∃ v101 S102, G sc MX11_isGuess 0 [some (.ref 90), some (.int (I ((S 97 l1) + l2))), some (.int (I l3)), some (.int (I l5))] [] SH S (rI v101 SH S102) ∧ (if I v101 = I 0 then G sc MX11_look 75 [some (.ref 90), some (.int (I l1)), some (.int (I l2)), some (.int (I l3)), some (.int (I l4)), some (.int (I (l5 + 1))), u6, u7] [] SH S102 r else G sc MX11_look 106 [some (.ref 90), some (.int (I l1)), some (.int (I l2)), some (.int (I l3)), some (.int (I l4)), some (.int (I l5)), some (.int (I 1)), u7] [] SH S102 r))))) → G sc MX11_look 75 [some (.ref 90), some (.int (I l1)), some (.int (I l2)), some (.int (I l3)), some (.int (I l4)), some (.int (I l5)), u6, u7] [] SH S r := by
  refine t_ld (pc := 75) dX11_look_75 rfl rfl rfl rfl rfl ?_
  refine t_bipush (pc := 77) dX11_look_77 (by decide) ?_
  refine t_ic_ge (pc := 79) 144 dX11_look_79 rfl ?_ ?_
  · refine t_iconst (pc := 144) dX11_look_144 ?_
    refine t_st (pc := 145) [some (.ref 90), some (.int (I l1)), some (.int (I l2)), some (.int (I l3)), some (.int (I l4)), some (.int (I (-1))), u6, u7] dX11_look_145 rfl rfl rfl rfl rfl rfl ?_
    refine t_iconst (pc := 147) dX11_look_147 ?_
    refine t_st (pc := 148) [some (.ref 90), some (.int (I l1)), some (.int (I l2)), some (.int (I l3)), some (.int (I l4)), some (.int (I (-1))), some (.int (I 0)), u7] dX11_look_148 rfl rfl rfl rfl rfl rfl ?_
    refine t_iconst (pc := 150) dX11_look_150 ?_
    refine t_st (pc := 151) [some (.ref 90), some (.int (I l1)), some (.int (I l2)), some (.int (I l3)), some (.int (I l4)), some (.int (I (-1))), some (.int (I 0)), some (.int (I 1))] dX11_look_151 rfl rfl rfl rfl rfl rfl ?_
    exact id
  · refine t_ld (pc := 82) dX11_look_82 rfl rfl rfl rfl rfl ?_
    refine t_ld (pc := 83) dX11_look_83 rfl rfl rfl rfl rfl ?_
    refine t_getR (pc := 84) dX11_look_84 rfl h0.1 rfl ?_
    refine t_ld (pc := 87) dX11_look_87 rfl rfl rfl rfl rfl ?_
    refine t_iaload (pc := 88) dX11_look_88 h0.2.2.2.2.2.2.2.1 ?_
    refine t_ld (pc := 89) dX11_look_89 rfl rfl rfl rfl rfl ?_
    refine t_iadd (pc := 90) dX11_look_90 ?_
    refine t_ld (pc := 91) dX11_look_91 rfl rfl rfl rfl rfl ?_
    refine t_ld (pc := 92) dX11_look_92 rfl rfl rfl rfl rfl ?_
    refine t_vcIN (pc := 94) dX11_look_94 rfl rfl [] rfl rfl ⟨rfl, by decide, Nat.le_of_ble_eq_true rfl⟩ h0.1 fun v101 S102 => ?_
    refine t_if_ne (pc := 97) 103 dX11_look_97 rfl ?_ ?_
    · refine t_iconst (pc := 103) dX11_look_103 ?_
      refine t_st (pc := 104) [some (.ref 90), some (.int (I l1)), some (.int (I l2)), some (.int (I l3)), some (.int (I l4)), some (.int (I l5)), some (.int (I 1)), u7] dX11_look_104 rfl rfl rfl rfl rfl rfl ?_
      exact id
    · refine t_goto (pc := 100) 138 dX11_look_100 rfl ?_
      refine t_iinc (pc := 138) [some (.ref 90), some (.int (I l1)), some (.int (I l2)), some (.int (I l3)), some (.int (I l4)), some (.int (I (l5 + 1))), u6, u7] dX11_look_138 rfl rfl ?_
      refine t_goto (pc := 141) 75 dX11_look_141 rfl ?_
      exact id
theorem qX11_look_106 {sc : Nat × (Nat → Int32)} {SH : List mCell} {S : mStore} {r : mR × mW} (h0 : sMod SH) {l1 : Int} {l2 : Int} {l3 : Int} {l4 : Int} {l5 : Int} {l6 : Int} {u7 : Option Value} : ((if I 20 < I l6 then G sc MX11_look 75 [some (.ref 90), some (.int (I l1)), some (.int (I l2)), some (.int (I l3)), some (.int (I l4)), some (.int (I (l5 + 1))), some (.int (I l6)), u7] [] SH S r else ((0 ≤ l6 ∧ l6 < 21) ∧ ((0 ≤ l6 ∧ l6 < 21) ∧ ((0 ≤ l6 ∧ l6 < 21) ∧ G sc MX11_look 106 [some (.ref 90), some (.int (I l1)), some (.int (I l2)), some (.int (I l3)), some (.int (I l4)), some (.int (I l5)), some (.int (I (l6 + 1))), u7] [] SH (up S 109 l6 ((Int64.ofInt (S 109 l6)) ||| (jsl 1 (S 108 l6))).toInt) r))))) → G sc MX11_look 106 [some (.ref 90), some (.int (I l1)), some (.int (I l2)), some (.int (I l3)), some (.int (I l4)), some (.int (I l5)), some (.int (I l6)), u7] [] SH S r := by
  refine t_ld (pc := 106) dX11_look_106 rfl rfl rfl rfl rfl ?_
  refine t_bipush (pc := 108) dX11_look_108 (by decide) ?_
  refine t_ic_gt (pc := 110) 138 dX11_look_110 rfl ?_ ?_
  · refine t_iinc (pc := 138) [some (.ref 90), some (.int (I l1)), some (.int (I l2)), some (.int (I l3)), some (.int (I l4)), some (.int (I (l5 + 1))), some (.int (I l6)), u7] dX11_look_138 rfl rfl ?_
    refine t_goto (pc := 141) 75 dX11_look_141 rfl ?_
    exact id
  · refine t_ld (pc := 113) dX11_look_113 rfl rfl rfl rfl rfl ?_
    refine t_getR (pc := 114) dX11_look_114 rfl h0.1 rfl ?_
    refine t_ld (pc := 117) dX11_look_117 rfl rfl rfl rfl rfl ?_
    refine t_dup2 (pc := 119) dX11_look_119 rfl rfl ?_
    refine t_laload (pc := 120) dX11_look_120 h0.2.2.2.2.2.2.2.2.2.2.2.2.2.2.2.2.2.2.2 ?_
    refine t_pushv (pc := 121) (.long 1) dX11_look_121 rfl rfl ?_
    refine t_ld (pc := 122) dX11_look_122 rfl rfl rfl rfl rfl ?_
    refine t_getR (pc := 123) dX11_look_123 rfl h0.1 rfl ?_
    refine t_ld (pc := 126) dX11_look_126 rfl rfl rfl rfl rfl ?_
    refine t_iaload (pc := 128) dX11_look_128 h0.2.2.2.2.2.2.2.2.2.2.2.2.2.2.2.2.2.2.1 ?_
    refine t_lshl (pc := 129) dX11_look_129 ?_
    refine t_lor (pc := 130) dX11_look_130 ?_
    refine t_lastore (pc := 131) dX11_look_131 h0.2.2.2.2.2.2.2.2.2.2.2.2.2.2.2.2.2.2.2 ?_
    refine t_iinc (pc := 132) [some (.ref 90), some (.int (I l1)), some (.int (I l2)), some (.int (I l3)), some (.int (I l4)), some (.int (I l5)), some (.int (I (l6 + 1))), u7] dX11_look_132 rfl rfl ?_
    refine t_goto (pc := 135) 106 dX11_look_135 rfl ?_
    exact id
theorem qX11_look_153 {sc : Nat × (Nat → Int32)} {SH : List mCell} {S : mStore} {r : mR × mW} (h0 : sMod SH) {l1 : Int} {l2 : Int} {l3 : Int} {l4 : Int} {l5 : Int} {l6 : Int} {l7 : Int} : ((if I 20 < I l7 then (if I l4 = I 0 then r = rI l5 SH S else r = rI l6 SH S) else ((0 ≤ l7 ∧ l7 < 21) ∧ (∃ v101 S102, G sc MX11_ones 0 [some (.long (Int64.ofInt (S 109 l7))), none, none, none] [] SH S (rI v101 SH S102) ∧ (if I l6 < I v101 then ((0 ≤ l7 ∧ l7 < 21) ∧ (∃ v103 S104, G sc MX11_ones 0 [some (.long (Int64.ofInt (S102 109 l7))), none, none, none] [] SH S102 (rI v103 SH S104) ∧ G sc MX11_look 153 [some (.ref 90), some (.int (I l1)), some (.int (I l2)), some (.int (I l3)), some (.int (I l4)), some (.int (I l7)), some (.int (I v103)), some (.int (I (l7 + 1)))] [] SH S104 r)) else G sc MX11_look 153 [some (.ref 90), some (.int (I l1)), some (.int (I l2)), some (.int (I l3)), some (.int (I l4)), some (.int (I l5)), some (.int (I l6)), some (.int (I (l7 + 1)))] [] SH S102 r))))) → G sc MX11_look 153 [some (.ref 90), some (.int (I l1)), some (.int (I l2)), some (.int (I l3)), some (.int (I l4)), some (.int (I l5)), some (.int (I l6)), some (.int (I l7))] [] SH S r := by
  refine t_ld (pc := 153) dX11_look_153 rfl rfl rfl rfl rfl ?_
  refine t_bipush (pc := 155) dX11_look_155 (by decide) ?_
  refine t_ic_gt (pc := 157) 200 dX11_look_157 rfl ?_ ?_
  · refine t_ld (pc := 200) dX11_look_200 rfl rfl rfl rfl rfl ?_
    refine t_if_ne (pc := 202) 210 dX11_look_202 rfl ?_ ?_
    · refine t_ld (pc := 210) dX11_look_210 rfl rfl rfl rfl rfl ?_
      exact t_iret (pc := 212) dX11_look_212 rfl
    · refine t_ld (pc := 205) dX11_look_205 rfl rfl rfl rfl rfl ?_
      refine t_goto (pc := 207) 212 dX11_look_207 rfl ?_
      exact t_iret (pc := 212) dX11_look_212 rfl
  · refine t_ld (pc := 160) dX11_look_160 rfl rfl rfl rfl rfl ?_
    refine t_getR (pc := 161) dX11_look_161 rfl h0.1 rfl ?_
    refine t_ld (pc := 164) dX11_look_164 rfl rfl rfl rfl rfl ?_
    refine t_laload (pc := 166) dX11_look_166 h0.2.2.2.2.2.2.2.2.2.2.2.2.2.2.2.2.2.2.2 ?_
    refine t_scIN (pc := 167) dX11_look_167 rfl [] rfl rfl ⟨rfl, by decide, Nat.le_of_ble_eq_true rfl⟩ fun v101 S102 => ?_
    refine t_ld (pc := 170) dX11_look_170 rfl rfl rfl rfl rfl ?_
    refine t_ic_gt (pc := 172) 178 dX11_look_172 rfl ?_ ?_
    · refine t_ld (pc := 178) dX11_look_178 rfl rfl rfl rfl rfl ?_
      refine t_st (pc := 180) [some (.ref 90), some (.int (I l1)), some (.int (I l2)), some (.int (I l3)), some (.int (I l4)), some (.int (I l7)), some (.int (I l6)), some (.int (I l7))] dX11_look_180 rfl rfl rfl rfl rfl rfl ?_
      refine t_ld (pc := 182) dX11_look_182 rfl rfl rfl rfl rfl ?_
      refine t_getR (pc := 183) dX11_look_183 rfl h0.1 rfl ?_
      refine t_ld (pc := 186) dX11_look_186 rfl rfl rfl rfl rfl ?_
      refine t_laload (pc := 188) dX11_look_188 h0.2.2.2.2.2.2.2.2.2.2.2.2.2.2.2.2.2.2.2 ?_
      refine t_scIN (pc := 189) dX11_look_189 rfl [] rfl rfl ⟨rfl, by decide, Nat.le_of_ble_eq_true rfl⟩ fun v103 S104 => ?_
      refine t_st (pc := 192) [some (.ref 90), some (.int (I l1)), some (.int (I l2)), some (.int (I l3)), some (.int (I l4)), some (.int (I l7)), some (.int (I v103)), some (.int (I l7))] dX11_look_192 rfl rfl rfl rfl rfl rfl ?_
      refine t_iinc (pc := 194) [some (.ref 90), some (.int (I l1)), some (.int (I l2)), some (.int (I l3)), some (.int (I l4)), some (.int (I l7)), some (.int (I v103)), some (.int (I (l7 + 1)))] dX11_look_194 rfl rfl ?_
      refine t_goto (pc := 197) 153 dX11_look_197 rfl ?_
      exact id
    · refine t_goto (pc := 175) 194 dX11_look_175 rfl ?_
      refine t_iinc (pc := 194) [some (.ref 90), some (.int (I l1)), some (.int (I l2)), some (.int (I l3)), some (.int (I l4)), some (.int (I l5)), some (.int (I l6)), some (.int (I (l7 + 1)))] dX11_look_194 rfl rfl ?_
      refine t_goto (pc := 197) 153 dX11_look_197 rfl ?_
      exact id
theorem qX11_forget_0 {sc : Nat × (Nat → Int32)} {SH : List mCell} {S : mStore} {r : mR × mW} (h0 : sMod SH) : (r = rV SH (up (up S 90 4 0) 90 7 0)) → G sc MX11_forget 0 [some (.ref 90)] [] SH S r := by
  refine t_ld (pc := 0) dX11_forget_0 rfl rfl rfl rfl rfl ?_
  refine t_iconst (pc := 1) dX11_forget_1 ?_
  refine t_putI (pc := 2) dX11_forget_2 rfl rfl (Or.inl rfl) h0.1 rfl ?_
  refine t_ld (pc := 5) dX11_forget_5 rfl rfl rfl rfl rfl ?_
  refine t_iconst (pc := 6) dX11_forget_6 ?_
  refine t_putI (pc := 7) dX11_forget_7 rfl rfl (Or.inl rfl) h0.1 rfl ?_
  exact t_ret (pc := 10) dX11_forget_10 rfl
theorem qX11_dirt_0 {sc : Nat × (Nat → Int32)} {SH : List mCell} {S : mStore} {r : mR × mW} (h0 : sMod SH) {l1 : Int} {l2 : Int} {l3 : Int} {l4 : Int} {l5 : Int} {u6 : Option Value} {u7 : Option Value} {u8 : Option Value} {u9 : Option Value} {u10 : Option Value} {u11 : Option Value} : ((∃ v101 S102, G sc MX11_isPage 0 [some (.ref 90), some (.int (I l1)), some (.int (I l2))] [] SH (up S 90 4 0) (rI v101 SH S102) ∧ (if I v101 = I 0 then r = rI 0 SH S102 else (∃ v103 S104, G sc MX11_within 0 [some (.int (I l3)), some (.int (I 1)), some (.int (I 4))] [] SH S102 (rI v103 SH S104) ∧ (if I v103 = I 0 then (∃ v105 S106, G sc MX11_right 0 [some (.ref 90), some (.int (I 0)), some (.int (I 2))] [] SH S104 (rI v105 SH S106) ∧ (if I v105 = I 0 then r = rI 0 SH S106 else ((0 ≤ l1 ∧ l1 < 5) ∧ G sc MX11_dirt 65 [some (.ref 90), some (.int (I l1)), some (.int (I l2)), some (.int (I l3)), some (.int (I l4)), some (.int (I l5)), some (.int (I ((S106 97 l1) + l2))), some (.int (I 0)), some (.int (I 0)), u9, u10, u11] [] SH S106 r))) else (∃ v107 S108, G sc MX11_within 0 [some (.int (I l4)), some (.int (I 0)), some (.int (I 10))] [] SH S104 (rI v107 SH S108) ∧ (if I v107 = I 0 then (∃ v109 S110, G sc MX11_right 0 [some (.ref 90), some (.int (I 0)), some (.int (I 2))] [] SH S108 (rI v109 SH S110) ∧ (if I v109 = I 0 then r = rI 0 SH S110 else ((0 ≤ l1 ∧ l1 < 5) ∧ G sc MX11_dirt 65 [some (.ref 90), some (.int (I l1)), some (.int (I l2)), some (.int (I l3)), some (.int (I l4)), some (.int (I l5)), some (.int (I ((S110 97 l1) + l2))), some (.int (I 0)), some (.int (I 0)), u9, u10, u11] [] SH S110 r))) else (∃ v111 S112, G sc MX11_right 0 [some (.ref 90), some (.int (I 1)), some (.int (I 2))] [] SH S108 (rI v111 SH S112) ∧ (if I v111 = I 0 then r = rI 0 SH S112 else ((0 ≤ l1 ∧ l1 < 5) ∧ G sc MX11_dirt 65 [some (.ref 90), some (.int (I l1)), some (.int (I l2)), some (.int (I l3)), some (.int (I l4)), some (.int (I l5)), some (.int (I ((S112 97 l1) + l2))), some (.int (I 0)), some (.int (I 0)), u9, u10, u11] [] SH S112 r)))))))))) → G sc MX11_dirt 0 [some (.ref 90), some (.int (I l1)), some (.int (I l2)), some (.int (I l3)), some (.int (I l4)), some (.int (I l5)), u6, u7, u8, u9, u10, u11] [] SH S r := by
  refine t_ld (pc := 0) dX11_dirt_0 rfl rfl rfl rfl rfl ?_
  refine t_iconst (pc := 1) dX11_dirt_1 ?_
  refine t_putI (pc := 2) dX11_dirt_2 rfl rfl (Or.inl rfl) h0.1 rfl ?_
  refine t_ld (pc := 5) dX11_dirt_5 rfl rfl rfl rfl rfl ?_
  refine t_ld (pc := 6) dX11_dirt_6 rfl rfl rfl rfl rfl ?_
  refine t_ld (pc := 7) dX11_dirt_7 rfl rfl rfl rfl rfl ?_
  refine t_vcIN (pc := 8) dX11_dirt_8 rfl rfl [] rfl rfl ⟨rfl, by decide, Nat.le_of_ble_eq_true rfl⟩ h0.1 fun v101 S102 => ?_
  refine t_if_eq (pc := 11) 47 dX11_dirt_11 rfl ?_ ?_
  · refine t_iconst (pc := 47) dX11_dirt_47 ?_
    exact t_iret (pc := 48) dX11_dirt_48 rfl
  · refine t_ld (pc := 14) dX11_dirt_14 rfl rfl rfl rfl rfl ?_
    refine t_ld (pc := 15) dX11_dirt_15 rfl rfl rfl rfl rfl ?_
    refine t_iconst (pc := 16) dX11_dirt_16 ?_
    refine t_iconst (pc := 17) dX11_dirt_17 ?_
    refine t_scIN (pc := 18) dX11_dirt_18 rfl [.ref 90] rfl rfl ⟨rfl, by decide, Nat.le_of_ble_eq_true rfl⟩ fun v103 S104 => ?_
    refine t_if_eq (pc := 21) 39 dX11_dirt_21 rfl ?_ ?_
    · refine t_iconst (pc := 39) dX11_dirt_39 ?_
      refine t_iconst (pc := 40) dX11_dirt_40 ?_
      refine t_vcIN (pc := 41) dX11_dirt_41 rfl rfl [] rfl rfl ⟨rfl, by decide, Nat.le_of_ble_eq_true rfl⟩ h0.1 fun v105 S106 => ?_
      refine t_if_ne (pc := 44) 49 dX11_dirt_44 rfl ?_ ?_
      · refine t_ld (pc := 49) dX11_dirt_49 rfl rfl rfl rfl rfl ?_
        refine t_getR (pc := 50) dX11_dirt_50 rfl h0.1 rfl ?_
        refine t_ld (pc := 53) dX11_dirt_53 rfl rfl rfl rfl rfl ?_
        refine t_iaload (pc := 54) dX11_dirt_54 h0.2.2.2.2.2.2.2.1 ?_
        refine t_ld (pc := 55) dX11_dirt_55 rfl rfl rfl rfl rfl ?_
        refine t_iadd (pc := 56) dX11_dirt_56 ?_
        refine t_st (pc := 57) [some (.ref 90), some (.int (I l1)), some (.int (I l2)), some (.int (I l3)), some (.int (I l4)), some (.int (I l5)), some (.int (I ((S106 97 l1) + l2))), u7, u8, u9, u10, u11] dX11_dirt_57 rfl rfl rfl rfl rfl rfl ?_
        refine t_iconst (pc := 59) dX11_dirt_59 ?_
        refine t_st (pc := 60) [some (.ref 90), some (.int (I l1)), some (.int (I l2)), some (.int (I l3)), some (.int (I l4)), some (.int (I l5)), some (.int (I ((S106 97 l1) + l2))), some (.int (I 0)), u8, u9, u10, u11] dX11_dirt_60 rfl rfl rfl rfl rfl rfl ?_
        refine t_iconst (pc := 62) dX11_dirt_62 ?_
        refine t_st (pc := 63) [some (.ref 90), some (.int (I l1)), some (.int (I l2)), some (.int (I l3)), some (.int (I l4)), some (.int (I l5)), some (.int (I ((S106 97 l1) + l2))), some (.int (I 0)), some (.int (I 0)), u9, u10, u11] dX11_dirt_63 rfl rfl rfl rfl rfl rfl ?_
        exact id
      · refine t_iconst (pc := 47) dX11_dirt_47 ?_
        exact t_iret (pc := 48) dX11_dirt_48 rfl
    · refine t_ld (pc := 24) dX11_dirt_24 rfl rfl rfl rfl rfl ?_
      refine t_iconst (pc := 26) dX11_dirt_26 ?_
      refine t_bipush (pc := 27) dX11_dirt_27 (by decide) ?_
      refine t_scIN (pc := 29) dX11_dirt_29 rfl [.ref 90] rfl rfl ⟨rfl, by decide, Nat.le_of_ble_eq_true rfl⟩ fun v107 S108 => ?_
      refine t_if_eq (pc := 32) 39 dX11_dirt_32 rfl ?_ ?_
      · refine t_iconst (pc := 39) dX11_dirt_39 ?_
        refine t_iconst (pc := 40) dX11_dirt_40 ?_
        refine t_vcIN (pc := 41) dX11_dirt_41 rfl rfl [] rfl rfl ⟨rfl, by decide, Nat.le_of_ble_eq_true rfl⟩ h0.1 fun v109 S110 => ?_
        refine t_if_ne (pc := 44) 49 dX11_dirt_44 rfl ?_ ?_
        · refine t_ld (pc := 49) dX11_dirt_49 rfl rfl rfl rfl rfl ?_
          refine t_getR (pc := 50) dX11_dirt_50 rfl h0.1 rfl ?_
          refine t_ld (pc := 53) dX11_dirt_53 rfl rfl rfl rfl rfl ?_
          refine t_iaload (pc := 54) dX11_dirt_54 h0.2.2.2.2.2.2.2.1 ?_
          refine t_ld (pc := 55) dX11_dirt_55 rfl rfl rfl rfl rfl ?_
          refine t_iadd (pc := 56) dX11_dirt_56 ?_
          refine t_st (pc := 57) [some (.ref 90), some (.int (I l1)), some (.int (I l2)), some (.int (I l3)), some (.int (I l4)), some (.int (I l5)), some (.int (I ((S110 97 l1) + l2))), u7, u8, u9, u10, u11] dX11_dirt_57 rfl rfl rfl rfl rfl rfl ?_
          refine t_iconst (pc := 59) dX11_dirt_59 ?_
          refine t_st (pc := 60) [some (.ref 90), some (.int (I l1)), some (.int (I l2)), some (.int (I l3)), some (.int (I l4)), some (.int (I l5)), some (.int (I ((S110 97 l1) + l2))), some (.int (I 0)), u8, u9, u10, u11] dX11_dirt_60 rfl rfl rfl rfl rfl rfl ?_
          refine t_iconst (pc := 62) dX11_dirt_62 ?_
          refine t_st (pc := 63) [some (.ref 90), some (.int (I l1)), some (.int (I l2)), some (.int (I l3)), some (.int (I l4)), some (.int (I l5)), some (.int (I ((S110 97 l1) + l2))), some (.int (I 0)), some (.int (I 0)), u9, u10, u11] dX11_dirt_63 rfl rfl rfl rfl rfl rfl ?_
          exact id
        · refine t_iconst (pc := 47) dX11_dirt_47 ?_
          exact t_iret (pc := 48) dX11_dirt_48 rfl
      · refine t_iconst (pc := 35) dX11_dirt_35 ?_
        refine t_goto (pc := 36) 40 dX11_dirt_36 rfl ?_
        refine t_iconst (pc := 40) dX11_dirt_40 ?_
        refine t_vcIN (pc := 41) dX11_dirt_41 rfl rfl [] rfl rfl ⟨rfl, by decide, Nat.le_of_ble_eq_true rfl⟩ h0.1 fun v111 S112 => ?_
        refine t_if_ne (pc := 44) 49 dX11_dirt_44 rfl ?_ ?_
        · refine t_ld (pc := 49) dX11_dirt_49 rfl rfl rfl rfl rfl ?_
          refine t_getR (pc := 50) dX11_dirt_50 rfl h0.1 rfl ?_
          refine t_ld (pc := 53) dX11_dirt_53 rfl rfl rfl rfl rfl ?_
          refine t_iaload (pc := 54) dX11_dirt_54 h0.2.2.2.2.2.2.2.1 ?_
          refine t_ld (pc := 55) dX11_dirt_55 rfl rfl rfl rfl rfl ?_
          refine t_iadd (pc := 56) dX11_dirt_56 ?_
          refine t_st (pc := 57) [some (.ref 90), some (.int (I l1)), some (.int (I l2)), some (.int (I l3)), some (.int (I l4)), some (.int (I l5)), some (.int (I ((S112 97 l1) + l2))), u7, u8, u9, u10, u11] dX11_dirt_57 rfl rfl rfl rfl rfl rfl ?_
          refine t_iconst (pc := 59) dX11_dirt_59 ?_
          refine t_st (pc := 60) [some (.ref 90), some (.int (I l1)), some (.int (I l2)), some (.int (I l3)), some (.int (I l4)), some (.int (I l5)), some (.int (I ((S112 97 l1) + l2))), some (.int (I 0)), u8, u9, u10, u11] dX11_dirt_60 rfl rfl rfl rfl rfl rfl ?_
          refine t_iconst (pc := 62) dX11_dirt_62 ?_
          refine t_st (pc := 63) [some (.ref 90), some (.int (I l1)), some (.int (I l2)), some (.int (I l3)), some (.int (I l4)), some (.int (I l5)), some (.int (I ((S112 97 l1) + l2))), some (.int (I 0)), some (.int (I 0)), u9, u10, u11] dX11_dirt_63 rfl rfl rfl rfl rfl rfl ?_
          exact id
        · refine t_iconst (pc := 47) dX11_dirt_47 ?_
          exact t_iret (pc := 48) dX11_dirt_48 rfl
theorem qX11_dirt_65 {sc : Nat × (Nat → Int32)} {SH : List mCell} {S : mStore} {r : mR × mW} (h0 : sMod SH) {l1 : Int} {l2 : Int} {l3 : Int} {l4 : Int} {l5 : Int} {l6 : Int} {l7 : Int} {l8 : Int} {u9 : Option Value} {u10 : Option Value} {u11 : Option Value} : ((if I (isl 1 l3) ≤ I l8 then r = rI l7 SH S else (∃ S101, G sc MX11_tries 0 [some (.ref 90)] [] SH S (rV SH S101) ∧ G sc MX11_dirt 83 [some (.ref 90), some (.int (I l1)), some (.int (I l2)), some (.int (I l3)), some (.int (I l4)), some (.int (I l5)), some (.int (I l6)), some (.int (I l7)), some (.int (I l8)), some (.int (I 1)), some (.int (I 0)), u11] [] SH S101 r))) → G sc MX11_dirt 65 [some (.ref 90), some (.int (I l1)), some (.int (I l2)), some (.int (I l3)), some (.int (I l4)), some (.int (I l5)), some (.int (I l6)), some (.int (I l7)), some (.int (I l8)), u9, u10, u11] [] SH S r := by
  refine t_ld (pc := 65) dX11_dirt_65 rfl rfl rfl rfl rfl ?_
  refine t_iconst (pc := 67) dX11_dirt_67 ?_
  refine t_ld (pc := 68) dX11_dirt_68 rfl rfl rfl rfl rfl ?_
  refine t_ishl (pc := 69) dX11_dirt_69 ?_
  refine t_ic_ge (pc := 70) 198 dX11_dirt_70 rfl ?_ ?_
  · refine t_ld (pc := 198) dX11_dirt_198 rfl rfl rfl rfl rfl ?_
    exact t_iret (pc := 200) dX11_dirt_200 rfl
  · refine t_iconst (pc := 73) dX11_dirt_73 ?_
    refine t_st (pc := 74) [some (.ref 90), some (.int (I l1)), some (.int (I l2)), some (.int (I l3)), some (.int (I l4)), some (.int (I l5)), some (.int (I l6)), some (.int (I l7)), some (.int (I l8)), some (.int (I 1)), u10, u11] dX11_dirt_74 rfl rfl rfl rfl rfl rfl ?_
    refine t_ld (pc := 76) dX11_dirt_76 rfl rfl rfl rfl rfl ?_
    refine t_vcVN (pc := 77) dX11_dirt_77 rfl rfl [] rfl rfl ⟨rfl, by decide, Nat.le_of_ble_eq_true rfl⟩ h0.1 fun S101 => ?_
    refine t_iconst (pc := 80) dX11_dirt_80 ?_
    refine t_st (pc := 81) [some (.ref 90), some (.int (I l1)), some (.int (I l2)), some (.int (I l3)), some (.int (I l4)), some (.int (I l5)), some (.int (I l6)), some (.int (I l7)), some (.int (I l8)), some (.int (I 1)), some (.int (I 0)), u11] dX11_dirt_81 rfl rfl rfl rfl rfl rfl ?_
    exact id
theorem qX11_dirt_83 {sc : Nat × (Nat → Int32)} {SH : List mCell} {S : mStore} {r : mR × mW} (h0 : sMod SH) {l1 : Int} {l2 : Int} {l3 : Int} {l4 : Int} {l5 : Int} {l6 : Int} {l7 : Int} {l8 : Int} {l9 : Int} {l10 : Int} {u11 : Option Value} : ((if I l3 ≤ I l10 then (∃ v101 S102, G sc MX11_usedOf 0 [some (.ref 90), some (.int (I 1654)), none, none] [] SH S (rI v101 SH S102) ∧ (if I l5 < I v101 then G sc MX11_dirt 65 [some (.ref 90), some (.int (I l1)), some (.int (I l2)), some (.int (I l3)), some (.int (I l4)), some (.int (I l5)), some (.int (I l6)), some (.int (I l7)), some (.int (I (l8 + 1))), some (.int (I l9)), some (.int (I l10)), u11] [] SH S102 r else G sc MX11_dirt 65 [some (.ref 90), some (.int (I l1)), some (.int (I l2)), some (.int (I l3)), some (.int (I l4)), some (.int (I l5)), some (.int (I l6)), some (.int (I (l7 + l9))), some (.int (I (l8 + 1))), some (.int (I l9)), some (.int (I l10)), u11] [] SH S102 r)) else (if I (ian (isr l8 l10) 1) = I 1 then (if I 1 = I 0 then (if I 1 = I 0 then G sc MX11_dirt 158 [some (.ref 90), some (.int (I l1)), some (.int (I l2)), some (.int (I l3)), some (.int (I l4)), some (.int (I l5)), some (.int (I l6)), some (.int (I l7)), some (.int (I l8)), some (.int (I (l9 * (10 - l4)))), some (.int (I l10)), some (.int (I 1))] [] SH S r else (∃ v111 S112, G sc MX11_cellOf 0 [some (.ref 90), some (.int (I 1654)), some (.int (I l6)), some (.int (I 0)), none] [] SH S (rI v111 SH S112) ∧ (∃ v113 S114, G sc MX11_writesCell 0 [some (.ref 90), some (.int (I 1654)), some (.int (I l6)), some (.int (I 0)), some (.int (I ((v111 + 1) - idv (v111 + 1) 16 * 16)))] [] SH S112 (rI v113 SH S114) ∧ G sc MX11_dirt 158 [some (.ref 90), some (.int (I l1)), some (.int (I l2)), some (.int (I l3)), some (.int (I l4)), some (.int (I l5)), some (.int (I l6)), some (.int (I l7)), some (.int (I l8)), some (.int (I (l9 * (10 - l4)))), some (.int (I l10)), some (.int (I 1))] [] SH S114 r))) else (if I 1 = I 0 then G sc MX11_dirt 158 [some (.ref 90), some (.int (I l1)), some (.int (I l2)), some (.int (I l3)), some (.int (I l4)), some (.int (I l5)), some (.int (I l6)), some (.int (I l7)), some (.int (I l8)), some (.int (I (l9 * l4))), some (.int (I l10)), some (.int (I 1))] [] SH S r else (∃ v115 S116, G sc MX11_cellOf 0 [some (.ref 90), some (.int (I 1654)), some (.int (I l6)), some (.int (I 0)), none] [] SH S (rI v115 SH S116) ∧ (∃ v117 S118, G sc MX11_writesCell 0 [some (.ref 90), some (.int (I 1654)), some (.int (I l6)), some (.int (I 0)), some (.int (I ((v115 + 1) - idv (v115 + 1) 16 * 16)))] [] SH S116 (rI v117 SH S118) ∧ G sc MX11_dirt 158 [some (.ref 90), some (.int (I l1)), some (.int (I l2)), some (.int (I l3)), some (.int (I l4)), some (.int (I l5)), some (.int (I l6)), some (.int (I l7)), some (.int (I l8)), some (.int (I (l9 * l4))), some (.int (I l10)), some (.int (I 1))] [] SH S118 r)))) else (if I 0 = I 0 then (if I 0 = I 0 then G sc MX11_dirt 158 [some (.ref 90), some (.int (I l1)), some (.int (I l2)), some (.int (I l3)), some (.int (I l4)), some (.int (I l5)), some (.int (I l6)), some (.int (I l7)), some (.int (I l8)), some (.int (I (l9 * (10 - l4)))), some (.int (I l10)), some (.int (I 0))] [] SH S r else (∃ v103 S104, G sc MX11_cellOf 0 [some (.ref 90), some (.int (I 1654)), some (.int (I l6)), some (.int (I 0)), none] [] SH S (rI v103 SH S104) ∧ (∃ v105 S106, G sc MX11_writesCell 0 [some (.ref 90), some (.int (I 1654)), some (.int (I l6)), some (.int (I 0)), some (.int (I ((v103 + 1) - idv (v103 + 1) 16 * 16)))] [] SH S104 (rI v105 SH S106) ∧ G sc MX11_dirt 158 [some (.ref 90), some (.int (I l1)), some (.int (I l2)), some (.int (I l3)), some (.int (I l4)), some (.int (I l5)), some (.int (I l6)), some (.int (I l7)), some (.int (I l8)), some (.int (I (l9 * (10 - l4)))), some (.int (I l10)), some (.int (I 0))] [] SH S106 r))) else (if I 0 = I 0 then G sc MX11_dirt 158 [some (.ref 90), some (.int (I l1)), some (.int (I l2)), some (.int (I l3)), some (.int (I l4)), some (.int (I l5)), some (.int (I l6)), some (.int (I l7)), some (.int (I l8)), some (.int (I (l9 * l4))), some (.int (I l10)), some (.int (I 0))] [] SH S r else (∃ v107 S108, G sc MX11_cellOf 0 [some (.ref 90), some (.int (I 1654)), some (.int (I l6)), some (.int (I 0)), none] [] SH S (rI v107 SH S108) ∧ (∃ v109 S110, G sc MX11_writesCell 0 [some (.ref 90), some (.int (I 1654)), some (.int (I l6)), some (.int (I 0)), some (.int (I ((v107 + 1) - idv (v107 + 1) 16 * 16)))] [] SH S108 (rI v109 SH S110) ∧ G sc MX11_dirt 158 [some (.ref 90), some (.int (I l1)), some (.int (I l2)), some (.int (I l3)), some (.int (I l4)), some (.int (I l5)), some (.int (I l6)), some (.int (I l7)), some (.int (I l8)), some (.int (I (l9 * l4))), some (.int (I l10)), some (.int (I 0))] [] SH S110 r))))))) → G sc MX11_dirt 83 [some (.ref 90), some (.int (I l1)), some (.int (I l2)), some (.int (I l3)), some (.int (I l4)), some (.int (I l5)), some (.int (I l6)), some (.int (I l7)), some (.int (I l8)), some (.int (I l9)), some (.int (I l10)), u11] [] SH S r := by
  refine t_ld (pc := 83) dX11_dirt_83 rfl rfl rfl rfl rfl ?_
  refine t_ld (pc := 85) dX11_dirt_85 rfl rfl rfl rfl rfl ?_
  refine t_ic_ge (pc := 86) 173 dX11_dirt_86 rfl ?_ ?_
  · refine t_ld (pc := 173) dX11_dirt_173 rfl rfl rfl rfl rfl ?_
    refine t_sipush (pc := 174) dX11_dirt_174 (by decide) ?_
    refine t_vcIN (pc := 177) dX11_dirt_177 rfl rfl [] rfl rfl ⟨rfl, by decide, Nat.le_of_ble_eq_true rfl⟩ h0.1 fun v101 S102 => ?_
    refine t_ld (pc := 180) dX11_dirt_180 rfl rfl rfl rfl rfl ?_
    refine t_ic_gt (pc := 182) 192 dX11_dirt_182 rfl ?_ ?_
    · refine t_iinc (pc := 192) [some (.ref 90), some (.int (I l1)), some (.int (I l2)), some (.int (I l3)), some (.int (I l4)), some (.int (I l5)), some (.int (I l6)), some (.int (I l7)), some (.int (I (l8 + 1))), some (.int (I l9)), some (.int (I l10)), u11] dX11_dirt_192 rfl rfl ?_
      refine t_goto (pc := 195) 65 dX11_dirt_195 rfl ?_
      exact id
    · refine t_ld (pc := 185) dX11_dirt_185 rfl rfl rfl rfl rfl ?_
      refine t_ld (pc := 187) dX11_dirt_187 rfl rfl rfl rfl rfl ?_
      refine t_iadd (pc := 189) dX11_dirt_189 ?_
      refine t_st (pc := 190) [some (.ref 90), some (.int (I l1)), some (.int (I l2)), some (.int (I l3)), some (.int (I l4)), some (.int (I l5)), some (.int (I l6)), some (.int (I (l7 + l9))), some (.int (I l8)), some (.int (I l9)), some (.int (I l10)), u11] dX11_dirt_190 rfl rfl rfl rfl rfl rfl ?_
      refine t_iinc (pc := 192) [some (.ref 90), some (.int (I l1)), some (.int (I l2)), some (.int (I l3)), some (.int (I l4)), some (.int (I l5)), some (.int (I l6)), some (.int (I (l7 + l9))), some (.int (I (l8 + 1))), some (.int (I l9)), some (.int (I l10)), u11] dX11_dirt_192 rfl rfl ?_
      refine t_goto (pc := 195) 65 dX11_dirt_195 rfl ?_
      exact id
  · refine t_ld (pc := 89) dX11_dirt_89 rfl rfl rfl rfl rfl ?_
    refine t_ld (pc := 91) dX11_dirt_91 rfl rfl rfl rfl rfl ?_
    refine t_ishr (pc := 93) dX11_dirt_93 ?_
    refine t_iconst (pc := 94) dX11_dirt_94 ?_
    refine t_iand (pc := 95) dX11_dirt_95 ?_
    refine t_iconst (pc := 96) dX11_dirt_96 ?_
    refine t_ic_ne (pc := 97) 104 dX11_dirt_97 rfl ?_ ?_
    · refine t_iconst (pc := 104) dX11_dirt_104 ?_
      refine t_st (pc := 105) [some (.ref 90), some (.int (I l1)), some (.int (I l2)), some (.int (I l3)), some (.int (I l4)), some (.int (I l5)), some (.int (I l6)), some (.int (I l7)), some (.int (I l8)), some (.int (I l9)), some (.int (I l10)), some (.int (I 0))] dX11_dirt_105 rfl rfl rfl rfl rfl rfl ?_
      refine t_ld (pc := 107) dX11_dirt_107 rfl rfl rfl rfl rfl ?_
      refine t_ld (pc := 109) dX11_dirt_109 rfl rfl rfl rfl rfl ?_
      refine t_if_eq (pc := 111) 119 dX11_dirt_111 rfl ?_ ?_
      · refine t_bipush (pc := 119) dX11_dirt_119 (by decide) ?_
        refine t_ld (pc := 121) dX11_dirt_121 rfl rfl rfl rfl rfl ?_
        refine t_isub (pc := 123) dX11_dirt_123 ?_
        refine t_imul (pc := 124) dX11_dirt_124 ?_
        refine t_st (pc := 125) [some (.ref 90), some (.int (I l1)), some (.int (I l2)), some (.int (I l3)), some (.int (I l4)), some (.int (I l5)), some (.int (I l6)), some (.int (I l7)), some (.int (I l8)), some (.int (I (l9 * (10 - l4)))), some (.int (I l10)), some (.int (I 0))] dX11_dirt_125 rfl rfl rfl rfl rfl rfl ?_
        refine t_ld (pc := 127) dX11_dirt_127 rfl rfl rfl rfl rfl ?_
        refine t_if_eq (pc := 129) 158 dX11_dirt_129 rfl ?_ ?_
        · exact id
        · refine t_ld (pc := 132) dX11_dirt_132 rfl rfl rfl rfl rfl ?_
          refine t_sipush (pc := 133) dX11_dirt_133 (by decide) ?_
          refine t_ld (pc := 136) dX11_dirt_136 rfl rfl rfl rfl rfl ?_
          refine t_iconst (pc := 138) dX11_dirt_138 ?_
          refine t_ld (pc := 139) dX11_dirt_139 rfl rfl rfl rfl rfl ?_
          refine t_sipush (pc := 140) dX11_dirt_140 (by decide) ?_
          refine t_ld (pc := 143) dX11_dirt_143 rfl rfl rfl rfl rfl ?_
          refine t_iconst (pc := 145) dX11_dirt_145 ?_
          refine t_vcIN (pc := 146) dX11_dirt_146 rfl rfl [.int (I 0), .int (I l6), .int (I 1654), .ref 90] rfl rfl ⟨rfl, by decide, Nat.le_of_ble_eq_true rfl⟩ h0.1 fun v103 S104 => ?_
          refine t_iconst (pc := 149) dX11_dirt_149 ?_
          refine t_iadd (pc := 150) dX11_dirt_150 ?_
          refine t_bipush (pc := 151) dX11_dirt_151 (by decide) ?_
          refine t_irem (pc := 153) dX11_dirt_153 (by decide) ?_
          refine t_vcIN (pc := 154) dX11_dirt_154 rfl rfl [] rfl rfl ⟨rfl, by decide, Nat.le_of_ble_eq_true rfl⟩ h0.1 fun v105 S106 => ?_
          refine t_pop (pc := 157) dX11_dirt_157 rfl ?_
          exact id
      · refine t_ld (pc := 114) dX11_dirt_114 rfl rfl rfl rfl rfl ?_
        refine t_goto (pc := 116) 124 dX11_dirt_116 rfl ?_
        refine t_imul (pc := 124) dX11_dirt_124 ?_
        refine t_st (pc := 125) [some (.ref 90), some (.int (I l1)), some (.int (I l2)), some (.int (I l3)), some (.int (I l4)), some (.int (I l5)), some (.int (I l6)), some (.int (I l7)), some (.int (I l8)), some (.int (I (l9 * l4))), some (.int (I l10)), some (.int (I 0))] dX11_dirt_125 rfl rfl rfl rfl rfl rfl ?_
        refine t_ld (pc := 127) dX11_dirt_127 rfl rfl rfl rfl rfl ?_
        refine t_if_eq (pc := 129) 158 dX11_dirt_129 rfl ?_ ?_
        · exact id
        · refine t_ld (pc := 132) dX11_dirt_132 rfl rfl rfl rfl rfl ?_
          refine t_sipush (pc := 133) dX11_dirt_133 (by decide) ?_
          refine t_ld (pc := 136) dX11_dirt_136 rfl rfl rfl rfl rfl ?_
          refine t_iconst (pc := 138) dX11_dirt_138 ?_
          refine t_ld (pc := 139) dX11_dirt_139 rfl rfl rfl rfl rfl ?_
          refine t_sipush (pc := 140) dX11_dirt_140 (by decide) ?_
          refine t_ld (pc := 143) dX11_dirt_143 rfl rfl rfl rfl rfl ?_
          refine t_iconst (pc := 145) dX11_dirt_145 ?_
          refine t_vcIN (pc := 146) dX11_dirt_146 rfl rfl [.int (I 0), .int (I l6), .int (I 1654), .ref 90] rfl rfl ⟨rfl, by decide, Nat.le_of_ble_eq_true rfl⟩ h0.1 fun v107 S108 => ?_
          refine t_iconst (pc := 149) dX11_dirt_149 ?_
          refine t_iadd (pc := 150) dX11_dirt_150 ?_
          refine t_bipush (pc := 151) dX11_dirt_151 (by decide) ?_
          refine t_irem (pc := 153) dX11_dirt_153 (by decide) ?_
          refine t_vcIN (pc := 154) dX11_dirt_154 rfl rfl [] rfl rfl ⟨rfl, by decide, Nat.le_of_ble_eq_true rfl⟩ h0.1 fun v109 S110 => ?_
          refine t_pop (pc := 157) dX11_dirt_157 rfl ?_
          exact id
    · refine t_iconst (pc := 100) dX11_dirt_100 ?_
      refine t_goto (pc := 101) 105 dX11_dirt_101 rfl ?_
      refine t_st (pc := 105) [some (.ref 90), some (.int (I l1)), some (.int (I l2)), some (.int (I l3)), some (.int (I l4)), some (.int (I l5)), some (.int (I l6)), some (.int (I l7)), some (.int (I l8)), some (.int (I l9)), some (.int (I l10)), some (.int (I 1))] dX11_dirt_105 rfl rfl rfl rfl rfl rfl ?_
      refine t_ld (pc := 107) dX11_dirt_107 rfl rfl rfl rfl rfl ?_
      refine t_ld (pc := 109) dX11_dirt_109 rfl rfl rfl rfl rfl ?_
      refine t_if_eq (pc := 111) 119 dX11_dirt_111 rfl ?_ ?_
      · refine t_bipush (pc := 119) dX11_dirt_119 (by decide) ?_
        refine t_ld (pc := 121) dX11_dirt_121 rfl rfl rfl rfl rfl ?_
        refine t_isub (pc := 123) dX11_dirt_123 ?_
        refine t_imul (pc := 124) dX11_dirt_124 ?_
        refine t_st (pc := 125) [some (.ref 90), some (.int (I l1)), some (.int (I l2)), some (.int (I l3)), some (.int (I l4)), some (.int (I l5)), some (.int (I l6)), some (.int (I l7)), some (.int (I l8)), some (.int (I (l9 * (10 - l4)))), some (.int (I l10)), some (.int (I 1))] dX11_dirt_125 rfl rfl rfl rfl rfl rfl ?_
        refine t_ld (pc := 127) dX11_dirt_127 rfl rfl rfl rfl rfl ?_
        refine t_if_eq (pc := 129) 158 dX11_dirt_129 rfl ?_ ?_
        · exact id
        · refine t_ld (pc := 132) dX11_dirt_132 rfl rfl rfl rfl rfl ?_
          refine t_sipush (pc := 133) dX11_dirt_133 (by decide) ?_
          refine t_ld (pc := 136) dX11_dirt_136 rfl rfl rfl rfl rfl ?_
          refine t_iconst (pc := 138) dX11_dirt_138 ?_
          refine t_ld (pc := 139) dX11_dirt_139 rfl rfl rfl rfl rfl ?_
          refine t_sipush (pc := 140) dX11_dirt_140 (by decide) ?_
          refine t_ld (pc := 143) dX11_dirt_143 rfl rfl rfl rfl rfl ?_
          refine t_iconst (pc := 145) dX11_dirt_145 ?_
          refine t_vcIN (pc := 146) dX11_dirt_146 rfl rfl [.int (I 0), .int (I l6), .int (I 1654), .ref 90] rfl rfl ⟨rfl, by decide, Nat.le_of_ble_eq_true rfl⟩ h0.1 fun v111 S112 => ?_
          refine t_iconst (pc := 149) dX11_dirt_149 ?_
          refine t_iadd (pc := 150) dX11_dirt_150 ?_
          refine t_bipush (pc := 151) dX11_dirt_151 (by decide) ?_
          refine t_irem (pc := 153) dX11_dirt_153 (by decide) ?_
          refine t_vcIN (pc := 154) dX11_dirt_154 rfl rfl [] rfl rfl ⟨rfl, by decide, Nat.le_of_ble_eq_true rfl⟩ h0.1 fun v113 S114 => ?_
          refine t_pop (pc := 157) dX11_dirt_157 rfl ?_
          exact id
      · refine t_ld (pc := 114) dX11_dirt_114 rfl rfl rfl rfl rfl ?_
        refine t_goto (pc := 116) 124 dX11_dirt_116 rfl ?_
        refine t_imul (pc := 124) dX11_dirt_124 ?_
        refine t_st (pc := 125) [some (.ref 90), some (.int (I l1)), some (.int (I l2)), some (.int (I l3)), some (.int (I l4)), some (.int (I l5)), some (.int (I l6)), some (.int (I l7)), some (.int (I l8)), some (.int (I (l9 * l4))), some (.int (I l10)), some (.int (I 1))] dX11_dirt_125 rfl rfl rfl rfl rfl rfl ?_
        refine t_ld (pc := 127) dX11_dirt_127 rfl rfl rfl rfl rfl ?_
        refine t_if_eq (pc := 129) 158 dX11_dirt_129 rfl ?_ ?_
        · exact id
        · refine t_ld (pc := 132) dX11_dirt_132 rfl rfl rfl rfl rfl ?_
          refine t_sipush (pc := 133) dX11_dirt_133 (by decide) ?_
          refine t_ld (pc := 136) dX11_dirt_136 rfl rfl rfl rfl rfl ?_
          refine t_iconst (pc := 138) dX11_dirt_138 ?_
          refine t_ld (pc := 139) dX11_dirt_139 rfl rfl rfl rfl rfl ?_
          refine t_sipush (pc := 140) dX11_dirt_140 (by decide) ?_
          refine t_ld (pc := 143) dX11_dirt_143 rfl rfl rfl rfl rfl ?_
          refine t_iconst (pc := 145) dX11_dirt_145 ?_
          refine t_vcIN (pc := 146) dX11_dirt_146 rfl rfl [.int (I 0), .int (I l6), .int (I 1654), .ref 90] rfl rfl ⟨rfl, by decide, Nat.le_of_ble_eq_true rfl⟩ h0.1 fun v115 S116 => ?_
          refine t_iconst (pc := 149) dX11_dirt_149 ?_
          refine t_iadd (pc := 150) dX11_dirt_150 ?_
          refine t_bipush (pc := 151) dX11_dirt_151 (by decide) ?_
          refine t_irem (pc := 153) dX11_dirt_153 (by decide) ?_
          refine t_vcIN (pc := 154) dX11_dirt_154 rfl rfl [] rfl rfl ⟨rfl, by decide, Nat.le_of_ble_eq_true rfl⟩ h0.1 fun v117 S118 => ?_
          refine t_pop (pc := 157) dX11_dirt_157 rfl ?_
          exact id
theorem qX11_dirt_158 {sc : Nat × (Nat → Int32)} {SH : List mCell} {S : mStore} {r : mR × mW} (h0 : sMod SH) {l1 : Int} {l2 : Int} {l3 : Int} {l4 : Int} {l5 : Int} {l6 : Int} {l7 : Int} {l8 : Int} {l9 : Int} {l10 : Int} {l11 : Int} : ((∃ v101 S102, G sc MX11_ticksOf 0 [some (.ref 90), some (.int (I 1654)), some (.int (I 1)), none, none] [] SH S (rI v101 SH S102) ∧ G sc MX11_dirt 83 [some (.ref 90), some (.int (I l1)), some (.int (I l2)), some (.int (I l3)), some (.int (I l4)), some (.int (I l5)), some (.int (I l6)), some (.int (I l7)), some (.int (I l8)), some (.int (I l9)), some (.int (I (l10 + 1))), some (.int (I l11))] [] SH S102 r)) → G sc MX11_dirt 158 [some (.ref 90), some (.int (I l1)), some (.int (I l2)), some (.int (I l3)), some (.int (I l4)), some (.int (I l5)), some (.int (I l6)), some (.int (I l7)), some (.int (I l8)), some (.int (I l9)), some (.int (I l10)), some (.int (I l11))] [] SH S r := by
  refine t_ld (pc := 158) dX11_dirt_158 rfl rfl rfl rfl rfl ?_
  refine t_sipush (pc := 159) dX11_dirt_159 (by decide) ?_
  refine t_iconst (pc := 162) dX11_dirt_162 ?_
  refine t_vcIN (pc := 163) dX11_dirt_163 rfl rfl [] rfl rfl ⟨rfl, by decide, Nat.le_of_ble_eq_true rfl⟩ h0.1 fun v101 S102 => ?_
  refine t_pop (pc := 166) dX11_dirt_166 rfl ?_
  refine t_iinc (pc := 167) [some (.ref 90), some (.int (I l1)), some (.int (I l2)), some (.int (I l3)), some (.int (I l4)), some (.int (I l5)), some (.int (I l6)), some (.int (I l7)), some (.int (I l8)), some (.int (I l9)), some (.int (I (l10 + 1))), some (.int (I l11))] dX11_dirt_167 rfl rfl ?_
  refine t_goto (pc := 170) 83 dX11_dirt_170 rfl ?_
  exact id
theorem qX11_draw_0 {sc : Nat × (Nat → Int32)} {SH : List mCell} {S : mStore} {r : mR × mW} (h0 : sMod SH) {l1 : Int} : ((I l1 ≠ I 0 ∧ r = rI ((ian (isr ((up S 90 58 (((S 90 58) * 1103515245) + 12345)) 90 58) 16) 32767) - idv (ian (isr ((up S 90 58 (((S 90 58) * 1103515245) + 12345)) 90 58) 16) 32767) l1 * l1) SH (up S 90 58 (((S 90 58) * 1103515245) + 12345)))) → G sc MX11_draw 0 [some (.ref 90), some (.int (I l1))] [] SH S r := by
  refine t_ld (pc := 0) dX11_draw_0 rfl rfl rfl rfl rfl ?_
  refine t_ld (pc := 1) dX11_draw_1 rfl rfl rfl rfl rfl ?_
  refine t_getI (pc := 2) dX11_draw_2 rfl h0.1 rfl ?_
  refine t_push (pc := 5) 1103515245 dX11_draw_5 rfl (by decide +kernel) ?_
  refine t_imul (pc := 8) dX11_draw_8 ?_
  refine t_sipush (pc := 9) dX11_draw_9 (by decide) ?_
  refine t_iadd (pc := 12) dX11_draw_12 ?_
  refine t_putI (pc := 13) dX11_draw_13 rfl rfl (Or.inl rfl) h0.1 rfl ?_
  refine t_ld (pc := 16) dX11_draw_16 rfl rfl rfl rfl rfl ?_
  refine t_getI (pc := 17) dX11_draw_17 rfl h0.1 rfl ?_
  refine t_bipush (pc := 20) dX11_draw_20 (by decide) ?_
  refine t_ishr (pc := 22) dX11_draw_22 ?_
  refine t_sipush (pc := 23) dX11_draw_23 (by decide) ?_
  refine t_iand (pc := 26) dX11_draw_26 ?_
  refine t_ld (pc := 27) dX11_draw_27 rfl rfl rfl rfl rfl ?_
  refine t_iremc (pc := 28) dX11_draw_28 ?_
  exact t_iret (pc := 29) dX11_draw_29 rfl
theorem qX11_fails_0 {sc : Nat × (Nat → Int32)} {SH : List mCell} {S : mStore} {r : mR × mW} (h0 : sMod SH) {u1 : Option Value} {u2 : Option Value} {u3 : Option Value} : ((∃ v101 S102, G sc MX11_draw 0 [some (.ref 90), some (.int (I 4))] [] SH S (rI v101 SH S102) ∧ (if I v101 = I 3 then ((I 0 = I 0 ∨ I 0 = I 1) ∧ r = rI 0 SH S102) else (if I (S102 90 19) = I 0 then ((I 0 = I 0 ∨ I 0 = I 1) ∧ r = rI 0 SH S102) else (∃ v103 S104, G sc MX11_draw 0 [some (.ref 90), some (.int (I (S102 90 19)))] [] SH S102 (rI v103 SH S104) ∧ (if I v101 = I 0 then (∃ v112 S113, G sc MX11_draw 0 [some (.ref 90), some (.int (I 4))] [] SH S104 (rI v112 SH S113) ∧ (∃ v114 S115, G sc MX11_draw 0 [some (.ref 90), some (.int (I 4))] [] SH S113 (rI v114 SH S115) ∧ (∃ v116 S117, G sc MX11_writesCell 0 [some (.ref 90), some (.int (I 1654)), some (.int (I v103)), some (.int (I v112)), some (.int (I v114))] [] SH S115 (rI v116 SH S117) ∧ (if I v116 = I (-1) then ((I 1 = I 0 ∨ I 1 = I 1) ∧ r = rI 1 SH S117) else ((I 0 = I 0 ∨ I 0 = I 1) ∧ r = rI 0 SH S117))))) else (if I v101 = I 1 then (∃ v107 S108, G sc MX11_draw 0 [some (.ref 90), some (.int (I (S104 90 19)))] [] SH S104 (rI v107 SH S108) ∧ (∃ S109, G sc MX11_saysAs 0 [some (.ref 90), some (.int (I 1654)), some (.int (I v107)), none] [] SH S108 (rV SH S109) ∧ (∃ v110 S111, G sc MX11_writes 0 [some (.ref 90), some (.int (I 1654)), some (.int (I v103)), none, none, none, none] [] SH S109 (rI v110 SH S111) ∧ (if I v110 = I (-1) then ((I 1 = I 0 ∨ I 1 = I 1) ∧ r = rI 1 SH S111) else ((I 0 = I 0 ∨ I 0 = I 1) ∧ r = rI 0 SH S111))))) else (∃ v105 S106, G sc MX11_drops 0 [some (.ref 90), some (.int (I 1654)), some (.int (I v103)), none] [] SH S104 (rI v105 SH S106) ∧ ((I 0 = I 0 ∨ I 0 = I 1) ∧ r = rI 0 SH S106))))))))) → G sc MX11_fails 0 [some (.ref 90), u1, u2, u3] [] SH S r := by
  refine t_ld (pc := 0) dX11_fails_0 rfl rfl rfl rfl rfl ?_
  refine t_iconst (pc := 1) dX11_fails_1 ?_
  refine t_vcIN (pc := 2) dX11_fails_2 rfl rfl [] rfl rfl ⟨rfl, by decide, Nat.le_of_ble_eq_true rfl⟩ h0.1 fun v101 S102 => ?_
  refine t_st (pc := 5) [some (.ref 90), some (.int (I v101)), u2, u3] dX11_fails_5 rfl rfl rfl rfl rfl rfl ?_
  refine t_ld (pc := 6) dX11_fails_6 rfl rfl rfl rfl rfl ?_
  refine t_iconst (pc := 7) dX11_fails_7 ?_
  refine t_ic_eq (pc := 8) 18 dX11_fails_8 rfl ?_ ?_
  · refine t_iconst (pc := 18) dX11_fails_18 ?_
    exact t_zret (pc := 19) dX11_fails_19 rfl
  · refine t_ld (pc := 11) dX11_fails_11 rfl rfl rfl rfl rfl ?_
    refine t_getI (pc := 12) dX11_fails_12 rfl h0.1 rfl ?_
    refine t_if_ne (pc := 15) 20 dX11_fails_15 rfl ?_ ?_
    · refine t_ld (pc := 20) dX11_fails_20 rfl rfl rfl rfl rfl ?_
      refine t_ld (pc := 21) dX11_fails_21 rfl rfl rfl rfl rfl ?_
      refine t_getI (pc := 22) dX11_fails_22 rfl h0.1 rfl ?_
      refine t_vcIN (pc := 25) dX11_fails_25 rfl rfl [] rfl rfl ⟨rfl, by decide, Nat.le_of_ble_eq_true rfl⟩ h0.1 fun v103 S104 => ?_
      refine t_st (pc := 28) [some (.ref 90), some (.int (I v101)), some (.int (I v103)), u3] dX11_fails_28 rfl rfl rfl rfl rfl rfl ?_
      refine t_ld (pc := 29) dX11_fails_29 rfl rfl rfl rfl rfl ?_
      refine t_if_ne (pc := 30) 63 dX11_fails_30 rfl ?_ ?_
      · refine t_ld (pc := 63) dX11_fails_63 rfl rfl rfl rfl rfl ?_
        refine t_iconst (pc := 64) dX11_fails_64 ?_
        refine t_ic_ne (pc := 65) 101 dX11_fails_65 rfl ?_ ?_
        · refine t_ld (pc := 101) dX11_fails_101 rfl rfl rfl rfl rfl ?_
          refine t_sipush (pc := 102) dX11_fails_102 (by decide) ?_
          refine t_ld (pc := 105) dX11_fails_105 rfl rfl rfl rfl rfl ?_
          refine t_vcIN (pc := 106) dX11_fails_106 rfl rfl [] rfl rfl ⟨rfl, by decide, Nat.le_of_ble_eq_true rfl⟩ h0.1 fun v105 S106 => ?_
          refine t_pop (pc := 109) dX11_fails_109 rfl ?_
          refine t_iconst (pc := 110) dX11_fails_110 ?_
          exact t_zret (pc := 111) dX11_fails_111 rfl
        · refine t_ld (pc := 68) dX11_fails_68 rfl rfl rfl rfl rfl ?_
          refine t_sipush (pc := 69) dX11_fails_69 (by decide) ?_
          refine t_ld (pc := 72) dX11_fails_72 rfl rfl rfl rfl rfl ?_
          refine t_ld (pc := 73) dX11_fails_73 rfl rfl rfl rfl rfl ?_
          refine t_getI (pc := 74) dX11_fails_74 rfl h0.1 rfl ?_
          refine t_vcIN (pc := 77) dX11_fails_77 rfl rfl [.int (I 1654), .ref 90] rfl rfl ⟨rfl, by decide, Nat.le_of_ble_eq_true rfl⟩ h0.1 fun v107 S108 => ?_
          refine t_vcVN (pc := 80) dX11_fails_80 rfl rfl [] rfl rfl ⟨rfl, by decide, Nat.le_of_ble_eq_true rfl⟩ h0.1 fun S109 => ?_
          refine t_ld (pc := 83) dX11_fails_83 rfl rfl rfl rfl rfl ?_
          refine t_sipush (pc := 84) dX11_fails_84 (by decide) ?_
          refine t_ld (pc := 87) dX11_fails_87 rfl rfl rfl rfl rfl ?_
          refine t_vcIN (pc := 88) dX11_fails_88 rfl rfl [] rfl rfl ⟨rfl, by decide, Nat.le_of_ble_eq_true rfl⟩ h0.1 fun v110 S111 => ?_
          refine t_iconst (pc := 91) dX11_fails_91 ?_
          refine t_ic_ne (pc := 92) 99 dX11_fails_92 rfl ?_ ?_
          · refine t_iconst (pc := 99) dX11_fails_99 ?_
            exact t_zret (pc := 100) dX11_fails_100 rfl
          · refine t_iconst (pc := 95) dX11_fails_95 ?_
            refine t_goto (pc := 96) 100 dX11_fails_96 rfl ?_
            exact t_zret (pc := 100) dX11_fails_100 rfl
      · refine t_ld (pc := 33) dX11_fails_33 rfl rfl rfl rfl rfl ?_
        refine t_iconst (pc := 34) dX11_fails_34 ?_
        refine t_vcIN (pc := 35) dX11_fails_35 rfl rfl [] rfl rfl ⟨rfl, by decide, Nat.le_of_ble_eq_true rfl⟩ h0.1 fun v112 S113 => ?_
        refine t_st (pc := 38) [some (.ref 90), some (.int (I v101)), some (.int (I v103)), some (.int (I v112))] dX11_fails_38 rfl rfl rfl rfl rfl rfl ?_
        refine t_ld (pc := 39) dX11_fails_39 rfl rfl rfl rfl rfl ?_
        refine t_sipush (pc := 40) dX11_fails_40 (by decide) ?_
        refine t_ld (pc := 43) dX11_fails_43 rfl rfl rfl rfl rfl ?_
        refine t_ld (pc := 44) dX11_fails_44 rfl rfl rfl rfl rfl ?_
        refine t_ld (pc := 45) dX11_fails_45 rfl rfl rfl rfl rfl ?_
        refine t_iconst (pc := 46) dX11_fails_46 ?_
        refine t_vcIN (pc := 47) dX11_fails_47 rfl rfl [.int (I v112), .int (I v103), .int (I 1654), .ref 90] rfl rfl ⟨rfl, by decide, Nat.le_of_ble_eq_true rfl⟩ h0.1 fun v114 S115 => ?_
        refine t_vcIN (pc := 50) dX11_fails_50 rfl rfl [] rfl rfl ⟨rfl, by decide, Nat.le_of_ble_eq_true rfl⟩ h0.1 fun v116 S117 => ?_
        refine t_iconst (pc := 53) dX11_fails_53 ?_
        refine t_ic_ne (pc := 54) 61 dX11_fails_54 rfl ?_ ?_
        · refine t_iconst (pc := 61) dX11_fails_61 ?_
          exact t_zret (pc := 62) dX11_fails_62 rfl
        · refine t_iconst (pc := 57) dX11_fails_57 ?_
          refine t_goto (pc := 58) 62 dX11_fails_58 rfl ?_
          exact t_zret (pc := 62) dX11_fails_62 rfl
    · refine t_iconst (pc := 18) dX11_fails_18 ?_
      exact t_zret (pc := 19) dX11_fails_19 rfl
