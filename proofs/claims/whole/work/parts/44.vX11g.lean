-- needs: 43.tshape
/-! ===== the program as conditions (gen_vc.py) ===== -/
theorem qX11_mergedFrames_0 {sc : Nat × (Nat → Int32)} {SH : List mCell} {S : mStore} {r : mR × mW} (h0 : sMod SH) {u1 : Option Value} {u2 : Option Value} : (G sc MX11_mergedFrames 4 [some (.ref 90), some (.int (I 0)), some (.int (I 0))] [] SH S r) → G sc MX11_mergedFrames 0 [some (.ref 90), u1, u2] [] SH S r := by
  refine tt_iconst (M := MX11_mergedFrames) (pc := 0) dX11_mergedFrames_0 ?_
  refine tt_st (M := MX11_mergedFrames) (pc := 1) [some (.ref 90), some (.int (I 0)), u2] dX11_mergedFrames_1 rfl rfl rfl rfl rfl rfl ?_
  refine tt_iconst (M := MX11_mergedFrames) (pc := 2) dX11_mergedFrames_2 ?_
  refine tt_st (M := MX11_mergedFrames) (pc := 3) [some (.ref 90), some (.int (I 0)), some (.int (I 0))] dX11_mergedFrames_3 rfl rfl rfl rfl rfl rfl ?_
  exact id
theorem qX11_mergedFrames_4 {sc : Nat × (Nat → Int32)} {SH : List mCell} {S : mStore} {r : mR × mW} (h0 : sMod SH) {l1 : Int} {l2 : Int} : ((if I 48 ≤ I l2 then r = rI l1 SH S else (((0 : Int) ≤ 976 + l2 ∧ 976 + l2 < 137400) ∧ (if I (S 91 (976 + l2)) = I (-1) then G sc MX11_mergedFrames 4 [some (.ref 90), some (.int (I (l1 + 0))), some (.int (I (l2 + 1)))] [] SH S r else G sc MX11_mergedFrames 4 [some (.ref 90), some (.int (I (l1 + 1))), some (.int (I (l2 + 1)))] [] SH S r)))) → G sc MX11_mergedFrames 4 [some (.ref 90), some (.int (I l1)), some (.int (I l2))] [] SH S r := by
  refine tt_ld (M := MX11_mergedFrames) (pc := 4) dX11_mergedFrames_4 rfl rfl rfl rfl rfl ?_
  refine tt_bipush (M := MX11_mergedFrames) (pc := 5) dX11_mergedFrames_5 (by decide) ?_
  refine tt_ic_ge (M := MX11_mergedFrames) (pc := 7) 38 dX11_mergedFrames_7 rfl ?_ ?_
  · refine tt_ld (M := MX11_mergedFrames) (pc := 38) dX11_mergedFrames_38 rfl rfl rfl rfl rfl ?_
    exact tt_iret (M := MX11_mergedFrames) (pc := 39) dX11_mergedFrames_39 rfl
  · refine tt_ld (M := MX11_mergedFrames) (pc := 10) dX11_mergedFrames_10 rfl rfl rfl rfl rfl ?_
    refine tt_ld (M := MX11_mergedFrames) (pc := 11) dX11_mergedFrames_11 rfl rfl rfl rfl rfl ?_
    refine tt_getR (M := MX11_mergedFrames) (pc := 12) dX11_mergedFrames_12 rfl h0.1 rfl ?_
    refine tt_sipush (M := MX11_mergedFrames) (pc := 15) dX11_mergedFrames_15 (by decide) ?_
    refine tt_ld (M := MX11_mergedFrames) (pc := 18) dX11_mergedFrames_18 rfl rfl rfl rfl rfl ?_
    refine tt_iadd (M := MX11_mergedFrames) (pc := 19) dX11_mergedFrames_19 ?_
    refine tt_iaload (M := MX11_mergedFrames) (pc := 20) dX11_mergedFrames_20 h0.2.1 rfl ?_
    refine tt_iconst (M := MX11_mergedFrames) (pc := 21) dX11_mergedFrames_21 ?_
    refine tt_ic_eq (M := MX11_mergedFrames) (pc := 22) 29 dX11_mergedFrames_22 rfl ?_ ?_
    · refine tt_iconst (M := MX11_mergedFrames) (pc := 29) dX11_mergedFrames_29 ?_
      refine tt_iadd (M := MX11_mergedFrames) (pc := 30) dX11_mergedFrames_30 ?_
      refine tt_st (M := MX11_mergedFrames) (pc := 31) [some (.ref 90), some (.int (I (l1 + 0))), some (.int (I l2))] dX11_mergedFrames_31 rfl rfl rfl rfl rfl rfl ?_
      refine tt_iinc (M := MX11_mergedFrames) (pc := 32) [some (.ref 90), some (.int (I (l1 + 0))), some (.int (I (l2 + 1)))] dX11_mergedFrames_32 rfl rfl ?_
      refine tt_goto (M := MX11_mergedFrames) (pc := 35) 4 dX11_mergedFrames_35 rfl ?_
      exact id
    · refine tt_iconst (M := MX11_mergedFrames) (pc := 25) dX11_mergedFrames_25 ?_
      refine tt_goto (M := MX11_mergedFrames) (pc := 26) 30 dX11_mergedFrames_26 rfl ?_
      refine tt_iadd (M := MX11_mergedFrames) (pc := 30) dX11_mergedFrames_30 ?_
      refine tt_st (M := MX11_mergedFrames) (pc := 31) [some (.ref 90), some (.int (I (l1 + 1))), some (.int (I l2))] dX11_mergedFrames_31 rfl rfl rfl rfl rfl rfl ?_
      refine tt_iinc (M := MX11_mergedFrames) (pc := 32) [some (.ref 90), some (.int (I (l1 + 1))), some (.int (I (l2 + 1)))] dX11_mergedFrames_32 rfl rfl ?_
      refine tt_goto (M := MX11_mergedFrames) (pc := 35) 4 dX11_mergedFrames_35 rfl ?_
      exact id
theorem qX11_count_0 {sc : Nat × (Nat → Int32)} {SH : List mCell} {S : mStore} {r : mR × mW} (h0 : sMod SH) {l1 : Int} : ((∃ v101 S102, G sc MX11_within 0 [some (.int (I l1)), some (.int (I 0)), some (.int (I 27))] [] SH (up S 90 4 0) (rI v101 SH S102) ∧ (∃ v103 S104, G sc MX11_right 0 [some (.ref 90), some (.int (I v101)), some (.int (I 1))] [] SH S102 (rI v103 SH S104) ∧ (if I v103 = I 0 then r = rI 0 SH S104 else (swp l1 0 (∃ v105 S106, G sc MX11_number0 0 [some (.ref 90), some (.int (I l1))] [] SH S104 (rI v105 SH S106) ∧ r = rI v105 SH S106) [r = rI (S104 90 12) SH S104, (∃ v107 S108, G sc MX11_usedOf 0 [some (.ref 90), some (.int (I 0)), none, none] [] SH S104 (rI v107 SH S108) ∧ r = rI v107 SH S108), (∃ v109 S110, G sc MX11_mergedFrames 0 [some (.ref 90), none, none] [] SH S104 (rI v109 SH S110) ∧ r = rI v109 SH S110), r = rI (S104 90 18) SH S104, r = rI (S104 90 19) SH S104, (∃ v111 S112, G sc MX11_merged 0 [some (.ref 90), some (.int (I 0)), none, none] [] SH S104 (rI v111 SH S112) ∧ r = rI v111 SH S112), (∃ v113 S114, G sc MX11_absent 0 [some (.ref 90), some (.int (I 0)), some (.int (I (S104 90 19))), none, none] [] SH S104 (rI v113 SH S114) ∧ r = rI v113 SH S114), (∃ v115 S116, G sc MX11_advised 0 [some (.ref 90), some (.int (I 0)), some (.int (I (S104 90 19))), none, none] [] SH S104 (rI v115 SH S116) ∧ r = rI v115 SH S116), (∃ v117 S118, G sc MX11_waiting 0 [some (.ref 90), some (.int (I 0))] [] SH S104 (rI v117 SH S118) ∧ r = rI v117 SH S118), (((0 : Int) ≤ 1072 ∧ (1072 : Int) < 137400) ∧ (((0 : Int) ≤ 1169 ∧ (1169 : Int) < 137400) ∧ (((0 : Int) ≤ 1266 ∧ (1266 : Int) < 137400) ∧ r = rI (((S104 91 1072) + (S104 91 1169)) + (S104 91 1266)) SH S104)))]))))) → G sc MX11_count 0 [some (.ref 90), some (.int (I l1))] [] SH S r := by
  refine tt_ld (M := MX11_count) (pc := 0) dX11_count_0 rfl rfl rfl rfl rfl ?_
  refine tt_iconst (M := MX11_count) (pc := 1) dX11_count_1 ?_
  refine tt_putI (M := MX11_count) (pc := 2) dX11_count_2 rfl rfl (Or.inl rfl) h0.1 rfl ?_
  refine tt_ld (M := MX11_count) (pc := 5) dX11_count_5 rfl rfl rfl rfl rfl ?_
  refine tt_ld (M := MX11_count) (pc := 6) dX11_count_6 rfl rfl rfl rfl rfl ?_
  refine tt_iconst (M := MX11_count) (pc := 7) dX11_count_7 ?_
  refine tt_bipush (M := MX11_count) (pc := 8) dX11_count_8 (by decide) ?_
  refine tt_scIN (M := MX11_count) (pc := 10) dX11_count_10 rfl [.ref 90] rfl rfl ⟨rfl, by decide, Nat.le_of_ble_eq_true rfl⟩ fun v101 S102 => ?_
  refine tt_iconst (M := MX11_count) (pc := 13) dX11_count_13 ?_
  refine tt_vcIN (M := MX11_count) (pc := 14) dX11_count_14 rfl rfl [] rfl rfl ⟨rfl, by decide, Nat.le_of_ble_eq_true rfl⟩ h0.1 fun v103 S104 => ?_
  refine tt_if_ne (M := MX11_count) (pc := 17) 22 dX11_count_17 rfl ?_ ?_
  · refine tt_ld (M := MX11_count) (pc := 22) dX11_count_22 rfl rfl rfl rfl rfl ?_
    refine tt_switch (M := MX11_count) (pc := 23) 161 dX11_count_23 ⟨by decide, by simp only [List.length_cons, List.length_nil]; omega⟩ rfl rfl ?_ ?_
    · refine tt_ld (M := MX11_count) (pc := 161) dX11_count_161 rfl rfl rfl rfl rfl ?_
      refine tt_ld (M := MX11_count) (pc := 162) dX11_count_162 rfl rfl rfl rfl rfl ?_
      refine tt_vcIN (M := MX11_count) (pc := 163) dX11_count_163 rfl rfl [] rfl rfl ⟨rfl, by decide, Nat.le_of_ble_eq_true rfl⟩ h0.1 fun v105 S106 => ?_
      exact tt_iret (M := MX11_count) (pc := 166) dX11_count_166 rfl
    · refine ⟨⟨76, rfl, ?_⟩, ⟨⟨81, rfl, ?_⟩, ⟨⟨87, rfl, ?_⟩, ⟨⟨92, rfl, ?_⟩, ⟨⟨97, rfl, ?_⟩, ⟨⟨102, rfl, ?_⟩, ⟨⟨108, rfl, ?_⟩, ⟨⟨118, rfl, ?_⟩, ⟨⟨128, rfl, ?_⟩, ⟨⟨134, rfl, ?_⟩, trivial⟩⟩⟩⟩⟩⟩⟩⟩⟩⟩
      · refine tt_ld (M := MX11_count) (pc := 76) dX11_count_76 rfl rfl rfl rfl rfl ?_
        refine tt_getI (M := MX11_count) (pc := 77) dX11_count_77 rfl h0.1 rfl ?_
        exact tt_iret (M := MX11_count) (pc := 80) dX11_count_80 rfl
      · refine tt_ld (M := MX11_count) (pc := 81) dX11_count_81 rfl rfl rfl rfl rfl ?_
        refine tt_iconst (M := MX11_count) (pc := 82) dX11_count_82 ?_
        refine tt_vcIN (M := MX11_count) (pc := 83) dX11_count_83 rfl rfl [] rfl rfl ⟨rfl, by decide, Nat.le_of_ble_eq_true rfl⟩ h0.1 fun v107 S108 => ?_
        exact tt_iret (M := MX11_count) (pc := 86) dX11_count_86 rfl
      · refine tt_ld (M := MX11_count) (pc := 87) dX11_count_87 rfl rfl rfl rfl rfl ?_
        refine tt_vcIN (M := MX11_count) (pc := 88) dX11_count_88 rfl rfl [] rfl rfl ⟨rfl, by decide, Nat.le_of_ble_eq_true rfl⟩ h0.1 fun v109 S110 => ?_
        exact tt_iret (M := MX11_count) (pc := 91) dX11_count_91 rfl
      · refine tt_ld (M := MX11_count) (pc := 92) dX11_count_92 rfl rfl rfl rfl rfl ?_
        refine tt_getI (M := MX11_count) (pc := 93) dX11_count_93 rfl h0.1 rfl ?_
        exact tt_iret (M := MX11_count) (pc := 96) dX11_count_96 rfl
      · refine tt_ld (M := MX11_count) (pc := 97) dX11_count_97 rfl rfl rfl rfl rfl ?_
        refine tt_getI (M := MX11_count) (pc := 98) dX11_count_98 rfl h0.1 rfl ?_
        exact tt_iret (M := MX11_count) (pc := 101) dX11_count_101 rfl
      · refine tt_ld (M := MX11_count) (pc := 102) dX11_count_102 rfl rfl rfl rfl rfl ?_
        refine tt_iconst (M := MX11_count) (pc := 103) dX11_count_103 ?_
        refine tt_vcIN (M := MX11_count) (pc := 104) dX11_count_104 rfl rfl [] rfl rfl ⟨rfl, by decide, Nat.le_of_ble_eq_true rfl⟩ h0.1 fun v111 S112 => ?_
        exact tt_iret (M := MX11_count) (pc := 107) dX11_count_107 rfl
      · refine tt_ld (M := MX11_count) (pc := 108) dX11_count_108 rfl rfl rfl rfl rfl ?_
        refine tt_iconst (M := MX11_count) (pc := 109) dX11_count_109 ?_
        refine tt_ld (M := MX11_count) (pc := 110) dX11_count_110 rfl rfl rfl rfl rfl ?_
        refine tt_getI (M := MX11_count) (pc := 111) dX11_count_111 rfl h0.1 rfl ?_
        refine tt_vcIN (M := MX11_count) (pc := 114) dX11_count_114 rfl rfl [] rfl rfl ⟨rfl, by decide, Nat.le_of_ble_eq_true rfl⟩ h0.1 fun v113 S114 => ?_
        exact tt_iret (M := MX11_count) (pc := 117) dX11_count_117 rfl
      · refine tt_ld (M := MX11_count) (pc := 118) dX11_count_118 rfl rfl rfl rfl rfl ?_
        refine tt_iconst (M := MX11_count) (pc := 119) dX11_count_119 ?_
        refine tt_ld (M := MX11_count) (pc := 120) dX11_count_120 rfl rfl rfl rfl rfl ?_
        refine tt_getI (M := MX11_count) (pc := 121) dX11_count_121 rfl h0.1 rfl ?_
        refine tt_vcIN (M := MX11_count) (pc := 124) dX11_count_124 rfl rfl [] rfl rfl ⟨rfl, by decide, Nat.le_of_ble_eq_true rfl⟩ h0.1 fun v115 S116 => ?_
        exact tt_iret (M := MX11_count) (pc := 127) dX11_count_127 rfl
      · refine tt_ld (M := MX11_count) (pc := 128) dX11_count_128 rfl rfl rfl rfl rfl ?_
        refine tt_iconst (M := MX11_count) (pc := 129) dX11_count_129 ?_
        refine tt_vcIN (M := MX11_count) (pc := 130) dX11_count_130 rfl rfl [] rfl rfl ⟨rfl, by decide, Nat.le_of_ble_eq_true rfl⟩ h0.1 fun v117 S118 => ?_
        exact tt_iret (M := MX11_count) (pc := 133) dX11_count_133 rfl
      · refine tt_ld (M := MX11_count) (pc := 134) dX11_count_134 rfl rfl rfl rfl rfl ?_
        refine tt_getR (M := MX11_count) (pc := 135) dX11_count_135 rfl h0.1 rfl ?_
        refine tt_sipush (M := MX11_count) (pc := 138) dX11_count_138 (by decide) ?_
        refine tt_iaload (M := MX11_count) (pc := 141) dX11_count_141 h0.2.1 rfl ?_
        refine tt_ld (M := MX11_count) (pc := 142) dX11_count_142 rfl rfl rfl rfl rfl ?_
        refine tt_getR (M := MX11_count) (pc := 143) dX11_count_143 rfl h0.1 rfl ?_
        refine tt_sipush (M := MX11_count) (pc := 146) dX11_count_146 (by decide) ?_
        refine tt_iaload (M := MX11_count) (pc := 149) dX11_count_149 h0.2.1 rfl ?_
        refine tt_iadd (M := MX11_count) (pc := 150) dX11_count_150 ?_
        refine tt_ld (M := MX11_count) (pc := 151) dX11_count_151 rfl rfl rfl rfl rfl ?_
        refine tt_getR (M := MX11_count) (pc := 152) dX11_count_152 rfl h0.1 rfl ?_
        refine tt_sipush (M := MX11_count) (pc := 155) dX11_count_155 (by decide) ?_
        refine tt_iaload (M := MX11_count) (pc := 158) dX11_count_158 h0.2.1 rfl ?_
        refine tt_iadd (M := MX11_count) (pc := 159) dX11_count_159 ?_
        exact tt_iret (M := MX11_count) (pc := 160) dX11_count_160 rfl
  · refine tt_iconst (M := MX11_count) (pc := 20) dX11_count_20 ?_
    exact tt_iret (M := MX11_count) (pc := 21) dX11_count_21 rfl
theorem qX11_number0_0 {sc : Nat × (Nat → Int32)} {SH : List mCell} {S : mStore} {r : mR × mW} (h0 : sMod SH) {l1 : Int} : ((swp l1 10 (((0 : Int) ≤ l1 - 25 ∧ l1 - 25 < 6) ∧ r = rI (S 94 (l1 - 25)) SH S) [(((0 : Int) ≤ 0 ∧ (0 : Int) < 137400) ∧ r = rI (S 91 0) SH S), (((0 : Int) ≤ 1 ∧ (1 : Int) < 137400) ∧ r = rI (S 91 1) SH S), (((0 : Int) ≤ 2 ∧ (2 : Int) < 137400) ∧ r = rI (S 91 2) SH S), (((0 : Int) ≤ 3 ∧ (3 : Int) < 137400) ∧ r = rI (S 91 3) SH S), (((0 : Int) ≤ 4 ∧ (4 : Int) < 137400) ∧ r = rI (S 91 4) SH S), (((0 : Int) ≤ 5 ∧ (5 : Int) < 137400) ∧ r = rI (S 91 5) SH S), (((0 : Int) ≤ 6 ∧ (6 : Int) < 137400) ∧ r = rI (S 91 6) SH S), (((0 : Int) ≤ 7 ∧ (7 : Int) < 137400) ∧ r = rI (S 91 7) SH S), (((0 : Int) ≤ 8 ∧ (8 : Int) < 137400) ∧ r = rI (S 91 8) SH S), (((0 : Int) ≤ 9 ∧ (9 : Int) < 137400) ∧ r = rI (S 91 9) SH S), (((0 : Int) ≤ 10 ∧ (10 : Int) < 137400) ∧ r = rI (S 91 10) SH S), r = rI (S 90 13) SH S, r = rI (S 90 5) SH S, r = rI (S 90 7) SH S, r = rI (S 90 25) SH S])) → G sc MX11_number0 0 [some (.ref 90), some (.int (I l1))] [] SH S r := by
  refine tt_ld (M := MX11_number0) (pc := 0) dX11_number0_0 rfl rfl rfl rfl rfl ?_
  refine tt_switch (M := MX11_number0) (pc := 1) 178 dX11_number0_1 ⟨by decide, by simp only [List.length_cons, List.length_nil]; omega⟩ rfl rfl ?_ ?_
  · refine tt_ld (M := MX11_number0) (pc := 178) dX11_number0_178 rfl rfl rfl rfl rfl ?_
    refine tt_getR (M := MX11_number0) (pc := 179) dX11_number0_179 rfl h0.1 rfl ?_
    refine tt_ld (M := MX11_number0) (pc := 182) dX11_number0_182 rfl rfl rfl rfl rfl ?_
    refine tt_bipush (M := MX11_number0) (pc := 183) dX11_number0_183 (by decide) ?_
    refine tt_isub (M := MX11_number0) (pc := 185) dX11_number0_185 ?_
    refine tt_iaload (M := MX11_number0) (pc := 186) dX11_number0_186 h0.2.2.2.2.1 rfl ?_
    exact tt_iret (M := MX11_number0) (pc := 187) dX11_number0_187 rfl
  · refine ⟨⟨76, rfl, ?_⟩, ⟨⟨83, rfl, ?_⟩, ⟨⟨90, rfl, ?_⟩, ⟨⟨97, rfl, ?_⟩, ⟨⟨104, rfl, ?_⟩, ⟨⟨111, rfl, ?_⟩, ⟨⟨118, rfl, ?_⟩, ⟨⟨126, rfl, ?_⟩, ⟨⟨134, rfl, ?_⟩, ⟨⟨142, rfl, ?_⟩, ⟨⟨150, rfl, ?_⟩, ⟨⟨158, rfl, ?_⟩, ⟨⟨163, rfl, ?_⟩, ⟨⟨168, rfl, ?_⟩, ⟨⟨173, rfl, ?_⟩, trivial⟩⟩⟩⟩⟩⟩⟩⟩⟩⟩⟩⟩⟩⟩⟩
    · refine tt_ld (M := MX11_number0) (pc := 76) dX11_number0_76 rfl rfl rfl rfl rfl ?_
      refine tt_getR (M := MX11_number0) (pc := 77) dX11_number0_77 rfl h0.1 rfl ?_
      refine tt_iconst (M := MX11_number0) (pc := 80) dX11_number0_80 ?_
      refine tt_iaload (M := MX11_number0) (pc := 81) dX11_number0_81 h0.2.1 rfl ?_
      exact tt_iret (M := MX11_number0) (pc := 82) dX11_number0_82 rfl
    · refine tt_ld (M := MX11_number0) (pc := 83) dX11_number0_83 rfl rfl rfl rfl rfl ?_
      refine tt_getR (M := MX11_number0) (pc := 84) dX11_number0_84 rfl h0.1 rfl ?_
      refine tt_iconst (M := MX11_number0) (pc := 87) dX11_number0_87 ?_
      refine tt_iaload (M := MX11_number0) (pc := 88) dX11_number0_88 h0.2.1 rfl ?_
      exact tt_iret (M := MX11_number0) (pc := 89) dX11_number0_89 rfl
    · refine tt_ld (M := MX11_number0) (pc := 90) dX11_number0_90 rfl rfl rfl rfl rfl ?_
      refine tt_getR (M := MX11_number0) (pc := 91) dX11_number0_91 rfl h0.1 rfl ?_
      refine tt_iconst (M := MX11_number0) (pc := 94) dX11_number0_94 ?_
      refine tt_iaload (M := MX11_number0) (pc := 95) dX11_number0_95 h0.2.1 rfl ?_
      exact tt_iret (M := MX11_number0) (pc := 96) dX11_number0_96 rfl
    · refine tt_ld (M := MX11_number0) (pc := 97) dX11_number0_97 rfl rfl rfl rfl rfl ?_
      refine tt_getR (M := MX11_number0) (pc := 98) dX11_number0_98 rfl h0.1 rfl ?_
      refine tt_iconst (M := MX11_number0) (pc := 101) dX11_number0_101 ?_
      refine tt_iaload (M := MX11_number0) (pc := 102) dX11_number0_102 h0.2.1 rfl ?_
      exact tt_iret (M := MX11_number0) (pc := 103) dX11_number0_103 rfl
    · refine tt_ld (M := MX11_number0) (pc := 104) dX11_number0_104 rfl rfl rfl rfl rfl ?_
      refine tt_getR (M := MX11_number0) (pc := 105) dX11_number0_105 rfl h0.1 rfl ?_
      refine tt_iconst (M := MX11_number0) (pc := 108) dX11_number0_108 ?_
      refine tt_iaload (M := MX11_number0) (pc := 109) dX11_number0_109 h0.2.1 rfl ?_
      exact tt_iret (M := MX11_number0) (pc := 110) dX11_number0_110 rfl
    · refine tt_ld (M := MX11_number0) (pc := 111) dX11_number0_111 rfl rfl rfl rfl rfl ?_
      refine tt_getR (M := MX11_number0) (pc := 112) dX11_number0_112 rfl h0.1 rfl ?_
      refine tt_iconst (M := MX11_number0) (pc := 115) dX11_number0_115 ?_
      refine tt_iaload (M := MX11_number0) (pc := 116) dX11_number0_116 h0.2.1 rfl ?_
      exact tt_iret (M := MX11_number0) (pc := 117) dX11_number0_117 rfl
    · refine tt_ld (M := MX11_number0) (pc := 118) dX11_number0_118 rfl rfl rfl rfl rfl ?_
      refine tt_getR (M := MX11_number0) (pc := 119) dX11_number0_119 rfl h0.1 rfl ?_
      refine tt_bipush (M := MX11_number0) (pc := 122) dX11_number0_122 (by decide) ?_
      refine tt_iaload (M := MX11_number0) (pc := 124) dX11_number0_124 h0.2.1 rfl ?_
      exact tt_iret (M := MX11_number0) (pc := 125) dX11_number0_125 rfl
    · refine tt_ld (M := MX11_number0) (pc := 126) dX11_number0_126 rfl rfl rfl rfl rfl ?_
      refine tt_getR (M := MX11_number0) (pc := 127) dX11_number0_127 rfl h0.1 rfl ?_
      refine tt_bipush (M := MX11_number0) (pc := 130) dX11_number0_130 (by decide) ?_
      refine tt_iaload (M := MX11_number0) (pc := 132) dX11_number0_132 h0.2.1 rfl ?_
      exact tt_iret (M := MX11_number0) (pc := 133) dX11_number0_133 rfl
    · refine tt_ld (M := MX11_number0) (pc := 134) dX11_number0_134 rfl rfl rfl rfl rfl ?_
      refine tt_getR (M := MX11_number0) (pc := 135) dX11_number0_135 rfl h0.1 rfl ?_
      refine tt_bipush (M := MX11_number0) (pc := 138) dX11_number0_138 (by decide) ?_
      refine tt_iaload (M := MX11_number0) (pc := 140) dX11_number0_140 h0.2.1 rfl ?_
      exact tt_iret (M := MX11_number0) (pc := 141) dX11_number0_141 rfl
    · refine tt_ld (M := MX11_number0) (pc := 142) dX11_number0_142 rfl rfl rfl rfl rfl ?_
      refine tt_getR (M := MX11_number0) (pc := 143) dX11_number0_143 rfl h0.1 rfl ?_
      refine tt_bipush (M := MX11_number0) (pc := 146) dX11_number0_146 (by decide) ?_
      refine tt_iaload (M := MX11_number0) (pc := 148) dX11_number0_148 h0.2.1 rfl ?_
      exact tt_iret (M := MX11_number0) (pc := 149) dX11_number0_149 rfl
    · refine tt_ld (M := MX11_number0) (pc := 150) dX11_number0_150 rfl rfl rfl rfl rfl ?_
      refine tt_getR (M := MX11_number0) (pc := 151) dX11_number0_151 rfl h0.1 rfl ?_
      refine tt_bipush (M := MX11_number0) (pc := 154) dX11_number0_154 (by decide) ?_
      refine tt_iaload (M := MX11_number0) (pc := 156) dX11_number0_156 h0.2.1 rfl ?_
      exact tt_iret (M := MX11_number0) (pc := 157) dX11_number0_157 rfl
    · refine tt_ld (M := MX11_number0) (pc := 158) dX11_number0_158 rfl rfl rfl rfl rfl ?_
      refine tt_getI (M := MX11_number0) (pc := 159) dX11_number0_159 rfl h0.1 rfl ?_
      exact tt_iret (M := MX11_number0) (pc := 162) dX11_number0_162 rfl
    · refine tt_ld (M := MX11_number0) (pc := 163) dX11_number0_163 rfl rfl rfl rfl rfl ?_
      refine tt_getI (M := MX11_number0) (pc := 164) dX11_number0_164 rfl h0.1 rfl ?_
      exact tt_iret (M := MX11_number0) (pc := 167) dX11_number0_167 rfl
    · refine tt_ld (M := MX11_number0) (pc := 168) dX11_number0_168 rfl rfl rfl rfl rfl ?_
      refine tt_getI (M := MX11_number0) (pc := 169) dX11_number0_169 rfl h0.1 rfl ?_
      exact tt_iret (M := MX11_number0) (pc := 172) dX11_number0_172 rfl
    · refine tt_ld (M := MX11_number0) (pc := 173) dX11_number0_173 rfl rfl rfl rfl rfl ?_
      refine tt_getI (M := MX11_number0) (pc := 174) dX11_number0_174 rfl h0.1 rfl ?_
      exact tt_iret (M := MX11_number0) (pc := 177) dX11_number0_177 rfl
theorem qX11_isGuest_0 {sc : Nat × (Nat → Int32)} {SH : List mCell} {S : mStore} {r : mR × mW} (h0 : sMod SH) {l1 : Int} : ((∃ v101 S102, G sc MX11_within 0 [some (.int (I l1)), some (.int (I 0)), some (.int (I ((S 90 18) - 1)))] [] SH S (rI v101 SH S102) ∧ (∃ v103 S104, G sc MX11_right 0 [some (.ref 90), some (.int (I v101)), some (.int (I 1))] [] SH S102 (rI v103 SH S104) ∧ ((I v103 = I 0 ∨ I v103 = I 1) ∧ r = rI v103 SH S104)))) → G sc MX11_isGuest 0 [some (.ref 90), some (.int (I l1))] [] SH S r := by
  refine tt_ld (M := MX11_isGuest) (pc := 0) dX11_isGuest_0 rfl rfl rfl rfl rfl ?_
  refine tt_ld (M := MX11_isGuest) (pc := 1) dX11_isGuest_1 rfl rfl rfl rfl rfl ?_
  refine tt_iconst (M := MX11_isGuest) (pc := 2) dX11_isGuest_2 ?_
  refine tt_ld (M := MX11_isGuest) (pc := 3) dX11_isGuest_3 rfl rfl rfl rfl rfl ?_
  refine tt_getI (M := MX11_isGuest) (pc := 4) dX11_isGuest_4 rfl h0.1 rfl ?_
  refine tt_iconst (M := MX11_isGuest) (pc := 7) dX11_isGuest_7 ?_
  refine tt_isub (M := MX11_isGuest) (pc := 8) dX11_isGuest_8 ?_
  refine tt_scIN (M := MX11_isGuest) (pc := 9) dX11_isGuest_9 rfl [.ref 90] rfl rfl ⟨rfl, by decide, Nat.le_of_ble_eq_true rfl⟩ fun v101 S102 => ?_
  refine tt_iconst (M := MX11_isGuest) (pc := 12) dX11_isGuest_12 ?_
  refine tt_vcIN (M := MX11_isGuest) (pc := 13) dX11_isGuest_13 rfl rfl [] rfl rfl ⟨rfl, by decide, Nat.le_of_ble_eq_true rfl⟩ h0.1 fun v103 S104 => ?_
  exact tt_zret (M := MX11_isGuest) (pc := 16) dX11_isGuest_16 rfl
theorem qX11_isPage_0 {sc : Nat × (Nat → Int32)} {SH : List mCell} {S : mStore} {r : mR × mW} (h0 : sMod SH) {l1 : Int} {l2 : Int} : ((∃ v101 S102, G sc MX11_isGuest 0 [some (.ref 90), some (.int (I l1))] [] SH S (rI v101 SH S102) ∧ (if I v101 = I 0 then ((I 0 = I 0 ∨ I 0 = I 1) ∧ r = rI 0 SH S102) else (((0 : Int) ≤ l1 ∧ l1 < 4) ∧ (∃ v103 S104, G sc MX11_within 0 [some (.int (I l2)), some (.int (I 0)), some (.int (I ((S102 95 l1) - 1)))] [] SH S102 (rI v103 SH S104) ∧ (∃ v105 S106, G sc MX11_right 0 [some (.ref 90), some (.int (I v103)), some (.int (I 1))] [] SH S104 (rI v105 SH S106) ∧ (if I v105 = I 0 then ((I 0 = I 0 ∨ I 0 = I 1) ∧ r = rI 0 SH S106) else ((I 1 = I 0 ∨ I 1 = I 1) ∧ r = rI 1 SH S106)))))))) → G sc MX11_isPage 0 [some (.ref 90), some (.int (I l1)), some (.int (I l2))] [] SH S r := by
  refine tt_ld (M := MX11_isPage) (pc := 0) dX11_isPage_0 rfl rfl rfl rfl rfl ?_
  refine tt_ld (M := MX11_isPage) (pc := 1) dX11_isPage_1 rfl rfl rfl rfl rfl ?_
  refine tt_vcIN (M := MX11_isPage) (pc := 2) dX11_isPage_2 rfl rfl [] rfl rfl ⟨rfl, by decide, Nat.le_of_ble_eq_true rfl⟩ h0.1 fun v101 S102 => ?_
  refine tt_if_eq (M := MX11_isPage) (pc := 5) 33 dX11_isPage_5 rfl ?_ ?_
  · refine tt_iconst (M := MX11_isPage) (pc := 33) dX11_isPage_33 ?_
    exact tt_zret (M := MX11_isPage) (pc := 34) dX11_isPage_34 rfl
  · refine tt_ld (M := MX11_isPage) (pc := 8) dX11_isPage_8 rfl rfl rfl rfl rfl ?_
    refine tt_ld (M := MX11_isPage) (pc := 9) dX11_isPage_9 rfl rfl rfl rfl rfl ?_
    refine tt_iconst (M := MX11_isPage) (pc := 10) dX11_isPage_10 ?_
    refine tt_ld (M := MX11_isPage) (pc := 11) dX11_isPage_11 rfl rfl rfl rfl rfl ?_
    refine tt_getR (M := MX11_isPage) (pc := 12) dX11_isPage_12 rfl h0.1 rfl ?_
    refine tt_ld (M := MX11_isPage) (pc := 15) dX11_isPage_15 rfl rfl rfl rfl rfl ?_
    refine tt_iaload (M := MX11_isPage) (pc := 16) dX11_isPage_16 h0.2.2.2.2.2.1 rfl ?_
    refine tt_iconst (M := MX11_isPage) (pc := 17) dX11_isPage_17 ?_
    refine tt_isub (M := MX11_isPage) (pc := 18) dX11_isPage_18 ?_
    refine tt_scIN (M := MX11_isPage) (pc := 19) dX11_isPage_19 rfl [.ref 90] rfl rfl ⟨rfl, by decide, Nat.le_of_ble_eq_true rfl⟩ fun v103 S104 => ?_
    refine tt_iconst (M := MX11_isPage) (pc := 22) dX11_isPage_22 ?_
    refine tt_vcIN (M := MX11_isPage) (pc := 23) dX11_isPage_23 rfl rfl [] rfl rfl ⟨rfl, by decide, Nat.le_of_ble_eq_true rfl⟩ h0.1 fun v105 S106 => ?_
    refine tt_if_eq (M := MX11_isPage) (pc := 26) 33 dX11_isPage_26 rfl ?_ ?_
    · refine tt_iconst (M := MX11_isPage) (pc := 33) dX11_isPage_33 ?_
      exact tt_zret (M := MX11_isPage) (pc := 34) dX11_isPage_34 rfl
    · refine tt_iconst (M := MX11_isPage) (pc := 29) dX11_isPage_29 ?_
      refine tt_goto (M := MX11_isPage) (pc := 30) 34 dX11_isPage_30 rfl ?_
      exact tt_zret (M := MX11_isPage) (pc := 34) dX11_isPage_34 rfl
theorem qX11_lying_0 {sc : Nat × (Nat → Int32)} {SH : List mCell} {S : mStore} {r : mR × mW} (h0 : sMod SH) {l1 : Int} {u2 : Option Value} {u3 : Option Value} {u4 : Option Value} {u5 : Option Value} : (G sc MX11_lying 4 [some (.ref 90), some (.int (I l1)), some (.int (I 0)), some (.int (I 0)), u4, u5] [] SH S r) → G sc MX11_lying 0 [some (.ref 90), some (.int (I l1)), u2, u3, u4, u5] [] SH S r := by
  refine tt_iconst (M := MX11_lying) (pc := 0) dX11_lying_0 ?_
  refine tt_st (M := MX11_lying) (pc := 1) [some (.ref 90), some (.int (I l1)), some (.int (I 0)), u3, u4, u5] dX11_lying_1 rfl rfl rfl rfl rfl rfl ?_
  refine tt_iconst (M := MX11_lying) (pc := 2) dX11_lying_2 ?_
  refine tt_st (M := MX11_lying) (pc := 3) [some (.ref 90), some (.int (I l1)), some (.int (I 0)), some (.int (I 0)), u4, u5] dX11_lying_3 rfl rfl rfl rfl rfl rfl ?_
  exact id
theorem qX11_lying_4 {sc : Nat × (Nat → Int32)} {SH : List mCell} {S : mStore} {r : mR × mW} (h0 : sMod SH) {l1 : Int} {l2 : Int} {l3 : Int} {u4 : Option Value} {u5 : Option Value} : ((if I (S 90 12) ≤ I l3 then r = rI l2 SH S else G sc MX11_lying 18 [some (.ref 90), some (.int (I l1)), some (.int (I l2)), some (.int (I l3)), some (.int (I 0)), some (.int (I 0))] [] SH S r)) → G sc MX11_lying 4 [some (.ref 90), some (.int (I l1)), some (.int (I l2)), some (.int (I l3)), u4, u5] [] SH S r := by
  refine tt_ld (M := MX11_lying) (pc := 4) dX11_lying_4 rfl rfl rfl rfl rfl ?_
  refine tt_ld (M := MX11_lying) (pc := 5) dX11_lying_5 rfl rfl rfl rfl rfl ?_
  refine tt_getI (M := MX11_lying) (pc := 6) dX11_lying_6 rfl h0.1 rfl ?_
  refine tt_ic_ge (M := MX11_lying) (pc := 9) 95 dX11_lying_9 rfl ?_ ?_
  · refine tt_ld (M := MX11_lying) (pc := 95) dX11_lying_95 rfl rfl rfl rfl rfl ?_
    exact tt_iret (M := MX11_lying) (pc := 96) dX11_lying_96 rfl
  · refine tt_iconst (M := MX11_lying) (pc := 12) dX11_lying_12 ?_
    refine tt_st (M := MX11_lying) (pc := 13) [some (.ref 90), some (.int (I l1)), some (.int (I l2)), some (.int (I l3)), some (.int (I 0)), u5] dX11_lying_13 rfl rfl rfl rfl rfl rfl ?_
    refine tt_iconst (M := MX11_lying) (pc := 15) dX11_lying_15 ?_
    refine tt_st (M := MX11_lying) (pc := 16) [some (.ref 90), some (.int (I l1)), some (.int (I l2)), some (.int (I l3)), some (.int (I 0)), some (.int (I 0))] dX11_lying_16 rfl rfl rfl rfl rfl rfl ?_
    exact id
theorem qX11_lying_18 {sc : Nat × (Nat → Int32)} {SH : List mCell} {S : mStore} {r : mR × mW} (h0 : sMod SH) {l1 : Int} {l2 : Int} {l3 : Int} {l4 : Int} {l5 : Int} : ((((0 : Int) ≤ 544 + l3 ∧ 544 + l3 < 137400) ∧ (if I (S 91 (544 + l3)) ≤ I l5 then (if I l4 = I 0 then G sc MX11_lying 4 [some (.ref 90), some (.int (I l1)), some (.int (I (l2 + 0))), some (.int (I (l3 + 1))), some (.int (I l4)), some (.int (I l5))] [] SH S r else G sc MX11_lying 4 [some (.ref 90), some (.int (I l1)), some (.int (I (l2 + 1))), some (.int (I (l3 + 1))), some (.int (I l4)), some (.int (I l5))] [] SH S r) else (if I l4 = I 0 then (((0 : Int) ≤ (592 + (8 * l3)) + l5 ∧ (592 + (8 * l3)) + l5 < 137400) ∧ (((0 : Int) ≤ S 91 ((592 + (8 * l3)) + l5) ∧ S 91 ((592 + (8 * l3)) + l5) < 48) ∧ (if I (S 98 (S 91 ((592 + (8 * l3)) + l5))) = I l1 then G sc MX11_lying 18 [some (.ref 90), some (.int (I l1)), some (.int (I l2)), some (.int (I l3)), some (.int (I 1)), some (.int (I (l5 + 1)))] [] SH S r else G sc MX11_lying 18 [some (.ref 90), some (.int (I l1)), some (.int (I l2)), some (.int (I l3)), some (.int (I 0)), some (.int (I (l5 + 1)))] [] SH S r))) else G sc MX11_lying 18 [some (.ref 90), some (.int (I l1)), some (.int (I l2)), some (.int (I l3)), some (.int (I 1)), some (.int (I (l5 + 1)))] [] SH S r)))) → G sc MX11_lying 18 [some (.ref 90), some (.int (I l1)), some (.int (I l2)), some (.int (I l3)), some (.int (I l4)), some (.int (I l5))] [] SH S r := by
  refine tt_ld (M := MX11_lying) (pc := 18) dX11_lying_18 rfl rfl rfl rfl rfl ?_
  refine tt_ld (M := MX11_lying) (pc := 20) dX11_lying_20 rfl rfl rfl rfl rfl ?_
  refine tt_getR (M := MX11_lying) (pc := 21) dX11_lying_21 rfl h0.1 rfl ?_
  refine tt_sipush (M := MX11_lying) (pc := 24) dX11_lying_24 (by decide) ?_
  refine tt_ld (M := MX11_lying) (pc := 27) dX11_lying_27 rfl rfl rfl rfl rfl ?_
  refine tt_iadd (M := MX11_lying) (pc := 28) dX11_lying_28 ?_
  refine tt_iaload (M := MX11_lying) (pc := 29) dX11_lying_29 h0.2.1 rfl ?_
  refine tt_ic_ge (M := MX11_lying) (pc := 30) 76 dX11_lying_30 rfl ?_ ?_
  · refine tt_ld (M := MX11_lying) (pc := 76) dX11_lying_76 rfl rfl rfl rfl rfl ?_
    refine tt_ld (M := MX11_lying) (pc := 77) dX11_lying_77 rfl rfl rfl rfl rfl ?_
    refine tt_if_eq (M := MX11_lying) (pc := 79) 86 dX11_lying_79 rfl ?_ ?_
    · refine tt_iconst (M := MX11_lying) (pc := 86) dX11_lying_86 ?_
      refine tt_iadd (M := MX11_lying) (pc := 87) dX11_lying_87 ?_
      refine tt_st (M := MX11_lying) (pc := 88) [some (.ref 90), some (.int (I l1)), some (.int (I (l2 + 0))), some (.int (I l3)), some (.int (I l4)), some (.int (I l5))] dX11_lying_88 rfl rfl rfl rfl rfl rfl ?_
      refine tt_iinc (M := MX11_lying) (pc := 89) [some (.ref 90), some (.int (I l1)), some (.int (I (l2 + 0))), some (.int (I (l3 + 1))), some (.int (I l4)), some (.int (I l5))] dX11_lying_89 rfl rfl ?_
      refine tt_goto (M := MX11_lying) (pc := 92) 4 dX11_lying_92 rfl ?_
      exact id
    · refine tt_iconst (M := MX11_lying) (pc := 82) dX11_lying_82 ?_
      refine tt_goto (M := MX11_lying) (pc := 83) 87 dX11_lying_83 rfl ?_
      refine tt_iadd (M := MX11_lying) (pc := 87) dX11_lying_87 ?_
      refine tt_st (M := MX11_lying) (pc := 88) [some (.ref 90), some (.int (I l1)), some (.int (I (l2 + 1))), some (.int (I l3)), some (.int (I l4)), some (.int (I l5))] dX11_lying_88 rfl rfl rfl rfl rfl rfl ?_
      refine tt_iinc (M := MX11_lying) (pc := 89) [some (.ref 90), some (.int (I l1)), some (.int (I (l2 + 1))), some (.int (I (l3 + 1))), some (.int (I l4)), some (.int (I l5))] dX11_lying_89 rfl rfl ?_
      refine tt_goto (M := MX11_lying) (pc := 92) 4 dX11_lying_92 rfl ?_
      exact id
  · refine tt_ld (M := MX11_lying) (pc := 33) dX11_lying_33 rfl rfl rfl rfl rfl ?_
    refine tt_if_ne (M := MX11_lying) (pc := 35) 63 dX11_lying_35 rfl ?_ ?_
    · refine tt_iconst (M := MX11_lying) (pc := 63) dX11_lying_63 ?_
      refine tt_goto (M := MX11_lying) (pc := 64) 68 dX11_lying_64 rfl ?_
      refine tt_st (M := MX11_lying) (pc := 68) [some (.ref 90), some (.int (I l1)), some (.int (I l2)), some (.int (I l3)), some (.int (I 1)), some (.int (I l5))] dX11_lying_68 rfl rfl rfl rfl rfl rfl ?_
      refine tt_iinc (M := MX11_lying) (pc := 70) [some (.ref 90), some (.int (I l1)), some (.int (I l2)), some (.int (I l3)), some (.int (I 1)), some (.int (I (l5 + 1)))] dX11_lying_70 rfl rfl ?_
      refine tt_goto (M := MX11_lying) (pc := 73) 18 dX11_lying_73 rfl ?_
      exact id
    · refine tt_ld (M := MX11_lying) (pc := 38) dX11_lying_38 rfl rfl rfl rfl rfl ?_
      refine tt_getR (M := MX11_lying) (pc := 39) dX11_lying_39 rfl h0.1 rfl ?_
      refine tt_ld (M := MX11_lying) (pc := 42) dX11_lying_42 rfl rfl rfl rfl rfl ?_
      refine tt_getR (M := MX11_lying) (pc := 43) dX11_lying_43 rfl h0.1 rfl ?_
      refine tt_sipush (M := MX11_lying) (pc := 46) dX11_lying_46 (by decide) ?_
      refine tt_bipush (M := MX11_lying) (pc := 49) dX11_lying_49 (by decide) ?_
      refine tt_ld (M := MX11_lying) (pc := 51) dX11_lying_51 rfl rfl rfl rfl rfl ?_
      refine tt_imul (M := MX11_lying) (pc := 52) dX11_lying_52 ?_
      refine tt_iadd (M := MX11_lying) (pc := 53) dX11_lying_53 ?_
      refine tt_ld (M := MX11_lying) (pc := 54) dX11_lying_54 rfl rfl rfl rfl rfl ?_
      refine tt_iadd (M := MX11_lying) (pc := 56) dX11_lying_56 ?_
      refine tt_iaload (M := MX11_lying) (pc := 57) dX11_lying_57 h0.2.1 rfl ?_
      refine tt_iaload (M := MX11_lying) (pc := 58) dX11_lying_58 h0.2.2.2.2.2.2.2.2.1 rfl ?_
      refine tt_ld (M := MX11_lying) (pc := 59) dX11_lying_59 rfl rfl rfl rfl rfl ?_
      refine tt_ic_ne (M := MX11_lying) (pc := 60) 67 dX11_lying_60 rfl ?_ ?_
      · refine tt_iconst (M := MX11_lying) (pc := 67) dX11_lying_67 ?_
        refine tt_st (M := MX11_lying) (pc := 68) [some (.ref 90), some (.int (I l1)), some (.int (I l2)), some (.int (I l3)), some (.int (I 0)), some (.int (I l5))] dX11_lying_68 rfl rfl rfl rfl rfl rfl ?_
        refine tt_iinc (M := MX11_lying) (pc := 70) [some (.ref 90), some (.int (I l1)), some (.int (I l2)), some (.int (I l3)), some (.int (I 0)), some (.int (I (l5 + 1)))] dX11_lying_70 rfl rfl ?_
        refine tt_goto (M := MX11_lying) (pc := 73) 18 dX11_lying_73 rfl ?_
        exact id
      · refine tt_iconst (M := MX11_lying) (pc := 63) dX11_lying_63 ?_
        refine tt_goto (M := MX11_lying) (pc := 64) 68 dX11_lying_64 rfl ?_
        refine tt_st (M := MX11_lying) (pc := 68) [some (.ref 90), some (.int (I l1)), some (.int (I l2)), some (.int (I l3)), some (.int (I 1)), some (.int (I l5))] dX11_lying_68 rfl rfl rfl rfl rfl rfl ?_
        refine tt_iinc (M := MX11_lying) (pc := 70) [some (.ref 90), some (.int (I l1)), some (.int (I l2)), some (.int (I l3)), some (.int (I 1)), some (.int (I (l5 + 1)))] dX11_lying_70 rfl rfl ?_
        refine tt_goto (M := MX11_lying) (pc := 73) 18 dX11_lying_73 rfl ?_
        exact id
theorem qX11_guest_0 {sc : Nat × (Nat → Int32)} {SH : List mCell} {S : mStore} {r : mR × mW} (h0 : sMod SH) {l1 : Int} {l2 : Int} {u3 : Option Value} {u4 : Option Value} {u5 : Option Value} {u6 : Option Value} : ((∃ v101 S102, G sc MX11_isGuest 0 [some (.ref 90), some (.int (I l1))] [] SH (up S 90 4 0) (rI v101 SH S102) ∧ (if I v101 = I 0 then r = rI 0 SH S102 else (∃ v103 S104, G sc MX11_within 0 [some (.int (I l2)), some (.int (I 0)), some (.int (I 5))] [] SH S102 (rI v103 SH S104) ∧ (∃ v105 S106, G sc MX11_right 0 [some (.ref 90), some (.int (I v103)), some (.int (I 1))] [] SH S104 (rI v105 SH S106) ∧ (if I v105 = I 0 then r = rI 0 SH S106 else (((0 : Int) ≤ l1 ∧ l1 < 5) ∧ (((0 : Int) ≤ l1 ∧ l1 < 4) ∧ G sc MX11_guest 52 [some (.ref 90), some (.int (I l1)), some (.int (I l2)), some (.int (I (S106 97 l1))), some (.int (I ((S106 97 l1) + (S106 95 l1)))), some (.int (I 0)), some (.int (I (S106 97 l1)))] [] SH S106 r)))))))) → G sc MX11_guest 0 [some (.ref 90), some (.int (I l1)), some (.int (I l2)), u3, u4, u5, u6] [] SH S r := by
  refine tt_ld (M := MX11_guest) (pc := 0) dX11_guest_0 rfl rfl rfl rfl rfl ?_
  refine tt_iconst (M := MX11_guest) (pc := 1) dX11_guest_1 ?_
  refine tt_putI (M := MX11_guest) (pc := 2) dX11_guest_2 rfl rfl (Or.inl rfl) h0.1 rfl ?_
  refine tt_ld (M := MX11_guest) (pc := 5) dX11_guest_5 rfl rfl rfl rfl rfl ?_
  refine tt_ld (M := MX11_guest) (pc := 6) dX11_guest_6 rfl rfl rfl rfl rfl ?_
  refine tt_vcIN (M := MX11_guest) (pc := 7) dX11_guest_7 rfl rfl [] rfl rfl ⟨rfl, by decide, Nat.le_of_ble_eq_true rfl⟩ h0.1 fun v101 S102 => ?_
  refine tt_if_eq (M := MX11_guest) (pc := 10) 27 dX11_guest_10 rfl ?_ ?_
  · refine tt_iconst (M := MX11_guest) (pc := 27) dX11_guest_27 ?_
    exact tt_iret (M := MX11_guest) (pc := 28) dX11_guest_28 rfl
  · refine tt_ld (M := MX11_guest) (pc := 13) dX11_guest_13 rfl rfl rfl rfl rfl ?_
    refine tt_ld (M := MX11_guest) (pc := 14) dX11_guest_14 rfl rfl rfl rfl rfl ?_
    refine tt_iconst (M := MX11_guest) (pc := 15) dX11_guest_15 ?_
    refine tt_iconst (M := MX11_guest) (pc := 16) dX11_guest_16 ?_
    refine tt_scIN (M := MX11_guest) (pc := 17) dX11_guest_17 rfl [.ref 90] rfl rfl ⟨rfl, by decide, Nat.le_of_ble_eq_true rfl⟩ fun v103 S104 => ?_
    refine tt_iconst (M := MX11_guest) (pc := 20) dX11_guest_20 ?_
    refine tt_vcIN (M := MX11_guest) (pc := 21) dX11_guest_21 rfl rfl [] rfl rfl ⟨rfl, by decide, Nat.le_of_ble_eq_true rfl⟩ h0.1 fun v105 S106 => ?_
    refine tt_if_ne (M := MX11_guest) (pc := 24) 29 dX11_guest_24 rfl ?_ ?_
    · refine tt_ld (M := MX11_guest) (pc := 29) dX11_guest_29 rfl rfl rfl rfl rfl ?_
      refine tt_getR (M := MX11_guest) (pc := 30) dX11_guest_30 rfl h0.1 rfl ?_
      refine tt_ld (M := MX11_guest) (pc := 33) dX11_guest_33 rfl rfl rfl rfl rfl ?_
      refine tt_iaload (M := MX11_guest) (pc := 34) dX11_guest_34 h0.2.2.2.2.2.2.2.1 rfl ?_
      refine tt_st (M := MX11_guest) (pc := 35) [some (.ref 90), some (.int (I l1)), some (.int (I l2)), some (.int (I (S106 97 l1))), u4, u5, u6] dX11_guest_35 rfl rfl rfl rfl rfl rfl ?_
      refine tt_ld (M := MX11_guest) (pc := 36) dX11_guest_36 rfl rfl rfl rfl rfl ?_
      refine tt_ld (M := MX11_guest) (pc := 37) dX11_guest_37 rfl rfl rfl rfl rfl ?_
      refine tt_getR (M := MX11_guest) (pc := 38) dX11_guest_38 rfl h0.1 rfl ?_
      refine tt_ld (M := MX11_guest) (pc := 41) dX11_guest_41 rfl rfl rfl rfl rfl ?_
      refine tt_iaload (M := MX11_guest) (pc := 42) dX11_guest_42 h0.2.2.2.2.2.1 rfl ?_
      refine tt_iadd (M := MX11_guest) (pc := 43) dX11_guest_43 ?_
      refine tt_st (M := MX11_guest) (pc := 44) [some (.ref 90), some (.int (I l1)), some (.int (I l2)), some (.int (I (S106 97 l1))), some (.int (I ((S106 97 l1) + (S106 95 l1)))), u5, u6] dX11_guest_44 rfl rfl rfl rfl rfl rfl ?_
      refine tt_iconst (M := MX11_guest) (pc := 46) dX11_guest_46 ?_
      refine tt_st (M := MX11_guest) (pc := 47) [some (.ref 90), some (.int (I l1)), some (.int (I l2)), some (.int (I (S106 97 l1))), some (.int (I ((S106 97 l1) + (S106 95 l1)))), some (.int (I 0)), u6] dX11_guest_47 rfl rfl rfl rfl rfl rfl ?_
      refine tt_ld (M := MX11_guest) (pc := 49) dX11_guest_49 rfl rfl rfl rfl rfl ?_
      refine tt_st (M := MX11_guest) (pc := 50) [some (.ref 90), some (.int (I l1)), some (.int (I l2)), some (.int (I (S106 97 l1))), some (.int (I ((S106 97 l1) + (S106 95 l1)))), some (.int (I 0)), some (.int (I (S106 97 l1)))] dX11_guest_50 rfl rfl rfl rfl rfl rfl ?_
      exact id
    · refine tt_iconst (M := MX11_guest) (pc := 27) dX11_guest_27 ?_
      exact tt_iret (M := MX11_guest) (pc := 28) dX11_guest_28 rfl
theorem qX11_guest_52 {sc : Nat × (Nat → Int32)} {SH : List mCell} {S : mStore} {r : mR × mW} (h0 : sMod SH) {l1 : Int} {l2 : Int} {l3 : Int} {l4 : Int} {l5 : Int} {l6 : Int} : ((if I l4 ≤ I l6 then (if I l2 = I 0 then (((0 : Int) ≤ l1 ∧ l1 < 4) ∧ r = rI (S 95 l1) SH S) else (if I l2 = I 1 then (((0 : Int) ≤ l1 ∧ l1 < 4) ∧ r = rI (S 96 l1) SH S) else (if I l2 = I 2 then (∃ v105 S106, G sc MX11_absent 0 [some (.ref 90), some (.int (I l3)), some (.int (I l4)), none, none] [] SH S (rI v105 SH S106) ∧ r = rI v105 SH S106) else (if I l2 = I 3 then r = rI l5 SH S else (if I l2 = I 4 then (∃ v103 S104, G sc MX11_advised 0 [some (.ref 90), some (.int (I l3)), some (.int (I l4)), none, none] [] SH S (rI v103 SH S104) ∧ r = rI v103 SH S104) else (∃ v101 S102, G sc MX11_lying 0 [some (.ref 90), some (.int (I l1)), none, none, none, none] [] SH S (rI v101 SH S102) ∧ r = rI v101 SH S102)))))) else (∃ v107 S108, G sc MX11_isMerged 0 [some (.ref 90), some (.int (I 0)), some (.int (I l6))] [] SH S (rI v107 SH S108) ∧ (if I v107 = I 0 then G sc MX11_guest 52 [some (.ref 90), some (.int (I l1)), some (.int (I l2)), some (.int (I l3)), some (.int (I l4)), some (.int (I (l5 + 0))), some (.int (I (l6 + 1)))] [] SH S108 r else G sc MX11_guest 52 [some (.ref 90), some (.int (I l1)), some (.int (I l2)), some (.int (I l3)), some (.int (I l4)), some (.int (I (l5 + 1))), some (.int (I (l6 + 1)))] [] SH S108 r)))) → G sc MX11_guest 52 [some (.ref 90), some (.int (I l1)), some (.int (I l2)), some (.int (I l3)), some (.int (I l4)), some (.int (I l5)), some (.int (I l6))] [] SH S r := by
  refine tt_ld (M := MX11_guest) (pc := 52) dX11_guest_52 rfl rfl rfl rfl rfl ?_
  refine tt_ld (M := MX11_guest) (pc := 54) dX11_guest_54 rfl rfl rfl rfl rfl ?_
  refine tt_ic_ge (M := MX11_guest) (pc := 56) 85 dX11_guest_56 rfl ?_ ?_
  · refine tt_ld (M := MX11_guest) (pc := 85) dX11_guest_85 rfl rfl rfl rfl rfl ?_
    refine tt_if_ne (M := MX11_guest) (pc := 86) 98 dX11_guest_86 rfl ?_ ?_
    · refine tt_ld (M := MX11_guest) (pc := 98) dX11_guest_98 rfl rfl rfl rfl rfl ?_
      refine tt_iconst (M := MX11_guest) (pc := 99) dX11_guest_99 ?_
      refine tt_ic_ne (M := MX11_guest) (pc := 100) 112 dX11_guest_100 rfl ?_ ?_
      · refine tt_ld (M := MX11_guest) (pc := 112) dX11_guest_112 rfl rfl rfl rfl rfl ?_
        refine tt_iconst (M := MX11_guest) (pc := 113) dX11_guest_113 ?_
        refine tt_ic_ne (M := MX11_guest) (pc := 114) 127 dX11_guest_114 rfl ?_ ?_
        · refine tt_ld (M := MX11_guest) (pc := 127) dX11_guest_127 rfl rfl rfl rfl rfl ?_
          refine tt_iconst (M := MX11_guest) (pc := 128) dX11_guest_128 ?_
          refine tt_ic_ne (M := MX11_guest) (pc := 129) 137 dX11_guest_129 rfl ?_ ?_
          · refine tt_ld (M := MX11_guest) (pc := 137) dX11_guest_137 rfl rfl rfl rfl rfl ?_
            refine tt_iconst (M := MX11_guest) (pc := 138) dX11_guest_138 ?_
            refine tt_ic_ne (M := MX11_guest) (pc := 139) 152 dX11_guest_139 rfl ?_ ?_
            · refine tt_ld (M := MX11_guest) (pc := 152) dX11_guest_152 rfl rfl rfl rfl rfl ?_
              refine tt_ld (M := MX11_guest) (pc := 153) dX11_guest_153 rfl rfl rfl rfl rfl ?_
              refine tt_vcIN (M := MX11_guest) (pc := 154) dX11_guest_154 rfl rfl [] rfl rfl ⟨rfl, by decide, Nat.le_of_ble_eq_true rfl⟩ h0.1 fun v101 S102 => ?_
              exact tt_iret (M := MX11_guest) (pc := 157) dX11_guest_157 rfl
            · refine tt_ld (M := MX11_guest) (pc := 142) dX11_guest_142 rfl rfl rfl rfl rfl ?_
              refine tt_ld (M := MX11_guest) (pc := 143) dX11_guest_143 rfl rfl rfl rfl rfl ?_
              refine tt_ld (M := MX11_guest) (pc := 144) dX11_guest_144 rfl rfl rfl rfl rfl ?_
              refine tt_vcIN (M := MX11_guest) (pc := 146) dX11_guest_146 rfl rfl [] rfl rfl ⟨rfl, by decide, Nat.le_of_ble_eq_true rfl⟩ h0.1 fun v103 S104 => ?_
              refine tt_goto (M := MX11_guest) (pc := 149) 157 dX11_guest_149 rfl ?_
              exact tt_iret (M := MX11_guest) (pc := 157) dX11_guest_157 rfl
          · refine tt_ld (M := MX11_guest) (pc := 132) dX11_guest_132 rfl rfl rfl rfl rfl ?_
            refine tt_goto (M := MX11_guest) (pc := 134) 157 dX11_guest_134 rfl ?_
            exact tt_iret (M := MX11_guest) (pc := 157) dX11_guest_157 rfl
        · refine tt_ld (M := MX11_guest) (pc := 117) dX11_guest_117 rfl rfl rfl rfl rfl ?_
          refine tt_ld (M := MX11_guest) (pc := 118) dX11_guest_118 rfl rfl rfl rfl rfl ?_
          refine tt_ld (M := MX11_guest) (pc := 119) dX11_guest_119 rfl rfl rfl rfl rfl ?_
          refine tt_vcIN (M := MX11_guest) (pc := 121) dX11_guest_121 rfl rfl [] rfl rfl ⟨rfl, by decide, Nat.le_of_ble_eq_true rfl⟩ h0.1 fun v105 S106 => ?_
          refine tt_goto (M := MX11_guest) (pc := 124) 157 dX11_guest_124 rfl ?_
          exact tt_iret (M := MX11_guest) (pc := 157) dX11_guest_157 rfl
      · refine tt_ld (M := MX11_guest) (pc := 103) dX11_guest_103 rfl rfl rfl rfl rfl ?_
        refine tt_getR (M := MX11_guest) (pc := 104) dX11_guest_104 rfl h0.1 rfl ?_
        refine tt_ld (M := MX11_guest) (pc := 107) dX11_guest_107 rfl rfl rfl rfl rfl ?_
        refine tt_iaload (M := MX11_guest) (pc := 108) dX11_guest_108 h0.2.2.2.2.2.2.1 rfl ?_
        refine tt_goto (M := MX11_guest) (pc := 109) 157 dX11_guest_109 rfl ?_
        exact tt_iret (M := MX11_guest) (pc := 157) dX11_guest_157 rfl
    · refine tt_ld (M := MX11_guest) (pc := 89) dX11_guest_89 rfl rfl rfl rfl rfl ?_
      refine tt_getR (M := MX11_guest) (pc := 90) dX11_guest_90 rfl h0.1 rfl ?_
      refine tt_ld (M := MX11_guest) (pc := 93) dX11_guest_93 rfl rfl rfl rfl rfl ?_
      refine tt_iaload (M := MX11_guest) (pc := 94) dX11_guest_94 h0.2.2.2.2.2.1 rfl ?_
      refine tt_goto (M := MX11_guest) (pc := 95) 157 dX11_guest_95 rfl ?_
      exact tt_iret (M := MX11_guest) (pc := 157) dX11_guest_157 rfl
  · refine tt_ld (M := MX11_guest) (pc := 59) dX11_guest_59 rfl rfl rfl rfl rfl ?_
    refine tt_ld (M := MX11_guest) (pc := 61) dX11_guest_61 rfl rfl rfl rfl rfl ?_
    refine tt_iconst (M := MX11_guest) (pc := 62) dX11_guest_62 ?_
    refine tt_ld (M := MX11_guest) (pc := 63) dX11_guest_63 rfl rfl rfl rfl rfl ?_
    refine tt_vcIN (M := MX11_guest) (pc := 65) dX11_guest_65 rfl rfl [.int (I l5)] rfl rfl ⟨rfl, by decide, Nat.le_of_ble_eq_true rfl⟩ h0.1 fun v107 S108 => ?_
    refine tt_if_eq (M := MX11_guest) (pc := 68) 75 dX11_guest_68 rfl ?_ ?_
    · refine tt_iconst (M := MX11_guest) (pc := 75) dX11_guest_75 ?_
      refine tt_iadd (M := MX11_guest) (pc := 76) dX11_guest_76 ?_
      refine tt_st (M := MX11_guest) (pc := 77) [some (.ref 90), some (.int (I l1)), some (.int (I l2)), some (.int (I l3)), some (.int (I l4)), some (.int (I (l5 + 0))), some (.int (I l6))] dX11_guest_77 rfl rfl rfl rfl rfl rfl ?_
      refine tt_iinc (M := MX11_guest) (pc := 79) [some (.ref 90), some (.int (I l1)), some (.int (I l2)), some (.int (I l3)), some (.int (I l4)), some (.int (I (l5 + 0))), some (.int (I (l6 + 1)))] dX11_guest_79 rfl rfl ?_
      refine tt_goto (M := MX11_guest) (pc := 82) 52 dX11_guest_82 rfl ?_
      exact id
    · refine tt_iconst (M := MX11_guest) (pc := 71) dX11_guest_71 ?_
      refine tt_goto (M := MX11_guest) (pc := 72) 76 dX11_guest_72 rfl ?_
      refine tt_iadd (M := MX11_guest) (pc := 76) dX11_guest_76 ?_
      refine tt_st (M := MX11_guest) (pc := 77) [some (.ref 90), some (.int (I l1)), some (.int (I l2)), some (.int (I l3)), some (.int (I l4)), some (.int (I (l5 + 1))), some (.int (I l6))] dX11_guest_77 rfl rfl rfl rfl rfl rfl ?_
      refine tt_iinc (M := MX11_guest) (pc := 79) [some (.ref 90), some (.int (I l1)), some (.int (I l2)), some (.int (I l3)), some (.int (I l4)), some (.int (I (l5 + 1))), some (.int (I (l6 + 1)))] dX11_guest_79 rfl rfl ?_
      refine tt_goto (M := MX11_guest) (pc := 82) 52 dX11_guest_82 rfl ?_
      exact id
theorem qX11_read_0 {sc : Nat × (Nat → Int32)} {SH : List mCell} {S : mStore} {r : mR × mW} (h0 : sMod SH) {l1 : Int} {l2 : Int} {l3 : Int} : ((∃ v101 S102, G sc MX11_isPage 0 [some (.ref 90), some (.int (I l1)), some (.int (I l2))] [] SH (up S 90 4 0) (rI v101 SH S102) ∧ (if I v101 = I 0 then r = rI 0 SH S102 else (∃ v103 S104, G sc MX11_within 0 [some (.int (I l3)), some (.int (I 0)), some (.int (I 3))] [] SH S102 (rI v103 SH S104) ∧ (∃ v105 S106, G sc MX11_right 0 [some (.ref 90), some (.int (I v103)), some (.int (I 1))] [] SH S104 (rI v105 SH S106) ∧ (if I v105 = I 0 then r = rI 0 SH S106 else (((0 : Int) ≤ l1 ∧ l1 < 5) ∧ (∃ v107 S108, G sc MX11_cellOf 0 [some (.ref 90), some (.int (I 0)), some (.int (I ((S106 97 l1) + l2))), some (.int (I l3)), none] [] SH S106 (rI v107 SH S108) ∧ r = rI v107 SH S108)))))))) → G sc MX11_read 0 [some (.ref 90), some (.int (I l1)), some (.int (I l2)), some (.int (I l3))] [] SH S r := by
  refine tt_ld (M := MX11_read) (pc := 0) dX11_read_0 rfl rfl rfl rfl rfl ?_
  refine tt_iconst (M := MX11_read) (pc := 1) dX11_read_1 ?_
  refine tt_putI (M := MX11_read) (pc := 2) dX11_read_2 rfl rfl (Or.inl rfl) h0.1 rfl ?_
  refine tt_ld (M := MX11_read) (pc := 5) dX11_read_5 rfl rfl rfl rfl rfl ?_
  refine tt_ld (M := MX11_read) (pc := 6) dX11_read_6 rfl rfl rfl rfl rfl ?_
  refine tt_ld (M := MX11_read) (pc := 7) dX11_read_7 rfl rfl rfl rfl rfl ?_
  refine tt_vcIN (M := MX11_read) (pc := 8) dX11_read_8 rfl rfl [] rfl rfl ⟨rfl, by decide, Nat.le_of_ble_eq_true rfl⟩ h0.1 fun v101 S102 => ?_
  refine tt_if_eq (M := MX11_read) (pc := 11) 45 dX11_read_11 rfl ?_ ?_
  · refine tt_iconst (M := MX11_read) (pc := 45) dX11_read_45 ?_
    exact tt_iret (M := MX11_read) (pc := 46) dX11_read_46 rfl
  · refine tt_ld (M := MX11_read) (pc := 14) dX11_read_14 rfl rfl rfl rfl rfl ?_
    refine tt_ld (M := MX11_read) (pc := 15) dX11_read_15 rfl rfl rfl rfl rfl ?_
    refine tt_iconst (M := MX11_read) (pc := 16) dX11_read_16 ?_
    refine tt_iconst (M := MX11_read) (pc := 17) dX11_read_17 ?_
    refine tt_scIN (M := MX11_read) (pc := 18) dX11_read_18 rfl [.ref 90] rfl rfl ⟨rfl, by decide, Nat.le_of_ble_eq_true rfl⟩ fun v103 S104 => ?_
    refine tt_iconst (M := MX11_read) (pc := 21) dX11_read_21 ?_
    refine tt_vcIN (M := MX11_read) (pc := 22) dX11_read_22 rfl rfl [] rfl rfl ⟨rfl, by decide, Nat.le_of_ble_eq_true rfl⟩ h0.1 fun v105 S106 => ?_
    refine tt_if_eq (M := MX11_read) (pc := 25) 45 dX11_read_25 rfl ?_ ?_
    · refine tt_iconst (M := MX11_read) (pc := 45) dX11_read_45 ?_
      exact tt_iret (M := MX11_read) (pc := 46) dX11_read_46 rfl
    · refine tt_ld (M := MX11_read) (pc := 28) dX11_read_28 rfl rfl rfl rfl rfl ?_
      refine tt_iconst (M := MX11_read) (pc := 29) dX11_read_29 ?_
      refine tt_ld (M := MX11_read) (pc := 30) dX11_read_30 rfl rfl rfl rfl rfl ?_
      refine tt_getR (M := MX11_read) (pc := 31) dX11_read_31 rfl h0.1 rfl ?_
      refine tt_ld (M := MX11_read) (pc := 34) dX11_read_34 rfl rfl rfl rfl rfl ?_
      refine tt_iaload (M := MX11_read) (pc := 35) dX11_read_35 h0.2.2.2.2.2.2.2.1 rfl ?_
      refine tt_ld (M := MX11_read) (pc := 36) dX11_read_36 rfl rfl rfl rfl rfl ?_
      refine tt_iadd (M := MX11_read) (pc := 37) dX11_read_37 ?_
      refine tt_ld (M := MX11_read) (pc := 38) dX11_read_38 rfl rfl rfl rfl rfl ?_
      refine tt_vcIN (M := MX11_read) (pc := 39) dX11_read_39 rfl rfl [] rfl rfl ⟨rfl, by decide, Nat.le_of_ble_eq_true rfl⟩ h0.1 fun v107 S108 => ?_
      refine tt_goto (M := MX11_read) (pc := 42) 46 dX11_read_42 rfl ?_
      exact tt_iret (M := MX11_read) (pc := 46) dX11_read_46 rfl
theorem qX11_page_0 {sc : Nat × (Nat → Int32)} {SH : List mCell} {S : mStore} {r : mR × mW} (h0 : sMod SH) {l1 : Int} {l2 : Int} {l3 : Int} {u4 : Option Value} : ((∃ v101 S102, G sc MX11_isPage 0 [some (.ref 90), some (.int (I l1)), some (.int (I l2))] [] SH (up S 90 4 0) (rI v101 SH S102) ∧ (if I v101 = I 0 then r = rI 0 SH S102 else (∃ v103 S104, G sc MX11_within 0 [some (.int (I l3)), some (.int (I 0)), some (.int (I 7))] [] SH S102 (rI v103 SH S104) ∧ (∃ v105 S106, G sc MX11_right 0 [some (.ref 90), some (.int (I v103)), some (.int (I 1))] [] SH S104 (rI v105 SH S106) ∧ (if I v105 = I 0 then r = rI 0 SH S106 else (((0 : Int) ≤ l1 ∧ l1 < 5) ∧ (swp l3 0 (((0 : Int) ≤ 304 + ((S106 97 l1) + l2) ∧ 304 + ((S106 97 l1) + l2) < 137400) ∧ r = rI (S106 91 (304 + ((S106 97 l1) + l2))) SH S106) [(((0 : Int) ≤ 16 + ((S106 97 l1) + l2) ∧ 16 + ((S106 97 l1) + l2) < 137400) ∧ r = rI (S106 91 (16 + ((S106 97 l1) + l2))) SH S106), (∃ v107 S108, G sc MX11_isMerged 0 [some (.ref 90), some (.int (I 0)), some (.int (I ((S106 97 l1) + l2)))] [] SH S106 (rI v107 SH S108) ∧ (if I v107 = I 0 then r = rI 0 SH S108 else r = rI 1 SH S108)), (((0 : Int) ≤ 64 + ((S106 97 l1) + l2) ∧ 64 + ((S106 97 l1) + l2) < 137400) ∧ r = rI (S106 91 (64 + ((S106 97 l1) + l2))) SH S106), (((0 : Int) ≤ 112 + ((S106 97 l1) + l2) ∧ 112 + ((S106 97 l1) + l2) < 137400) ∧ r = rI (S106 91 (112 + ((S106 97 l1) + l2))) SH S106), (((0 : Int) ≤ 160 + ((S106 97 l1) + l2) ∧ 160 + ((S106 97 l1) + l2) < 137400) ∧ r = rI (S106 91 (160 + ((S106 97 l1) + l2))) SH S106), (((0 : Int) ≤ 208 + ((S106 97 l1) + l2) ∧ 208 + ((S106 97 l1) + l2) < 137400) ∧ r = rI (S106 91 (208 + ((S106 97 l1) + l2))) SH S106), (((0 : Int) ≤ 256 + ((S106 97 l1) + l2) ∧ 256 + ((S106 97 l1) + l2) < 137400) ∧ r = rI (S106 91 (256 + ((S106 97 l1) + l2))) SH S106)])))))))) → G sc MX11_page 0 [some (.ref 90), some (.int (I l1)), some (.int (I l2)), some (.int (I l3)), u4] [] SH S r := by
  refine tt_ld (M := MX11_page) (pc := 0) dX11_page_0 rfl rfl rfl rfl rfl ?_
  refine tt_iconst (M := MX11_page) (pc := 1) dX11_page_1 ?_
  refine tt_putI (M := MX11_page) (pc := 2) dX11_page_2 rfl rfl (Or.inl rfl) h0.1 rfl ?_
  refine tt_ld (M := MX11_page) (pc := 5) dX11_page_5 rfl rfl rfl rfl rfl ?_
  refine tt_ld (M := MX11_page) (pc := 6) dX11_page_6 rfl rfl rfl rfl rfl ?_
  refine tt_ld (M := MX11_page) (pc := 7) dX11_page_7 rfl rfl rfl rfl rfl ?_
  refine tt_vcIN (M := MX11_page) (pc := 8) dX11_page_8 rfl rfl [] rfl rfl ⟨rfl, by decide, Nat.le_of_ble_eq_true rfl⟩ h0.1 fun v101 S102 => ?_
  refine tt_if_eq (M := MX11_page) (pc := 11) 29 dX11_page_11 rfl ?_ ?_
  · refine tt_iconst (M := MX11_page) (pc := 29) dX11_page_29 ?_
    exact tt_iret (M := MX11_page) (pc := 30) dX11_page_30 rfl
  · refine tt_ld (M := MX11_page) (pc := 14) dX11_page_14 rfl rfl rfl rfl rfl ?_
    refine tt_ld (M := MX11_page) (pc := 15) dX11_page_15 rfl rfl rfl rfl rfl ?_
    refine tt_iconst (M := MX11_page) (pc := 16) dX11_page_16 ?_
    refine tt_bipush (M := MX11_page) (pc := 17) dX11_page_17 (by decide) ?_
    refine tt_scIN (M := MX11_page) (pc := 19) dX11_page_19 rfl [.ref 90] rfl rfl ⟨rfl, by decide, Nat.le_of_ble_eq_true rfl⟩ fun v103 S104 => ?_
    refine tt_iconst (M := MX11_page) (pc := 22) dX11_page_22 ?_
    refine tt_vcIN (M := MX11_page) (pc := 23) dX11_page_23 rfl rfl [] rfl rfl ⟨rfl, by decide, Nat.le_of_ble_eq_true rfl⟩ h0.1 fun v105 S106 => ?_
    refine tt_if_ne (M := MX11_page) (pc := 26) 31 dX11_page_26 rfl ?_ ?_
    · refine tt_ld (M := MX11_page) (pc := 31) dX11_page_31 rfl rfl rfl rfl rfl ?_
      refine tt_getR (M := MX11_page) (pc := 32) dX11_page_32 rfl h0.1 rfl ?_
      refine tt_ld (M := MX11_page) (pc := 35) dX11_page_35 rfl rfl rfl rfl rfl ?_
      refine tt_iaload (M := MX11_page) (pc := 36) dX11_page_36 h0.2.2.2.2.2.2.2.1 rfl ?_
      refine tt_ld (M := MX11_page) (pc := 37) dX11_page_37 rfl rfl rfl rfl rfl ?_
      refine tt_iadd (M := MX11_page) (pc := 38) dX11_page_38 ?_
      refine tt_st (M := MX11_page) (pc := 39) [some (.ref 90), some (.int (I l1)), some (.int (I l2)), some (.int (I l3)), some (.int (I ((S106 97 l1) + l2)))] dX11_page_39 rfl rfl rfl rfl rfl rfl ?_
      refine tt_ld (M := MX11_page) (pc := 41) dX11_page_41 rfl rfl rfl rfl rfl ?_
      refine tt_switch (M := MX11_page) (pc := 42) 169 dX11_page_42 ⟨by decide, by simp only [List.length_cons, List.length_nil]; omega⟩ rfl rfl ?_ ?_
      · refine tt_ld (M := MX11_page) (pc := 169) dX11_page_169 rfl rfl rfl rfl rfl ?_
        refine tt_getR (M := MX11_page) (pc := 170) dX11_page_170 rfl h0.1 rfl ?_
        refine tt_sipush (M := MX11_page) (pc := 173) dX11_page_173 (by decide) ?_
        refine tt_ld (M := MX11_page) (pc := 176) dX11_page_176 rfl rfl rfl rfl rfl ?_
        refine tt_iadd (M := MX11_page) (pc := 178) dX11_page_178 ?_
        refine tt_iaload (M := MX11_page) (pc := 179) dX11_page_179 h0.2.1 rfl ?_
        exact tt_iret (M := MX11_page) (pc := 180) dX11_page_180 rfl
      · refine ⟨⟨84, rfl, ?_⟩, ⟨⟨95, rfl, ?_⟩, ⟨⟨111, rfl, ?_⟩, ⟨⟨122, rfl, ?_⟩, ⟨⟨133, rfl, ?_⟩, ⟨⟨145, rfl, ?_⟩, ⟨⟨157, rfl, ?_⟩, trivial⟩⟩⟩⟩⟩⟩⟩
        · refine tt_ld (M := MX11_page) (pc := 84) dX11_page_84 rfl rfl rfl rfl rfl ?_
          refine tt_getR (M := MX11_page) (pc := 85) dX11_page_85 rfl h0.1 rfl ?_
          refine tt_bipush (M := MX11_page) (pc := 88) dX11_page_88 (by decide) ?_
          refine tt_ld (M := MX11_page) (pc := 90) dX11_page_90 rfl rfl rfl rfl rfl ?_
          refine tt_iadd (M := MX11_page) (pc := 92) dX11_page_92 ?_
          refine tt_iaload (M := MX11_page) (pc := 93) dX11_page_93 h0.2.1 rfl ?_
          exact tt_iret (M := MX11_page) (pc := 94) dX11_page_94 rfl
        · refine tt_ld (M := MX11_page) (pc := 95) dX11_page_95 rfl rfl rfl rfl rfl ?_
          refine tt_iconst (M := MX11_page) (pc := 96) dX11_page_96 ?_
          refine tt_ld (M := MX11_page) (pc := 97) dX11_page_97 rfl rfl rfl rfl rfl ?_
          refine tt_vcIN (M := MX11_page) (pc := 99) dX11_page_99 rfl rfl [] rfl rfl ⟨rfl, by decide, Nat.le_of_ble_eq_true rfl⟩ h0.1 fun v107 S108 => ?_
          refine tt_if_eq (M := MX11_page) (pc := 102) 109 dX11_page_102 rfl ?_ ?_
          · refine tt_iconst (M := MX11_page) (pc := 109) dX11_page_109 ?_
            exact tt_iret (M := MX11_page) (pc := 110) dX11_page_110 rfl
          · refine tt_iconst (M := MX11_page) (pc := 105) dX11_page_105 ?_
            refine tt_goto (M := MX11_page) (pc := 106) 110 dX11_page_106 rfl ?_
            exact tt_iret (M := MX11_page) (pc := 110) dX11_page_110 rfl
        · refine tt_ld (M := MX11_page) (pc := 111) dX11_page_111 rfl rfl rfl rfl rfl ?_
          refine tt_getR (M := MX11_page) (pc := 112) dX11_page_112 rfl h0.1 rfl ?_
          refine tt_bipush (M := MX11_page) (pc := 115) dX11_page_115 (by decide) ?_
          refine tt_ld (M := MX11_page) (pc := 117) dX11_page_117 rfl rfl rfl rfl rfl ?_
          refine tt_iadd (M := MX11_page) (pc := 119) dX11_page_119 ?_
          refine tt_iaload (M := MX11_page) (pc := 120) dX11_page_120 h0.2.1 rfl ?_
          exact tt_iret (M := MX11_page) (pc := 121) dX11_page_121 rfl
        · refine tt_ld (M := MX11_page) (pc := 122) dX11_page_122 rfl rfl rfl rfl rfl ?_
          refine tt_getR (M := MX11_page) (pc := 123) dX11_page_123 rfl h0.1 rfl ?_
          refine tt_bipush (M := MX11_page) (pc := 126) dX11_page_126 (by decide) ?_
          refine tt_ld (M := MX11_page) (pc := 128) dX11_page_128 rfl rfl rfl rfl rfl ?_
          refine tt_iadd (M := MX11_page) (pc := 130) dX11_page_130 ?_
          refine tt_iaload (M := MX11_page) (pc := 131) dX11_page_131 h0.2.1 rfl ?_
          exact tt_iret (M := MX11_page) (pc := 132) dX11_page_132 rfl
        · refine tt_ld (M := MX11_page) (pc := 133) dX11_page_133 rfl rfl rfl rfl rfl ?_
          refine tt_getR (M := MX11_page) (pc := 134) dX11_page_134 rfl h0.1 rfl ?_
          refine tt_sipush (M := MX11_page) (pc := 137) dX11_page_137 (by decide) ?_
          refine tt_ld (M := MX11_page) (pc := 140) dX11_page_140 rfl rfl rfl rfl rfl ?_
          refine tt_iadd (M := MX11_page) (pc := 142) dX11_page_142 ?_
          refine tt_iaload (M := MX11_page) (pc := 143) dX11_page_143 h0.2.1 rfl ?_
          exact tt_iret (M := MX11_page) (pc := 144) dX11_page_144 rfl
        · refine tt_ld (M := MX11_page) (pc := 145) dX11_page_145 rfl rfl rfl rfl rfl ?_
          refine tt_getR (M := MX11_page) (pc := 146) dX11_page_146 rfl h0.1 rfl ?_
          refine tt_sipush (M := MX11_page) (pc := 149) dX11_page_149 (by decide) ?_
          refine tt_ld (M := MX11_page) (pc := 152) dX11_page_152 rfl rfl rfl rfl rfl ?_
          refine tt_iadd (M := MX11_page) (pc := 154) dX11_page_154 ?_
          refine tt_iaload (M := MX11_page) (pc := 155) dX11_page_155 h0.2.1 rfl ?_
          exact tt_iret (M := MX11_page) (pc := 156) dX11_page_156 rfl
        · refine tt_ld (M := MX11_page) (pc := 157) dX11_page_157 rfl rfl rfl rfl rfl ?_
          refine tt_getR (M := MX11_page) (pc := 158) dX11_page_158 rfl h0.1 rfl ?_
          refine tt_sipush (M := MX11_page) (pc := 161) dX11_page_161 (by decide) ?_
          refine tt_ld (M := MX11_page) (pc := 164) dX11_page_164 rfl rfl rfl rfl rfl ?_
          refine tt_iadd (M := MX11_page) (pc := 166) dX11_page_166 ?_
          refine tt_iaload (M := MX11_page) (pc := 167) dX11_page_167 h0.2.1 rfl ?_
          exact tt_iret (M := MX11_page) (pc := 168) dX11_page_168 rfl
    · refine tt_iconst (M := MX11_page) (pc := 29) dX11_page_29 ?_
      exact tt_iret (M := MX11_page) (pc := 30) dX11_page_30 rfl
theorem qX11_told_0 {sc : Nat × (Nat → Int32)} {SH : List mCell} {S : mStore} {r : mR × mW} (h0 : sMod SH) {l1 : Int} : ((((0 : Int) ≤ l1 ∧ l1 < 48) ∧ (((0 : Int) ≤ l1 ∧ l1 < 48) ∧ (((0 : Int) ≤ S 98 l1 ∧ S 98 l1 < 5) ∧ r = rI (((12 * (S 98 l1)) + l1) - (S 97 (S 98 l1))) SH S)))) → G sc MX11_told 0 [some (.ref 90), some (.int (I l1))] [] SH S r := by
  refine tt_bipush (M := MX11_told) (pc := 0) dX11_told_0 (by decide) ?_
  refine tt_ld (M := MX11_told) (pc := 2) dX11_told_2 rfl rfl rfl rfl rfl ?_
  refine tt_getR (M := MX11_told) (pc := 3) dX11_told_3 rfl h0.1 rfl ?_
  refine tt_ld (M := MX11_told) (pc := 6) dX11_told_6 rfl rfl rfl rfl rfl ?_
  refine tt_iaload (M := MX11_told) (pc := 7) dX11_told_7 h0.2.2.2.2.2.2.2.2.1 rfl ?_
  refine tt_imul (M := MX11_told) (pc := 8) dX11_told_8 ?_
  refine tt_ld (M := MX11_told) (pc := 9) dX11_told_9 rfl rfl rfl rfl rfl ?_
  refine tt_iadd (M := MX11_told) (pc := 10) dX11_told_10 ?_
  refine tt_ld (M := MX11_told) (pc := 11) dX11_told_11 rfl rfl rfl rfl rfl ?_
  refine tt_getR (M := MX11_told) (pc := 12) dX11_told_12 rfl h0.1 rfl ?_
  refine tt_ld (M := MX11_told) (pc := 15) dX11_told_15 rfl rfl rfl rfl rfl ?_
  refine tt_getR (M := MX11_told) (pc := 16) dX11_told_16 rfl h0.1 rfl ?_
  refine tt_ld (M := MX11_told) (pc := 19) dX11_told_19 rfl rfl rfl rfl rfl ?_
  refine tt_iaload (M := MX11_told) (pc := 20) dX11_told_20 h0.2.2.2.2.2.2.2.2.1 rfl ?_
  refine tt_iaload (M := MX11_told) (pc := 21) dX11_told_21 h0.2.2.2.2.2.2.2.1 rfl ?_
  refine tt_isub (M := MX11_told) (pc := 22) dX11_told_22 ?_
  exact tt_iret (M := MX11_told) (pc := 23) dX11_told_23 rfl
theorem qX11_isFrame_0 {sc : Nat × (Nat → Int32)} {SH : List mCell} {S : mStore} {r : mR × mW} (h0 : sMod SH) {l1 : Int} : ((∃ v101 S102, G sc MX11_within 0 [some (.int (I l1)), some (.int (I 0)), some (.int (I ((S 90 12) - 1)))] [] SH S (rI v101 SH S102) ∧ (∃ v103 S104, G sc MX11_right 0 [some (.ref 90), some (.int (I v101)), some (.int (I 1))] [] SH S102 (rI v103 SH S104) ∧ ((I v103 = I 0 ∨ I v103 = I 1) ∧ r = rI v103 SH S104)))) → G sc MX11_isFrame 0 [some (.ref 90), some (.int (I l1))] [] SH S r := by
  refine tt_ld (M := MX11_isFrame) (pc := 0) dX11_isFrame_0 rfl rfl rfl rfl rfl ?_
  refine tt_ld (M := MX11_isFrame) (pc := 1) dX11_isFrame_1 rfl rfl rfl rfl rfl ?_
  refine tt_iconst (M := MX11_isFrame) (pc := 2) dX11_isFrame_2 ?_
  refine tt_ld (M := MX11_isFrame) (pc := 3) dX11_isFrame_3 rfl rfl rfl rfl rfl ?_
  refine tt_getI (M := MX11_isFrame) (pc := 4) dX11_isFrame_4 rfl h0.1 rfl ?_
  refine tt_iconst (M := MX11_isFrame) (pc := 7) dX11_isFrame_7 ?_
  refine tt_isub (M := MX11_isFrame) (pc := 8) dX11_isFrame_8 ?_
  refine tt_scIN (M := MX11_isFrame) (pc := 9) dX11_isFrame_9 rfl [.ref 90] rfl rfl ⟨rfl, by decide, Nat.le_of_ble_eq_true rfl⟩ fun v101 S102 => ?_
  refine tt_iconst (M := MX11_isFrame) (pc := 12) dX11_isFrame_12 ?_
  refine tt_vcIN (M := MX11_isFrame) (pc := 13) dX11_isFrame_13 rfl rfl [] rfl rfl ⟨rfl, by decide, Nat.le_of_ble_eq_true rfl⟩ h0.1 fun v103 S104 => ?_
  exact tt_zret (M := MX11_isFrame) (pc := 16) dX11_isFrame_16 rfl
theorem qX11_frame_0 {sc : Nat × (Nat → Int32)} {SH : List mCell} {S : mStore} {r : mR × mW} (h0 : sMod SH) {l1 : Int} {l2 : Int} : ((∃ v101 S102, G sc MX11_isFrame 0 [some (.ref 90), some (.int (I l1))] [] SH (up S 90 4 0) (rI v101 SH S102) ∧ (if I v101 = I 0 then r = rI 0 SH S102 else (if I l2 = I (-1) then (((0 : Int) ≤ 544 + l1 ∧ 544 + l1 < 137400) ∧ r = rI (S102 91 (544 + l1)) SH S102) else (if I l2 < I 0 then (∃ v103 S104, G sc MX11_right 0 [some (.ref 90), some (.int (I 0)), some (.int (I 1))] [] SH S102 (rI v103 SH S104) ∧ (if I v103 = I 0 then r = rI 0 SH S104 else (((0 : Int) ≤ (592 + (8 * l1)) + l2 ∧ (592 + (8 * l1)) + l2 < 137400) ∧ (∃ v105 S106, G sc MX11_told 0 [some (.ref 90), some (.int (I (S104 91 ((592 + (8 * l1)) + l2))))] [] SH S104 (rI v105 SH S106) ∧ r = rI v105 SH S106)))) else (((0 : Int) ≤ 544 + l1 ∧ 544 + l1 < 137400) ∧ (if I (S102 91 (544 + l1)) ≤ I l2 then (∃ v107 S108, G sc MX11_right 0 [some (.ref 90), some (.int (I 0)), some (.int (I 1))] [] SH S102 (rI v107 SH S108) ∧ (if I v107 = I 0 then r = rI 0 SH S108 else (((0 : Int) ≤ (592 + (8 * l1)) + l2 ∧ (592 + (8 * l1)) + l2 < 137400) ∧ (∃ v109 S110, G sc MX11_told 0 [some (.ref 90), some (.int (I (S108 91 ((592 + (8 * l1)) + l2))))] [] SH S108 (rI v109 SH S110) ∧ r = rI v109 SH S110)))) else (∃ v111 S112, G sc MX11_right 0 [some (.ref 90), some (.int (I 1)), some (.int (I 1))] [] SH S102 (rI v111 SH S112) ∧ (if I v111 = I 0 then r = rI 0 SH S112 else (((0 : Int) ≤ (592 + (8 * l1)) + l2 ∧ (592 + (8 * l1)) + l2 < 137400) ∧ (∃ v113 S114, G sc MX11_told 0 [some (.ref 90), some (.int (I (S112 91 ((592 + (8 * l1)) + l2))))] [] SH S112 (rI v113 SH S114) ∧ r = rI v113 SH S114))))))))))) → G sc MX11_frame 0 [some (.ref 90), some (.int (I l1)), some (.int (I l2))] [] SH S r := by
  refine tt_ld (M := MX11_frame) (pc := 0) dX11_frame_0 rfl rfl rfl rfl rfl ?_
  refine tt_iconst (M := MX11_frame) (pc := 1) dX11_frame_1 ?_
  refine tt_putI (M := MX11_frame) (pc := 2) dX11_frame_2 rfl rfl (Or.inl rfl) h0.1 rfl ?_
  refine tt_ld (M := MX11_frame) (pc := 5) dX11_frame_5 rfl rfl rfl rfl rfl ?_
  refine tt_ld (M := MX11_frame) (pc := 6) dX11_frame_6 rfl rfl rfl rfl rfl ?_
  refine tt_vcIN (M := MX11_frame) (pc := 7) dX11_frame_7 rfl rfl [] rfl rfl ⟨rfl, by decide, Nat.le_of_ble_eq_true rfl⟩ h0.1 fun v101 S102 => ?_
  refine tt_if_ne (M := MX11_frame) (pc := 10) 15 dX11_frame_10 rfl ?_ ?_
  · refine tt_ld (M := MX11_frame) (pc := 15) dX11_frame_15 rfl rfl rfl rfl rfl ?_
    refine tt_iconst (M := MX11_frame) (pc := 16) dX11_frame_16 ?_
    refine tt_ic_ne (M := MX11_frame) (pc := 17) 31 dX11_frame_17 rfl ?_ ?_
    · refine tt_ld (M := MX11_frame) (pc := 31) dX11_frame_31 rfl rfl rfl rfl rfl ?_
      refine tt_ld (M := MX11_frame) (pc := 32) dX11_frame_32 rfl rfl rfl rfl rfl ?_
      refine tt_if_lt (M := MX11_frame) (pc := 33) 54 dX11_frame_33 rfl ?_ ?_
      · refine tt_iconst (M := MX11_frame) (pc := 54) dX11_frame_54 ?_
        refine tt_iconst (M := MX11_frame) (pc := 55) dX11_frame_55 ?_
        refine tt_vcIN (M := MX11_frame) (pc := 56) dX11_frame_56 rfl rfl [] rfl rfl ⟨rfl, by decide, Nat.le_of_ble_eq_true rfl⟩ h0.1 fun v103 S104 => ?_
        refine tt_if_eq (M := MX11_frame) (pc := 59) 84 dX11_frame_59 rfl ?_ ?_
        · refine tt_iconst (M := MX11_frame) (pc := 84) dX11_frame_84 ?_
          exact tt_iret (M := MX11_frame) (pc := 85) dX11_frame_85 rfl
        · refine tt_ld (M := MX11_frame) (pc := 62) dX11_frame_62 rfl rfl rfl rfl rfl ?_
          refine tt_ld (M := MX11_frame) (pc := 63) dX11_frame_63 rfl rfl rfl rfl rfl ?_
          refine tt_getR (M := MX11_frame) (pc := 64) dX11_frame_64 rfl h0.1 rfl ?_
          refine tt_sipush (M := MX11_frame) (pc := 67) dX11_frame_67 (by decide) ?_
          refine tt_bipush (M := MX11_frame) (pc := 70) dX11_frame_70 (by decide) ?_
          refine tt_ld (M := MX11_frame) (pc := 72) dX11_frame_72 rfl rfl rfl rfl rfl ?_
          refine tt_imul (M := MX11_frame) (pc := 73) dX11_frame_73 ?_
          refine tt_iadd (M := MX11_frame) (pc := 74) dX11_frame_74 ?_
          refine tt_ld (M := MX11_frame) (pc := 75) dX11_frame_75 rfl rfl rfl rfl rfl ?_
          refine tt_iadd (M := MX11_frame) (pc := 76) dX11_frame_76 ?_
          refine tt_iaload (M := MX11_frame) (pc := 77) dX11_frame_77 h0.2.1 rfl ?_
          refine tt_vcIN (M := MX11_frame) (pc := 78) dX11_frame_78 rfl rfl [] rfl rfl ⟨rfl, by decide, Nat.le_of_ble_eq_true rfl⟩ h0.1 fun v105 S106 => ?_
          refine tt_goto (M := MX11_frame) (pc := 81) 85 dX11_frame_81 rfl ?_
          exact tt_iret (M := MX11_frame) (pc := 85) dX11_frame_85 rfl
      · refine tt_ld (M := MX11_frame) (pc := 36) dX11_frame_36 rfl rfl rfl rfl rfl ?_
        refine tt_ld (M := MX11_frame) (pc := 37) dX11_frame_37 rfl rfl rfl rfl rfl ?_
        refine tt_getR (M := MX11_frame) (pc := 38) dX11_frame_38 rfl h0.1 rfl ?_
        refine tt_sipush (M := MX11_frame) (pc := 41) dX11_frame_41 (by decide) ?_
        refine tt_ld (M := MX11_frame) (pc := 44) dX11_frame_44 rfl rfl rfl rfl rfl ?_
        refine tt_iadd (M := MX11_frame) (pc := 45) dX11_frame_45 ?_
        refine tt_iaload (M := MX11_frame) (pc := 46) dX11_frame_46 h0.2.1 rfl ?_
        refine tt_ic_ge (M := MX11_frame) (pc := 47) 54 dX11_frame_47 rfl ?_ ?_
        · refine tt_iconst (M := MX11_frame) (pc := 54) dX11_frame_54 ?_
          refine tt_iconst (M := MX11_frame) (pc := 55) dX11_frame_55 ?_
          refine tt_vcIN (M := MX11_frame) (pc := 56) dX11_frame_56 rfl rfl [] rfl rfl ⟨rfl, by decide, Nat.le_of_ble_eq_true rfl⟩ h0.1 fun v107 S108 => ?_
          refine tt_if_eq (M := MX11_frame) (pc := 59) 84 dX11_frame_59 rfl ?_ ?_
          · refine tt_iconst (M := MX11_frame) (pc := 84) dX11_frame_84 ?_
            exact tt_iret (M := MX11_frame) (pc := 85) dX11_frame_85 rfl
          · refine tt_ld (M := MX11_frame) (pc := 62) dX11_frame_62 rfl rfl rfl rfl rfl ?_
            refine tt_ld (M := MX11_frame) (pc := 63) dX11_frame_63 rfl rfl rfl rfl rfl ?_
            refine tt_getR (M := MX11_frame) (pc := 64) dX11_frame_64 rfl h0.1 rfl ?_
            refine tt_sipush (M := MX11_frame) (pc := 67) dX11_frame_67 (by decide) ?_
            refine tt_bipush (M := MX11_frame) (pc := 70) dX11_frame_70 (by decide) ?_
            refine tt_ld (M := MX11_frame) (pc := 72) dX11_frame_72 rfl rfl rfl rfl rfl ?_
            refine tt_imul (M := MX11_frame) (pc := 73) dX11_frame_73 ?_
            refine tt_iadd (M := MX11_frame) (pc := 74) dX11_frame_74 ?_
            refine tt_ld (M := MX11_frame) (pc := 75) dX11_frame_75 rfl rfl rfl rfl rfl ?_
            refine tt_iadd (M := MX11_frame) (pc := 76) dX11_frame_76 ?_
            refine tt_iaload (M := MX11_frame) (pc := 77) dX11_frame_77 h0.2.1 rfl ?_
            refine tt_vcIN (M := MX11_frame) (pc := 78) dX11_frame_78 rfl rfl [] rfl rfl ⟨rfl, by decide, Nat.le_of_ble_eq_true rfl⟩ h0.1 fun v109 S110 => ?_
            refine tt_goto (M := MX11_frame) (pc := 81) 85 dX11_frame_81 rfl ?_
            exact tt_iret (M := MX11_frame) (pc := 85) dX11_frame_85 rfl
        · refine tt_iconst (M := MX11_frame) (pc := 50) dX11_frame_50 ?_
          refine tt_goto (M := MX11_frame) (pc := 51) 55 dX11_frame_51 rfl ?_
          refine tt_iconst (M := MX11_frame) (pc := 55) dX11_frame_55 ?_
          refine tt_vcIN (M := MX11_frame) (pc := 56) dX11_frame_56 rfl rfl [] rfl rfl ⟨rfl, by decide, Nat.le_of_ble_eq_true rfl⟩ h0.1 fun v111 S112 => ?_
          refine tt_if_eq (M := MX11_frame) (pc := 59) 84 dX11_frame_59 rfl ?_ ?_
          · refine tt_iconst (M := MX11_frame) (pc := 84) dX11_frame_84 ?_
            exact tt_iret (M := MX11_frame) (pc := 85) dX11_frame_85 rfl
          · refine tt_ld (M := MX11_frame) (pc := 62) dX11_frame_62 rfl rfl rfl rfl rfl ?_
            refine tt_ld (M := MX11_frame) (pc := 63) dX11_frame_63 rfl rfl rfl rfl rfl ?_
            refine tt_getR (M := MX11_frame) (pc := 64) dX11_frame_64 rfl h0.1 rfl ?_
            refine tt_sipush (M := MX11_frame) (pc := 67) dX11_frame_67 (by decide) ?_
            refine tt_bipush (M := MX11_frame) (pc := 70) dX11_frame_70 (by decide) ?_
            refine tt_ld (M := MX11_frame) (pc := 72) dX11_frame_72 rfl rfl rfl rfl rfl ?_
            refine tt_imul (M := MX11_frame) (pc := 73) dX11_frame_73 ?_
            refine tt_iadd (M := MX11_frame) (pc := 74) dX11_frame_74 ?_
            refine tt_ld (M := MX11_frame) (pc := 75) dX11_frame_75 rfl rfl rfl rfl rfl ?_
            refine tt_iadd (M := MX11_frame) (pc := 76) dX11_frame_76 ?_
            refine tt_iaload (M := MX11_frame) (pc := 77) dX11_frame_77 h0.2.1 rfl ?_
            refine tt_vcIN (M := MX11_frame) (pc := 78) dX11_frame_78 rfl rfl [] rfl rfl ⟨rfl, by decide, Nat.le_of_ble_eq_true rfl⟩ h0.1 fun v113 S114 => ?_
            refine tt_goto (M := MX11_frame) (pc := 81) 85 dX11_frame_81 rfl ?_
            exact tt_iret (M := MX11_frame) (pc := 85) dX11_frame_85 rfl
    · refine tt_ld (M := MX11_frame) (pc := 20) dX11_frame_20 rfl rfl rfl rfl rfl ?_
      refine tt_getR (M := MX11_frame) (pc := 21) dX11_frame_21 rfl h0.1 rfl ?_
      refine tt_sipush (M := MX11_frame) (pc := 24) dX11_frame_24 (by decide) ?_
      refine tt_ld (M := MX11_frame) (pc := 27) dX11_frame_27 rfl rfl rfl rfl rfl ?_
      refine tt_iadd (M := MX11_frame) (pc := 28) dX11_frame_28 ?_
      refine tt_iaload (M := MX11_frame) (pc := 29) dX11_frame_29 h0.2.1 rfl ?_
      exact tt_iret (M := MX11_frame) (pc := 30) dX11_frame_30 rfl
  · refine tt_iconst (M := MX11_frame) (pc := 13) dX11_frame_13 ?_
    exact tt_iret (M := MX11_frame) (pc := 14) dX11_frame_14 rfl
theorem qX11_chain_0 {sc : Nat × (Nat → Int32)} {SH : List mCell} {S : mStore} {r : mR × mW} (h0 : sMod SH) {l1 : Int} {l2 : Int} {u3 : Option Value} : ((∃ v101 S102, G sc MX11_isFrame 0 [some (.ref 90), some (.int (I l1))] [] SH (up S 90 4 0) (rI v101 SH S102) ∧ (if I v101 = I 0 then r = rI 0 SH S102 else (((0 : Int) ≤ 976 + l1 ∧ 976 + l1 < 137400) ∧ (if I (S102 91 (976 + l1)) = I (-1) then (∃ v103 S104, G sc MX11_right 0 [some (.ref 90), some (.int (I 0)), some (.int (I 1))] [] SH S102 (rI v103 SH S104) ∧ (if I v103 = I 0 then r = rI 0 SH S104 else (((0 : Int) ≤ 976 + l1 ∧ 976 + l1 < 137400) ∧ (∃ v105 S106, G sc MX11_framesOf 0 [some (.ref 90), some (.int (I 0)), some (.int (I (S104 91 (976 + l1)))), none, none] [] SH S104 (rI v105 SH S106) ∧ (if I l2 = I (-1) then r = rI v105 SH S106 else (if I l2 < I 0 then G sc MX11_chain 80 [some (.ref 90), some (.int (I l1)), some (.int (I l2)), some (.int (I v105))] [.int (I 0), .ref 90] SH S106 r else (if I v105 ≤ I l2 then G sc MX11_chain 80 [some (.ref 90), some (.int (I l1)), some (.int (I l2)), some (.int (I v105))] [.int (I 0), .ref 90] SH S106 r else G sc MX11_chain 80 [some (.ref 90), some (.int (I l1)), some (.int (I l2)), some (.int (I v105))] [.int (I 1), .ref 90] SH S106 r))))))) else (∃ v107 S108, G sc MX11_right 0 [some (.ref 90), some (.int (I 1)), some (.int (I 1))] [] SH S102 (rI v107 SH S108) ∧ (if I v107 = I 0 then r = rI 0 SH S108 else (((0 : Int) ≤ 976 + l1 ∧ 976 + l1 < 137400) ∧ (∃ v109 S110, G sc MX11_framesOf 0 [some (.ref 90), some (.int (I 0)), some (.int (I (S108 91 (976 + l1)))), none, none] [] SH S108 (rI v109 SH S110) ∧ (if I l2 = I (-1) then r = rI v109 SH S110 else (if I l2 < I 0 then G sc MX11_chain 80 [some (.ref 90), some (.int (I l1)), some (.int (I l2)), some (.int (I v109))] [.int (I 0), .ref 90] SH S110 r else (if I v109 ≤ I l2 then G sc MX11_chain 80 [some (.ref 90), some (.int (I l1)), some (.int (I l2)), some (.int (I v109))] [.int (I 0), .ref 90] SH S110 r else G sc MX11_chain 80 [some (.ref 90), some (.int (I l1)), some (.int (I l2)), some (.int (I v109))] [.int (I 1), .ref 90] SH S110 r)))))))))))) → G sc MX11_chain 0 [some (.ref 90), some (.int (I l1)), some (.int (I l2)), u3] [] SH S r := by
  refine tt_ld (M := MX11_chain) (pc := 0) dX11_chain_0 rfl rfl rfl rfl rfl ?_
  refine tt_iconst (M := MX11_chain) (pc := 1) dX11_chain_1 ?_
  refine tt_putI (M := MX11_chain) (pc := 2) dX11_chain_2 rfl rfl (Or.inl rfl) h0.1 rfl ?_
  refine tt_ld (M := MX11_chain) (pc := 5) dX11_chain_5 rfl rfl rfl rfl rfl ?_
  refine tt_ld (M := MX11_chain) (pc := 6) dX11_chain_6 rfl rfl rfl rfl rfl ?_
  refine tt_vcIN (M := MX11_chain) (pc := 7) dX11_chain_7 rfl rfl [] rfl rfl ⟨rfl, by decide, Nat.le_of_ble_eq_true rfl⟩ h0.1 fun v101 S102 => ?_
  refine tt_if_eq (M := MX11_chain) (pc := 10) 40 dX11_chain_10 rfl ?_ ?_
  · refine tt_iconst (M := MX11_chain) (pc := 40) dX11_chain_40 ?_
    exact tt_iret (M := MX11_chain) (pc := 41) dX11_chain_41 rfl
  · refine tt_ld (M := MX11_chain) (pc := 13) dX11_chain_13 rfl rfl rfl rfl rfl ?_
    refine tt_ld (M := MX11_chain) (pc := 14) dX11_chain_14 rfl rfl rfl rfl rfl ?_
    refine tt_getR (M := MX11_chain) (pc := 15) dX11_chain_15 rfl h0.1 rfl ?_
    refine tt_sipush (M := MX11_chain) (pc := 18) dX11_chain_18 (by decide) ?_
    refine tt_ld (M := MX11_chain) (pc := 21) dX11_chain_21 rfl rfl rfl rfl rfl ?_
    refine tt_iadd (M := MX11_chain) (pc := 22) dX11_chain_22 ?_
    refine tt_iaload (M := MX11_chain) (pc := 23) dX11_chain_23 h0.2.1 rfl ?_
    refine tt_iconst (M := MX11_chain) (pc := 24) dX11_chain_24 ?_
    refine tt_ic_eq (M := MX11_chain) (pc := 25) 32 dX11_chain_25 rfl ?_ ?_
    · refine tt_iconst (M := MX11_chain) (pc := 32) dX11_chain_32 ?_
      refine tt_iconst (M := MX11_chain) (pc := 33) dX11_chain_33 ?_
      refine tt_vcIN (M := MX11_chain) (pc := 34) dX11_chain_34 rfl rfl [] rfl rfl ⟨rfl, by decide, Nat.le_of_ble_eq_true rfl⟩ h0.1 fun v103 S104 => ?_
      refine tt_if_ne (M := MX11_chain) (pc := 37) 42 dX11_chain_37 rfl ?_ ?_
      · refine tt_ld (M := MX11_chain) (pc := 42) dX11_chain_42 rfl rfl rfl rfl rfl ?_
        refine tt_iconst (M := MX11_chain) (pc := 43) dX11_chain_43 ?_
        refine tt_ld (M := MX11_chain) (pc := 44) dX11_chain_44 rfl rfl rfl rfl rfl ?_
        refine tt_getR (M := MX11_chain) (pc := 45) dX11_chain_45 rfl h0.1 rfl ?_
        refine tt_sipush (M := MX11_chain) (pc := 48) dX11_chain_48 (by decide) ?_
        refine tt_ld (M := MX11_chain) (pc := 51) dX11_chain_51 rfl rfl rfl rfl rfl ?_
        refine tt_iadd (M := MX11_chain) (pc := 52) dX11_chain_52 ?_
        refine tt_iaload (M := MX11_chain) (pc := 53) dX11_chain_53 h0.2.1 rfl ?_
        refine tt_vcIN (M := MX11_chain) (pc := 54) dX11_chain_54 rfl rfl [] rfl rfl ⟨rfl, by decide, Nat.le_of_ble_eq_true rfl⟩ h0.1 fun v105 S106 => ?_
        refine tt_st (M := MX11_chain) (pc := 57) [some (.ref 90), some (.int (I l1)), some (.int (I l2)), some (.int (I v105))] dX11_chain_57 rfl rfl rfl rfl rfl rfl ?_
        refine tt_ld (M := MX11_chain) (pc := 58) dX11_chain_58 rfl rfl rfl rfl rfl ?_
        refine tt_iconst (M := MX11_chain) (pc := 59) dX11_chain_59 ?_
        refine tt_ic_ne (M := MX11_chain) (pc := 60) 65 dX11_chain_60 rfl ?_ ?_
        · refine tt_ld (M := MX11_chain) (pc := 65) dX11_chain_65 rfl rfl rfl rfl rfl ?_
          refine tt_ld (M := MX11_chain) (pc := 66) dX11_chain_66 rfl rfl rfl rfl rfl ?_
          refine tt_if_lt (M := MX11_chain) (pc := 67) 79 dX11_chain_67 rfl ?_ ?_
          · refine tt_iconst (M := MX11_chain) (pc := 79) dX11_chain_79 ?_
            exact id
          · refine tt_ld (M := MX11_chain) (pc := 70) dX11_chain_70 rfl rfl rfl rfl rfl ?_
            refine tt_ld (M := MX11_chain) (pc := 71) dX11_chain_71 rfl rfl rfl rfl rfl ?_
            refine tt_ic_ge (M := MX11_chain) (pc := 72) 79 dX11_chain_72 rfl ?_ ?_
            · refine tt_iconst (M := MX11_chain) (pc := 79) dX11_chain_79 ?_
              exact id
            · refine tt_iconst (M := MX11_chain) (pc := 75) dX11_chain_75 ?_
              refine tt_goto (M := MX11_chain) (pc := 76) 80 dX11_chain_76 rfl ?_
              exact id
        · refine tt_ld (M := MX11_chain) (pc := 63) dX11_chain_63 rfl rfl rfl rfl rfl ?_
          exact tt_iret (M := MX11_chain) (pc := 64) dX11_chain_64 rfl
      · refine tt_iconst (M := MX11_chain) (pc := 40) dX11_chain_40 ?_
        exact tt_iret (M := MX11_chain) (pc := 41) dX11_chain_41 rfl
    · refine tt_iconst (M := MX11_chain) (pc := 28) dX11_chain_28 ?_
      refine tt_goto (M := MX11_chain) (pc := 29) 33 dX11_chain_29 rfl ?_
      refine tt_iconst (M := MX11_chain) (pc := 33) dX11_chain_33 ?_
      refine tt_vcIN (M := MX11_chain) (pc := 34) dX11_chain_34 rfl rfl [] rfl rfl ⟨rfl, by decide, Nat.le_of_ble_eq_true rfl⟩ h0.1 fun v107 S108 => ?_
      refine tt_if_ne (M := MX11_chain) (pc := 37) 42 dX11_chain_37 rfl ?_ ?_
      · refine tt_ld (M := MX11_chain) (pc := 42) dX11_chain_42 rfl rfl rfl rfl rfl ?_
        refine tt_iconst (M := MX11_chain) (pc := 43) dX11_chain_43 ?_
        refine tt_ld (M := MX11_chain) (pc := 44) dX11_chain_44 rfl rfl rfl rfl rfl ?_
        refine tt_getR (M := MX11_chain) (pc := 45) dX11_chain_45 rfl h0.1 rfl ?_
        refine tt_sipush (M := MX11_chain) (pc := 48) dX11_chain_48 (by decide) ?_
        refine tt_ld (M := MX11_chain) (pc := 51) dX11_chain_51 rfl rfl rfl rfl rfl ?_
        refine tt_iadd (M := MX11_chain) (pc := 52) dX11_chain_52 ?_
        refine tt_iaload (M := MX11_chain) (pc := 53) dX11_chain_53 h0.2.1 rfl ?_
        refine tt_vcIN (M := MX11_chain) (pc := 54) dX11_chain_54 rfl rfl [] rfl rfl ⟨rfl, by decide, Nat.le_of_ble_eq_true rfl⟩ h0.1 fun v109 S110 => ?_
        refine tt_st (M := MX11_chain) (pc := 57) [some (.ref 90), some (.int (I l1)), some (.int (I l2)), some (.int (I v109))] dX11_chain_57 rfl rfl rfl rfl rfl rfl ?_
        refine tt_ld (M := MX11_chain) (pc := 58) dX11_chain_58 rfl rfl rfl rfl rfl ?_
        refine tt_iconst (M := MX11_chain) (pc := 59) dX11_chain_59 ?_
        refine tt_ic_ne (M := MX11_chain) (pc := 60) 65 dX11_chain_60 rfl ?_ ?_
        · refine tt_ld (M := MX11_chain) (pc := 65) dX11_chain_65 rfl rfl rfl rfl rfl ?_
          refine tt_ld (M := MX11_chain) (pc := 66) dX11_chain_66 rfl rfl rfl rfl rfl ?_
          refine tt_if_lt (M := MX11_chain) (pc := 67) 79 dX11_chain_67 rfl ?_ ?_
          · refine tt_iconst (M := MX11_chain) (pc := 79) dX11_chain_79 ?_
            exact id
          · refine tt_ld (M := MX11_chain) (pc := 70) dX11_chain_70 rfl rfl rfl rfl rfl ?_
            refine tt_ld (M := MX11_chain) (pc := 71) dX11_chain_71 rfl rfl rfl rfl rfl ?_
            refine tt_ic_ge (M := MX11_chain) (pc := 72) 79 dX11_chain_72 rfl ?_ ?_
            · refine tt_iconst (M := MX11_chain) (pc := 79) dX11_chain_79 ?_
              exact id
            · refine tt_iconst (M := MX11_chain) (pc := 75) dX11_chain_75 ?_
              refine tt_goto (M := MX11_chain) (pc := 76) 80 dX11_chain_76 rfl ?_
              exact id
        · refine tt_ld (M := MX11_chain) (pc := 63) dX11_chain_63 rfl rfl rfl rfl rfl ?_
          exact tt_iret (M := MX11_chain) (pc := 64) dX11_chain_64 rfl
      · refine tt_iconst (M := MX11_chain) (pc := 40) dX11_chain_40 ?_
        exact tt_iret (M := MX11_chain) (pc := 41) dX11_chain_41 rfl
theorem qX11_chain_80 {sc : Nat × (Nat → Int32)} {SH : List mCell} {S : mStore} {r : mR × mW} (h0 : sMod SH) {l1 : Int} {l2 : Int} {l3 : Int} {s0 : Int} : ((∃ v101 S102, G sc MX11_right 0 [some (.ref 90), some (.int (I s0)), some (.int (I 1))] [] SH S (rI v101 SH S102) ∧ (if I v101 = I 0 then G sc MX11_chain 107 [some (.ref 90), some (.int (I l1)), some (.int (I l2)), some (.int (I l3))] [.int (I 0)] SH S102 r else (((0 : Int) ≤ 976 + l1 ∧ 976 + l1 < 137400) ∧ (∃ v103 S104, G sc MX11_frameAt 0 [some (.ref 90), some (.int (I 0)), some (.int (I (S102 91 (976 + l1)))), some (.int (I l2)), none, none, none] [] SH S102 (rI v103 SH S104) ∧ G sc MX11_chain 107 [some (.ref 90), some (.int (I l1)), some (.int (I l2)), some (.int (I l3))] [.int (I v103)] SH S104 r))))) → G sc MX11_chain 80 [some (.ref 90), some (.int (I l1)), some (.int (I l2)), some (.int (I l3))] [.int (I s0), .ref 90] SH S r := by
  refine tt_iconst (M := MX11_chain) (pc := 80) dX11_chain_80 ?_
  refine tt_vcIN (M := MX11_chain) (pc := 81) dX11_chain_81 rfl rfl [] rfl rfl ⟨rfl, by decide, Nat.le_of_ble_eq_true rfl⟩ h0.1 fun v101 S102 => ?_
  refine tt_if_eq (M := MX11_chain) (pc := 84) 106 dX11_chain_84 rfl ?_ ?_
  · refine tt_iconst (M := MX11_chain) (pc := 106) dX11_chain_106 ?_
    exact id
  · refine tt_ld (M := MX11_chain) (pc := 87) dX11_chain_87 rfl rfl rfl rfl rfl ?_
    refine tt_iconst (M := MX11_chain) (pc := 88) dX11_chain_88 ?_
    refine tt_ld (M := MX11_chain) (pc := 89) dX11_chain_89 rfl rfl rfl rfl rfl ?_
    refine tt_getR (M := MX11_chain) (pc := 90) dX11_chain_90 rfl h0.1 rfl ?_
    refine tt_sipush (M := MX11_chain) (pc := 93) dX11_chain_93 (by decide) ?_
    refine tt_ld (M := MX11_chain) (pc := 96) dX11_chain_96 rfl rfl rfl rfl rfl ?_
    refine tt_iadd (M := MX11_chain) (pc := 97) dX11_chain_97 ?_
    refine tt_iaload (M := MX11_chain) (pc := 98) dX11_chain_98 h0.2.1 rfl ?_
    refine tt_ld (M := MX11_chain) (pc := 99) dX11_chain_99 rfl rfl rfl rfl rfl ?_
    refine tt_vcIN (M := MX11_chain) (pc := 100) dX11_chain_100 rfl rfl [] rfl rfl ⟨rfl, by decide, Nat.le_of_ble_eq_true rfl⟩ h0.1 fun v103 S104 => ?_
    refine tt_goto (M := MX11_chain) (pc := 103) 107 dX11_chain_103 rfl ?_
    exact id
theorem qX11_chain_107 {sc : Nat × (Nat → Int32)} {SH : List mCell} {S : mStore} {r : mR × mW} (h0 : sMod SH) {l1 : Int} {l2 : Int} {l3 : Int} {s0 : Int} : (r = rI s0 SH S) → G sc MX11_chain 107 [some (.ref 90), some (.int (I l1)), some (.int (I l2)), some (.int (I l3))] [.int (I s0)] SH S r := by
  exact tt_iret (M := MX11_chain) (pc := 107) dX11_chain_107 rfl
theorem qX11_knot_0 {sc : Nat × (Nat → Int32)} {SH : List mCell} {S : mStore} {r : mR × mW} (h0 : sMod SH) {l1 : Int} {l2 : Int} {l3 : Int} {l4 : Int} {u5 : Option Value} : ((∃ v101 S102, G sc MX11_within 0 [some (.int (I l1)), some (.int (I 0)), some (.int (I 2))] [] SH (up S 90 4 0) (rI v101 SH S102) ∧ (∃ v103 S104, G sc MX11_right 0 [some (.ref 90), some (.int (I v101)), some (.int (I 1))] [] SH S102 (rI v103 SH S104) ∧ (if I v103 = I 0 then r = rI 0 SH S104 else (if I l2 = I 0 then (if I l3 = I (-1) then (((0 : Int) ≤ 1363 + (97 * l1) ∧ 1363 + (97 * l1) < 137400) ∧ r = rI (S104 91 (1363 + (97 * l1))) SH S104) else (if I l3 < I 0 then G sc MX11_knot 85 [some (.ref 90), some (.int (I l1)), some (.int (I l2)), some (.int (I l3)), some (.int (I l4)), some (.int (I (1363 + (97 * l1))))] [.int (I 0), .ref 90] SH S104 r else (((0 : Int) ≤ 1363 + (97 * l1) ∧ 1363 + (97 * l1) < 137400) ∧ (if I (S104 91 (1363 + (97 * l1))) ≤ I l3 then G sc MX11_knot 85 [some (.ref 90), some (.int (I l1)), some (.int (I l2)), some (.int (I l3)), some (.int (I l4)), some (.int (I (1363 + (97 * l1))))] [.int (I 0), .ref 90] SH S104 r else (∃ v105 S106, G sc MX11_within 0 [some (.int (I l4)), some (.int (I 0)), some (.int (I 1))] [] SH S104 (rI v105 SH S106) ∧ (if I v105 = I 0 then G sc MX11_knot 85 [some (.ref 90), some (.int (I l1)), some (.int (I l2)), some (.int (I l3)), some (.int (I l4)), some (.int (I (1363 + (97 * l1))))] [.int (I 0), .ref 90] SH S106 r else G sc MX11_knot 85 [some (.ref 90), some (.int (I l1)), some (.int (I l2)), some (.int (I l3)), some (.int (I l4)), some (.int (I (1363 + (97 * l1))))] [.int (I 1), .ref 90] SH S106 r)))))) else (if I l3 = I (-1) then (((0 : Int) ≤ 1072 + (97 * l1) ∧ 1072 + (97 * l1) < 137400) ∧ r = rI (S104 91 (1072 + (97 * l1))) SH S104) else (if I l3 < I 0 then G sc MX11_knot 85 [some (.ref 90), some (.int (I l1)), some (.int (I l2)), some (.int (I l3)), some (.int (I l4)), some (.int (I (1072 + (97 * l1))))] [.int (I 0), .ref 90] SH S104 r else (((0 : Int) ≤ 1072 + (97 * l1) ∧ 1072 + (97 * l1) < 137400) ∧ (if I (S104 91 (1072 + (97 * l1))) ≤ I l3 then G sc MX11_knot 85 [some (.ref 90), some (.int (I l1)), some (.int (I l2)), some (.int (I l3)), some (.int (I l4)), some (.int (I (1072 + (97 * l1))))] [.int (I 0), .ref 90] SH S104 r else (∃ v107 S108, G sc MX11_within 0 [some (.int (I l4)), some (.int (I 0)), some (.int (I 1))] [] SH S104 (rI v107 SH S108) ∧ (if I v107 = I 0 then G sc MX11_knot 85 [some (.ref 90), some (.int (I l1)), some (.int (I l2)), some (.int (I l3)), some (.int (I l4)), some (.int (I (1072 + (97 * l1))))] [.int (I 0), .ref 90] SH S108 r else G sc MX11_knot 85 [some (.ref 90), some (.int (I l1)), some (.int (I l2)), some (.int (I l3)), some (.int (I l4)), some (.int (I (1072 + (97 * l1))))] [.int (I 1), .ref 90] SH S108 r))))))))))) → G sc MX11_knot 0 [some (.ref 90), some (.int (I l1)), some (.int (I l2)), some (.int (I l3)), some (.int (I l4)), u5] [] SH S r := by
  refine tt_ld (M := MX11_knot) (pc := 0) dX11_knot_0 rfl rfl rfl rfl rfl ?_
  refine tt_iconst (M := MX11_knot) (pc := 1) dX11_knot_1 ?_
  refine tt_putI (M := MX11_knot) (pc := 2) dX11_knot_2 rfl rfl (Or.inl rfl) h0.1 rfl ?_
  refine tt_ld (M := MX11_knot) (pc := 5) dX11_knot_5 rfl rfl rfl rfl rfl ?_
  refine tt_ld (M := MX11_knot) (pc := 6) dX11_knot_6 rfl rfl rfl rfl rfl ?_
  refine tt_iconst (M := MX11_knot) (pc := 7) dX11_knot_7 ?_
  refine tt_iconst (M := MX11_knot) (pc := 8) dX11_knot_8 ?_
  refine tt_scIN (M := MX11_knot) (pc := 9) dX11_knot_9 rfl [.ref 90] rfl rfl ⟨rfl, by decide, Nat.le_of_ble_eq_true rfl⟩ fun v101 S102 => ?_
  refine tt_iconst (M := MX11_knot) (pc := 12) dX11_knot_12 ?_
  refine tt_vcIN (M := MX11_knot) (pc := 13) dX11_knot_13 rfl rfl [] rfl rfl ⟨rfl, by decide, Nat.le_of_ble_eq_true rfl⟩ h0.1 fun v103 S104 => ?_
  refine tt_if_ne (M := MX11_knot) (pc := 16) 21 dX11_knot_16 rfl ?_ ?_
  · refine tt_ld (M := MX11_knot) (pc := 21) dX11_knot_21 rfl rfl rfl rfl rfl ?_
    refine tt_if_eq (M := MX11_knot) (pc := 22) 31 dX11_knot_22 rfl ?_ ?_
    · refine tt_sipush (M := MX11_knot) (pc := 31) dX11_knot_31 (by decide) ?_
      refine tt_bipush (M := MX11_knot) (pc := 34) dX11_knot_34 (by decide) ?_
      refine tt_ld (M := MX11_knot) (pc := 36) dX11_knot_36 rfl rfl rfl rfl rfl ?_
      refine tt_imul (M := MX11_knot) (pc := 37) dX11_knot_37 ?_
      refine tt_iadd (M := MX11_knot) (pc := 38) dX11_knot_38 ?_
      refine tt_st (M := MX11_knot) (pc := 39) [some (.ref 90), some (.int (I l1)), some (.int (I l2)), some (.int (I l3)), some (.int (I l4)), some (.int (I (1363 + (97 * l1))))] dX11_knot_39 rfl rfl rfl rfl rfl rfl ?_
      refine tt_ld (M := MX11_knot) (pc := 41) dX11_knot_41 rfl rfl rfl rfl rfl ?_
      refine tt_iconst (M := MX11_knot) (pc := 42) dX11_knot_42 ?_
      refine tt_ic_ne (M := MX11_knot) (pc := 43) 54 dX11_knot_43 rfl ?_ ?_
      · refine tt_ld (M := MX11_knot) (pc := 54) dX11_knot_54 rfl rfl rfl rfl rfl ?_
        refine tt_ld (M := MX11_knot) (pc := 55) dX11_knot_55 rfl rfl rfl rfl rfl ?_
        refine tt_if_lt (M := MX11_knot) (pc := 56) 84 dX11_knot_56 rfl ?_ ?_
        · refine tt_iconst (M := MX11_knot) (pc := 84) dX11_knot_84 ?_
          exact id
        · refine tt_ld (M := MX11_knot) (pc := 59) dX11_knot_59 rfl rfl rfl rfl rfl ?_
          refine tt_ld (M := MX11_knot) (pc := 60) dX11_knot_60 rfl rfl rfl rfl rfl ?_
          refine tt_getR (M := MX11_knot) (pc := 61) dX11_knot_61 rfl h0.1 rfl ?_
          refine tt_ld (M := MX11_knot) (pc := 64) dX11_knot_64 rfl rfl rfl rfl rfl ?_
          refine tt_iaload (M := MX11_knot) (pc := 66) dX11_knot_66 h0.2.1 rfl ?_
          refine tt_ic_ge (M := MX11_knot) (pc := 67) 84 dX11_knot_67 rfl ?_ ?_
          · refine tt_iconst (M := MX11_knot) (pc := 84) dX11_knot_84 ?_
            exact id
          · refine tt_ld (M := MX11_knot) (pc := 70) dX11_knot_70 rfl rfl rfl rfl rfl ?_
            refine tt_iconst (M := MX11_knot) (pc := 72) dX11_knot_72 ?_
            refine tt_iconst (M := MX11_knot) (pc := 73) dX11_knot_73 ?_
            refine tt_scIN (M := MX11_knot) (pc := 74) dX11_knot_74 rfl [.ref 90] rfl rfl ⟨rfl, by decide, Nat.le_of_ble_eq_true rfl⟩ fun v105 S106 => ?_
            refine tt_if_eq (M := MX11_knot) (pc := 77) 84 dX11_knot_77 rfl ?_ ?_
            · refine tt_iconst (M := MX11_knot) (pc := 84) dX11_knot_84 ?_
              exact id
            · refine tt_iconst (M := MX11_knot) (pc := 80) dX11_knot_80 ?_
              refine tt_goto (M := MX11_knot) (pc := 81) 85 dX11_knot_81 rfl ?_
              exact id
      · refine tt_ld (M := MX11_knot) (pc := 46) dX11_knot_46 rfl rfl rfl rfl rfl ?_
        refine tt_getR (M := MX11_knot) (pc := 47) dX11_knot_47 rfl h0.1 rfl ?_
        refine tt_ld (M := MX11_knot) (pc := 50) dX11_knot_50 rfl rfl rfl rfl rfl ?_
        refine tt_iaload (M := MX11_knot) (pc := 52) dX11_knot_52 h0.2.1 rfl ?_
        exact tt_iret (M := MX11_knot) (pc := 53) dX11_knot_53 rfl
    · refine tt_sipush (M := MX11_knot) (pc := 25) dX11_knot_25 (by decide) ?_
      refine tt_goto (M := MX11_knot) (pc := 28) 34 dX11_knot_28 rfl ?_
      refine tt_bipush (M := MX11_knot) (pc := 34) dX11_knot_34 (by decide) ?_
      refine tt_ld (M := MX11_knot) (pc := 36) dX11_knot_36 rfl rfl rfl rfl rfl ?_
      refine tt_imul (M := MX11_knot) (pc := 37) dX11_knot_37 ?_
      refine tt_iadd (M := MX11_knot) (pc := 38) dX11_knot_38 ?_
      refine tt_st (M := MX11_knot) (pc := 39) [some (.ref 90), some (.int (I l1)), some (.int (I l2)), some (.int (I l3)), some (.int (I l4)), some (.int (I (1072 + (97 * l1))))] dX11_knot_39 rfl rfl rfl rfl rfl rfl ?_
      refine tt_ld (M := MX11_knot) (pc := 41) dX11_knot_41 rfl rfl rfl rfl rfl ?_
      refine tt_iconst (M := MX11_knot) (pc := 42) dX11_knot_42 ?_
      refine tt_ic_ne (M := MX11_knot) (pc := 43) 54 dX11_knot_43 rfl ?_ ?_
      · refine tt_ld (M := MX11_knot) (pc := 54) dX11_knot_54 rfl rfl rfl rfl rfl ?_
        refine tt_ld (M := MX11_knot) (pc := 55) dX11_knot_55 rfl rfl rfl rfl rfl ?_
        refine tt_if_lt (M := MX11_knot) (pc := 56) 84 dX11_knot_56 rfl ?_ ?_
        · refine tt_iconst (M := MX11_knot) (pc := 84) dX11_knot_84 ?_
          exact id
        · refine tt_ld (M := MX11_knot) (pc := 59) dX11_knot_59 rfl rfl rfl rfl rfl ?_
          refine tt_ld (M := MX11_knot) (pc := 60) dX11_knot_60 rfl rfl rfl rfl rfl ?_
          refine tt_getR (M := MX11_knot) (pc := 61) dX11_knot_61 rfl h0.1 rfl ?_
          refine tt_ld (M := MX11_knot) (pc := 64) dX11_knot_64 rfl rfl rfl rfl rfl ?_
          refine tt_iaload (M := MX11_knot) (pc := 66) dX11_knot_66 h0.2.1 rfl ?_
          refine tt_ic_ge (M := MX11_knot) (pc := 67) 84 dX11_knot_67 rfl ?_ ?_
          · refine tt_iconst (M := MX11_knot) (pc := 84) dX11_knot_84 ?_
            exact id
          · refine tt_ld (M := MX11_knot) (pc := 70) dX11_knot_70 rfl rfl rfl rfl rfl ?_
            refine tt_iconst (M := MX11_knot) (pc := 72) dX11_knot_72 ?_
            refine tt_iconst (M := MX11_knot) (pc := 73) dX11_knot_73 ?_
            refine tt_scIN (M := MX11_knot) (pc := 74) dX11_knot_74 rfl [.ref 90] rfl rfl ⟨rfl, by decide, Nat.le_of_ble_eq_true rfl⟩ fun v107 S108 => ?_
            refine tt_if_eq (M := MX11_knot) (pc := 77) 84 dX11_knot_77 rfl ?_ ?_
            · refine tt_iconst (M := MX11_knot) (pc := 84) dX11_knot_84 ?_
              exact id
            · refine tt_iconst (M := MX11_knot) (pc := 80) dX11_knot_80 ?_
              refine tt_goto (M := MX11_knot) (pc := 81) 85 dX11_knot_81 rfl ?_
              exact id
      · refine tt_ld (M := MX11_knot) (pc := 46) dX11_knot_46 rfl rfl rfl rfl rfl ?_
        refine tt_getR (M := MX11_knot) (pc := 47) dX11_knot_47 rfl h0.1 rfl ?_
        refine tt_ld (M := MX11_knot) (pc := 50) dX11_knot_50 rfl rfl rfl rfl rfl ?_
        refine tt_iaload (M := MX11_knot) (pc := 52) dX11_knot_52 h0.2.1 rfl ?_
        exact tt_iret (M := MX11_knot) (pc := 53) dX11_knot_53 rfl
  · refine tt_iconst (M := MX11_knot) (pc := 19) dX11_knot_19 ?_
    exact tt_iret (M := MX11_knot) (pc := 20) dX11_knot_20 rfl
theorem qX11_knot_85 {sc : Nat × (Nat → Int32)} {SH : List mCell} {S : mStore} {r : mR × mW} (h0 : sMod SH) {l1 : Int} {l2 : Int} {l3 : Int} {l4 : Int} {l5 : Int} {s0 : Int} : ((∃ v101 S102, G sc MX11_right 0 [some (.ref 90), some (.int (I s0)), some (.int (I 1))] [] SH S (rI v101 SH S102) ∧ (if I v101 = I 0 then r = rI 0 SH S102 else (if I l4 = I 1 then (((0 : Int) ≤ (l5 + 49) + l3 ∧ (l5 + 49) + l3 < 137400) ∧ r = rI (S102 91 ((l5 + 49) + l3)) SH S102) else (if I l2 = I 0 then (((0 : Int) ≤ (l5 + 1) + l3 ∧ (l5 + 1) + l3 < 137400) ∧ (∃ v103 S104, G sc MX11_told 0 [some (.ref 90), some (.int (I (S102 91 ((l5 + 1) + l3))))] [] SH S102 (rI v103 SH S104) ∧ G sc MX11_knot 152 [some (.ref 90), some (.int (I l1)), some (.int (I l2)), some (.int (I l3)), some (.int (I l4)), some (.int (I l5))] [.int (I v103)] SH S104 r)) else (((0 : Int) ≤ (l5 + 1) + l3 ∧ (l5 + 1) + l3 < 137400) ∧ (∃ v105 S106, G sc MX11_frameAt 0 [some (.ref 90), some (.int (I 0)), some (.int (I (S102 91 ((l5 + 1) + l3)))), some (.int (I 0)), none, none, none] [] SH S102 (rI v105 SH S106) ∧ G sc MX11_knot 152 [some (.ref 90), some (.int (I l1)), some (.int (I l2)), some (.int (I l3)), some (.int (I l4)), some (.int (I l5))] [.int (I v105)] SH S106 r))))))) → G sc MX11_knot 85 [some (.ref 90), some (.int (I l1)), some (.int (I l2)), some (.int (I l3)), some (.int (I l4)), some (.int (I l5))] [.int (I s0), .ref 90] SH S r := by
  refine tt_iconst (M := MX11_knot) (pc := 85) dX11_knot_85 ?_
  refine tt_vcIN (M := MX11_knot) (pc := 86) dX11_knot_86 rfl rfl [] rfl rfl ⟨rfl, by decide, Nat.le_of_ble_eq_true rfl⟩ h0.1 fun v101 S102 => ?_
  refine tt_if_ne (M := MX11_knot) (pc := 89) 94 dX11_knot_89 rfl ?_ ?_
  · refine tt_ld (M := MX11_knot) (pc := 94) dX11_knot_94 rfl rfl rfl rfl rfl ?_
    refine tt_iconst (M := MX11_knot) (pc := 96) dX11_knot_96 ?_
    refine tt_ic_ne (M := MX11_knot) (pc := 97) 113 dX11_knot_97 rfl ?_ ?_
    · refine tt_ld (M := MX11_knot) (pc := 113) dX11_knot_113 rfl rfl rfl rfl rfl ?_
      refine tt_if_eq (M := MX11_knot) (pc := 114) 137 dX11_knot_114 rfl ?_ ?_
      · refine tt_ld (M := MX11_knot) (pc := 137) dX11_knot_137 rfl rfl rfl rfl rfl ?_
        refine tt_ld (M := MX11_knot) (pc := 138) dX11_knot_138 rfl rfl rfl rfl rfl ?_
        refine tt_getR (M := MX11_knot) (pc := 139) dX11_knot_139 rfl h0.1 rfl ?_
        refine tt_ld (M := MX11_knot) (pc := 142) dX11_knot_142 rfl rfl rfl rfl rfl ?_
        refine tt_iconst (M := MX11_knot) (pc := 144) dX11_knot_144 ?_
        refine tt_iadd (M := MX11_knot) (pc := 145) dX11_knot_145 ?_
        refine tt_ld (M := MX11_knot) (pc := 146) dX11_knot_146 rfl rfl rfl rfl rfl ?_
        refine tt_iadd (M := MX11_knot) (pc := 147) dX11_knot_147 ?_
        refine tt_iaload (M := MX11_knot) (pc := 148) dX11_knot_148 h0.2.1 rfl ?_
        refine tt_vcIN (M := MX11_knot) (pc := 149) dX11_knot_149 rfl rfl [] rfl rfl ⟨rfl, by decide, Nat.le_of_ble_eq_true rfl⟩ h0.1 fun v103 S104 => ?_
        exact id
      · refine tt_ld (M := MX11_knot) (pc := 117) dX11_knot_117 rfl rfl rfl rfl rfl ?_
        refine tt_iconst (M := MX11_knot) (pc := 118) dX11_knot_118 ?_
        refine tt_ld (M := MX11_knot) (pc := 119) dX11_knot_119 rfl rfl rfl rfl rfl ?_
        refine tt_getR (M := MX11_knot) (pc := 120) dX11_knot_120 rfl h0.1 rfl ?_
        refine tt_ld (M := MX11_knot) (pc := 123) dX11_knot_123 rfl rfl rfl rfl rfl ?_
        refine tt_iconst (M := MX11_knot) (pc := 125) dX11_knot_125 ?_
        refine tt_iadd (M := MX11_knot) (pc := 126) dX11_knot_126 ?_
        refine tt_ld (M := MX11_knot) (pc := 127) dX11_knot_127 rfl rfl rfl rfl rfl ?_
        refine tt_iadd (M := MX11_knot) (pc := 128) dX11_knot_128 ?_
        refine tt_iaload (M := MX11_knot) (pc := 129) dX11_knot_129 h0.2.1 rfl ?_
        refine tt_iconst (M := MX11_knot) (pc := 130) dX11_knot_130 ?_
        refine tt_vcIN (M := MX11_knot) (pc := 131) dX11_knot_131 rfl rfl [] rfl rfl ⟨rfl, by decide, Nat.le_of_ble_eq_true rfl⟩ h0.1 fun v105 S106 => ?_
        refine tt_goto (M := MX11_knot) (pc := 134) 152 dX11_knot_134 rfl ?_
        exact id
    · refine tt_ld (M := MX11_knot) (pc := 100) dX11_knot_100 rfl rfl rfl rfl rfl ?_
      refine tt_getR (M := MX11_knot) (pc := 101) dX11_knot_101 rfl h0.1 rfl ?_
      refine tt_ld (M := MX11_knot) (pc := 104) dX11_knot_104 rfl rfl rfl rfl rfl ?_
      refine tt_bipush (M := MX11_knot) (pc := 106) dX11_knot_106 (by decide) ?_
      refine tt_iadd (M := MX11_knot) (pc := 108) dX11_knot_108 ?_
      refine tt_ld (M := MX11_knot) (pc := 109) dX11_knot_109 rfl rfl rfl rfl rfl ?_
      refine tt_iadd (M := MX11_knot) (pc := 110) dX11_knot_110 ?_
      refine tt_iaload (M := MX11_knot) (pc := 111) dX11_knot_111 h0.2.1 rfl ?_
      exact tt_iret (M := MX11_knot) (pc := 112) dX11_knot_112 rfl
  · refine tt_iconst (M := MX11_knot) (pc := 92) dX11_knot_92 ?_
    exact tt_iret (M := MX11_knot) (pc := 93) dX11_knot_93 rfl
theorem qX11_knot_152 {sc : Nat × (Nat → Int32)} {SH : List mCell} {S : mStore} {r : mR × mW} (h0 : sMod SH) {l1 : Int} {l2 : Int} {l3 : Int} {l4 : Int} {l5 : Int} {s0 : Int} : (r = rI s0 SH S) → G sc MX11_knot 152 [some (.ref 90), some (.int (I l1)), some (.int (I l2)), some (.int (I l3)), some (.int (I l4)), some (.int (I l5))] [.int (I s0)] SH S r := by
  exact tt_iret (M := MX11_knot) (pc := 152) dX11_knot_152 rfl
