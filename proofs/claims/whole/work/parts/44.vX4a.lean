-- needs: 43.tshape
/-! ===== the program as conditions (gen_vc.py) ===== -/
theorem qX4_countAll_0 {sc : Nat × (Nat → Int32)} {SH : List mCell} {S : mStore} {r : mR × mW} (h0 : sText SH) (h1 : sPlan SH 1) (h2 : sOrder SH) {u1 : Option Value} : (G sc MX4_countAll 2 [some (.ref 86), some (.int (I 0))] [] SH S r) → G sc MX4_countAll 0 [some (.ref 86), u1] [] SH S r := by
  refine tt_iconst (M := MX4_countAll) (pc := 0) dX4_countAll_0 ?_
  refine tt_st (M := MX4_countAll) (pc := 1) [some (.ref 86), some (.int (I 0))] dX4_countAll_1 rfl rfl rfl rfl rfl rfl ?_
  exact id
theorem qX4_countAll_2 {sc : Nat × (Nat → Int32)} {SH : List mCell} {S : mStore} {r : mR × mW} (h0 : sText SH) (h1 : sPlan SH 1) (h2 : sOrder SH) {l1 : Int} : ((if I 700 ≤ I l1 then r = rI l1 SH S else (∃ v101 S102, G sc MX4_isNext 0 [some (.ref 86)] [] SH S (rI v101 SH S102) ∧ (if I v101 = I 0 then r = rI l1 SH S102 else G sc MX4_countAll 2 [some (.ref 86), some (.int (I (l1 + 1)))] [] SH S102 r)))) → G sc MX4_countAll 2 [some (.ref 86), some (.int (I l1))] [] SH S r := by
  refine tt_ld (M := MX4_countAll) (pc := 2) dX4_countAll_2 rfl rfl rfl rfl rfl ?_
  refine tt_sipush (M := MX4_countAll) (pc := 3) dX4_countAll_3 (by decide) ?_
  refine tt_ic_ge (M := MX4_countAll) (pc := 6) 22 dX4_countAll_6 rfl ?_ ?_
  · refine tt_ld (M := MX4_countAll) (pc := 22) dX4_countAll_22 rfl rfl rfl rfl rfl ?_
    exact tt_iret (M := MX4_countAll) (pc := 23) dX4_countAll_23 rfl
  · refine tt_ld (M := MX4_countAll) (pc := 9) dX4_countAll_9 rfl rfl rfl rfl rfl ?_
    refine tt_vcIN (M := MX4_countAll) (pc := 10) dX4_countAll_10 rfl rfl [] rfl rfl ⟨rfl, by decide, Nat.le_of_ble_eq_true rfl⟩ h2 fun v101 S102 => ?_
    refine tt_if_eq (M := MX4_countAll) (pc := 13) 22 dX4_countAll_13 rfl ?_ ?_
    · refine tt_ld (M := MX4_countAll) (pc := 22) dX4_countAll_22 rfl rfl rfl rfl rfl ?_
      exact tt_iret (M := MX4_countAll) (pc := 23) dX4_countAll_23 rfl
    · refine tt_iinc (M := MX4_countAll) (pc := 16) [some (.ref 86), some (.int (I (l1 + 1)))] dX4_countAll_16 rfl rfl ?_
      refine tt_goto (M := MX4_countAll) (pc := 19) 2 dX4_countAll_19 rfl ?_
      exact id
theorem qX4_isNext_0 {sc : Nat × (Nat → Int32)} {SH : List mCell} {S : mStore} {r : mR × mW} (h0 : sText SH) (h1 : sPlan SH 1) (h2 : sOrder SH) : ((∃ v101 S102, G sc MX8_atClause 0 [some (.ref 11)] [] SH S (rI v101 SH S102) ∧ (if I v101 = I 0 then ((I 0 = I 0 ∨ I 0 = I 1) ∧ r = rI 0 SH S102) else (∃ v103 S104, G sc MX8_isWord 0 [some (.ref 11), some (.retAddr 10), none] [] SH S102 (rI v103 SH S104) ∧ (if I v103 = I 0 then (∃ v105 S106, G sc MX8_isWord 0 [some (.ref 11), some (.retAddr 11), none] [] SH S104 (rI v105 SH S106) ∧ (if I v105 = I 0 then (∃ v107 S108, G sc MX8_isWord 0 [some (.ref 11), some (.retAddr 12), none] [] SH S106 (rI v107 SH S108) ∧ (if I v107 = I 0 then (∃ v109 S110, G sc MX8_isWord 0 [some (.ref 11), some (.retAddr 13), none] [] SH S108 (rI v109 SH S110) ∧ (if I v109 = I 0 then (∃ v111 S112, G sc MX8_isWord 0 [some (.ref 11), some (.retAddr 14), none] [] SH S110 (rI v111 SH S112) ∧ (if I v111 = I 0 then (∃ S113, G sc MX8_fail 0 [some (.ref 11), some (.int (I 1))] [] SH S112 (rV SH S113) ∧ G sc MX4_isNext 235 [some (.ref 86)] [] SH S113 r) else (∃ v114 S115, G sc MX8_numberIn 0 [some (.ref 11), some (.int (I 1)), some (.int (I 20)), none, none] [] SH (up S112 86 2 4) (rI v114 SH S115) ∧ G sc MX4_isNext 235 [some (.ref 86)] [] SH (up S115 86 5 v114) r))) else (∃ v116 S117, G sc MX8_numberIn 0 [some (.ref 11), some (.int (I 1)), some (.int (I 100)), none, none] [] SH (up S110 86 2 3) (rI v116 SH S117) ∧ G sc MX4_isNext 235 [some (.ref 86)] [] SH (up S117 86 5 v116) r))) else (∃ v118 S119, G sc MX8_pageIn 0 [some (.ref 11), some (.ref 1), none, none, none] [] SH (up S108 86 2 2) (rI v118 SH S119) ∧ G sc MX4_isNext 235 [some (.ref 86)] [] SH (up S119 86 3 v118) r))) else (∃ v120 S121, G sc MX8_pageIn 0 [some (.ref 11), some (.ref 1), none, none, none] [] SH (up S106 86 2 1) (rI v120 SH S121) ∧ (∃ v122 S123, G sc MX8_pageIn 0 [some (.ref 11), some (.ref 1), none, none, none] [] SH (up S121 86 3 v120) (rI v122 SH S123) ∧ G sc MX4_isNext 235 [some (.ref 86)] [] SH (up S123 86 4 v122) r)))) else (∃ v124 S125, G sc MX8_pageIn 0 [some (.ref 11), some (.ref 1), none, none, none] [] SH (up S104 86 2 0) (rI v124 SH S125) ∧ (∃ v126 S127, G sc MX8_numberIn 0 [some (.ref 11), some (.int (I 0)), some (.int (I 3)), none, none] [] SH (up S125 86 3 v124) (rI v126 SH S127) ∧ (∃ v128 S129, G sc MX8_numberIn 0 [some (.ref 11), some (.int (I 0)), some (.int (I 15)), none, none] [] SH (up S127 86 5 v126) (rI v128 SH S129) ∧ G sc MX4_isNext 235 [some (.ref 86)] [] SH (up S129 86 6 v128) r)))))))) → G sc MX4_isNext 0 [some (.ref 86)] [] SH S r := by
  refine tt_ld (M := MX4_isNext) (pc := 0) dX4_isNext_0 rfl rfl rfl rfl rfl ?_
  refine tt_getR (M := MX4_isNext) (pc := 1) dX4_isNext_1 rfl h2 rfl ?_
  refine tt_vcIN (M := MX4_isNext) (pc := 4) dX4_isNext_4 rfl rfl [] rfl rfl ⟨rfl, by decide, Nat.le_of_ble_eq_true rfl⟩ h0.1 fun v101 S102 => ?_
  refine tt_if_ne (M := MX4_isNext) (pc := 7) 12 dX4_isNext_7 rfl ?_ ?_
  · refine tt_ld (M := MX4_isNext) (pc := 12) dX4_isNext_12 rfl rfl rfl rfl rfl ?_
    refine tt_getR (M := MX4_isNext) (pc := 13) dX4_isNext_13 rfl h2 rfl ?_
    refine tt_pushv (M := MX4_isNext) (pc := 16) (.retAddr 10) dX4_isNext_16 rfl rfl ?_
    refine tt_vcIN (M := MX4_isNext) (pc := 18) dX4_isNext_18 rfl rfl [] rfl rfl ⟨rfl, by decide, Nat.le_of_ble_eq_true rfl⟩ h0.1 fun v103 S104 => ?_
    refine tt_if_eq (M := MX4_isNext) (pc := 21) 74 dX4_isNext_21 rfl ?_ ?_
    · refine tt_ld (M := MX4_isNext) (pc := 74) dX4_isNext_74 rfl rfl rfl rfl rfl ?_
      refine tt_getR (M := MX4_isNext) (pc := 75) dX4_isNext_75 rfl h2 rfl ?_
      refine tt_pushv (M := MX4_isNext) (pc := 78) (.retAddr 11) dX4_isNext_78 rfl rfl ?_
      refine tt_vcIN (M := MX4_isNext) (pc := 80) dX4_isNext_80 rfl rfl [] rfl rfl ⟨rfl, by decide, Nat.le_of_ble_eq_true rfl⟩ h0.1 fun v105 S106 => ?_
      refine tt_if_eq (M := MX4_isNext) (pc := 83) 124 dX4_isNext_83 rfl ?_ ?_
      · refine tt_ld (M := MX4_isNext) (pc := 124) dX4_isNext_124 rfl rfl rfl rfl rfl ?_
        refine tt_getR (M := MX4_isNext) (pc := 125) dX4_isNext_125 rfl h2 rfl ?_
        refine tt_pushv (M := MX4_isNext) (pc := 128) (.retAddr 12) dX4_isNext_128 rfl rfl ?_
        refine tt_vcIN (M := MX4_isNext) (pc := 130) dX4_isNext_130 rfl rfl [] rfl rfl ⟨rfl, by decide, Nat.le_of_ble_eq_true rfl⟩ h0.1 fun v107 S108 => ?_
        refine tt_if_eq (M := MX4_isNext) (pc := 133) 159 dX4_isNext_133 rfl ?_ ?_
        · refine tt_ld (M := MX4_isNext) (pc := 159) dX4_isNext_159 rfl rfl rfl rfl rfl ?_
          refine tt_getR (M := MX4_isNext) (pc := 160) dX4_isNext_160 rfl h2 rfl ?_
          refine tt_pushv (M := MX4_isNext) (pc := 163) (.retAddr 13) dX4_isNext_163 rfl rfl ?_
          refine tt_vcIN (M := MX4_isNext) (pc := 165) dX4_isNext_165 rfl rfl [] rfl rfl ⟨rfl, by decide, Nat.le_of_ble_eq_true rfl⟩ h0.1 fun v109 S110 => ?_
          refine tt_if_eq (M := MX4_isNext) (pc := 168) 193 dX4_isNext_168 rfl ?_ ?_
          · refine tt_ld (M := MX4_isNext) (pc := 193) dX4_isNext_193 rfl rfl rfl rfl rfl ?_
            refine tt_getR (M := MX4_isNext) (pc := 194) dX4_isNext_194 rfl h2 rfl ?_
            refine tt_pushv (M := MX4_isNext) (pc := 197) (.retAddr 14) dX4_isNext_197 rfl rfl ?_
            refine tt_vcIN (M := MX4_isNext) (pc := 199) dX4_isNext_199 rfl rfl [] rfl rfl ⟨rfl, by decide, Nat.le_of_ble_eq_true rfl⟩ h0.1 fun v111 S112 => ?_
            refine tt_if_eq (M := MX4_isNext) (pc := 202) 227 dX4_isNext_202 rfl ?_ ?_
            · refine tt_ld (M := MX4_isNext) (pc := 227) dX4_isNext_227 rfl rfl rfl rfl rfl ?_
              refine tt_getR (M := MX4_isNext) (pc := 228) dX4_isNext_228 rfl h2 rfl ?_
              refine tt_iconst (M := MX4_isNext) (pc := 231) dX4_isNext_231 ?_
              refine tt_vcVN (M := MX4_isNext) (pc := 232) dX4_isNext_232 rfl rfl [] rfl rfl ⟨rfl, by decide, Nat.le_of_ble_eq_true rfl⟩ h0.1 fun S113 => ?_
              exact id
            · refine tt_ld (M := MX4_isNext) (pc := 205) dX4_isNext_205 rfl rfl rfl rfl rfl ?_
              refine tt_iconst (M := MX4_isNext) (pc := 206) dX4_isNext_206 ?_
              refine tt_putI (M := MX4_isNext) (pc := 207) dX4_isNext_207 rfl rfl (Or.inl rfl) h2 rfl ?_
              refine tt_ld (M := MX4_isNext) (pc := 210) dX4_isNext_210 rfl rfl rfl rfl rfl ?_
              refine tt_ld (M := MX4_isNext) (pc := 211) dX4_isNext_211 rfl rfl rfl rfl rfl ?_
              refine tt_getR (M := MX4_isNext) (pc := 212) dX4_isNext_212 rfl h2 rfl ?_
              refine tt_iconst (M := MX4_isNext) (pc := 215) dX4_isNext_215 ?_
              refine tt_bipush (M := MX4_isNext) (pc := 216) dX4_isNext_216 (by decide) ?_
              refine tt_vcIN (M := MX4_isNext) (pc := 218) dX4_isNext_218 rfl rfl [.ref 86] rfl rfl ⟨rfl, by decide, Nat.le_of_ble_eq_true rfl⟩ h0.1 fun v114 S115 => ?_
              refine tt_putI (M := MX4_isNext) (pc := 221) dX4_isNext_221 rfl rfl (Or.inl rfl) h2 rfl ?_
              refine tt_goto (M := MX4_isNext) (pc := 224) 235 dX4_isNext_224 rfl ?_
              exact id
          · refine tt_ld (M := MX4_isNext) (pc := 171) dX4_isNext_171 rfl rfl rfl rfl rfl ?_
            refine tt_iconst (M := MX4_isNext) (pc := 172) dX4_isNext_172 ?_
            refine tt_putI (M := MX4_isNext) (pc := 173) dX4_isNext_173 rfl rfl (Or.inl rfl) h2 rfl ?_
            refine tt_ld (M := MX4_isNext) (pc := 176) dX4_isNext_176 rfl rfl rfl rfl rfl ?_
            refine tt_ld (M := MX4_isNext) (pc := 177) dX4_isNext_177 rfl rfl rfl rfl rfl ?_
            refine tt_getR (M := MX4_isNext) (pc := 178) dX4_isNext_178 rfl h2 rfl ?_
            refine tt_iconst (M := MX4_isNext) (pc := 181) dX4_isNext_181 ?_
            refine tt_bipush (M := MX4_isNext) (pc := 182) dX4_isNext_182 (by decide) ?_
            refine tt_vcIN (M := MX4_isNext) (pc := 184) dX4_isNext_184 rfl rfl [.ref 86] rfl rfl ⟨rfl, by decide, Nat.le_of_ble_eq_true rfl⟩ h0.1 fun v116 S117 => ?_
            refine tt_putI (M := MX4_isNext) (pc := 187) dX4_isNext_187 rfl rfl (Or.inl rfl) h2 rfl ?_
            refine tt_goto (M := MX4_isNext) (pc := 190) 235 dX4_isNext_190 rfl ?_
            exact id
        · refine tt_ld (M := MX4_isNext) (pc := 136) dX4_isNext_136 rfl rfl rfl rfl rfl ?_
          refine tt_iconst (M := MX4_isNext) (pc := 137) dX4_isNext_137 ?_
          refine tt_putI (M := MX4_isNext) (pc := 138) dX4_isNext_138 rfl rfl (Or.inl rfl) h2 rfl ?_
          refine tt_ld (M := MX4_isNext) (pc := 141) dX4_isNext_141 rfl rfl rfl rfl rfl ?_
          refine tt_ld (M := MX4_isNext) (pc := 142) dX4_isNext_142 rfl rfl rfl rfl rfl ?_
          refine tt_getR (M := MX4_isNext) (pc := 143) dX4_isNext_143 rfl h2 rfl ?_
          refine tt_ld (M := MX4_isNext) (pc := 146) dX4_isNext_146 rfl rfl rfl rfl rfl ?_
          refine tt_getR (M := MX4_isNext) (pc := 147) dX4_isNext_147 rfl h2 rfl ?_
          refine tt_vcIN (M := MX4_isNext) (pc := 150) dX4_isNext_150 rfl rfl [.ref 86] rfl rfl ⟨rfl, by decide, Nat.le_of_ble_eq_true rfl⟩ h0.1 fun v118 S119 => ?_
          refine tt_putI (M := MX4_isNext) (pc := 153) dX4_isNext_153 rfl rfl (Or.inl rfl) h2 rfl ?_
          refine tt_goto (M := MX4_isNext) (pc := 156) 235 dX4_isNext_156 rfl ?_
          exact id
      · refine tt_ld (M := MX4_isNext) (pc := 86) dX4_isNext_86 rfl rfl rfl rfl rfl ?_
        refine tt_iconst (M := MX4_isNext) (pc := 87) dX4_isNext_87 ?_
        refine tt_putI (M := MX4_isNext) (pc := 88) dX4_isNext_88 rfl rfl (Or.inl rfl) h2 rfl ?_
        refine tt_ld (M := MX4_isNext) (pc := 91) dX4_isNext_91 rfl rfl rfl rfl rfl ?_
        refine tt_ld (M := MX4_isNext) (pc := 92) dX4_isNext_92 rfl rfl rfl rfl rfl ?_
        refine tt_getR (M := MX4_isNext) (pc := 93) dX4_isNext_93 rfl h2 rfl ?_
        refine tt_ld (M := MX4_isNext) (pc := 96) dX4_isNext_96 rfl rfl rfl rfl rfl ?_
        refine tt_getR (M := MX4_isNext) (pc := 97) dX4_isNext_97 rfl h2 rfl ?_
        refine tt_vcIN (M := MX4_isNext) (pc := 100) dX4_isNext_100 rfl rfl [.ref 86] rfl rfl ⟨rfl, by decide, Nat.le_of_ble_eq_true rfl⟩ h0.1 fun v120 S121 => ?_
        refine tt_putI (M := MX4_isNext) (pc := 103) dX4_isNext_103 rfl rfl (Or.inl rfl) h2 rfl ?_
        refine tt_ld (M := MX4_isNext) (pc := 106) dX4_isNext_106 rfl rfl rfl rfl rfl ?_
        refine tt_ld (M := MX4_isNext) (pc := 107) dX4_isNext_107 rfl rfl rfl rfl rfl ?_
        refine tt_getR (M := MX4_isNext) (pc := 108) dX4_isNext_108 rfl h2 rfl ?_
        refine tt_ld (M := MX4_isNext) (pc := 111) dX4_isNext_111 rfl rfl rfl rfl rfl ?_
        refine tt_getR (M := MX4_isNext) (pc := 112) dX4_isNext_112 rfl h2 rfl ?_
        refine tt_vcIN (M := MX4_isNext) (pc := 115) dX4_isNext_115 rfl rfl [.ref 86] rfl rfl ⟨rfl, by decide, Nat.le_of_ble_eq_true rfl⟩ h0.1 fun v122 S123 => ?_
        refine tt_putI (M := MX4_isNext) (pc := 118) dX4_isNext_118 rfl rfl (Or.inl rfl) h2 rfl ?_
        refine tt_goto (M := MX4_isNext) (pc := 121) 235 dX4_isNext_121 rfl ?_
        exact id
    · refine tt_ld (M := MX4_isNext) (pc := 24) dX4_isNext_24 rfl rfl rfl rfl rfl ?_
      refine tt_iconst (M := MX4_isNext) (pc := 25) dX4_isNext_25 ?_
      refine tt_putI (M := MX4_isNext) (pc := 26) dX4_isNext_26 rfl rfl (Or.inl rfl) h2 rfl ?_
      refine tt_ld (M := MX4_isNext) (pc := 29) dX4_isNext_29 rfl rfl rfl rfl rfl ?_
      refine tt_ld (M := MX4_isNext) (pc := 30) dX4_isNext_30 rfl rfl rfl rfl rfl ?_
      refine tt_getR (M := MX4_isNext) (pc := 31) dX4_isNext_31 rfl h2 rfl ?_
      refine tt_ld (M := MX4_isNext) (pc := 34) dX4_isNext_34 rfl rfl rfl rfl rfl ?_
      refine tt_getR (M := MX4_isNext) (pc := 35) dX4_isNext_35 rfl h2 rfl ?_
      refine tt_vcIN (M := MX4_isNext) (pc := 38) dX4_isNext_38 rfl rfl [.ref 86] rfl rfl ⟨rfl, by decide, Nat.le_of_ble_eq_true rfl⟩ h0.1 fun v124 S125 => ?_
      refine tt_putI (M := MX4_isNext) (pc := 41) dX4_isNext_41 rfl rfl (Or.inl rfl) h2 rfl ?_
      refine tt_ld (M := MX4_isNext) (pc := 44) dX4_isNext_44 rfl rfl rfl rfl rfl ?_
      refine tt_ld (M := MX4_isNext) (pc := 45) dX4_isNext_45 rfl rfl rfl rfl rfl ?_
      refine tt_getR (M := MX4_isNext) (pc := 46) dX4_isNext_46 rfl h2 rfl ?_
      refine tt_iconst (M := MX4_isNext) (pc := 49) dX4_isNext_49 ?_
      refine tt_iconst (M := MX4_isNext) (pc := 50) dX4_isNext_50 ?_
      refine tt_vcIN (M := MX4_isNext) (pc := 51) dX4_isNext_51 rfl rfl [.ref 86] rfl rfl ⟨rfl, by decide, Nat.le_of_ble_eq_true rfl⟩ h0.1 fun v126 S127 => ?_
      refine tt_putI (M := MX4_isNext) (pc := 54) dX4_isNext_54 rfl rfl (Or.inl rfl) h2 rfl ?_
      refine tt_ld (M := MX4_isNext) (pc := 57) dX4_isNext_57 rfl rfl rfl rfl rfl ?_
      refine tt_ld (M := MX4_isNext) (pc := 58) dX4_isNext_58 rfl rfl rfl rfl rfl ?_
      refine tt_getR (M := MX4_isNext) (pc := 59) dX4_isNext_59 rfl h2 rfl ?_
      refine tt_iconst (M := MX4_isNext) (pc := 62) dX4_isNext_62 ?_
      refine tt_bipush (M := MX4_isNext) (pc := 63) dX4_isNext_63 (by decide) ?_
      refine tt_vcIN (M := MX4_isNext) (pc := 65) dX4_isNext_65 rfl rfl [.ref 86] rfl rfl ⟨rfl, by decide, Nat.le_of_ble_eq_true rfl⟩ h0.1 fun v128 S129 => ?_
      refine tt_putI (M := MX4_isNext) (pc := 68) dX4_isNext_68 rfl rfl (Or.inl rfl) h2 rfl ?_
      refine tt_goto (M := MX4_isNext) (pc := 71) 235 dX4_isNext_71 rfl ?_
      exact id
  · refine tt_iconst (M := MX4_isNext) (pc := 10) dX4_isNext_10 ?_
    exact tt_zret (M := MX4_isNext) (pc := 11) dX4_isNext_11 rfl
theorem qX4_isNext_235 {sc : Nat × (Nat → Int32)} {SH : List mCell} {S : mStore} {r : mR × mW} (h0 : sText SH) (h1 : sPlan SH 1) (h2 : sOrder SH) : ((∃ S101, G sc MX8_clauseEnds 0 [some (.ref 11)] [] SH S (rV SH S101) ∧ (if I (S101 11 6) = I 0 then G sc MX4_isNext 257 [some (.ref 86)] [.int (I 1)] SH S101 r else G sc MX4_isNext 257 [some (.ref 86)] [.int (I 0)] SH S101 r))) → G sc MX4_isNext 235 [some (.ref 86)] [] SH S r := by
  refine tt_ld (M := MX4_isNext) (pc := 235) dX4_isNext_235 rfl rfl rfl rfl rfl ?_
  refine tt_getR (M := MX4_isNext) (pc := 236) dX4_isNext_236 rfl h2 rfl ?_
  refine tt_vcVN (M := MX4_isNext) (pc := 239) dX4_isNext_239 rfl rfl [] rfl rfl ⟨rfl, by decide, Nat.le_of_ble_eq_true rfl⟩ h0.1 fun S101 => ?_
  refine tt_ld (M := MX4_isNext) (pc := 242) dX4_isNext_242 rfl rfl rfl rfl rfl ?_
  refine tt_getR (M := MX4_isNext) (pc := 243) dX4_isNext_243 rfl h2 rfl ?_
  refine tt_getI (M := MX4_isNext) (pc := 246) dX4_isNext_246 rfl h0.1 rfl ?_
  refine tt_if_ne (M := MX4_isNext) (pc := 249) 256 dX4_isNext_249 rfl ?_ ?_
  · refine tt_iconst (M := MX4_isNext) (pc := 256) dX4_isNext_256 ?_
    exact id
  · refine tt_iconst (M := MX4_isNext) (pc := 252) dX4_isNext_252 ?_
    refine tt_goto (M := MX4_isNext) (pc := 253) 257 dX4_isNext_253 rfl ?_
    exact id
theorem qX4_isNext_257 {sc : Nat × (Nat → Int32)} {SH : List mCell} {S : mStore} {r : mR × mW} (h0 : sText SH) (h1 : sPlan SH 1) (h2 : sOrder SH) {s0 : Int} : (((I s0 = I 0 ∨ I s0 = I 1) ∧ r = rI s0 SH S)) → G sc MX4_isNext 257 [some (.ref 86)] [.int (I s0)] SH S r := by
  exact tt_zret (M := MX4_isNext) (pc := 257) dX4_isNext_257 rfl
