-- needs: 43.tshape
/-! ===== the program as conditions (gen_vc.py) ===== -/
theorem qX3_makeAll_0 {sc : Nat × (Nat → Int32)} {SH : List mCell} {S : mStore} {r : mR × mW} (h0 : sText SH) (h1 : sPlan SH 6) (h2 : sState SH 65) (h3 : sMaker SH) {u1 : Option Value} : ((∃ S101, G sc MX5_clear 0 [some (.ref 6)] [] SH S (rV SH S101) ∧ (∃ S102, G sc MX7_clear 0 [some (.ref 65)] [] SH S101 (rV SH S102) ∧ G sc MX3_makeAll 26 [some (.ref 85), some (.int (I 0))] [] SH (up (up S102 85 3 0) 85 4 0) r))) → G sc MX3_makeAll 0 [some (.ref 85), u1] [] SH S r := by
  refine tt_ld (M := MX3_makeAll) (pc := 0) dX3_makeAll_0 rfl rfl rfl rfl rfl ?_
  refine tt_getR (M := MX3_makeAll) (pc := 1) dX3_makeAll_1 rfl h3 rfl ?_
  refine tt_vcVN (M := MX3_makeAll) (pc := 4) dX3_makeAll_4 rfl rfl [] rfl rfl ⟨rfl, by decide, Nat.le_of_ble_eq_true rfl⟩ h1.1 fun S101 => ?_
  refine tt_ld (M := MX3_makeAll) (pc := 7) dX3_makeAll_7 rfl rfl rfl rfl rfl ?_
  refine tt_getR (M := MX3_makeAll) (pc := 8) dX3_makeAll_8 rfl h3 rfl ?_
  refine tt_vcVN (M := MX3_makeAll) (pc := 11) dX3_makeAll_11 rfl rfl [] rfl rfl ⟨rfl, by decide, Nat.le_of_ble_eq_true rfl⟩ h2.1 fun S102 => ?_
  refine tt_ld (M := MX3_makeAll) (pc := 14) dX3_makeAll_14 rfl rfl rfl rfl rfl ?_
  refine tt_iconst (M := MX3_makeAll) (pc := 15) dX3_makeAll_15 ?_
  refine tt_putI (M := MX3_makeAll) (pc := 16) dX3_makeAll_16 rfl rfl (Or.inl rfl) h3 rfl ?_
  refine tt_ld (M := MX3_makeAll) (pc := 19) dX3_makeAll_19 rfl rfl rfl rfl rfl ?_
  refine tt_iconst (M := MX3_makeAll) (pc := 20) dX3_makeAll_20 ?_
  refine tt_putI (M := MX3_makeAll) (pc := 21) dX3_makeAll_21 rfl rfl (Or.inl rfl) h3 rfl ?_
  refine tt_iconst (M := MX3_makeAll) (pc := 24) dX3_makeAll_24 ?_
  refine tt_st (M := MX3_makeAll) (pc := 25) [some (.ref 85), some (.int (I 0))] dX3_makeAll_25 rfl rfl rfl rfl rfl rfl ?_
  exact id
theorem qX3_makeAll_26 {sc : Nat × (Nat → Int32)} {SH : List mCell} {S : mStore} {r : mR × mW} (h0 : sText SH) (h1 : sPlan SH 6) (h2 : sState SH 65) (h3 : sMaker SH) {l1 : Int} : ((if I 700 ≤ I l1 then r = rV SH S else (∃ v101 S102, G sc MX8_atClause 0 [some (.ref 11)] [] SH S (rI v101 SH S102) ∧ (if I v101 = I 0 then r = rV SH S102 else (∃ S103, G sc MX3_makeClause 0 [some (.ref 85)] [] SH S102 (rV SH S103) ∧ G sc MX3_makeAll 26 [some (.ref 85), some (.int (I (l1 + 1)))] [] SH S103 r))))) → G sc MX3_makeAll 26 [some (.ref 85), some (.int (I l1))] [] SH S r := by
  refine tt_ld (M := MX3_makeAll) (pc := 26) dX3_makeAll_26 rfl rfl rfl rfl rfl ?_
  refine tt_sipush (M := MX3_makeAll) (pc := 27) dX3_makeAll_27 (by decide) ?_
  refine tt_ic_ge (M := MX3_makeAll) (pc := 30) 53 dX3_makeAll_30 rfl ?_ ?_
  · exact tt_ret (M := MX3_makeAll) (pc := 53) dX3_makeAll_53 rfl
  · refine tt_ld (M := MX3_makeAll) (pc := 33) dX3_makeAll_33 rfl rfl rfl rfl rfl ?_
    refine tt_getR (M := MX3_makeAll) (pc := 34) dX3_makeAll_34 rfl h3 rfl ?_
    refine tt_vcIN (M := MX3_makeAll) (pc := 37) dX3_makeAll_37 rfl rfl [] rfl rfl ⟨rfl, by decide, Nat.le_of_ble_eq_true rfl⟩ h0.1 fun v101 S102 => ?_
    refine tt_if_eq (M := MX3_makeAll) (pc := 40) 53 dX3_makeAll_40 rfl ?_ ?_
    · exact tt_ret (M := MX3_makeAll) (pc := 53) dX3_makeAll_53 rfl
    · refine tt_ld (M := MX3_makeAll) (pc := 43) dX3_makeAll_43 rfl rfl rfl rfl rfl ?_
      refine tt_vcVN (M := MX3_makeAll) (pc := 44) dX3_makeAll_44 rfl rfl [] rfl rfl ⟨rfl, by decide, Nat.le_of_ble_eq_true rfl⟩ h3 fun S103 => ?_
      refine tt_iinc (M := MX3_makeAll) (pc := 47) [some (.ref 85), some (.int (I (l1 + 1)))] dX3_makeAll_47 rfl rfl ?_
      refine tt_goto (M := MX3_makeAll) (pc := 50) 26 dX3_makeAll_50 rfl ?_
      exact id
theorem qX3_makeClause_0 {sc : Nat × (Nat → Int32)} {SH : List mCell} {S : mStore} {r : mR × mW} (h0 : sText SH) (h1 : sPlan SH 6) (h2 : sState SH 65) (h3 : sMaker SH) : ((∃ v101 S102, G sc MX8_isWord 0 [some (.ref 11), some (.retAddr 2), none] [] SH S (rI v101 SH S102) ∧ (if I v101 = I 0 then (∃ v103 S104, G sc MX8_isWord 0 [some (.ref 11), some (.retAddr 3), none] [] SH S102 (rI v103 SH S104) ∧ (if I v103 = I 0 then (∃ v105 S106, G sc MX8_isWord 0 [some (.ref 11), some (.retAddr 4), none] [] SH S104 (rI v105 SH S106) ∧ (if I v105 = I 0 then (∃ v107 S108, G sc MX8_isWord 0 [some (.ref 11), some (.retAddr 5), none] [] SH S106 (rI v107 SH S108) ∧ (if I v107 = I 0 then (∃ v109 S110, G sc MX8_isWord 0 [some (.ref 11), some (.retAddr 6), none] [] SH S108 (rI v109 SH S110) ∧ (if I v109 = I 0 then (∃ v111 S112, G sc MX8_isWord 0 [some (.ref 11), some (.retAddr 7), none] [] SH S110 (rI v111 SH S112) ∧ (if I v111 = I 0 then (∃ v113 S114, G sc MX8_isWord 0 [some (.ref 11), some (.retAddr 8), none] [] SH S112 (rI v113 SH S114) ∧ (if I v113 = I 0 then (∃ v115 S116, G sc MX8_isWord 0 [some (.ref 11), some (.retAddr 9), none] [] SH S114 (rI v115 SH S116) ∧ (if I v115 = I 0 then (∃ S117, G sc MX8_fail 0 [some (.ref 11), some (.int (I 1))] [] SH S116 (rV SH S117) ∧ G sc MX3_makeClause 272 [some (.ref 85)] [] SH S117 r) else (∃ S118, G sc MX3_makeAdvised 0 [some (.ref 85), none, none, none] [] SH S116 (rV SH S118) ∧ G sc MX3_makeClause 272 [some (.ref 85)] [] SH S118 r))) else (∃ S119, G sc MX3_makePage 0 [some (.ref 85), none, none, none] [] SH S114 (rV SH S119) ∧ G sc MX3_makeClause 272 [some (.ref 85)] [] SH S119 r))) else (∃ S120, G sc MX3_makeGuest 0 [some (.ref 85), none, none] [] SH S112 (rV SH S120) ∧ G sc MX3_makeClause 272 [some (.ref 85)] [] SH S120 r))) else (∃ S121, G sc MX3_tellOnce 0 [some (.ref 85), some (.int (I 16))] [] SH S110 (rV SH S121) ∧ ((I 1 = I 0 ∨ I 1 = I 1) ∧ G sc MX3_makeClause 272 [some (.ref 85)] [] SH (up S121 6 5 1) r)))) else (∃ S122, G sc MX3_tellOnce 0 [some (.ref 85), some (.int (I 8))] [] SH S108 (rV SH S122) ∧ ((I 1 = I 0 ∨ I 1 = I 1) ∧ G sc MX3_makeClause 272 [some (.ref 85)] [] SH (up S122 6 4 1) r)))) else (∃ S123, G sc MX3_tellOnce 0 [some (.ref 85), some (.int (I 4))] [] SH S106 (rV SH S123) ∧ (∃ v124 S125, G sc MX8_numberIn 0 [some (.ref 11), some (.int (I 1)), some (.int (I 16)), none, none] [] SH S123 (rI v124 SH S125) ∧ (∃ v126 S127, G sc MX8_numberIn 0 [some (.ref 11), some (.int (I ((up S125 6 2 v124) 6 2))), some (.int (I 16)), none, none] [] SH (up S125 6 2 v124) (rI v126 SH S127) ∧ G sc MX3_makeClause 272 [some (.ref 85)] [] SH (up S127 6 3 v126) r))))) else (∃ S128, G sc MX3_tellOnce 0 [some (.ref 85), some (.int (I 2))] [] SH S104 (rV SH S128) ∧ (∃ v129 S130, G sc MX8_numberIn 0 [some (.ref 11), some (.int (I 2)), some (.int (I 8)), none, none] [] SH S128 (rI v129 SH S130) ∧ G sc MX3_makeClause 272 [some (.ref 85)] [] SH (up S130 6 1 v129) r)))) else (if I (S102 85 4) ≤ I 0 then (∃ S131, G sc MX3_tellOnce 0 [some (.ref 85), some (.int (I 1))] [] SH S102 (rV SH S131) ∧ (∃ v132 S133, G sc MX8_numberIn 0 [some (.ref 11), some (.int (I 1)), some (.int (I 48)), none, none] [] SH S131 (rI v132 SH S133) ∧ G sc MX3_makeClause 272 [some (.ref 85)] [] SH (up S133 6 0 v132) r)) else (∃ S134, G sc MX8_fail 0 [some (.ref 11), some (.int (I 4))] [] SH S102 (rV SH S134) ∧ (∃ S135, G sc MX3_tellOnce 0 [some (.ref 85), some (.int (I 1))] [] SH S134 (rV SH S135) ∧ (∃ v136 S137, G sc MX8_numberIn 0 [some (.ref 11), some (.int (I 1)), some (.int (I 48)), none, none] [] SH S135 (rI v136 SH S137) ∧ G sc MX3_makeClause 272 [some (.ref 85)] [] SH (up S137 6 0 v136) r))))))) → G sc MX3_makeClause 0 [some (.ref 85)] [] SH S r := by
  refine tt_ld (M := MX3_makeClause) (pc := 0) dX3_makeClause_0 rfl rfl rfl rfl rfl ?_
  refine tt_getR (M := MX3_makeClause) (pc := 1) dX3_makeClause_1 rfl h3 rfl ?_
  refine tt_pushv (M := MX3_makeClause) (pc := 4) (.retAddr 2) dX3_makeClause_4 rfl rfl ?_
  refine tt_vcIN (M := MX3_makeClause) (pc := 6) dX3_makeClause_6 rfl rfl [] rfl rfl ⟨rfl, by decide, Nat.le_of_ble_eq_true rfl⟩ h0.1 fun v101 S102 => ?_
  refine tt_if_eq (M := MX3_makeClause) (pc := 9) 52 dX3_makeClause_9 rfl ?_ ?_
  · refine tt_ld (M := MX3_makeClause) (pc := 52) dX3_makeClause_52 rfl rfl rfl rfl rfl ?_
    refine tt_getR (M := MX3_makeClause) (pc := 53) dX3_makeClause_53 rfl h3 rfl ?_
    refine tt_pushv (M := MX3_makeClause) (pc := 56) (.retAddr 3) dX3_makeClause_56 rfl rfl ?_
    refine tt_vcIN (M := MX3_makeClause) (pc := 58) dX3_makeClause_58 rfl rfl [] rfl rfl ⟨rfl, by decide, Nat.le_of_ble_eq_true rfl⟩ h0.1 fun v103 S104 => ?_
    refine tt_if_eq (M := MX3_makeClause) (pc := 61) 89 dX3_makeClause_61 rfl ?_ ?_
    · refine tt_ld (M := MX3_makeClause) (pc := 89) dX3_makeClause_89 rfl rfl rfl rfl rfl ?_
      refine tt_getR (M := MX3_makeClause) (pc := 90) dX3_makeClause_90 rfl h3 rfl ?_
      refine tt_pushv (M := MX3_makeClause) (pc := 93) (.retAddr 4) dX3_makeClause_93 rfl rfl ?_
      refine tt_vcIN (M := MX3_makeClause) (pc := 95) dX3_makeClause_95 rfl rfl [] rfl rfl ⟨rfl, by decide, Nat.le_of_ble_eq_true rfl⟩ h0.1 fun v105 S106 => ?_
      refine tt_if_eq (M := MX3_makeClause) (pc := 98) 149 dX3_makeClause_98 rfl ?_ ?_
      · refine tt_ld (M := MX3_makeClause) (pc := 149) dX3_makeClause_149 rfl rfl rfl rfl rfl ?_
        refine tt_getR (M := MX3_makeClause) (pc := 150) dX3_makeClause_150 rfl h3 rfl ?_
        refine tt_pushv (M := MX3_makeClause) (pc := 153) (.retAddr 5) dX3_makeClause_153 rfl rfl ?_
        refine tt_vcIN (M := MX3_makeClause) (pc := 155) dX3_makeClause_155 rfl rfl [] rfl rfl ⟨rfl, by decide, Nat.le_of_ble_eq_true rfl⟩ h0.1 fun v107 S108 => ?_
        refine tt_if_eq (M := MX3_makeClause) (pc := 158) 178 dX3_makeClause_158 rfl ?_ ?_
        · refine tt_ld (M := MX3_makeClause) (pc := 178) dX3_makeClause_178 rfl rfl rfl rfl rfl ?_
          refine tt_getR (M := MX3_makeClause) (pc := 179) dX3_makeClause_179 rfl h3 rfl ?_
          refine tt_pushv (M := MX3_makeClause) (pc := 182) (.retAddr 6) dX3_makeClause_182 rfl rfl ?_
          refine tt_vcIN (M := MX3_makeClause) (pc := 184) dX3_makeClause_184 rfl rfl [] rfl rfl ⟨rfl, by decide, Nat.le_of_ble_eq_true rfl⟩ h0.1 fun v109 S110 => ?_
          refine tt_if_eq (M := MX3_makeClause) (pc := 187) 207 dX3_makeClause_187 rfl ?_ ?_
          · refine tt_ld (M := MX3_makeClause) (pc := 207) dX3_makeClause_207 rfl rfl rfl rfl rfl ?_
            refine tt_getR (M := MX3_makeClause) (pc := 208) dX3_makeClause_208 rfl h3 rfl ?_
            refine tt_pushv (M := MX3_makeClause) (pc := 211) (.retAddr 7) dX3_makeClause_211 rfl rfl ?_
            refine tt_vcIN (M := MX3_makeClause) (pc := 213) dX3_makeClause_213 rfl rfl [] rfl rfl ⟨rfl, by decide, Nat.le_of_ble_eq_true rfl⟩ h0.1 fun v111 S112 => ?_
            refine tt_if_eq (M := MX3_makeClause) (pc := 216) 226 dX3_makeClause_216 rfl ?_ ?_
            · refine tt_ld (M := MX3_makeClause) (pc := 226) dX3_makeClause_226 rfl rfl rfl rfl rfl ?_
              refine tt_getR (M := MX3_makeClause) (pc := 227) dX3_makeClause_227 rfl h3 rfl ?_
              refine tt_pushv (M := MX3_makeClause) (pc := 230) (.retAddr 8) dX3_makeClause_230 rfl rfl ?_
              refine tt_vcIN (M := MX3_makeClause) (pc := 232) dX3_makeClause_232 rfl rfl [] rfl rfl ⟨rfl, by decide, Nat.le_of_ble_eq_true rfl⟩ h0.1 fun v113 S114 => ?_
              refine tt_if_eq (M := MX3_makeClause) (pc := 235) 245 dX3_makeClause_235 rfl ?_ ?_
              · refine tt_ld (M := MX3_makeClause) (pc := 245) dX3_makeClause_245 rfl rfl rfl rfl rfl ?_
                refine tt_getR (M := MX3_makeClause) (pc := 246) dX3_makeClause_246 rfl h3 rfl ?_
                refine tt_pushv (M := MX3_makeClause) (pc := 249) (.retAddr 9) dX3_makeClause_249 rfl rfl ?_
                refine tt_vcIN (M := MX3_makeClause) (pc := 251) dX3_makeClause_251 rfl rfl [] rfl rfl ⟨rfl, by decide, Nat.le_of_ble_eq_true rfl⟩ h0.1 fun v115 S116 => ?_
                refine tt_if_eq (M := MX3_makeClause) (pc := 254) 264 dX3_makeClause_254 rfl ?_ ?_
                · refine tt_ld (M := MX3_makeClause) (pc := 264) dX3_makeClause_264 rfl rfl rfl rfl rfl ?_
                  refine tt_getR (M := MX3_makeClause) (pc := 265) dX3_makeClause_265 rfl h3 rfl ?_
                  refine tt_iconst (M := MX3_makeClause) (pc := 268) dX3_makeClause_268 ?_
                  refine tt_vcVN (M := MX3_makeClause) (pc := 269) dX3_makeClause_269 rfl rfl [] rfl rfl ⟨rfl, by decide, Nat.le_of_ble_eq_true rfl⟩ h0.1 fun S117 => ?_
                  exact id
                · refine tt_ld (M := MX3_makeClause) (pc := 257) dX3_makeClause_257 rfl rfl rfl rfl rfl ?_
                  refine tt_vcVN (M := MX3_makeClause) (pc := 258) dX3_makeClause_258 rfl rfl [] rfl rfl ⟨rfl, by decide, Nat.le_of_ble_eq_true rfl⟩ h3 fun S118 => ?_
                  refine tt_goto (M := MX3_makeClause) (pc := 261) 272 dX3_makeClause_261 rfl ?_
                  exact id
              · refine tt_ld (M := MX3_makeClause) (pc := 238) dX3_makeClause_238 rfl rfl rfl rfl rfl ?_
                refine tt_vcVN (M := MX3_makeClause) (pc := 239) dX3_makeClause_239 rfl rfl [] rfl rfl ⟨rfl, by decide, Nat.le_of_ble_eq_true rfl⟩ h3 fun S119 => ?_
                refine tt_goto (M := MX3_makeClause) (pc := 242) 272 dX3_makeClause_242 rfl ?_
                exact id
            · refine tt_ld (M := MX3_makeClause) (pc := 219) dX3_makeClause_219 rfl rfl rfl rfl rfl ?_
              refine tt_vcVN (M := MX3_makeClause) (pc := 220) dX3_makeClause_220 rfl rfl [] rfl rfl ⟨rfl, by decide, Nat.le_of_ble_eq_true rfl⟩ h3 fun S120 => ?_
              refine tt_goto (M := MX3_makeClause) (pc := 223) 272 dX3_makeClause_223 rfl ?_
              exact id
          · refine tt_ld (M := MX3_makeClause) (pc := 190) dX3_makeClause_190 rfl rfl rfl rfl rfl ?_
            refine tt_bipush (M := MX3_makeClause) (pc := 191) dX3_makeClause_191 (by decide) ?_
            refine tt_vcVN (M := MX3_makeClause) (pc := 193) dX3_makeClause_193 rfl rfl [] rfl rfl ⟨rfl, by decide, Nat.le_of_ble_eq_true rfl⟩ h3 fun S121 => ?_
            refine tt_ld (M := MX3_makeClause) (pc := 196) dX3_makeClause_196 rfl rfl rfl rfl rfl ?_
            refine tt_getR (M := MX3_makeClause) (pc := 197) dX3_makeClause_197 rfl h3 rfl ?_
            refine tt_iconst (M := MX3_makeClause) (pc := 200) dX3_makeClause_200 ?_
            refine tt_putZ (M := MX3_makeClause) (pc := 201) dX3_makeClause_201 rfl rfl (Or.inl rfl) h1.1 rfl ?_
            refine tt_goto (M := MX3_makeClause) (pc := 204) 272 dX3_makeClause_204 rfl ?_
            exact id
        · refine tt_ld (M := MX3_makeClause) (pc := 161) dX3_makeClause_161 rfl rfl rfl rfl rfl ?_
          refine tt_bipush (M := MX3_makeClause) (pc := 162) dX3_makeClause_162 (by decide) ?_
          refine tt_vcVN (M := MX3_makeClause) (pc := 164) dX3_makeClause_164 rfl rfl [] rfl rfl ⟨rfl, by decide, Nat.le_of_ble_eq_true rfl⟩ h3 fun S122 => ?_
          refine tt_ld (M := MX3_makeClause) (pc := 167) dX3_makeClause_167 rfl rfl rfl rfl rfl ?_
          refine tt_getR (M := MX3_makeClause) (pc := 168) dX3_makeClause_168 rfl h3 rfl ?_
          refine tt_iconst (M := MX3_makeClause) (pc := 171) dX3_makeClause_171 ?_
          refine tt_putZ (M := MX3_makeClause) (pc := 172) dX3_makeClause_172 rfl rfl (Or.inl rfl) h1.1 rfl ?_
          refine tt_goto (M := MX3_makeClause) (pc := 175) 272 dX3_makeClause_175 rfl ?_
          exact id
      · refine tt_ld (M := MX3_makeClause) (pc := 101) dX3_makeClause_101 rfl rfl rfl rfl rfl ?_
        refine tt_iconst (M := MX3_makeClause) (pc := 102) dX3_makeClause_102 ?_
        refine tt_vcVN (M := MX3_makeClause) (pc := 103) dX3_makeClause_103 rfl rfl [] rfl rfl ⟨rfl, by decide, Nat.le_of_ble_eq_true rfl⟩ h3 fun S123 => ?_
        refine tt_ld (M := MX3_makeClause) (pc := 106) dX3_makeClause_106 rfl rfl rfl rfl rfl ?_
        refine tt_getR (M := MX3_makeClause) (pc := 107) dX3_makeClause_107 rfl h3 rfl ?_
        refine tt_ld (M := MX3_makeClause) (pc := 110) dX3_makeClause_110 rfl rfl rfl rfl rfl ?_
        refine tt_getR (M := MX3_makeClause) (pc := 111) dX3_makeClause_111 rfl h3 rfl ?_
        refine tt_iconst (M := MX3_makeClause) (pc := 114) dX3_makeClause_114 ?_
        refine tt_bipush (M := MX3_makeClause) (pc := 115) dX3_makeClause_115 (by decide) ?_
        refine tt_vcIN (M := MX3_makeClause) (pc := 117) dX3_makeClause_117 rfl rfl [.ref 6] rfl rfl ⟨rfl, by decide, Nat.le_of_ble_eq_true rfl⟩ h0.1 fun v124 S125 => ?_
        refine tt_putI (M := MX3_makeClause) (pc := 120) dX3_makeClause_120 rfl rfl (Or.inl rfl) h1.1 rfl ?_
        refine tt_ld (M := MX3_makeClause) (pc := 123) dX3_makeClause_123 rfl rfl rfl rfl rfl ?_
        refine tt_getR (M := MX3_makeClause) (pc := 124) dX3_makeClause_124 rfl h3 rfl ?_
        refine tt_ld (M := MX3_makeClause) (pc := 127) dX3_makeClause_127 rfl rfl rfl rfl rfl ?_
        refine tt_getR (M := MX3_makeClause) (pc := 128) dX3_makeClause_128 rfl h3 rfl ?_
        refine tt_ld (M := MX3_makeClause) (pc := 131) dX3_makeClause_131 rfl rfl rfl rfl rfl ?_
        refine tt_getR (M := MX3_makeClause) (pc := 132) dX3_makeClause_132 rfl h3 rfl ?_
        refine tt_getI (M := MX3_makeClause) (pc := 135) dX3_makeClause_135 rfl h1.1 rfl ?_
        refine tt_bipush (M := MX3_makeClause) (pc := 138) dX3_makeClause_138 (by decide) ?_
        refine tt_vcIN (M := MX3_makeClause) (pc := 140) dX3_makeClause_140 rfl rfl [.ref 6] rfl rfl ⟨rfl, by decide, Nat.le_of_ble_eq_true rfl⟩ h0.1 fun v126 S127 => ?_
        refine tt_putI (M := MX3_makeClause) (pc := 143) dX3_makeClause_143 rfl rfl (Or.inl rfl) h1.1 rfl ?_
        refine tt_goto (M := MX3_makeClause) (pc := 146) 272 dX3_makeClause_146 rfl ?_
        exact id
    · refine tt_ld (M := MX3_makeClause) (pc := 64) dX3_makeClause_64 rfl rfl rfl rfl rfl ?_
      refine tt_iconst (M := MX3_makeClause) (pc := 65) dX3_makeClause_65 ?_
      refine tt_vcVN (M := MX3_makeClause) (pc := 66) dX3_makeClause_66 rfl rfl [] rfl rfl ⟨rfl, by decide, Nat.le_of_ble_eq_true rfl⟩ h3 fun S128 => ?_
      refine tt_ld (M := MX3_makeClause) (pc := 69) dX3_makeClause_69 rfl rfl rfl rfl rfl ?_
      refine tt_getR (M := MX3_makeClause) (pc := 70) dX3_makeClause_70 rfl h3 rfl ?_
      refine tt_ld (M := MX3_makeClause) (pc := 73) dX3_makeClause_73 rfl rfl rfl rfl rfl ?_
      refine tt_getR (M := MX3_makeClause) (pc := 74) dX3_makeClause_74 rfl h3 rfl ?_
      refine tt_iconst (M := MX3_makeClause) (pc := 77) dX3_makeClause_77 ?_
      refine tt_bipush (M := MX3_makeClause) (pc := 78) dX3_makeClause_78 (by decide) ?_
      refine tt_vcIN (M := MX3_makeClause) (pc := 80) dX3_makeClause_80 rfl rfl [.ref 6] rfl rfl ⟨rfl, by decide, Nat.le_of_ble_eq_true rfl⟩ h0.1 fun v129 S130 => ?_
      refine tt_putI (M := MX3_makeClause) (pc := 83) dX3_makeClause_83 rfl rfl (Or.inl rfl) h1.1 rfl ?_
      refine tt_goto (M := MX3_makeClause) (pc := 86) 272 dX3_makeClause_86 rfl ?_
      exact id
  · refine tt_ld (M := MX3_makeClause) (pc := 12) dX3_makeClause_12 rfl rfl rfl rfl rfl ?_
    refine tt_getI (M := MX3_makeClause) (pc := 13) dX3_makeClause_13 rfl h3 rfl ?_
    refine tt_if_le (M := MX3_makeClause) (pc := 16) 27 dX3_makeClause_16 rfl ?_ ?_
    · refine tt_ld (M := MX3_makeClause) (pc := 27) dX3_makeClause_27 rfl rfl rfl rfl rfl ?_
      refine tt_iconst (M := MX3_makeClause) (pc := 28) dX3_makeClause_28 ?_
      refine tt_vcVN (M := MX3_makeClause) (pc := 29) dX3_makeClause_29 rfl rfl [] rfl rfl ⟨rfl, by decide, Nat.le_of_ble_eq_true rfl⟩ h3 fun S131 => ?_
      refine tt_ld (M := MX3_makeClause) (pc := 32) dX3_makeClause_32 rfl rfl rfl rfl rfl ?_
      refine tt_getR (M := MX3_makeClause) (pc := 33) dX3_makeClause_33 rfl h3 rfl ?_
      refine tt_ld (M := MX3_makeClause) (pc := 36) dX3_makeClause_36 rfl rfl rfl rfl rfl ?_
      refine tt_getR (M := MX3_makeClause) (pc := 37) dX3_makeClause_37 rfl h3 rfl ?_
      refine tt_iconst (M := MX3_makeClause) (pc := 40) dX3_makeClause_40 ?_
      refine tt_bipush (M := MX3_makeClause) (pc := 41) dX3_makeClause_41 (by decide) ?_
      refine tt_vcIN (M := MX3_makeClause) (pc := 43) dX3_makeClause_43 rfl rfl [.ref 6] rfl rfl ⟨rfl, by decide, Nat.le_of_ble_eq_true rfl⟩ h0.1 fun v132 S133 => ?_
      refine tt_putI (M := MX3_makeClause) (pc := 46) dX3_makeClause_46 rfl rfl (Or.inl rfl) h1.1 rfl ?_
      refine tt_goto (M := MX3_makeClause) (pc := 49) 272 dX3_makeClause_49 rfl ?_
      exact id
    · refine tt_ld (M := MX3_makeClause) (pc := 19) dX3_makeClause_19 rfl rfl rfl rfl rfl ?_
      refine tt_getR (M := MX3_makeClause) (pc := 20) dX3_makeClause_20 rfl h3 rfl ?_
      refine tt_iconst (M := MX3_makeClause) (pc := 23) dX3_makeClause_23 ?_
      refine tt_vcVN (M := MX3_makeClause) (pc := 24) dX3_makeClause_24 rfl rfl [] rfl rfl ⟨rfl, by decide, Nat.le_of_ble_eq_true rfl⟩ h0.1 fun S134 => ?_
      refine tt_ld (M := MX3_makeClause) (pc := 27) dX3_makeClause_27 rfl rfl rfl rfl rfl ?_
      refine tt_iconst (M := MX3_makeClause) (pc := 28) dX3_makeClause_28 ?_
      refine tt_vcVN (M := MX3_makeClause) (pc := 29) dX3_makeClause_29 rfl rfl [] rfl rfl ⟨rfl, by decide, Nat.le_of_ble_eq_true rfl⟩ h3 fun S135 => ?_
      refine tt_ld (M := MX3_makeClause) (pc := 32) dX3_makeClause_32 rfl rfl rfl rfl rfl ?_
      refine tt_getR (M := MX3_makeClause) (pc := 33) dX3_makeClause_33 rfl h3 rfl ?_
      refine tt_ld (M := MX3_makeClause) (pc := 36) dX3_makeClause_36 rfl rfl rfl rfl rfl ?_
      refine tt_getR (M := MX3_makeClause) (pc := 37) dX3_makeClause_37 rfl h3 rfl ?_
      refine tt_iconst (M := MX3_makeClause) (pc := 40) dX3_makeClause_40 ?_
      refine tt_bipush (M := MX3_makeClause) (pc := 41) dX3_makeClause_41 (by decide) ?_
      refine tt_vcIN (M := MX3_makeClause) (pc := 43) dX3_makeClause_43 rfl rfl [.ref 6] rfl rfl ⟨rfl, by decide, Nat.le_of_ble_eq_true rfl⟩ h0.1 fun v136 S137 => ?_
      refine tt_putI (M := MX3_makeClause) (pc := 46) dX3_makeClause_46 rfl rfl (Or.inl rfl) h1.1 rfl ?_
      refine tt_goto (M := MX3_makeClause) (pc := 49) 272 dX3_makeClause_49 rfl ?_
      exact id
theorem qX3_makeClause_272 {sc : Nat × (Nat → Int32)} {SH : List mCell} {S : mStore} {r : mR × mW} (h0 : sText SH) (h1 : sPlan SH 6) (h2 : sState SH 65) (h3 : sMaker SH) : ((∃ S101, G sc MX8_clauseEnds 0 [some (.ref 11)] [] SH S (rV SH S101) ∧ r = rV SH S101)) → G sc MX3_makeClause 272 [some (.ref 85)] [] SH S r := by
  refine tt_ld (M := MX3_makeClause) (pc := 272) dX3_makeClause_272 rfl rfl rfl rfl rfl ?_
  refine tt_getR (M := MX3_makeClause) (pc := 273) dX3_makeClause_273 rfl h3 rfl ?_
  refine tt_vcVN (M := MX3_makeClause) (pc := 276) dX3_makeClause_276 rfl rfl [] rfl rfl ⟨rfl, by decide, Nat.le_of_ble_eq_true rfl⟩ h0.1 fun S101 => ?_
  exact tt_ret (M := MX3_makeClause) (pc := 279) dX3_makeClause_279 rfl
theorem qX3_tellOnce_0 {sc : Nat × (Nat → Int32)} {SH : List mCell} {S : mStore} {r : mR × mW} (h0 : sText SH) (h1 : sPlan SH 6) (h2 : sState SH 65) (h3 : sMaker SH) {l1 : Int} : ((if I (ian (S 85 3) l1) = I 0 then r = rV SH (up S 85 3 (iro (S 85 3) l1)) else (∃ S101, G sc MX8_fail 0 [some (.ref 11), some (.int (I 5))] [] SH S (rV SH S101) ∧ r = rV SH (up S101 85 3 (iro (S101 85 3) l1))))) → G sc MX3_tellOnce 0 [some (.ref 85), some (.int (I l1))] [] SH S r := by
  refine tt_ld (M := MX3_tellOnce) (pc := 0) dX3_tellOnce_0 rfl rfl rfl rfl rfl ?_
  refine tt_getI (M := MX3_tellOnce) (pc := 1) dX3_tellOnce_1 rfl h3 rfl ?_
  refine tt_ld (M := MX3_tellOnce) (pc := 4) dX3_tellOnce_4 rfl rfl rfl rfl rfl ?_
  refine tt_iand (M := MX3_tellOnce) (pc := 5) dX3_tellOnce_5 ?_
  refine tt_if_eq (M := MX3_tellOnce) (pc := 6) 17 dX3_tellOnce_6 rfl ?_ ?_
  · refine tt_ld (M := MX3_tellOnce) (pc := 17) dX3_tellOnce_17 rfl rfl rfl rfl rfl ?_
    refine tt_dup (M := MX3_tellOnce) (pc := 18) dX3_tellOnce_18 rfl ?_
    refine tt_getI (M := MX3_tellOnce) (pc := 19) dX3_tellOnce_19 rfl h3 rfl ?_
    refine tt_ld (M := MX3_tellOnce) (pc := 22) dX3_tellOnce_22 rfl rfl rfl rfl rfl ?_
    refine tt_ior (M := MX3_tellOnce) (pc := 23) dX3_tellOnce_23 ?_
    refine tt_putI (M := MX3_tellOnce) (pc := 24) dX3_tellOnce_24 rfl rfl (Or.inl rfl) h3 rfl ?_
    exact tt_ret (M := MX3_tellOnce) (pc := 27) dX3_tellOnce_27 rfl
  · refine tt_ld (M := MX3_tellOnce) (pc := 9) dX3_tellOnce_9 rfl rfl rfl rfl rfl ?_
    refine tt_getR (M := MX3_tellOnce) (pc := 10) dX3_tellOnce_10 rfl h3 rfl ?_
    refine tt_iconst (M := MX3_tellOnce) (pc := 13) dX3_tellOnce_13 ?_
    refine tt_vcVN (M := MX3_tellOnce) (pc := 14) dX3_tellOnce_14 rfl rfl [] rfl rfl ⟨rfl, by decide, Nat.le_of_ble_eq_true rfl⟩ h0.1 fun S101 => ?_
    refine tt_ld (M := MX3_tellOnce) (pc := 17) dX3_tellOnce_17 rfl rfl rfl rfl rfl ?_
    refine tt_dup (M := MX3_tellOnce) (pc := 18) dX3_tellOnce_18 rfl ?_
    refine tt_getI (M := MX3_tellOnce) (pc := 19) dX3_tellOnce_19 rfl h3 rfl ?_
    refine tt_ld (M := MX3_tellOnce) (pc := 22) dX3_tellOnce_22 rfl rfl rfl rfl rfl ?_
    refine tt_ior (M := MX3_tellOnce) (pc := 23) dX3_tellOnce_23 ?_
    refine tt_putI (M := MX3_tellOnce) (pc := 24) dX3_tellOnce_24 rfl rfl (Or.inl rfl) h3 rfl ?_
    exact tt_ret (M := MX3_tellOnce) (pc := 27) dX3_tellOnce_27 rfl
theorem qX3_makeGuest_0 {sc : Nat × (Nat → Int32)} {SH : List mCell} {S : mStore} {r : mR × mW} (h0 : sText SH) (h1 : sPlan SH 6) (h2 : sState SH 65) (h3 : sMaker SH) {u1 : Option Value} {u2 : Option Value} : ((if I (S 6 6) < I 4 then (∃ v101 S102, G sc MX8_numberIn 0 [some (.ref 11), some (.int (I 1)), some (.int (I 12)), none, none] [] SH S (rI v101 SH S102) ∧ (∃ v103 S104, G sc MX8_numberIsNext 0 [some (.ref 11), none] [] SH S102 (rI v103 SH S104) ∧ (if I v103 = I 0 then (if I (S104 11 6) = I 0 then (∃ S105, G sc MX5_addGuest 0 [some (.ref 6), some (.int (I v101)), some (.int (I 0)), none] [] SH S104 (rV SH S105) ∧ r = rV SH S105) else r = rV SH S104) else (∃ v106 S107, G sc MX8_numberIn 0 [some (.ref 11), some (.int (I 0)), some (.int (I 2)), none, none] [] SH S104 (rI v106 SH S107) ∧ (if I (S107 11 6) = I 0 then (∃ S108, G sc MX5_addGuest 0 [some (.ref 6), some (.int (I v101)), some (.int (I v106)), none] [] SH S107 (rV SH S108) ∧ r = rV SH S108) else r = rV SH S107))))) else (∃ S109, G sc MX8_fail 0 [some (.ref 11), some (.int (I 2))] [] SH S (rV SH S109) ∧ (∃ v110 S111, G sc MX8_numberIn 0 [some (.ref 11), some (.int (I 1)), some (.int (I 12)), none, none] [] SH S109 (rI v110 SH S111) ∧ (∃ v112 S113, G sc MX8_numberIsNext 0 [some (.ref 11), none] [] SH S111 (rI v112 SH S113) ∧ (if I v112 = I 0 then (if I (S113 11 6) = I 0 then (∃ S114, G sc MX5_addGuest 0 [some (.ref 6), some (.int (I v110)), some (.int (I 0)), none] [] SH S113 (rV SH S114) ∧ r = rV SH S114) else r = rV SH S113) else (∃ v115 S116, G sc MX8_numberIn 0 [some (.ref 11), some (.int (I 0)), some (.int (I 2)), none, none] [] SH S113 (rI v115 SH S116) ∧ (if I (S116 11 6) = I 0 then (∃ S117, G sc MX5_addGuest 0 [some (.ref 6), some (.int (I v110)), some (.int (I v115)), none] [] SH S116 (rV SH S117) ∧ r = rV SH S117) else r = rV SH S116)))))))) → G sc MX3_makeGuest 0 [some (.ref 85), u1, u2] [] SH S r := by
  refine tt_ld (M := MX3_makeGuest) (pc := 0) dX3_makeGuest_0 rfl rfl rfl rfl rfl ?_
  refine tt_getR (M := MX3_makeGuest) (pc := 1) dX3_makeGuest_1 rfl h3 rfl ?_
  refine tt_getI (M := MX3_makeGuest) (pc := 4) dX3_makeGuest_4 rfl h1.1 rfl ?_
  refine tt_iconst (M := MX3_makeGuest) (pc := 7) dX3_makeGuest_7 ?_
  refine tt_ic_lt (M := MX3_makeGuest) (pc := 8) 19 dX3_makeGuest_8 rfl ?_ ?_
  · refine tt_ld (M := MX3_makeGuest) (pc := 19) dX3_makeGuest_19 rfl rfl rfl rfl rfl ?_
    refine tt_getR (M := MX3_makeGuest) (pc := 20) dX3_makeGuest_20 rfl h3 rfl ?_
    refine tt_iconst (M := MX3_makeGuest) (pc := 23) dX3_makeGuest_23 ?_
    refine tt_bipush (M := MX3_makeGuest) (pc := 24) dX3_makeGuest_24 (by decide) ?_
    refine tt_vcIN (M := MX3_makeGuest) (pc := 26) dX3_makeGuest_26 rfl rfl [] rfl rfl ⟨rfl, by decide, Nat.le_of_ble_eq_true rfl⟩ h0.1 fun v101 S102 => ?_
    refine tt_st (M := MX3_makeGuest) (pc := 29) [some (.ref 85), some (.int (I v101)), u2] dX3_makeGuest_29 rfl rfl rfl rfl rfl rfl ?_
    refine tt_ld (M := MX3_makeGuest) (pc := 30) dX3_makeGuest_30 rfl rfl rfl rfl rfl ?_
    refine tt_getR (M := MX3_makeGuest) (pc := 31) dX3_makeGuest_31 rfl h3 rfl ?_
    refine tt_vcIN (M := MX3_makeGuest) (pc := 34) dX3_makeGuest_34 rfl rfl [] rfl rfl ⟨rfl, by decide, Nat.le_of_ble_eq_true rfl⟩ h0.1 fun v103 S104 => ?_
    refine tt_if_eq (M := MX3_makeGuest) (pc := 37) 52 dX3_makeGuest_37 rfl ?_ ?_
    · refine tt_iconst (M := MX3_makeGuest) (pc := 52) dX3_makeGuest_52 ?_
      refine tt_st (M := MX3_makeGuest) (pc := 53) [some (.ref 85), some (.int (I v101)), some (.int (I 0))] dX3_makeGuest_53 rfl rfl rfl rfl rfl rfl ?_
      refine tt_ld (M := MX3_makeGuest) (pc := 54) dX3_makeGuest_54 rfl rfl rfl rfl rfl ?_
      refine tt_getR (M := MX3_makeGuest) (pc := 55) dX3_makeGuest_55 rfl h3 rfl ?_
      refine tt_getI (M := MX3_makeGuest) (pc := 58) dX3_makeGuest_58 rfl h0.1 rfl ?_
      refine tt_if_ne (M := MX3_makeGuest) (pc := 61) 73 dX3_makeGuest_61 rfl ?_ ?_
      · exact tt_ret (M := MX3_makeGuest) (pc := 73) dX3_makeGuest_73 rfl
      · refine tt_ld (M := MX3_makeGuest) (pc := 64) dX3_makeGuest_64 rfl rfl rfl rfl rfl ?_
        refine tt_getR (M := MX3_makeGuest) (pc := 65) dX3_makeGuest_65 rfl h3 rfl ?_
        refine tt_ld (M := MX3_makeGuest) (pc := 68) dX3_makeGuest_68 rfl rfl rfl rfl rfl ?_
        refine tt_ld (M := MX3_makeGuest) (pc := 69) dX3_makeGuest_69 rfl rfl rfl rfl rfl ?_
        refine tt_vcVN (M := MX3_makeGuest) (pc := 70) dX3_makeGuest_70 rfl rfl [] rfl rfl ⟨rfl, by decide, Nat.le_of_ble_eq_true rfl⟩ h1.1 fun S105 => ?_
        exact tt_ret (M := MX3_makeGuest) (pc := 73) dX3_makeGuest_73 rfl
    · refine tt_ld (M := MX3_makeGuest) (pc := 40) dX3_makeGuest_40 rfl rfl rfl rfl rfl ?_
      refine tt_getR (M := MX3_makeGuest) (pc := 41) dX3_makeGuest_41 rfl h3 rfl ?_
      refine tt_iconst (M := MX3_makeGuest) (pc := 44) dX3_makeGuest_44 ?_
      refine tt_iconst (M := MX3_makeGuest) (pc := 45) dX3_makeGuest_45 ?_
      refine tt_vcIN (M := MX3_makeGuest) (pc := 46) dX3_makeGuest_46 rfl rfl [] rfl rfl ⟨rfl, by decide, Nat.le_of_ble_eq_true rfl⟩ h0.1 fun v106 S107 => ?_
      refine tt_goto (M := MX3_makeGuest) (pc := 49) 53 dX3_makeGuest_49 rfl ?_
      refine tt_st (M := MX3_makeGuest) (pc := 53) [some (.ref 85), some (.int (I v101)), some (.int (I v106))] dX3_makeGuest_53 rfl rfl rfl rfl rfl rfl ?_
      refine tt_ld (M := MX3_makeGuest) (pc := 54) dX3_makeGuest_54 rfl rfl rfl rfl rfl ?_
      refine tt_getR (M := MX3_makeGuest) (pc := 55) dX3_makeGuest_55 rfl h3 rfl ?_
      refine tt_getI (M := MX3_makeGuest) (pc := 58) dX3_makeGuest_58 rfl h0.1 rfl ?_
      refine tt_if_ne (M := MX3_makeGuest) (pc := 61) 73 dX3_makeGuest_61 rfl ?_ ?_
      · exact tt_ret (M := MX3_makeGuest) (pc := 73) dX3_makeGuest_73 rfl
      · refine tt_ld (M := MX3_makeGuest) (pc := 64) dX3_makeGuest_64 rfl rfl rfl rfl rfl ?_
        refine tt_getR (M := MX3_makeGuest) (pc := 65) dX3_makeGuest_65 rfl h3 rfl ?_
        refine tt_ld (M := MX3_makeGuest) (pc := 68) dX3_makeGuest_68 rfl rfl rfl rfl rfl ?_
        refine tt_ld (M := MX3_makeGuest) (pc := 69) dX3_makeGuest_69 rfl rfl rfl rfl rfl ?_
        refine tt_vcVN (M := MX3_makeGuest) (pc := 70) dX3_makeGuest_70 rfl rfl [] rfl rfl ⟨rfl, by decide, Nat.le_of_ble_eq_true rfl⟩ h1.1 fun S108 => ?_
        exact tt_ret (M := MX3_makeGuest) (pc := 73) dX3_makeGuest_73 rfl
  · refine tt_ld (M := MX3_makeGuest) (pc := 11) dX3_makeGuest_11 rfl rfl rfl rfl rfl ?_
    refine tt_getR (M := MX3_makeGuest) (pc := 12) dX3_makeGuest_12 rfl h3 rfl ?_
    refine tt_iconst (M := MX3_makeGuest) (pc := 15) dX3_makeGuest_15 ?_
    refine tt_vcVN (M := MX3_makeGuest) (pc := 16) dX3_makeGuest_16 rfl rfl [] rfl rfl ⟨rfl, by decide, Nat.le_of_ble_eq_true rfl⟩ h0.1 fun S109 => ?_
    refine tt_ld (M := MX3_makeGuest) (pc := 19) dX3_makeGuest_19 rfl rfl rfl rfl rfl ?_
    refine tt_getR (M := MX3_makeGuest) (pc := 20) dX3_makeGuest_20 rfl h3 rfl ?_
    refine tt_iconst (M := MX3_makeGuest) (pc := 23) dX3_makeGuest_23 ?_
    refine tt_bipush (M := MX3_makeGuest) (pc := 24) dX3_makeGuest_24 (by decide) ?_
    refine tt_vcIN (M := MX3_makeGuest) (pc := 26) dX3_makeGuest_26 rfl rfl [] rfl rfl ⟨rfl, by decide, Nat.le_of_ble_eq_true rfl⟩ h0.1 fun v110 S111 => ?_
    refine tt_st (M := MX3_makeGuest) (pc := 29) [some (.ref 85), some (.int (I v110)), u2] dX3_makeGuest_29 rfl rfl rfl rfl rfl rfl ?_
    refine tt_ld (M := MX3_makeGuest) (pc := 30) dX3_makeGuest_30 rfl rfl rfl rfl rfl ?_
    refine tt_getR (M := MX3_makeGuest) (pc := 31) dX3_makeGuest_31 rfl h3 rfl ?_
    refine tt_vcIN (M := MX3_makeGuest) (pc := 34) dX3_makeGuest_34 rfl rfl [] rfl rfl ⟨rfl, by decide, Nat.le_of_ble_eq_true rfl⟩ h0.1 fun v112 S113 => ?_
    refine tt_if_eq (M := MX3_makeGuest) (pc := 37) 52 dX3_makeGuest_37 rfl ?_ ?_
    · refine tt_iconst (M := MX3_makeGuest) (pc := 52) dX3_makeGuest_52 ?_
      refine tt_st (M := MX3_makeGuest) (pc := 53) [some (.ref 85), some (.int (I v110)), some (.int (I 0))] dX3_makeGuest_53 rfl rfl rfl rfl rfl rfl ?_
      refine tt_ld (M := MX3_makeGuest) (pc := 54) dX3_makeGuest_54 rfl rfl rfl rfl rfl ?_
      refine tt_getR (M := MX3_makeGuest) (pc := 55) dX3_makeGuest_55 rfl h3 rfl ?_
      refine tt_getI (M := MX3_makeGuest) (pc := 58) dX3_makeGuest_58 rfl h0.1 rfl ?_
      refine tt_if_ne (M := MX3_makeGuest) (pc := 61) 73 dX3_makeGuest_61 rfl ?_ ?_
      · exact tt_ret (M := MX3_makeGuest) (pc := 73) dX3_makeGuest_73 rfl
      · refine tt_ld (M := MX3_makeGuest) (pc := 64) dX3_makeGuest_64 rfl rfl rfl rfl rfl ?_
        refine tt_getR (M := MX3_makeGuest) (pc := 65) dX3_makeGuest_65 rfl h3 rfl ?_
        refine tt_ld (M := MX3_makeGuest) (pc := 68) dX3_makeGuest_68 rfl rfl rfl rfl rfl ?_
        refine tt_ld (M := MX3_makeGuest) (pc := 69) dX3_makeGuest_69 rfl rfl rfl rfl rfl ?_
        refine tt_vcVN (M := MX3_makeGuest) (pc := 70) dX3_makeGuest_70 rfl rfl [] rfl rfl ⟨rfl, by decide, Nat.le_of_ble_eq_true rfl⟩ h1.1 fun S114 => ?_
        exact tt_ret (M := MX3_makeGuest) (pc := 73) dX3_makeGuest_73 rfl
    · refine tt_ld (M := MX3_makeGuest) (pc := 40) dX3_makeGuest_40 rfl rfl rfl rfl rfl ?_
      refine tt_getR (M := MX3_makeGuest) (pc := 41) dX3_makeGuest_41 rfl h3 rfl ?_
      refine tt_iconst (M := MX3_makeGuest) (pc := 44) dX3_makeGuest_44 ?_
      refine tt_iconst (M := MX3_makeGuest) (pc := 45) dX3_makeGuest_45 ?_
      refine tt_vcIN (M := MX3_makeGuest) (pc := 46) dX3_makeGuest_46 rfl rfl [] rfl rfl ⟨rfl, by decide, Nat.le_of_ble_eq_true rfl⟩ h0.1 fun v115 S116 => ?_
      refine tt_goto (M := MX3_makeGuest) (pc := 49) 53 dX3_makeGuest_49 rfl ?_
      refine tt_st (M := MX3_makeGuest) (pc := 53) [some (.ref 85), some (.int (I v110)), some (.int (I v115))] dX3_makeGuest_53 rfl rfl rfl rfl rfl rfl ?_
      refine tt_ld (M := MX3_makeGuest) (pc := 54) dX3_makeGuest_54 rfl rfl rfl rfl rfl ?_
      refine tt_getR (M := MX3_makeGuest) (pc := 55) dX3_makeGuest_55 rfl h3 rfl ?_
      refine tt_getI (M := MX3_makeGuest) (pc := 58) dX3_makeGuest_58 rfl h0.1 rfl ?_
      refine tt_if_ne (M := MX3_makeGuest) (pc := 61) 73 dX3_makeGuest_61 rfl ?_ ?_
      · exact tt_ret (M := MX3_makeGuest) (pc := 73) dX3_makeGuest_73 rfl
      · refine tt_ld (M := MX3_makeGuest) (pc := 64) dX3_makeGuest_64 rfl rfl rfl rfl rfl ?_
        refine tt_getR (M := MX3_makeGuest) (pc := 65) dX3_makeGuest_65 rfl h3 rfl ?_
        refine tt_ld (M := MX3_makeGuest) (pc := 68) dX3_makeGuest_68 rfl rfl rfl rfl rfl ?_
        refine tt_ld (M := MX3_makeGuest) (pc := 69) dX3_makeGuest_69 rfl rfl rfl rfl rfl ?_
        refine tt_vcVN (M := MX3_makeGuest) (pc := 70) dX3_makeGuest_70 rfl rfl [] rfl rfl ⟨rfl, by decide, Nat.le_of_ble_eq_true rfl⟩ h1.1 fun S117 => ?_
        exact tt_ret (M := MX3_makeGuest) (pc := 73) dX3_makeGuest_73 rfl
theorem qX3_makePage_0 {sc : Nat × (Nat → Int32)} {SH : List mCell} {S : mStore} {r : mR × mW} (h0 : sText SH) (h1 : sPlan SH 6) (h2 : sState SH 65) (h3 : sMaker SH) {u1 : Option Value} {u2 : Option Value} {u3 : Option Value} : ((if I (S 85 4) < I (S 6 0) then (∃ v101 S102, G sc MX8_pageIn 0 [some (.ref 11), some (.ref 6), none, none, none] [] SH S (rI v101 SH S102) ∧ (if I v101 = I (-1) then G sc MX3_makePage 67 [some (.ref 85), some (.int (I v101)), some (.int (I 0)), some (.int (I 0))] [] SH S102 r else (((0 : Int) ≤ v101 ∧ v101 < 48) ∧ (if I (S102 (65 + 2) v101) = I (-1) then G sc MX3_makePage 67 [some (.ref 85), some (.int (I v101)), some (.int (I 0)), some (.int (I 0))] [] SH S102 r else (∃ S103, G sc MX8_fail 0 [some (.ref 11), some (.int (I 4))] [] SH S102 (rV SH S103) ∧ G sc MX3_makePage 67 [some (.ref 85), some (.int (I v101)), some (.int (I 0)), some (.int (I 0))] [] SH S103 r))))) else (∃ S104, G sc MX8_fail 0 [some (.ref 11), some (.int (I 2))] [] SH S (rV SH S104) ∧ (∃ v105 S106, G sc MX8_pageIn 0 [some (.ref 11), some (.ref 6), none, none, none] [] SH S104 (rI v105 SH S106) ∧ (if I v105 = I (-1) then G sc MX3_makePage 67 [some (.ref 85), some (.int (I v105)), some (.int (I 0)), some (.int (I 0))] [] SH S106 r else (((0 : Int) ≤ v105 ∧ v105 < 48) ∧ (if I (S106 (65 + 2) v105) = I (-1) then G sc MX3_makePage 67 [some (.ref 85), some (.int (I v105)), some (.int (I 0)), some (.int (I 0))] [] SH S106 r else (∃ S107, G sc MX8_fail 0 [some (.ref 11), some (.int (I 4))] [] SH S106 (rV SH S107) ∧ G sc MX3_makePage 67 [some (.ref 85), some (.int (I v105)), some (.int (I 0)), some (.int (I 0))] [] SH S107 r)))))))) → G sc MX3_makePage 0 [some (.ref 85), u1, u2, u3] [] SH S r := by
  refine tt_ld (M := MX3_makePage) (pc := 0) dX3_makePage_0 rfl rfl rfl rfl rfl ?_
  refine tt_getI (M := MX3_makePage) (pc := 1) dX3_makePage_1 rfl h3 rfl ?_
  refine tt_ld (M := MX3_makePage) (pc := 4) dX3_makePage_4 rfl rfl rfl rfl rfl ?_
  refine tt_getR (M := MX3_makePage) (pc := 5) dX3_makePage_5 rfl h3 rfl ?_
  refine tt_getI (M := MX3_makePage) (pc := 8) dX3_makePage_8 rfl h1.1 rfl ?_
  refine tt_ic_lt (M := MX3_makePage) (pc := 11) 22 dX3_makePage_11 rfl ?_ ?_
  · refine tt_ld (M := MX3_makePage) (pc := 22) dX3_makePage_22 rfl rfl rfl rfl rfl ?_
    refine tt_getR (M := MX3_makePage) (pc := 23) dX3_makePage_23 rfl h3 rfl ?_
    refine tt_ld (M := MX3_makePage) (pc := 26) dX3_makePage_26 rfl rfl rfl rfl rfl ?_
    refine tt_getR (M := MX3_makePage) (pc := 27) dX3_makePage_27 rfl h3 rfl ?_
    refine tt_vcIN (M := MX3_makePage) (pc := 30) dX3_makePage_30 rfl rfl [] rfl rfl ⟨rfl, by decide, Nat.le_of_ble_eq_true rfl⟩ h0.1 fun v101 S102 => ?_
    refine tt_st (M := MX3_makePage) (pc := 33) [some (.ref 85), some (.int (I v101)), u2, u3] dX3_makePage_33 rfl rfl rfl rfl rfl rfl ?_
    refine tt_ld (M := MX3_makePage) (pc := 34) dX3_makePage_34 rfl rfl rfl rfl rfl ?_
    refine tt_iconst (M := MX3_makePage) (pc := 35) dX3_makePage_35 ?_
    refine tt_ic_eq (M := MX3_makePage) (pc := 36) 63 dX3_makePage_36 rfl ?_ ?_
    · refine tt_iconst (M := MX3_makePage) (pc := 63) dX3_makePage_63 ?_
      refine tt_st (M := MX3_makePage) (pc := 64) [some (.ref 85), some (.int (I v101)), some (.int (I 0)), u3] dX3_makePage_64 rfl rfl rfl rfl rfl rfl ?_
      refine tt_iconst (M := MX3_makePage) (pc := 65) dX3_makePage_65 ?_
      refine tt_st (M := MX3_makePage) (pc := 66) [some (.ref 85), some (.int (I v101)), some (.int (I 0)), some (.int (I 0))] dX3_makePage_66 rfl rfl rfl rfl rfl rfl ?_
      exact id
    · refine tt_ld (M := MX3_makePage) (pc := 39) dX3_makePage_39 rfl rfl rfl rfl rfl ?_
      refine tt_getR (M := MX3_makePage) (pc := 40) dX3_makePage_40 rfl h3 rfl ?_
      refine tt_getR (M := MX3_makePage) (pc := 43) dX3_makePage_43 rfl h2.1 rfl ?_
      refine tt_getR (M := MX3_makePage) (pc := 46) dX3_makePage_46 rfl h2.2.1.1 rfl ?_
      refine tt_ld (M := MX3_makePage) (pc := 49) dX3_makePage_49 rfl rfl rfl rfl rfl ?_
      refine tt_iaload (M := MX3_makePage) (pc := 50) dX3_makePage_50 h2.2.1.2.1 rfl ?_
      refine tt_iconst (M := MX3_makePage) (pc := 51) dX3_makePage_51 ?_
      refine tt_ic_eq (M := MX3_makePage) (pc := 52) 63 dX3_makePage_52 rfl ?_ ?_
      · refine tt_iconst (M := MX3_makePage) (pc := 63) dX3_makePage_63 ?_
        refine tt_st (M := MX3_makePage) (pc := 64) [some (.ref 85), some (.int (I v101)), some (.int (I 0)), u3] dX3_makePage_64 rfl rfl rfl rfl rfl rfl ?_
        refine tt_iconst (M := MX3_makePage) (pc := 65) dX3_makePage_65 ?_
        refine tt_st (M := MX3_makePage) (pc := 66) [some (.ref 85), some (.int (I v101)), some (.int (I 0)), some (.int (I 0))] dX3_makePage_66 rfl rfl rfl rfl rfl rfl ?_
        exact id
      · refine tt_ld (M := MX3_makePage) (pc := 55) dX3_makePage_55 rfl rfl rfl rfl rfl ?_
        refine tt_getR (M := MX3_makePage) (pc := 56) dX3_makePage_56 rfl h3 rfl ?_
        refine tt_iconst (M := MX3_makePage) (pc := 59) dX3_makePage_59 ?_
        refine tt_vcVN (M := MX3_makePage) (pc := 60) dX3_makePage_60 rfl rfl [] rfl rfl ⟨rfl, by decide, Nat.le_of_ble_eq_true rfl⟩ h0.1 fun S103 => ?_
        refine tt_iconst (M := MX3_makePage) (pc := 63) dX3_makePage_63 ?_
        refine tt_st (M := MX3_makePage) (pc := 64) [some (.ref 85), some (.int (I v101)), some (.int (I 0)), u3] dX3_makePage_64 rfl rfl rfl rfl rfl rfl ?_
        refine tt_iconst (M := MX3_makePage) (pc := 65) dX3_makePage_65 ?_
        refine tt_st (M := MX3_makePage) (pc := 66) [some (.ref 85), some (.int (I v101)), some (.int (I 0)), some (.int (I 0))] dX3_makePage_66 rfl rfl rfl rfl rfl rfl ?_
        exact id
  · refine tt_ld (M := MX3_makePage) (pc := 14) dX3_makePage_14 rfl rfl rfl rfl rfl ?_
    refine tt_getR (M := MX3_makePage) (pc := 15) dX3_makePage_15 rfl h3 rfl ?_
    refine tt_iconst (M := MX3_makePage) (pc := 18) dX3_makePage_18 ?_
    refine tt_vcVN (M := MX3_makePage) (pc := 19) dX3_makePage_19 rfl rfl [] rfl rfl ⟨rfl, by decide, Nat.le_of_ble_eq_true rfl⟩ h0.1 fun S104 => ?_
    refine tt_ld (M := MX3_makePage) (pc := 22) dX3_makePage_22 rfl rfl rfl rfl rfl ?_
    refine tt_getR (M := MX3_makePage) (pc := 23) dX3_makePage_23 rfl h3 rfl ?_
    refine tt_ld (M := MX3_makePage) (pc := 26) dX3_makePage_26 rfl rfl rfl rfl rfl ?_
    refine tt_getR (M := MX3_makePage) (pc := 27) dX3_makePage_27 rfl h3 rfl ?_
    refine tt_vcIN (M := MX3_makePage) (pc := 30) dX3_makePage_30 rfl rfl [] rfl rfl ⟨rfl, by decide, Nat.le_of_ble_eq_true rfl⟩ h0.1 fun v105 S106 => ?_
    refine tt_st (M := MX3_makePage) (pc := 33) [some (.ref 85), some (.int (I v105)), u2, u3] dX3_makePage_33 rfl rfl rfl rfl rfl rfl ?_
    refine tt_ld (M := MX3_makePage) (pc := 34) dX3_makePage_34 rfl rfl rfl rfl rfl ?_
    refine tt_iconst (M := MX3_makePage) (pc := 35) dX3_makePage_35 ?_
    refine tt_ic_eq (M := MX3_makePage) (pc := 36) 63 dX3_makePage_36 rfl ?_ ?_
    · refine tt_iconst (M := MX3_makePage) (pc := 63) dX3_makePage_63 ?_
      refine tt_st (M := MX3_makePage) (pc := 64) [some (.ref 85), some (.int (I v105)), some (.int (I 0)), u3] dX3_makePage_64 rfl rfl rfl rfl rfl rfl ?_
      refine tt_iconst (M := MX3_makePage) (pc := 65) dX3_makePage_65 ?_
      refine tt_st (M := MX3_makePage) (pc := 66) [some (.ref 85), some (.int (I v105)), some (.int (I 0)), some (.int (I 0))] dX3_makePage_66 rfl rfl rfl rfl rfl rfl ?_
      exact id
    · refine tt_ld (M := MX3_makePage) (pc := 39) dX3_makePage_39 rfl rfl rfl rfl rfl ?_
      refine tt_getR (M := MX3_makePage) (pc := 40) dX3_makePage_40 rfl h3 rfl ?_
      refine tt_getR (M := MX3_makePage) (pc := 43) dX3_makePage_43 rfl h2.1 rfl ?_
      refine tt_getR (M := MX3_makePage) (pc := 46) dX3_makePage_46 rfl h2.2.1.1 rfl ?_
      refine tt_ld (M := MX3_makePage) (pc := 49) dX3_makePage_49 rfl rfl rfl rfl rfl ?_
      refine tt_iaload (M := MX3_makePage) (pc := 50) dX3_makePage_50 h2.2.1.2.1 rfl ?_
      refine tt_iconst (M := MX3_makePage) (pc := 51) dX3_makePage_51 ?_
      refine tt_ic_eq (M := MX3_makePage) (pc := 52) 63 dX3_makePage_52 rfl ?_ ?_
      · refine tt_iconst (M := MX3_makePage) (pc := 63) dX3_makePage_63 ?_
        refine tt_st (M := MX3_makePage) (pc := 64) [some (.ref 85), some (.int (I v105)), some (.int (I 0)), u3] dX3_makePage_64 rfl rfl rfl rfl rfl rfl ?_
        refine tt_iconst (M := MX3_makePage) (pc := 65) dX3_makePage_65 ?_
        refine tt_st (M := MX3_makePage) (pc := 66) [some (.ref 85), some (.int (I v105)), some (.int (I 0)), some (.int (I 0))] dX3_makePage_66 rfl rfl rfl rfl rfl rfl ?_
        exact id
      · refine tt_ld (M := MX3_makePage) (pc := 55) dX3_makePage_55 rfl rfl rfl rfl rfl ?_
        refine tt_getR (M := MX3_makePage) (pc := 56) dX3_makePage_56 rfl h3 rfl ?_
        refine tt_iconst (M := MX3_makePage) (pc := 59) dX3_makePage_59 ?_
        refine tt_vcVN (M := MX3_makePage) (pc := 60) dX3_makePage_60 rfl rfl [] rfl rfl ⟨rfl, by decide, Nat.le_of_ble_eq_true rfl⟩ h0.1 fun S107 => ?_
        refine tt_iconst (M := MX3_makePage) (pc := 63) dX3_makePage_63 ?_
        refine tt_st (M := MX3_makePage) (pc := 64) [some (.ref 85), some (.int (I v105)), some (.int (I 0)), u3] dX3_makePage_64 rfl rfl rfl rfl rfl rfl ?_
        refine tt_iconst (M := MX3_makePage) (pc := 65) dX3_makePage_65 ?_
        refine tt_st (M := MX3_makePage) (pc := 66) [some (.ref 85), some (.int (I v105)), some (.int (I 0)), some (.int (I 0))] dX3_makePage_66 rfl rfl rfl rfl rfl rfl ?_
        exact id
theorem qX3_makePage_67 {sc : Nat × (Nat → Int32)} {SH : List mCell} {S : mStore} {r : mR × mW} (h0 : sText SH) (h1 : sPlan SH 6) (h2 : sState SH 65) (h3 : sMaker SH) {l1 : Int} {l2 : Int} {l3 : Int} : ((if I 4 ≤ I l3 then (if I (S 11 6) = I 0 then (if I l1 = I (-1) then r = rV SH S else (if I 48 ≤ I (S 85 4) then r = rV SH S else (∃ S101, G sc MX6_add 0 [some (.ref (65 + 1)), some (.int (I (S 85 4))), some (.int (I l1)), none, none, none] [] SH S (rV SH S101) ∧ (((0 : Int) ≤ S101 85 4 ∧ S101 85 4 < 48) ∧ r = rV SH (up (up S101 (65 + 13) (S101 85 4) l2) 85 4 (((up S101 (65 + 13) (S101 85 4) l2) 85 4) + 1)))))) else r = rV SH S) else (∃ v102 S103, G sc MX8_numberIn 0 [some (.ref 11), some (.int (I 0)), some (.int (I 15)), none, none] [] SH S (rI v102 SH S103) ∧ G sc MX3_makePage 67 [some (.ref 85), some (.int (I l1)), some (.int (I (iro (isl l2 4) v102))), some (.int (I (l3 + 1)))] [] SH S103 r))) → G sc MX3_makePage 67 [some (.ref 85), some (.int (I l1)), some (.int (I l2)), some (.int (I l3))] [] SH S r := by
  refine tt_ld (M := MX3_makePage) (pc := 67) dX3_makePage_67 rfl rfl rfl rfl rfl ?_
  refine tt_iconst (M := MX3_makePage) (pc := 68) dX3_makePage_68 ?_
  refine tt_ic_ge (M := MX3_makePage) (pc := 69) 93 dX3_makePage_69 rfl ?_ ?_
  · refine tt_ld (M := MX3_makePage) (pc := 93) dX3_makePage_93 rfl rfl rfl rfl rfl ?_
    refine tt_getR (M := MX3_makePage) (pc := 94) dX3_makePage_94 rfl h3 rfl ?_
    refine tt_getI (M := MX3_makePage) (pc := 97) dX3_makePage_97 rfl h0.1 rfl ?_
    refine tt_if_ne (M := MX3_makePage) (pc := 100) 155 dX3_makePage_100 rfl ?_ ?_
    · exact tt_ret (M := MX3_makePage) (pc := 155) dX3_makePage_155 rfl
    · refine tt_ld (M := MX3_makePage) (pc := 103) dX3_makePage_103 rfl rfl rfl rfl rfl ?_
      refine tt_iconst (M := MX3_makePage) (pc := 104) dX3_makePage_104 ?_
      refine tt_ic_eq (M := MX3_makePage) (pc := 105) 155 dX3_makePage_105 rfl ?_ ?_
      · exact tt_ret (M := MX3_makePage) (pc := 155) dX3_makePage_155 rfl
      · refine tt_ld (M := MX3_makePage) (pc := 108) dX3_makePage_108 rfl rfl rfl rfl rfl ?_
        refine tt_getI (M := MX3_makePage) (pc := 109) dX3_makePage_109 rfl h3 rfl ?_
        refine tt_bipush (M := MX3_makePage) (pc := 112) dX3_makePage_112 (by decide) ?_
        refine tt_ic_ge (M := MX3_makePage) (pc := 114) 155 dX3_makePage_114 rfl ?_ ?_
        · exact tt_ret (M := MX3_makePage) (pc := 155) dX3_makePage_155 rfl
        · refine tt_ld (M := MX3_makePage) (pc := 117) dX3_makePage_117 rfl rfl rfl rfl rfl ?_
          refine tt_getR (M := MX3_makePage) (pc := 118) dX3_makePage_118 rfl h3 rfl ?_
          refine tt_getR (M := MX3_makePage) (pc := 121) dX3_makePage_121 rfl h2.1 rfl ?_
          refine tt_ld (M := MX3_makePage) (pc := 124) dX3_makePage_124 rfl rfl rfl rfl rfl ?_
          refine tt_getI (M := MX3_makePage) (pc := 125) dX3_makePage_125 rfl h3 rfl ?_
          refine tt_ld (M := MX3_makePage) (pc := 128) dX3_makePage_128 rfl rfl rfl rfl rfl ?_
          refine tt_vcVN (M := MX3_makePage) (pc := 129) dX3_makePage_129 rfl rfl [] rfl rfl ⟨rfl, by decide, Nat.le_of_ble_eq_true rfl⟩ h2.2.1.1 fun S101 => ?_
          refine tt_ld (M := MX3_makePage) (pc := 132) dX3_makePage_132 rfl rfl rfl rfl rfl ?_
          refine tt_getR (M := MX3_makePage) (pc := 133) dX3_makePage_133 rfl h3 rfl ?_
          refine tt_getR (M := MX3_makePage) (pc := 136) dX3_makePage_136 rfl h2.1 rfl ?_
          refine tt_ld (M := MX3_makePage) (pc := 139) dX3_makePage_139 rfl rfl rfl rfl rfl ?_
          refine tt_getI (M := MX3_makePage) (pc := 140) dX3_makePage_140 rfl h3 rfl ?_
          refine tt_ld (M := MX3_makePage) (pc := 143) dX3_makePage_143 rfl rfl rfl rfl rfl ?_
          refine tt_iastore (M := MX3_makePage) (pc := 144) dX3_makePage_144 h2.2.2.2.2.2.1 rfl ?_
          refine tt_ld (M := MX3_makePage) (pc := 145) dX3_makePage_145 rfl rfl rfl rfl rfl ?_
          refine tt_dup (M := MX3_makePage) (pc := 146) dX3_makePage_146 rfl ?_
          refine tt_getI (M := MX3_makePage) (pc := 147) dX3_makePage_147 rfl h3 rfl ?_
          refine tt_iconst (M := MX3_makePage) (pc := 150) dX3_makePage_150 ?_
          refine tt_iadd (M := MX3_makePage) (pc := 151) dX3_makePage_151 ?_
          refine tt_putI (M := MX3_makePage) (pc := 152) dX3_makePage_152 rfl rfl (Or.inl rfl) h3 rfl ?_
          exact tt_ret (M := MX3_makePage) (pc := 155) dX3_makePage_155 rfl
  · refine tt_ld (M := MX3_makePage) (pc := 72) dX3_makePage_72 rfl rfl rfl rfl rfl ?_
    refine tt_iconst (M := MX3_makePage) (pc := 73) dX3_makePage_73 ?_
    refine tt_ishl (M := MX3_makePage) (pc := 74) dX3_makePage_74 ?_
    refine tt_ld (M := MX3_makePage) (pc := 75) dX3_makePage_75 rfl rfl rfl rfl rfl ?_
    refine tt_getR (M := MX3_makePage) (pc := 76) dX3_makePage_76 rfl h3 rfl ?_
    refine tt_iconst (M := MX3_makePage) (pc := 79) dX3_makePage_79 ?_
    refine tt_bipush (M := MX3_makePage) (pc := 80) dX3_makePage_80 (by decide) ?_
    refine tt_vcIN (M := MX3_makePage) (pc := 82) dX3_makePage_82 rfl rfl [.int (I (isl l2 4))] rfl rfl ⟨rfl, by decide, Nat.le_of_ble_eq_true rfl⟩ h0.1 fun v102 S103 => ?_
    refine tt_ior (M := MX3_makePage) (pc := 85) dX3_makePage_85 ?_
    refine tt_st (M := MX3_makePage) (pc := 86) [some (.ref 85), some (.int (I l1)), some (.int (I (iro (isl l2 4) v102))), some (.int (I l3))] dX3_makePage_86 rfl rfl rfl rfl rfl rfl ?_
    refine tt_iinc (M := MX3_makePage) (pc := 87) [some (.ref 85), some (.int (I l1)), some (.int (I (iro (isl l2 4) v102))), some (.int (I (l3 + 1)))] dX3_makePage_87 rfl rfl ?_
    refine tt_goto (M := MX3_makePage) (pc := 90) 67 dX3_makePage_90 rfl ?_
    exact id
theorem qX3_makeAdvised_0 {sc : Nat × (Nat → Int32)} {SH : List mCell} {S : mStore} {r : mR × mW} (h0 : sText SH) (h1 : sPlan SH 6) (h2 : sState SH 65) (h3 : sMaker SH) {u1 : Option Value} {u2 : Option Value} {u3 : Option Value} : ((∃ v101 S102, G sc MX8_pageIn 0 [some (.ref 11), some (.ref 6), none, none, none] [] SH S (rI v101 SH S102) ∧ (∃ v103 S104, G sc MX8_numberIn 0 [some (.ref 11), some (.int (I 0)), some (.int (I 11)), none, none] [] SH S102 (rI v103 SH S104) ∧ (if I v101 = I (-1) then r = rV SH S104 else (if I (S104 11 6) = I 0 then (((0 : Int) ≤ v101 ∧ v101 < 48) ∧ (∃ v105 S106, G sc MX5_placeAt 0 [some (.ref 6), some (.int (I (S104 (6 + 4) v101))), some (.int (I v103))] [] SH S104 (rI v105 SH S106) ∧ (if I v105 = I (-1) then (∃ S107, G sc MX8_fail 0 [some (.ref 11), some (.int (I 3))] [] SH S106 (rV SH S107) ∧ r = rV SH S107) else (if I v101 ≤ I v105 then (∃ v108 S109, G sc MX7_adviseAll 0 [some (.ref 65), some (.int (I v101)), some (.int (I v105)), none, none] [] SH S106 (rI v108 SH S109) ∧ r = rV SH S109) else (∃ S110, G sc MX8_fail 0 [some (.ref 11), some (.int (I 3))] [] SH S106 (rV SH S110) ∧ r = rV SH S110))))) else r = rV SH S104))))) → G sc MX3_makeAdvised 0 [some (.ref 85), u1, u2, u3] [] SH S r := by
  refine tt_ld (M := MX3_makeAdvised) (pc := 0) dX3_makeAdvised_0 rfl rfl rfl rfl rfl ?_
  refine tt_getR (M := MX3_makeAdvised) (pc := 1) dX3_makeAdvised_1 rfl h3 rfl ?_
  refine tt_ld (M := MX3_makeAdvised) (pc := 4) dX3_makeAdvised_4 rfl rfl rfl rfl rfl ?_
  refine tt_getR (M := MX3_makeAdvised) (pc := 5) dX3_makeAdvised_5 rfl h3 rfl ?_
  refine tt_vcIN (M := MX3_makeAdvised) (pc := 8) dX3_makeAdvised_8 rfl rfl [] rfl rfl ⟨rfl, by decide, Nat.le_of_ble_eq_true rfl⟩ h0.1 fun v101 S102 => ?_
  refine tt_st (M := MX3_makeAdvised) (pc := 11) [some (.ref 85), some (.int (I v101)), u2, u3] dX3_makeAdvised_11 rfl rfl rfl rfl rfl rfl ?_
  refine tt_ld (M := MX3_makeAdvised) (pc := 12) dX3_makeAdvised_12 rfl rfl rfl rfl rfl ?_
  refine tt_getR (M := MX3_makeAdvised) (pc := 13) dX3_makeAdvised_13 rfl h3 rfl ?_
  refine tt_iconst (M := MX3_makeAdvised) (pc := 16) dX3_makeAdvised_16 ?_
  refine tt_bipush (M := MX3_makeAdvised) (pc := 17) dX3_makeAdvised_17 (by decide) ?_
  refine tt_vcIN (M := MX3_makeAdvised) (pc := 19) dX3_makeAdvised_19 rfl rfl [] rfl rfl ⟨rfl, by decide, Nat.le_of_ble_eq_true rfl⟩ h0.1 fun v103 S104 => ?_
  refine tt_st (M := MX3_makeAdvised) (pc := 22) [some (.ref 85), some (.int (I v101)), some (.int (I v103)), u3] dX3_makeAdvised_22 rfl rfl rfl rfl rfl rfl ?_
  refine tt_ld (M := MX3_makeAdvised) (pc := 23) dX3_makeAdvised_23 rfl rfl rfl rfl rfl ?_
  refine tt_iconst (M := MX3_makeAdvised) (pc := 24) dX3_makeAdvised_24 ?_
  refine tt_ic_eq (M := MX3_makeAdvised) (pc := 25) 38 dX3_makeAdvised_25 rfl ?_ ?_
  · exact tt_ret (M := MX3_makeAdvised) (pc := 38) dX3_makeAdvised_38 rfl
  · refine tt_ld (M := MX3_makeAdvised) (pc := 28) dX3_makeAdvised_28 rfl rfl rfl rfl rfl ?_
    refine tt_getR (M := MX3_makeAdvised) (pc := 29) dX3_makeAdvised_29 rfl h3 rfl ?_
    refine tt_getI (M := MX3_makeAdvised) (pc := 32) dX3_makeAdvised_32 rfl h0.1 rfl ?_
    refine tt_if_eq (M := MX3_makeAdvised) (pc := 35) 39 dX3_makeAdvised_35 rfl ?_ ?_
    · refine tt_ld (M := MX3_makeAdvised) (pc := 39) dX3_makeAdvised_39 rfl rfl rfl rfl rfl ?_
      refine tt_getR (M := MX3_makeAdvised) (pc := 40) dX3_makeAdvised_40 rfl h3 rfl ?_
      refine tt_ld (M := MX3_makeAdvised) (pc := 43) dX3_makeAdvised_43 rfl rfl rfl rfl rfl ?_
      refine tt_getR (M := MX3_makeAdvised) (pc := 44) dX3_makeAdvised_44 rfl h3 rfl ?_
      refine tt_getR (M := MX3_makeAdvised) (pc := 47) dX3_makeAdvised_47 rfl h1.1 rfl ?_
      refine tt_ld (M := MX3_makeAdvised) (pc := 50) dX3_makeAdvised_50 rfl rfl rfl rfl rfl ?_
      refine tt_iaload (M := MX3_makeAdvised) (pc := 51) dX3_makeAdvised_51 h1.2.2.2.2 rfl ?_
      refine tt_ld (M := MX3_makeAdvised) (pc := 52) dX3_makeAdvised_52 rfl rfl rfl rfl rfl ?_
      refine tt_vcIN (M := MX3_makeAdvised) (pc := 53) dX3_makeAdvised_53 rfl rfl [] rfl rfl ⟨rfl, by decide, Nat.le_of_ble_eq_true rfl⟩ h1.1 fun v105 S106 => ?_
      refine tt_st (M := MX3_makeAdvised) (pc := 56) [some (.ref 85), some (.int (I v101)), some (.int (I v103)), some (.int (I v105))] dX3_makeAdvised_56 rfl rfl rfl rfl rfl rfl ?_
      refine tt_ld (M := MX3_makeAdvised) (pc := 57) dX3_makeAdvised_57 rfl rfl rfl rfl rfl ?_
      refine tt_iconst (M := MX3_makeAdvised) (pc := 58) dX3_makeAdvised_58 ?_
      refine tt_ic_eq (M := MX3_makeAdvised) (pc := 59) 67 dX3_makeAdvised_59 rfl ?_ ?_
      · refine tt_ld (M := MX3_makeAdvised) (pc := 67) dX3_makeAdvised_67 rfl rfl rfl rfl rfl ?_
        refine tt_getR (M := MX3_makeAdvised) (pc := 68) dX3_makeAdvised_68 rfl h3 rfl ?_
        refine tt_iconst (M := MX3_makeAdvised) (pc := 71) dX3_makeAdvised_71 ?_
        refine tt_vcVN (M := MX3_makeAdvised) (pc := 72) dX3_makeAdvised_72 rfl rfl [] rfl rfl ⟨rfl, by decide, Nat.le_of_ble_eq_true rfl⟩ h0.1 fun S107 => ?_
        exact tt_ret (M := MX3_makeAdvised) (pc := 75) dX3_makeAdvised_75 rfl
      · refine tt_ld (M := MX3_makeAdvised) (pc := 62) dX3_makeAdvised_62 rfl rfl rfl rfl rfl ?_
        refine tt_ld (M := MX3_makeAdvised) (pc := 63) dX3_makeAdvised_63 rfl rfl rfl rfl rfl ?_
        refine tt_ic_ge (M := MX3_makeAdvised) (pc := 64) 76 dX3_makeAdvised_64 rfl ?_ ?_
        · refine tt_ld (M := MX3_makeAdvised) (pc := 76) dX3_makeAdvised_76 rfl rfl rfl rfl rfl ?_
          refine tt_getR (M := MX3_makeAdvised) (pc := 77) dX3_makeAdvised_77 rfl h3 rfl ?_
          refine tt_ld (M := MX3_makeAdvised) (pc := 80) dX3_makeAdvised_80 rfl rfl rfl rfl rfl ?_
          refine tt_ld (M := MX3_makeAdvised) (pc := 81) dX3_makeAdvised_81 rfl rfl rfl rfl rfl ?_
          refine tt_vcIN (M := MX3_makeAdvised) (pc := 82) dX3_makeAdvised_82 rfl rfl [] rfl rfl ⟨rfl, by decide, Nat.le_of_ble_eq_true rfl⟩ h2.1 fun v108 S109 => ?_
          refine tt_pop (M := MX3_makeAdvised) (pc := 85) dX3_makeAdvised_85 rfl ?_
          exact tt_ret (M := MX3_makeAdvised) (pc := 86) dX3_makeAdvised_86 rfl
        · refine tt_ld (M := MX3_makeAdvised) (pc := 67) dX3_makeAdvised_67 rfl rfl rfl rfl rfl ?_
          refine tt_getR (M := MX3_makeAdvised) (pc := 68) dX3_makeAdvised_68 rfl h3 rfl ?_
          refine tt_iconst (M := MX3_makeAdvised) (pc := 71) dX3_makeAdvised_71 ?_
          refine tt_vcVN (M := MX3_makeAdvised) (pc := 72) dX3_makeAdvised_72 rfl rfl [] rfl rfl ⟨rfl, by decide, Nat.le_of_ble_eq_true rfl⟩ h0.1 fun S110 => ?_
          exact tt_ret (M := MX3_makeAdvised) (pc := 75) dX3_makeAdvised_75 rfl
    · exact tt_ret (M := MX3_makeAdvised) (pc := 38) dX3_makeAdvised_38 rfl
