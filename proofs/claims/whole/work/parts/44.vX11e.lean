-- needs: 43.tshape
/-! ===== the program as conditions (gen_vc.py) ===== -/
theorem qX11_becomes_0 {sc : Nat × (Nat → Int32)} {SH : List mCell} {S : mStore} {r : mR × mW} (h0 : sMod SH) {u1 : Option Value} {u2 : Option Value} {u3 : Option Value} : (G sc MX11_becomes 63 [some (.ref 90), some (.int (I 0)), u2, u3] [] SH (up (up (up (up (up (up (up (up S 90 12 (S 90 40)) 90 13 ((up S 90 12 (S 90 40)) 90 41)) 90 14 ((up (up S 90 12 (S 90 40)) 90 13 ((up S 90 12 (S 90 40)) 90 41)) 90 42)) 90 15 ((up (up (up S 90 12 (S 90 40)) 90 13 ((up S 90 12 (S 90 40)) 90 41)) 90 14 ((up (up S 90 12 (S 90 40)) 90 13 ((up S 90 12 (S 90 40)) 90 41)) 90 42)) 90 43)) 90 16 ((up (up (up (up S 90 12 (S 90 40)) 90 13 ((up S 90 12 (S 90 40)) 90 41)) 90 14 ((up (up S 90 12 (S 90 40)) 90 13 ((up S 90 12 (S 90 40)) 90 41)) 90 42)) 90 15 ((up (up (up S 90 12 (S 90 40)) 90 13 ((up S 90 12 (S 90 40)) 90 41)) 90 14 ((up (up S 90 12 (S 90 40)) 90 13 ((up S 90 12 (S 90 40)) 90 41)) 90 42)) 90 43)) 90 44)) 90 17 ((up (up (up (up (up S 90 12 (S 90 40)) 90 13 ((up S 90 12 (S 90 40)) 90 41)) 90 14 ((up (up S 90 12 (S 90 40)) 90 13 ((up S 90 12 (S 90 40)) 90 41)) 90 42)) 90 15 ((up (up (up S 90 12 (S 90 40)) 90 13 ((up S 90 12 (S 90 40)) 90 41)) 90 14 ((up (up S 90 12 (S 90 40)) 90 13 ((up S 90 12 (S 90 40)) 90 41)) 90 42)) 90 43)) 90 16 ((up (up (up (up S 90 12 (S 90 40)) 90 13 ((up S 90 12 (S 90 40)) 90 41)) 90 14 ((up (up S 90 12 (S 90 40)) 90 13 ((up S 90 12 (S 90 40)) 90 41)) 90 42)) 90 15 ((up (up (up S 90 12 (S 90 40)) 90 13 ((up S 90 12 (S 90 40)) 90 41)) 90 14 ((up (up S 90 12 (S 90 40)) 90 13 ((up S 90 12 (S 90 40)) 90 41)) 90 42)) 90 43)) 90 44)) 90 45)) 90 18 ((up (up (up (up (up (up S 90 12 (S 90 40)) 90 13 ((up S 90 12 (S 90 40)) 90 41)) 90 14 ((up (up S 90 12 (S 90 40)) 90 13 ((up S 90 12 (S 90 40)) 90 41)) 90 42)) 90 15 ((up (up (up S 90 12 (S 90 40)) 90 13 ((up S 90 12 (S 90 40)) 90 41)) 90 14 ((up (up S 90 12 (S 90 40)) 90 13 ((up S 90 12 (S 90 40)) 90 41)) 90 42)) 90 43)) 90 16 ((up (up (up (up S 90 12 (S 90 40)) 90 13 ((up S 90 12 (S 90 40)) 90 41)) 90 14 ((up (up S 90 12 (S 90 40)) 90 13 ((up S 90 12 (S 90 40)) 90 41)) 90 42)) 90 15 ((up (up (up S 90 12 (S 90 40)) 90 13 ((up S 90 12 (S 90 40)) 90 41)) 90 14 ((up (up S 90 12 (S 90 40)) 90 13 ((up S 90 12 (S 90 40)) 90 41)) 90 42)) 90 43)) 90 44)) 90 17 ((up (up (up (up (up S 90 12 (S 90 40)) 90 13 ((up S 90 12 (S 90 40)) 90 41)) 90 14 ((up (up S 90 12 (S 90 40)) 90 13 ((up S 90 12 (S 90 40)) 90 41)) 90 42)) 90 15 ((up (up (up S 90 12 (S 90 40)) 90 13 ((up S 90 12 (S 90 40)) 90 41)) 90 14 ((up (up S 90 12 (S 90 40)) 90 13 ((up S 90 12 (S 90 40)) 90 41)) 90 42)) 90 43)) 90 16 ((up (up (up (up S 90 12 (S 90 40)) 90 13 ((up S 90 12 (S 90 40)) 90 41)) 90 14 ((up (up S 90 12 (S 90 40)) 90 13 ((up S 90 12 (S 90 40)) 90 41)) 90 42)) 90 15 ((up (up (up S 90 12 (S 90 40)) 90 13 ((up S 90 12 (S 90 40)) 90 41)) 90 14 ((up (up S 90 12 (S 90 40)) 90 13 ((up S 90 12 (S 90 40)) 90 41)) 90 42)) 90 43)) 90 44)) 90 45)) 90 46)) 90 19 0) r) → G sc MX11_becomes 0 [some (.ref 90), u1, u2, u3] [] SH S r := by
  refine t_ld (pc := 0) dX11_becomes_0 rfl rfl rfl rfl rfl ?_
  refine t_ld (pc := 1) dX11_becomes_1 rfl rfl rfl rfl rfl ?_
  refine t_getI (pc := 2) dX11_becomes_2 rfl h0.1 rfl ?_
  refine t_putI (pc := 5) dX11_becomes_5 rfl rfl (Or.inl rfl) h0.1 rfl ?_
  refine t_ld (pc := 8) dX11_becomes_8 rfl rfl rfl rfl rfl ?_
  refine t_ld (pc := 9) dX11_becomes_9 rfl rfl rfl rfl rfl ?_
  refine t_getI (pc := 10) dX11_becomes_10 rfl h0.1 rfl ?_
  refine t_putI (pc := 13) dX11_becomes_13 rfl rfl (Or.inl rfl) h0.1 rfl ?_
  refine t_ld (pc := 16) dX11_becomes_16 rfl rfl rfl rfl rfl ?_
  refine t_ld (pc := 17) dX11_becomes_17 rfl rfl rfl rfl rfl ?_
  refine t_getI (pc := 18) dX11_becomes_18 rfl h0.1 rfl ?_
  refine t_putI (pc := 21) dX11_becomes_21 rfl rfl (Or.inl rfl) h0.1 rfl ?_
  refine t_ld (pc := 24) dX11_becomes_24 rfl rfl rfl rfl rfl ?_
  refine t_ld (pc := 25) dX11_becomes_25 rfl rfl rfl rfl rfl ?_
  refine t_getI (pc := 26) dX11_becomes_26 rfl h0.1 rfl ?_
  refine t_putI (pc := 29) dX11_becomes_29 rfl rfl (Or.inl rfl) h0.1 rfl ?_
  refine t_ld (pc := 32) dX11_becomes_32 rfl rfl rfl rfl rfl ?_
  refine t_ld (pc := 33) dX11_becomes_33 rfl rfl rfl rfl rfl ?_
  refine t_getI (pc := 34) dX11_becomes_34 rfl h0.1 rfl ?_
  refine t_putI (pc := 37) dX11_becomes_37 rfl rfl (Or.inl rfl) h0.1 rfl ?_
  refine t_ld (pc := 40) dX11_becomes_40 rfl rfl rfl rfl rfl ?_
  refine t_ld (pc := 41) dX11_becomes_41 rfl rfl rfl rfl rfl ?_
  refine t_getI (pc := 42) dX11_becomes_42 rfl h0.1 rfl ?_
  refine t_putI (pc := 45) dX11_becomes_45 rfl rfl (Or.inl rfl) h0.1 rfl ?_
  refine t_ld (pc := 48) dX11_becomes_48 rfl rfl rfl rfl rfl ?_
  refine t_ld (pc := 49) dX11_becomes_49 rfl rfl rfl rfl rfl ?_
  refine t_getI (pc := 50) dX11_becomes_50 rfl h0.1 rfl ?_
  refine t_putI (pc := 53) dX11_becomes_53 rfl rfl (Or.inl rfl) h0.1 rfl ?_
  refine t_ld (pc := 56) dX11_becomes_56 rfl rfl rfl rfl rfl ?_
  refine t_iconst (pc := 57) dX11_becomes_57 ?_
  refine t_putI (pc := 58) dX11_becomes_58 rfl rfl (Or.inl rfl) h0.1 rfl ?_
  refine t_iconst (pc := 61) dX11_becomes_61 ?_
  refine t_st (pc := 62) [some (.ref 90), some (.int (I 0)), u2, u3] dX11_becomes_62 rfl rfl rfl rfl rfl rfl ?_
  exact id
theorem qX11_becomes_63 {sc : Nat × (Nat → Int32)} {SH : List mCell} {S : mStore} {r : mR × mW} (h0 : sMod SH) {l1 : Int} {u2 : Option Value} {u3 : Option Value} : ((if I (S 90 18) ≤ I l1 then (∃ S101, G sc MX11_begins 0 [some (.ref 90), none] [] SH S (rV SH S101) ∧ G sc MX11_becomes 155 [some (.ref 90), some (.int (I 0)), u2, u3] [] SH S101 r) else ((0 ≤ l1 ∧ l1 < 4) ∧ ((0 ≤ l1 ∧ l1 < 4) ∧ ((0 ≤ l1 ∧ l1 < 4) ∧ ((0 ≤ l1 ∧ l1 < 4) ∧ ((0 ≤ l1 ∧ l1 < 5) ∧ G sc MX11_becomes 107 [some (.ref 90), some (.int (I l1)), some (.int (I 0)), u3] [] SH (up (up (up S 95 l1 (S 102 l1)) 96 l1 ((up S 95 l1 (S 102 l1)) 103 l1)) 97 l1 ((up (up S 95 l1 (S 102 l1)) 96 l1 ((up S 95 l1 (S 102 l1)) 103 l1)) 90 19)) r))))))) → G sc MX11_becomes 63 [some (.ref 90), some (.int (I l1)), u2, u3] [] SH S r := by
  refine t_ld (pc := 63) dX11_becomes_63 rfl rfl rfl rfl rfl ?_
  refine t_ld (pc := 64) dX11_becomes_64 rfl rfl rfl rfl rfl ?_
  refine t_getI (pc := 65) dX11_becomes_65 rfl h0.1 rfl ?_
  refine t_ic_ge (pc := 68) 149 dX11_becomes_68 rfl ?_ ?_
  · refine t_ld (pc := 149) dX11_becomes_149 rfl rfl rfl rfl rfl ?_
    refine t_vcVN (pc := 150) dX11_becomes_150 rfl rfl [] rfl rfl ⟨rfl, by decide, Nat.le_of_ble_eq_true rfl⟩ h0.1 fun S101 => ?_
    refine t_iconst (pc := 153) dX11_becomes_153 ?_
    refine t_st (pc := 154) [some (.ref 90), some (.int (I 0)), u2, u3] dX11_becomes_154 rfl rfl rfl rfl rfl rfl ?_
    exact id
  · refine t_ld (pc := 71) dX11_becomes_71 rfl rfl rfl rfl rfl ?_
    refine t_getR (pc := 72) dX11_becomes_72 rfl h0.1 rfl ?_
    refine t_ld (pc := 75) dX11_becomes_75 rfl rfl rfl rfl rfl ?_
    refine t_ld (pc := 76) dX11_becomes_76 rfl rfl rfl rfl rfl ?_
    refine t_getR (pc := 77) dX11_becomes_77 rfl h0.1 rfl ?_
    refine t_ld (pc := 80) dX11_becomes_80 rfl rfl rfl rfl rfl ?_
    refine t_iaload (pc := 81) dX11_becomes_81 h0.2.2.2.2.2.2.2.2.2.2.2.2.1 ?_
    refine t_iastore (pc := 82) dX11_becomes_82 h0.2.2.2.2.2.1 ?_
    refine t_ld (pc := 83) dX11_becomes_83 rfl rfl rfl rfl rfl ?_
    refine t_getR (pc := 84) dX11_becomes_84 rfl h0.1 rfl ?_
    refine t_ld (pc := 87) dX11_becomes_87 rfl rfl rfl rfl rfl ?_
    refine t_ld (pc := 88) dX11_becomes_88 rfl rfl rfl rfl rfl ?_
    refine t_getR (pc := 89) dX11_becomes_89 rfl h0.1 rfl ?_
    refine t_ld (pc := 92) dX11_becomes_92 rfl rfl rfl rfl rfl ?_
    refine t_iaload (pc := 93) dX11_becomes_93 h0.2.2.2.2.2.2.2.2.2.2.2.2.2.1 ?_
    refine t_iastore (pc := 94) dX11_becomes_94 h0.2.2.2.2.2.2.1 ?_
    refine t_ld (pc := 95) dX11_becomes_95 rfl rfl rfl rfl rfl ?_
    refine t_getR (pc := 96) dX11_becomes_96 rfl h0.1 rfl ?_
    refine t_ld (pc := 99) dX11_becomes_99 rfl rfl rfl rfl rfl ?_
    refine t_ld (pc := 100) dX11_becomes_100 rfl rfl rfl rfl rfl ?_
    refine t_getI (pc := 101) dX11_becomes_101 rfl h0.1 rfl ?_
    refine t_iastore (pc := 104) dX11_becomes_104 h0.2.2.2.2.2.2.2.1 ?_
    refine t_iconst (pc := 105) dX11_becomes_105 ?_
    refine t_st (pc := 106) [some (.ref 90), some (.int (I l1)), some (.int (I 0)), u3] dX11_becomes_106 rfl rfl rfl rfl rfl rfl ?_
    exact id
theorem qX11_becomes_107 {sc : Nat × (Nat → Int32)} {SH : List mCell} {S : mStore} {r : mR × mW} (h0 : sMod SH) {l1 : Int} {l2 : Int} {u3 : Option Value} : (((0 ≤ l1 ∧ l1 < 4) ∧ (if I (S 95 l1) ≤ I l2 then G sc MX11_becomes 63 [some (.ref 90), some (.int (I (l1 + 1))), some (.int (I l2)), u3] [] SH S r else ((0 ≤ S 90 19 ∧ S 90 19 < 48) ∧ G sc MX11_becomes 107 [some (.ref 90), some (.int (I l1)), some (.int (I (l2 + 1))), u3] [] SH (up (up S 98 (S 90 19) l1) 90 19 (((up S 98 (S 90 19) l1) 90 19) + 1)) r)))) → G sc MX11_becomes 107 [some (.ref 90), some (.int (I l1)), some (.int (I l2)), u3] [] SH S r := by
  refine t_ld (pc := 107) dX11_becomes_107 rfl rfl rfl rfl rfl ?_
  refine t_ld (pc := 108) dX11_becomes_108 rfl rfl rfl rfl rfl ?_
  refine t_getR (pc := 109) dX11_becomes_109 rfl h0.1 rfl ?_
  refine t_ld (pc := 112) dX11_becomes_112 rfl rfl rfl rfl rfl ?_
  refine t_iaload (pc := 113) dX11_becomes_113 h0.2.2.2.2.2.1 ?_
  refine t_ic_ge (pc := 114) 143 dX11_becomes_114 rfl ?_ ?_
  · refine t_iinc (pc := 143) [some (.ref 90), some (.int (I (l1 + 1))), some (.int (I l2)), u3] dX11_becomes_143 rfl rfl ?_
    refine t_goto (pc := 146) 63 dX11_becomes_146 rfl ?_
    exact id
  · refine t_ld (pc := 117) dX11_becomes_117 rfl rfl rfl rfl rfl ?_
    refine t_getR (pc := 118) dX11_becomes_118 rfl h0.1 rfl ?_
    refine t_ld (pc := 121) dX11_becomes_121 rfl rfl rfl rfl rfl ?_
    refine t_getI (pc := 122) dX11_becomes_122 rfl h0.1 rfl ?_
    refine t_ld (pc := 125) dX11_becomes_125 rfl rfl rfl rfl rfl ?_
    refine t_iastore (pc := 126) dX11_becomes_126 h0.2.2.2.2.2.2.2.2.1 ?_
    refine t_ld (pc := 127) dX11_becomes_127 rfl rfl rfl rfl rfl ?_
    refine t_dup (pc := 128) dX11_becomes_128 rfl ?_
    refine t_getI (pc := 129) dX11_becomes_129 rfl h0.1 rfl ?_
    refine t_iconst (pc := 132) dX11_becomes_132 ?_
    refine t_iadd (pc := 133) dX11_becomes_133 ?_
    refine t_putI (pc := 134) dX11_becomes_134 rfl rfl (Or.inl rfl) h0.1 rfl ?_
    refine t_iinc (pc := 137) [some (.ref 90), some (.int (I l1)), some (.int (I (l2 + 1))), u3] dX11_becomes_137 rfl rfl ?_
    refine t_goto (pc := 140) 107 dX11_becomes_140 rfl ?_
    exact id
theorem qX11_becomes_155 {sc : Nat × (Nat → Int32)} {SH : List mCell} {S : mStore} {r : mR × mW} (h0 : sMod SH) {l1 : Int} {u2 : Option Value} {u3 : Option Value} : ((if I (S 90 19) ≤ I l1 then r = rV SH (up (up (up (up S 90 11 0) 90 7 0) 90 6 0) 90 5 0) else ((0 ≤ l1 ∧ l1 < 48) ∧ ((0 ≤ l1 ∧ l1 < 48) ∧ ((0 ≤ S 98 l1 ∧ S 98 l1 < 5) ∧ ((0 ≤ ((12 * (S 98 l1)) + l1) - (S 97 (S 98 l1)) ∧ ((12 * (S 98 l1)) + l1) - (S 97 (S 98 l1)) < 48) ∧ ((0 ≤ 64 + l1 ∧ 64 + l1 < 137400) ∧ ((0 ≤ ((12 * (S 98 l1)) + l1) - (S 97 (S 98 l1)) ∧ ((12 * (S 98 l1)) + l1) - (S 97 (S 98 l1)) < 48) ∧ (if I ((up S 91 (64 + l1) (S 106 (((12 * (S 98 l1)) + l1) - (S 97 (S 98 l1))))) 104 (((12 * (S 98 l1)) + l1) - (S 97 (S 98 l1)))) = I (-1) then G sc MX11_becomes 155 [some (.ref 90), some (.int (I (l1 + 1))), some (.int (I (((12 * (S 98 l1)) + l1) - (S 97 (S 98 l1))))), u3] [] SH (up S 91 (64 + l1) (S 106 (((12 * (S 98 l1)) + l1) - (S 97 (S 98 l1))))) r else G sc MX11_becomes 217 [some (.ref 90), some (.int (I l1)), some (.int (I (((12 * (S 98 l1)) + l1) - (S 97 (S 98 l1))))), some (.int (I 0))] [] SH (up S 91 (64 + l1) (S 106 (((12 * (S 98 l1)) + l1) - (S 97 (S 98 l1))))) r))))))))) → G sc MX11_becomes 155 [some (.ref 90), some (.int (I l1)), u2, u3] [] SH S r := by
  refine t_ld (pc := 155) dX11_becomes_155 rfl rfl rfl rfl rfl ?_
  refine t_ld (pc := 156) dX11_becomes_156 rfl rfl rfl rfl rfl ?_
  refine t_getI (pc := 157) dX11_becomes_157 rfl h0.1 rfl ?_
  refine t_ic_ge (pc := 160) 278 dX11_becomes_160 rfl ?_ ?_
  · refine t_ld (pc := 278) dX11_becomes_278 rfl rfl rfl rfl rfl ?_
    refine t_ld (pc := 279) dX11_becomes_279 rfl rfl rfl rfl rfl ?_
    refine t_ld (pc := 280) dX11_becomes_280 rfl rfl rfl rfl rfl ?_
    refine t_ld (pc := 281) dX11_becomes_281 rfl rfl rfl rfl rfl ?_
    refine t_iconst (pc := 282) dX11_becomes_282 ?_
    refine t_dup_x1 (pc := 283) dX11_becomes_283 rfl rfl ?_
    refine t_putI (pc := 284) dX11_becomes_284 rfl rfl (Or.inl rfl) h0.1 rfl ?_
    refine t_dup_x1 (pc := 287) dX11_becomes_287 rfl rfl ?_
    refine t_putI (pc := 288) dX11_becomes_288 rfl rfl (Or.inl rfl) h0.1 rfl ?_
    refine t_dup_x1 (pc := 291) dX11_becomes_291 rfl rfl ?_
    refine t_putI (pc := 292) dX11_becomes_292 rfl rfl (Or.inl rfl) h0.1 rfl ?_
    refine t_putI (pc := 295) dX11_becomes_295 rfl rfl (Or.inl rfl) h0.1 rfl ?_
    exact t_ret (pc := 298) dX11_becomes_298 rfl
  · refine t_bipush (pc := 163) dX11_becomes_163 (by decide) ?_
    refine t_ld (pc := 165) dX11_becomes_165 rfl rfl rfl rfl rfl ?_
    refine t_getR (pc := 166) dX11_becomes_166 rfl h0.1 rfl ?_
    refine t_ld (pc := 169) dX11_becomes_169 rfl rfl rfl rfl rfl ?_
    refine t_iaload (pc := 170) dX11_becomes_170 h0.2.2.2.2.2.2.2.2.1 ?_
    refine t_imul (pc := 171) dX11_becomes_171 ?_
    refine t_ld (pc := 172) dX11_becomes_172 rfl rfl rfl rfl rfl ?_
    refine t_iadd (pc := 173) dX11_becomes_173 ?_
    refine t_ld (pc := 174) dX11_becomes_174 rfl rfl rfl rfl rfl ?_
    refine t_getR (pc := 175) dX11_becomes_175 rfl h0.1 rfl ?_
    refine t_ld (pc := 178) dX11_becomes_178 rfl rfl rfl rfl rfl ?_
    refine t_getR (pc := 179) dX11_becomes_179 rfl h0.1 rfl ?_
    refine t_ld (pc := 182) dX11_becomes_182 rfl rfl rfl rfl rfl ?_
    refine t_iaload (pc := 183) dX11_becomes_183 h0.2.2.2.2.2.2.2.2.1 ?_
    refine t_iaload (pc := 184) dX11_becomes_184 h0.2.2.2.2.2.2.2.1 ?_
    refine t_isub (pc := 185) dX11_becomes_185 ?_
    refine t_st (pc := 186) [some (.ref 90), some (.int (I l1)), some (.int (I (((12 * (S 98 l1)) + l1) - (S 97 (S 98 l1))))), u3] dX11_becomes_186 rfl rfl rfl rfl rfl rfl ?_
    refine t_ld (pc := 187) dX11_becomes_187 rfl rfl rfl rfl rfl ?_
    refine t_getR (pc := 188) dX11_becomes_188 rfl h0.1 rfl ?_
    refine t_bipush (pc := 191) dX11_becomes_191 (by decide) ?_
    refine t_ld (pc := 193) dX11_becomes_193 rfl rfl rfl rfl rfl ?_
    refine t_iadd (pc := 194) dX11_becomes_194 ?_
    refine t_ld (pc := 195) dX11_becomes_195 rfl rfl rfl rfl rfl ?_
    refine t_getR (pc := 196) dX11_becomes_196 rfl h0.1 rfl ?_
    refine t_ld (pc := 199) dX11_becomes_199 rfl rfl rfl rfl rfl ?_
    refine t_iaload (pc := 200) dX11_becomes_200 h0.2.2.2.2.2.2.2.2.2.2.2.2.2.2.2.2.1 ?_
    refine t_iastore (pc := 201) dX11_becomes_201 h0.2.1 ?_
    refine t_ld (pc := 202) dX11_becomes_202 rfl rfl rfl rfl rfl ?_
    refine t_getR (pc := 203) dX11_becomes_203 rfl h0.1 rfl ?_
    refine t_ld (pc := 206) dX11_becomes_206 rfl rfl rfl rfl rfl ?_
    refine t_iaload (pc := 207) dX11_becomes_207 h0.2.2.2.2.2.2.2.2.2.2.2.2.2.2.1 ?_
    refine t_iconst (pc := 208) dX11_becomes_208 ?_
    refine t_ic_ne (pc := 209) 215 dX11_becomes_209 rfl ?_ ?_
    · refine t_iconst (pc := 215) dX11_becomes_215 ?_
      refine t_st (pc := 216) [some (.ref 90), some (.int (I l1)), some (.int (I (((12 * (S 98 l1)) + l1) - (S 97 (S 98 l1))))), some (.int (I 0))] dX11_becomes_216 rfl rfl rfl rfl rfl rfl ?_
      exact id
    · refine t_goto (pc := 212) 272 dX11_becomes_212 rfl ?_
      refine t_iinc (pc := 272) [some (.ref 90), some (.int (I (l1 + 1))), some (.int (I (((12 * (S 98 l1)) + l1) - (S 97 (S 98 l1))))), u3] dX11_becomes_272 rfl rfl ?_
      refine t_goto (pc := 275) 155 dX11_becomes_275 rfl ?_
      exact id
theorem qX11_becomes_217 {sc : Nat × (Nat → Int32)} {SH : List mCell} {S : mStore} {r : mR × mW} (h0 : sMod SH) {l1 : Int} {l2 : Int} {l3 : Int} : ((if I 4 ≤ I l3 then ((0 ≤ l2 ∧ l2 < 48) ∧ (∃ S101, G sc MX11_liesIn 0 [some (.ref 90), some (.int (I 0)), some (.int (I l1)), some (.int (I (S 104 l2)))] [] SH S (rV SH S101) ∧ ((0 ≤ l2 ∧ l2 < 48) ∧ (∃ S102, G sc MX11_laysCells 0 [some (.ref 90), some (.int (I 0)), some (.int (I (S101 104 l2))), none] [] SH S101 (rV SH S102) ∧ G sc MX11_becomes 155 [some (.ref 90), some (.int (I (l1 + 1))), some (.int (I l2)), some (.int (I l3))] [] SH S102 r)))) else ((0 ≤ l2 ∧ l2 < 48) ∧ ((0 ≤ (4 * (S 104 l2)) + l3 ∧ (4 * (S 104 l2)) + l3 < 192) ∧ ((0 ≤ l3 ∧ l3 < 4) ∧ G sc MX11_becomes 217 [some (.ref 90), some (.int (I l1)), some (.int (I l2)), some (.int (I (l3 + 1)))] [] SH (up S 101 l3 (S 105 ((4 * (S 104 l2)) + l3))) r))))) → G sc MX11_becomes 217 [some (.ref 90), some (.int (I l1)), some (.int (I l2)), some (.int (I l3))] [] SH S r := by
  refine t_ld (pc := 217) dX11_becomes_217 rfl rfl rfl rfl rfl ?_
  refine t_iconst (pc := 218) dX11_becomes_218 ?_
  refine t_ic_ge (pc := 219) 249 dX11_becomes_219 rfl ?_ ?_
  · refine t_ld (pc := 249) dX11_becomes_249 rfl rfl rfl rfl rfl ?_
    refine t_iconst (pc := 250) dX11_becomes_250 ?_
    refine t_ld (pc := 251) dX11_becomes_251 rfl rfl rfl rfl rfl ?_
    refine t_ld (pc := 252) dX11_becomes_252 rfl rfl rfl rfl rfl ?_
    refine t_getR (pc := 253) dX11_becomes_253 rfl h0.1 rfl ?_
    refine t_ld (pc := 256) dX11_becomes_256 rfl rfl rfl rfl rfl ?_
    refine t_iaload (pc := 257) dX11_becomes_257 h0.2.2.2.2.2.2.2.2.2.2.2.2.2.2.1 ?_
    refine t_vcVN (pc := 258) dX11_becomes_258 rfl rfl [] rfl rfl ⟨rfl, by decide, Nat.le_of_ble_eq_true rfl⟩ h0.1 fun S101 => ?_
    refine t_ld (pc := 261) dX11_becomes_261 rfl rfl rfl rfl rfl ?_
    refine t_iconst (pc := 262) dX11_becomes_262 ?_
    refine t_ld (pc := 263) dX11_becomes_263 rfl rfl rfl rfl rfl ?_
    refine t_getR (pc := 264) dX11_becomes_264 rfl h0.1 rfl ?_
    refine t_ld (pc := 267) dX11_becomes_267 rfl rfl rfl rfl rfl ?_
    refine t_iaload (pc := 268) dX11_becomes_268 h0.2.2.2.2.2.2.2.2.2.2.2.2.2.2.1 ?_
    refine t_vcVN (pc := 269) dX11_becomes_269 rfl rfl [] rfl rfl ⟨rfl, by decide, Nat.le_of_ble_eq_true rfl⟩ h0.1 fun S102 => ?_
    refine t_iinc (pc := 272) [some (.ref 90), some (.int (I (l1 + 1))), some (.int (I l2)), some (.int (I l3))] dX11_becomes_272 rfl rfl ?_
    refine t_goto (pc := 275) 155 dX11_becomes_275 rfl ?_
    exact id
  · refine t_ld (pc := 222) dX11_becomes_222 rfl rfl rfl rfl rfl ?_
    refine t_getR (pc := 223) dX11_becomes_223 rfl h0.1 rfl ?_
    refine t_ld (pc := 226) dX11_becomes_226 rfl rfl rfl rfl rfl ?_
    refine t_ld (pc := 227) dX11_becomes_227 rfl rfl rfl rfl rfl ?_
    refine t_getR (pc := 228) dX11_becomes_228 rfl h0.1 rfl ?_
    refine t_iconst (pc := 231) dX11_becomes_231 ?_
    refine t_ld (pc := 232) dX11_becomes_232 rfl rfl rfl rfl rfl ?_
    refine t_getR (pc := 233) dX11_becomes_233 rfl h0.1 rfl ?_
    refine t_ld (pc := 236) dX11_becomes_236 rfl rfl rfl rfl rfl ?_
    refine t_iaload (pc := 237) dX11_becomes_237 h0.2.2.2.2.2.2.2.2.2.2.2.2.2.2.1 ?_
    refine t_imul (pc := 238) dX11_becomes_238 ?_
    refine t_ld (pc := 239) dX11_becomes_239 rfl rfl rfl rfl rfl ?_
    refine t_iadd (pc := 240) dX11_becomes_240 ?_
    refine t_iaload (pc := 241) dX11_becomes_241 h0.2.2.2.2.2.2.2.2.2.2.2.2.2.2.2.1 ?_
    refine t_iastore (pc := 242) dX11_becomes_242 h0.2.2.2.2.2.2.2.2.2.2.2.1 ?_
    refine t_iinc (pc := 243) [some (.ref 90), some (.int (I l1)), some (.int (I l2)), some (.int (I (l3 + 1)))] dX11_becomes_243 rfl rfl ?_
    refine t_goto (pc := 246) 217 dX11_becomes_246 rfl ?_
    exact id
theorem qX11_feed_0 {sc : Nat × (Nat → Int32)} {SH : List mCell} {S : mStore} {r : mR × mW} (h0 : sMod SH) {l1 : Int} {l2 : Int} {l3 : Int} {l4 : Int} {l5 : Int} {u6 : Option Value} {u7 : Option Value} : ((if I (((up S 90 4 0) 90 25) + 20) ≤ I 700 then G sc MX11_feed 23 [some (.ref 90), some (.int (I l1)), some (.int (I l2)), some (.int (I l3)), some (.int (I l4)), some (.int (I l5)), some (.int (I 0)), u7] [] SH (up S 90 4 0) r else r = rI (-1) SH (up S 90 4 0))) → G sc MX11_feed 0 [some (.ref 90), some (.int (I l1)), some (.int (I l2)), some (.int (I l3)), some (.int (I l4)), some (.int (I l5)), u6, u7] [] SH S r := by
  refine t_ld (pc := 0) dX11_feed_0 rfl rfl rfl rfl rfl ?_
  refine t_iconst (pc := 1) dX11_feed_1 ?_
  refine t_putI (pc := 2) dX11_feed_2 rfl rfl (Or.inl rfl) h0.1 rfl ?_
  refine t_ld (pc := 5) dX11_feed_5 rfl rfl rfl rfl rfl ?_
  refine t_getI (pc := 6) dX11_feed_6 rfl h0.1 rfl ?_
  refine t_bipush (pc := 9) dX11_feed_9 (by decide) ?_
  refine t_iadd (pc := 11) dX11_feed_11 ?_
  refine t_sipush (pc := 12) dX11_feed_12 (by decide) ?_
  refine t_ic_le (pc := 15) 20 dX11_feed_15 rfl ?_ ?_
  · refine t_iconst (pc := 20) dX11_feed_20 ?_
    refine t_st (pc := 21) [some (.ref 90), some (.int (I l1)), some (.int (I l2)), some (.int (I l3)), some (.int (I l4)), some (.int (I l5)), some (.int (I 0)), u7] dX11_feed_21 rfl rfl rfl rfl rfl rfl ?_
    exact id
  · refine t_iconst (pc := 18) dX11_feed_18 ?_
    exact t_iret (pc := 19) dX11_feed_19 rfl
theorem qX11_feed_23 {sc : Nat × (Nat → Int32)} {SH : List mCell} {S : mStore} {r : mR × mW} (h0 : sMod SH) {l1 : Int} {l2 : Int} {l3 : Int} {l4 : Int} {l5 : Int} {l6 : Int} {u7 : Option Value} : ((if I 20 ≤ I l6 then r = rI ((up S 90 25 ((S 90 25) + 20)) 90 25) SH (up S 90 25 ((S 90 25) + 20)) else (if I 4 ≤ I l6 then (if I 8 ≤ I l6 then (if I 12 ≤ I l6 then (if I 16 ≤ I l6 then ((0 ≤ (S 90 25) + l6 ∧ (S 90 25) + l6 < 700) ∧ G sc MX11_feed 23 [some (.ref 90), some (.int (I l1)), some (.int (I l2)), some (.int (I l3)), some (.int (I l4)), some (.int (I l5)), some (.int (I (l6 + 1))), some (.int (I l5))] [] SH (up S 99 ((S 90 25) + l6) (ian (isr l5 (24 - (8 * (l6 - idv l6 4 * 4)))) 255)) r) else ((0 ≤ (S 90 25) + l6 ∧ (S 90 25) + l6 < 700) ∧ G sc MX11_feed 23 [some (.ref 90), some (.int (I l1)), some (.int (I l2)), some (.int (I l3)), some (.int (I l4)), some (.int (I l5)), some (.int (I (l6 + 1))), some (.int (I l4))] [] SH (up S 99 ((S 90 25) + l6) (ian (isr l4 (24 - (8 * (l6 - idv l6 4 * 4)))) 255)) r)) else ((0 ≤ (S 90 25) + l6 ∧ (S 90 25) + l6 < 700) ∧ G sc MX11_feed 23 [some (.ref 90), some (.int (I l1)), some (.int (I l2)), some (.int (I l3)), some (.int (I l4)), some (.int (I l5)), some (.int (I (l6 + 1))), some (.int (I l3))] [] SH (up S 99 ((S 90 25) + l6) (ian (isr l3 (24 - (8 * (l6 - idv l6 4 * 4)))) 255)) r)) else ((0 ≤ (S 90 25) + l6 ∧ (S 90 25) + l6 < 700) ∧ G sc MX11_feed 23 [some (.ref 90), some (.int (I l1)), some (.int (I l2)), some (.int (I l3)), some (.int (I l4)), some (.int (I l5)), some (.int (I (l6 + 1))), some (.int (I l2))] [] SH (up S 99 ((S 90 25) + l6) (ian (isr l2 (24 - (8 * (l6 - idv l6 4 * 4)))) 255)) r)) else ((0 ≤ (S 90 25) + l6 ∧ (S 90 25) + l6 < 700) ∧ G sc MX11_feed 23 [some (.ref 90), some (.int (I l1)), some (.int (I l2)), some (.int (I l3)), some (.int (I l4)), some (.int (I l5)), some (.int (I (l6 + 1))), some (.int (I l1))] [] SH (up S 99 ((S 90 25) + l6) (ian (isr l1 (24 - (8 * (l6 - idv l6 4 * 4)))) 255)) r)))) → G sc MX11_feed 23 [some (.ref 90), some (.int (I l1)), some (.int (I l2)), some (.int (I l3)), some (.int (I l4)), some (.int (I l5)), some (.int (I l6)), u7] [] SH S r := by
  refine t_ld (pc := 23) dX11_feed_23 rfl rfl rfl rfl rfl ?_
  refine t_bipush (pc := 25) dX11_feed_25 (by decide) ?_
  refine t_ic_ge (pc := 27) 113 dX11_feed_27 rfl ?_ ?_
  · refine t_ld (pc := 113) dX11_feed_113 rfl rfl rfl rfl rfl ?_
    refine t_dup (pc := 114) dX11_feed_114 rfl ?_
    refine t_getI (pc := 115) dX11_feed_115 rfl h0.1 rfl ?_
    refine t_bipush (pc := 118) dX11_feed_118 (by decide) ?_
    refine t_iadd (pc := 120) dX11_feed_120 ?_
    refine t_putI (pc := 121) dX11_feed_121 rfl rfl (Or.inl rfl) h0.1 rfl ?_
    refine t_ld (pc := 124) dX11_feed_124 rfl rfl rfl rfl rfl ?_
    refine t_getI (pc := 125) dX11_feed_125 rfl h0.1 rfl ?_
    exact t_iret (pc := 128) dX11_feed_128 rfl
  · refine t_ld (pc := 30) dX11_feed_30 rfl rfl rfl rfl rfl ?_
    refine t_iconst (pc := 32) dX11_feed_32 ?_
    refine t_ic_ge (pc := 33) 40 dX11_feed_33 rfl ?_ ?_
    · refine t_ld (pc := 40) dX11_feed_40 rfl rfl rfl rfl rfl ?_
      refine t_bipush (pc := 42) dX11_feed_42 (by decide) ?_
      refine t_ic_ge (pc := 44) 51 dX11_feed_44 rfl ?_ ?_
      · refine t_ld (pc := 51) dX11_feed_51 rfl rfl rfl rfl rfl ?_
        refine t_bipush (pc := 53) dX11_feed_53 (by decide) ?_
        refine t_ic_ge (pc := 55) 62 dX11_feed_55 rfl ?_ ?_
        · refine t_ld (pc := 62) dX11_feed_62 rfl rfl rfl rfl rfl ?_
          refine t_bipush (pc := 64) dX11_feed_64 (by decide) ?_
          refine t_ic_ge (pc := 66) 74 dX11_feed_66 rfl ?_ ?_
          · refine t_ld (pc := 74) dX11_feed_74 rfl rfl rfl rfl rfl ?_
            refine t_st (pc := 76) [some (.ref 90), some (.int (I l1)), some (.int (I l2)), some (.int (I l3)), some (.int (I l4)), some (.int (I l5)), some (.int (I l6)), some (.int (I l5))] dX11_feed_76 rfl rfl rfl rfl rfl rfl ?_
            refine t_ld (pc := 78) dX11_feed_78 rfl rfl rfl rfl rfl ?_
            refine t_getR (pc := 79) dX11_feed_79 rfl h0.1 rfl ?_
            refine t_ld (pc := 82) dX11_feed_82 rfl rfl rfl rfl rfl ?_
            refine t_getI (pc := 83) dX11_feed_83 rfl h0.1 rfl ?_
            refine t_ld (pc := 86) dX11_feed_86 rfl rfl rfl rfl rfl ?_
            refine t_iadd (pc := 88) dX11_feed_88 ?_
            refine t_ld (pc := 89) dX11_feed_89 rfl rfl rfl rfl rfl ?_
            refine t_bipush (pc := 91) dX11_feed_91 (by decide) ?_
            refine t_bipush (pc := 93) dX11_feed_93 (by decide) ?_
            refine t_ld (pc := 95) dX11_feed_95 rfl rfl rfl rfl rfl ?_
            refine t_iconst (pc := 97) dX11_feed_97 ?_
            refine t_irem (pc := 98) dX11_feed_98 (by decide) ?_
            refine t_imul (pc := 99) dX11_feed_99 ?_
            refine t_isub (pc := 100) dX11_feed_100 ?_
            refine t_ishr (pc := 101) dX11_feed_101 ?_
            refine t_sipush (pc := 102) dX11_feed_102 (by decide) ?_
            refine t_iand (pc := 105) dX11_feed_105 ?_
            refine t_iastore (pc := 106) dX11_feed_106 h0.2.2.2.2.2.2.2.2.2.1 ?_
            refine t_iinc (pc := 107) [some (.ref 90), some (.int (I l1)), some (.int (I l2)), some (.int (I l3)), some (.int (I l4)), some (.int (I l5)), some (.int (I (l6 + 1))), some (.int (I l5))] dX11_feed_107 rfl rfl ?_
            refine t_goto (pc := 110) 23 dX11_feed_110 rfl ?_
            exact id
          · refine t_ld (pc := 69) dX11_feed_69 rfl rfl rfl rfl rfl ?_
            refine t_goto (pc := 71) 76 dX11_feed_71 rfl ?_
            refine t_st (pc := 76) [some (.ref 90), some (.int (I l1)), some (.int (I l2)), some (.int (I l3)), some (.int (I l4)), some (.int (I l5)), some (.int (I l6)), some (.int (I l4))] dX11_feed_76 rfl rfl rfl rfl rfl rfl ?_
            refine t_ld (pc := 78) dX11_feed_78 rfl rfl rfl rfl rfl ?_
            refine t_getR (pc := 79) dX11_feed_79 rfl h0.1 rfl ?_
            refine t_ld (pc := 82) dX11_feed_82 rfl rfl rfl rfl rfl ?_
            refine t_getI (pc := 83) dX11_feed_83 rfl h0.1 rfl ?_
            refine t_ld (pc := 86) dX11_feed_86 rfl rfl rfl rfl rfl ?_
            refine t_iadd (pc := 88) dX11_feed_88 ?_
            refine t_ld (pc := 89) dX11_feed_89 rfl rfl rfl rfl rfl ?_
            refine t_bipush (pc := 91) dX11_feed_91 (by decide) ?_
            refine t_bipush (pc := 93) dX11_feed_93 (by decide) ?_
            refine t_ld (pc := 95) dX11_feed_95 rfl rfl rfl rfl rfl ?_
            refine t_iconst (pc := 97) dX11_feed_97 ?_
            refine t_irem (pc := 98) dX11_feed_98 (by decide) ?_
            refine t_imul (pc := 99) dX11_feed_99 ?_
            refine t_isub (pc := 100) dX11_feed_100 ?_
            refine t_ishr (pc := 101) dX11_feed_101 ?_
            refine t_sipush (pc := 102) dX11_feed_102 (by decide) ?_
            refine t_iand (pc := 105) dX11_feed_105 ?_
            refine t_iastore (pc := 106) dX11_feed_106 h0.2.2.2.2.2.2.2.2.2.1 ?_
            refine t_iinc (pc := 107) [some (.ref 90), some (.int (I l1)), some (.int (I l2)), some (.int (I l3)), some (.int (I l4)), some (.int (I l5)), some (.int (I (l6 + 1))), some (.int (I l4))] dX11_feed_107 rfl rfl ?_
            refine t_goto (pc := 110) 23 dX11_feed_110 rfl ?_
            exact id
        · refine t_ld (pc := 58) dX11_feed_58 rfl rfl rfl rfl rfl ?_
          refine t_goto (pc := 59) 76 dX11_feed_59 rfl ?_
          refine t_st (pc := 76) [some (.ref 90), some (.int (I l1)), some (.int (I l2)), some (.int (I l3)), some (.int (I l4)), some (.int (I l5)), some (.int (I l6)), some (.int (I l3))] dX11_feed_76 rfl rfl rfl rfl rfl rfl ?_
          refine t_ld (pc := 78) dX11_feed_78 rfl rfl rfl rfl rfl ?_
          refine t_getR (pc := 79) dX11_feed_79 rfl h0.1 rfl ?_
          refine t_ld (pc := 82) dX11_feed_82 rfl rfl rfl rfl rfl ?_
          refine t_getI (pc := 83) dX11_feed_83 rfl h0.1 rfl ?_
          refine t_ld (pc := 86) dX11_feed_86 rfl rfl rfl rfl rfl ?_
          refine t_iadd (pc := 88) dX11_feed_88 ?_
          refine t_ld (pc := 89) dX11_feed_89 rfl rfl rfl rfl rfl ?_
          refine t_bipush (pc := 91) dX11_feed_91 (by decide) ?_
          refine t_bipush (pc := 93) dX11_feed_93 (by decide) ?_
          refine t_ld (pc := 95) dX11_feed_95 rfl rfl rfl rfl rfl ?_
          refine t_iconst (pc := 97) dX11_feed_97 ?_
          refine t_irem (pc := 98) dX11_feed_98 (by decide) ?_
          refine t_imul (pc := 99) dX11_feed_99 ?_
          refine t_isub (pc := 100) dX11_feed_100 ?_
          refine t_ishr (pc := 101) dX11_feed_101 ?_
          refine t_sipush (pc := 102) dX11_feed_102 (by decide) ?_
          refine t_iand (pc := 105) dX11_feed_105 ?_
          refine t_iastore (pc := 106) dX11_feed_106 h0.2.2.2.2.2.2.2.2.2.1 ?_
          refine t_iinc (pc := 107) [some (.ref 90), some (.int (I l1)), some (.int (I l2)), some (.int (I l3)), some (.int (I l4)), some (.int (I l5)), some (.int (I (l6 + 1))), some (.int (I l3))] dX11_feed_107 rfl rfl ?_
          refine t_goto (pc := 110) 23 dX11_feed_110 rfl ?_
          exact id
      · refine t_ld (pc := 47) dX11_feed_47 rfl rfl rfl rfl rfl ?_
        refine t_goto (pc := 48) 76 dX11_feed_48 rfl ?_
        refine t_st (pc := 76) [some (.ref 90), some (.int (I l1)), some (.int (I l2)), some (.int (I l3)), some (.int (I l4)), some (.int (I l5)), some (.int (I l6)), some (.int (I l2))] dX11_feed_76 rfl rfl rfl rfl rfl rfl ?_
        refine t_ld (pc := 78) dX11_feed_78 rfl rfl rfl rfl rfl ?_
        refine t_getR (pc := 79) dX11_feed_79 rfl h0.1 rfl ?_
        refine t_ld (pc := 82) dX11_feed_82 rfl rfl rfl rfl rfl ?_
        refine t_getI (pc := 83) dX11_feed_83 rfl h0.1 rfl ?_
        refine t_ld (pc := 86) dX11_feed_86 rfl rfl rfl rfl rfl ?_
        refine t_iadd (pc := 88) dX11_feed_88 ?_
        refine t_ld (pc := 89) dX11_feed_89 rfl rfl rfl rfl rfl ?_
        refine t_bipush (pc := 91) dX11_feed_91 (by decide) ?_
        refine t_bipush (pc := 93) dX11_feed_93 (by decide) ?_
        refine t_ld (pc := 95) dX11_feed_95 rfl rfl rfl rfl rfl ?_
        refine t_iconst (pc := 97) dX11_feed_97 ?_
        refine t_irem (pc := 98) dX11_feed_98 (by decide) ?_
        refine t_imul (pc := 99) dX11_feed_99 ?_
        refine t_isub (pc := 100) dX11_feed_100 ?_
        refine t_ishr (pc := 101) dX11_feed_101 ?_
        refine t_sipush (pc := 102) dX11_feed_102 (by decide) ?_
        refine t_iand (pc := 105) dX11_feed_105 ?_
        refine t_iastore (pc := 106) dX11_feed_106 h0.2.2.2.2.2.2.2.2.2.1 ?_
        refine t_iinc (pc := 107) [some (.ref 90), some (.int (I l1)), some (.int (I l2)), some (.int (I l3)), some (.int (I l4)), some (.int (I l5)), some (.int (I (l6 + 1))), some (.int (I l2))] dX11_feed_107 rfl rfl ?_
        refine t_goto (pc := 110) 23 dX11_feed_110 rfl ?_
        exact id
    · refine t_ld (pc := 36) dX11_feed_36 rfl rfl rfl rfl rfl ?_
      refine t_goto (pc := 37) 76 dX11_feed_37 rfl ?_
      refine t_st (pc := 76) [some (.ref 90), some (.int (I l1)), some (.int (I l2)), some (.int (I l3)), some (.int (I l4)), some (.int (I l5)), some (.int (I l6)), some (.int (I l1))] dX11_feed_76 rfl rfl rfl rfl rfl rfl ?_
      refine t_ld (pc := 78) dX11_feed_78 rfl rfl rfl rfl rfl ?_
      refine t_getR (pc := 79) dX11_feed_79 rfl h0.1 rfl ?_
      refine t_ld (pc := 82) dX11_feed_82 rfl rfl rfl rfl rfl ?_
      refine t_getI (pc := 83) dX11_feed_83 rfl h0.1 rfl ?_
      refine t_ld (pc := 86) dX11_feed_86 rfl rfl rfl rfl rfl ?_
      refine t_iadd (pc := 88) dX11_feed_88 ?_
      refine t_ld (pc := 89) dX11_feed_89 rfl rfl rfl rfl rfl ?_
      refine t_bipush (pc := 91) dX11_feed_91 (by decide) ?_
      refine t_bipush (pc := 93) dX11_feed_93 (by decide) ?_
      refine t_ld (pc := 95) dX11_feed_95 rfl rfl rfl rfl rfl ?_
      refine t_iconst (pc := 97) dX11_feed_97 ?_
      refine t_irem (pc := 98) dX11_feed_98 (by decide) ?_
      refine t_imul (pc := 99) dX11_feed_99 ?_
      refine t_isub (pc := 100) dX11_feed_100 ?_
      refine t_ishr (pc := 101) dX11_feed_101 ?_
      refine t_sipush (pc := 102) dX11_feed_102 (by decide) ?_
      refine t_iand (pc := 105) dX11_feed_105 ?_
      refine t_iastore (pc := 106) dX11_feed_106 h0.2.2.2.2.2.2.2.2.2.1 ?_
      refine t_iinc (pc := 107) [some (.ref 90), some (.int (I l1)), some (.int (I l2)), some (.int (I l3)), some (.int (I l4)), some (.int (I l5)), some (.int (I (l6 + 1))), some (.int (I l1))] dX11_feed_107 rfl rfl ?_
      refine t_goto (pc := 110) 23 dX11_feed_110 rfl ?_
      exact id
theorem qX11_reads_0 {sc : Nat × (Nat → Int32)} {SH : List mCell} {S : mStore} {r : mR × mW} (h0 : sMod SH) {l1 : Int} : ((if I l1 < I 0 then (∃ v101 S102, G sc MX11_right 0 [some (.ref 90), some (.int (I 0)), some (.int (I 1))] [] SH (up S 90 4 0) (rI v101 SH S102) ∧ (if I v101 = I 0 then ((I 0 = I 0 ∨ I 0 = I 1) ∧ r = rI 0 SH S102) else (∃ S103, G sc MX11_opens 0 [some (.ref 90), some (.int (I l1))] [] SH (up S102 90 25 0) (rV SH S103) ∧ ((I 1 = I 0 ∨ I 1 = I 1) ∧ r = rI 1 SH S103)))) else (if I ((up S 90 4 0) 90 25) < I l1 then (∃ v104 S105, G sc MX11_right 0 [some (.ref 90), some (.int (I 0)), some (.int (I 1))] [] SH (up S 90 4 0) (rI v104 SH S105) ∧ (if I v104 = I 0 then ((I 0 = I 0 ∨ I 0 = I 1) ∧ r = rI 0 SH S105) else (∃ S106, G sc MX11_opens 0 [some (.ref 90), some (.int (I l1))] [] SH (up S105 90 25 0) (rV SH S106) ∧ ((I 1 = I 0 ∨ I 1 = I 1) ∧ r = rI 1 SH S106)))) else (∃ v107 S108, G sc MX11_right 0 [some (.ref 90), some (.int (I 1)), some (.int (I 1))] [] SH (up S 90 4 0) (rI v107 SH S108) ∧ (if I v107 = I 0 then ((I 0 = I 0 ∨ I 0 = I 1) ∧ r = rI 0 SH S108) else (∃ S109, G sc MX11_opens 0 [some (.ref 90), some (.int (I l1))] [] SH (up S108 90 25 0) (rV SH S109) ∧ ((I 1 = I 0 ∨ I 1 = I 1) ∧ r = rI 1 SH S109))))))) → G sc MX11_reads 0 [some (.ref 90), some (.int (I l1))] [] SH S r := by
  refine t_ld (pc := 0) dX11_reads_0 rfl rfl rfl rfl rfl ?_
  refine t_iconst (pc := 1) dX11_reads_1 ?_
  refine t_putI (pc := 2) dX11_reads_2 rfl rfl (Or.inl rfl) h0.1 rfl ?_
  refine t_ld (pc := 5) dX11_reads_5 rfl rfl rfl rfl rfl ?_
  refine t_ld (pc := 6) dX11_reads_6 rfl rfl rfl rfl rfl ?_
  refine t_if_lt (pc := 7) 22 dX11_reads_7 rfl ?_ ?_
  · refine t_iconst (pc := 22) dX11_reads_22 ?_
    refine t_iconst (pc := 23) dX11_reads_23 ?_
    refine t_vcIN (pc := 24) dX11_reads_24 rfl rfl [] rfl rfl ⟨rfl, by decide, Nat.le_of_ble_eq_true rfl⟩ h0.1 fun v101 S102 => ?_
    refine t_if_ne (pc := 27) 32 dX11_reads_27 rfl ?_ ?_
    · refine t_ld (pc := 32) dX11_reads_32 rfl rfl rfl rfl rfl ?_
      refine t_iconst (pc := 33) dX11_reads_33 ?_
      refine t_putI (pc := 34) dX11_reads_34 rfl rfl (Or.inl rfl) h0.1 rfl ?_
      refine t_ld (pc := 37) dX11_reads_37 rfl rfl rfl rfl rfl ?_
      refine t_ld (pc := 38) dX11_reads_38 rfl rfl rfl rfl rfl ?_
      refine t_vcVN (pc := 39) dX11_reads_39 rfl rfl [] rfl rfl ⟨rfl, by decide, Nat.le_of_ble_eq_true rfl⟩ h0.1 fun S103 => ?_
      refine t_iconst (pc := 42) dX11_reads_42 ?_
      exact t_zret (pc := 43) dX11_reads_43 rfl
    · refine t_iconst (pc := 30) dX11_reads_30 ?_
      exact t_zret (pc := 31) dX11_reads_31 rfl
  · refine t_ld (pc := 10) dX11_reads_10 rfl rfl rfl rfl rfl ?_
    refine t_ld (pc := 11) dX11_reads_11 rfl rfl rfl rfl rfl ?_
    refine t_getI (pc := 12) dX11_reads_12 rfl h0.1 rfl ?_
    refine t_ic_gt (pc := 15) 22 dX11_reads_15 rfl ?_ ?_
    · refine t_iconst (pc := 22) dX11_reads_22 ?_
      refine t_iconst (pc := 23) dX11_reads_23 ?_
      refine t_vcIN (pc := 24) dX11_reads_24 rfl rfl [] rfl rfl ⟨rfl, by decide, Nat.le_of_ble_eq_true rfl⟩ h0.1 fun v104 S105 => ?_
      refine t_if_ne (pc := 27) 32 dX11_reads_27 rfl ?_ ?_
      · refine t_ld (pc := 32) dX11_reads_32 rfl rfl rfl rfl rfl ?_
        refine t_iconst (pc := 33) dX11_reads_33 ?_
        refine t_putI (pc := 34) dX11_reads_34 rfl rfl (Or.inl rfl) h0.1 rfl ?_
        refine t_ld (pc := 37) dX11_reads_37 rfl rfl rfl rfl rfl ?_
        refine t_ld (pc := 38) dX11_reads_38 rfl rfl rfl rfl rfl ?_
        refine t_vcVN (pc := 39) dX11_reads_39 rfl rfl [] rfl rfl ⟨rfl, by decide, Nat.le_of_ble_eq_true rfl⟩ h0.1 fun S106 => ?_
        refine t_iconst (pc := 42) dX11_reads_42 ?_
        exact t_zret (pc := 43) dX11_reads_43 rfl
      · refine t_iconst (pc := 30) dX11_reads_30 ?_
        exact t_zret (pc := 31) dX11_reads_31 rfl
    · refine t_iconst (pc := 18) dX11_reads_18 ?_
      refine t_goto (pc := 19) 23 dX11_reads_19 rfl ?_
      refine t_iconst (pc := 23) dX11_reads_23 ?_
      refine t_vcIN (pc := 24) dX11_reads_24 rfl rfl [] rfl rfl ⟨rfl, by decide, Nat.le_of_ble_eq_true rfl⟩ h0.1 fun v107 S108 => ?_
      refine t_if_ne (pc := 27) 32 dX11_reads_27 rfl ?_ ?_
      · refine t_ld (pc := 32) dX11_reads_32 rfl rfl rfl rfl rfl ?_
        refine t_iconst (pc := 33) dX11_reads_33 ?_
        refine t_putI (pc := 34) dX11_reads_34 rfl rfl (Or.inl rfl) h0.1 rfl ?_
        refine t_ld (pc := 37) dX11_reads_37 rfl rfl rfl rfl rfl ?_
        refine t_ld (pc := 38) dX11_reads_38 rfl rfl rfl rfl rfl ?_
        refine t_vcVN (pc := 39) dX11_reads_39 rfl rfl [] rfl rfl ⟨rfl, by decide, Nat.le_of_ble_eq_true rfl⟩ h0.1 fun S109 => ?_
        refine t_iconst (pc := 42) dX11_reads_42 ?_
        exact t_zret (pc := 43) dX11_reads_43 rfl
      · refine t_iconst (pc := 30) dX11_reads_30 ?_
        exact t_zret (pc := 31) dX11_reads_31 rfl
theorem qX11_machine_0 {sc : Nat × (Nat → Int32)} {SH : List mCell} {S : mStore} {r : mR × mW} (h0 : sMod SH) {l1 : Int} : ((∃ v101 S102, G sc MX11_reads 0 [some (.ref 90), some (.int (I l1))] [] SH S (rI v101 SH S102) ∧ (if I v101 = I 0 then r = rI 0 SH S102 else (∃ S103, G sc MX11_without1 0 [some (.ref 90), none] [] SH S102 (rV SH S103) ∧ G sc MX11_machine 14 [some (.ref 90), some (.int (I l1))] [] SH S103 r)))) → G sc MX11_machine 0 [some (.ref 90), some (.int (I l1))] [] SH S r := by
  refine t_ld (pc := 0) dX11_machine_0 rfl rfl rfl rfl rfl ?_
  refine t_ld (pc := 1) dX11_machine_1 rfl rfl rfl rfl rfl ?_
  refine t_vcIN (pc := 2) dX11_machine_2 rfl rfl [] rfl rfl ⟨rfl, by decide, Nat.le_of_ble_eq_true rfl⟩ h0.1 fun v101 S102 => ?_
  refine t_if_ne (pc := 5) 10 dX11_machine_5 rfl ?_ ?_
  · refine t_ld (pc := 10) dX11_machine_10 rfl rfl rfl rfl rfl ?_
    refine t_vcVN (pc := 11) dX11_machine_11 rfl rfl [] rfl rfl ⟨rfl, by decide, Nat.le_of_ble_eq_true rfl⟩ h0.1 fun S103 => ?_
    exact id
  · refine t_iconst (pc := 8) dX11_machine_8 ?_
    exact t_iret (pc := 9) dX11_machine_9 rfl
theorem qX11_machine_14 {sc : Nat × (Nat → Int32)} {SH : List mCell} {S : mStore} {r : mR × mW} (h0 : sMod SH) {l1 : Int} : ((if I (S 90 39) = I 0 then (if I (S 90 36) = I 0 then (if I (S 90 39) = I 0 then (∃ S102, G sc MX11_becomes 0 [some (.ref 90), none, none, none] [] SH S (rV SH S102) ∧ r = rI 0 SH S102) else ((0 ≤ 0 ∧ 0 < 6) ∧ ((0 ≤ 0 ∧ 0 < 6) ∧ r = rI ((up S 94 0 ((S 94 0) + 1)) 90 39) SH (up S 94 0 ((S 94 0) + 1))))) else (∃ S103, G sc MX11_clause1 0 [some (.ref 90)] [] SH S (rV SH S103) ∧ (∃ S104, G sc MX11_ends 0 [some (.ref 90)] [] SH S103 (rV SH S104) ∧ G sc MX11_machine 14 [some (.ref 90), some (.int (I l1))] [] SH S104 r))) else (if I (S 90 39) = I 0 then (∃ S101, G sc MX11_becomes 0 [some (.ref 90), none, none, none] [] SH S (rV SH S101) ∧ r = rI 0 SH S101) else ((0 ≤ 0 ∧ 0 < 6) ∧ ((0 ≤ 0 ∧ 0 < 6) ∧ r = rI ((up S 94 0 ((S 94 0) + 1)) 90 39) SH (up S 94 0 ((S 94 0) + 1))))))) → G sc MX11_machine 14 [some (.ref 90), some (.int (I l1))] [] SH S r := by
  refine t_ld (pc := 14) dX11_machine_14 rfl rfl rfl rfl rfl ?_
  refine t_getI (pc := 15) dX11_machine_15 rfl h0.1 rfl ?_
  refine t_if_ne (pc := 18) 39 dX11_machine_18 rfl ?_ ?_
  · refine t_ld (pc := 39) dX11_machine_39 rfl rfl rfl rfl rfl ?_
    refine t_getI (pc := 40) dX11_machine_40 rfl h0.1 rfl ?_
    refine t_if_eq (pc := 43) 61 dX11_machine_43 rfl ?_ ?_
    · refine t_ld (pc := 61) dX11_machine_61 rfl rfl rfl rfl rfl ?_
      refine t_vcVN (pc := 62) dX11_machine_62 rfl rfl [] rfl rfl ⟨rfl, by decide, Nat.le_of_ble_eq_true rfl⟩ h0.1 fun S101 => ?_
      refine t_iconst (pc := 65) dX11_machine_65 ?_
      exact t_iret (pc := 66) dX11_machine_66 rfl
    · refine t_ld (pc := 46) dX11_machine_46 rfl rfl rfl rfl rfl ?_
      refine t_getR (pc := 47) dX11_machine_47 rfl h0.1 rfl ?_
      refine t_iconst (pc := 50) dX11_machine_50 ?_
      refine t_dup2 (pc := 51) dX11_machine_51 rfl rfl ?_
      refine t_iaload (pc := 52) dX11_machine_52 h0.2.2.2.2.1 ?_
      refine t_iconst (pc := 53) dX11_machine_53 ?_
      refine t_iadd (pc := 54) dX11_machine_54 ?_
      refine t_iastore (pc := 55) dX11_machine_55 h0.2.2.2.2.1 ?_
      refine t_ld (pc := 56) dX11_machine_56 rfl rfl rfl rfl rfl ?_
      refine t_getI (pc := 57) dX11_machine_57 rfl h0.1 rfl ?_
      exact t_iret (pc := 60) dX11_machine_60 rfl
  · refine t_ld (pc := 21) dX11_machine_21 rfl rfl rfl rfl rfl ?_
    refine t_getI (pc := 22) dX11_machine_22 rfl h0.1 rfl ?_
    refine t_if_eq (pc := 25) 39 dX11_machine_25 rfl ?_ ?_
    · refine t_ld (pc := 39) dX11_machine_39 rfl rfl rfl rfl rfl ?_
      refine t_getI (pc := 40) dX11_machine_40 rfl h0.1 rfl ?_
      refine t_if_eq (pc := 43) 61 dX11_machine_43 rfl ?_ ?_
      · refine t_ld (pc := 61) dX11_machine_61 rfl rfl rfl rfl rfl ?_
        refine t_vcVN (pc := 62) dX11_machine_62 rfl rfl [] rfl rfl ⟨rfl, by decide, Nat.le_of_ble_eq_true rfl⟩ h0.1 fun S102 => ?_
        refine t_iconst (pc := 65) dX11_machine_65 ?_
        exact t_iret (pc := 66) dX11_machine_66 rfl
      · refine t_ld (pc := 46) dX11_machine_46 rfl rfl rfl rfl rfl ?_
        refine t_getR (pc := 47) dX11_machine_47 rfl h0.1 rfl ?_
        refine t_iconst (pc := 50) dX11_machine_50 ?_
        refine t_dup2 (pc := 51) dX11_machine_51 rfl rfl ?_
        refine t_iaload (pc := 52) dX11_machine_52 h0.2.2.2.2.1 ?_
        refine t_iconst (pc := 53) dX11_machine_53 ?_
        refine t_iadd (pc := 54) dX11_machine_54 ?_
        refine t_iastore (pc := 55) dX11_machine_55 h0.2.2.2.2.1 ?_
        refine t_ld (pc := 56) dX11_machine_56 rfl rfl rfl rfl rfl ?_
        refine t_getI (pc := 57) dX11_machine_57 rfl h0.1 rfl ?_
        exact t_iret (pc := 60) dX11_machine_60 rfl
    · refine t_ld (pc := 28) dX11_machine_28 rfl rfl rfl rfl rfl ?_
      refine t_vcVN (pc := 29) dX11_machine_29 rfl rfl [] rfl rfl ⟨rfl, by decide, Nat.le_of_ble_eq_true rfl⟩ h0.1 fun S103 => ?_
      refine t_ld (pc := 32) dX11_machine_32 rfl rfl rfl rfl rfl ?_
      refine t_vcVN (pc := 33) dX11_machine_33 rfl rfl [] rfl rfl ⟨rfl, by decide, Nat.le_of_ble_eq_true rfl⟩ h0.1 fun S104 => ?_
      refine t_goto (pc := 36) 14 dX11_machine_36 rfl ?_
      exact id
theorem qX11_pageThere_0 {sc : Nat × (Nat → Int32)} {SH : List mCell} {S : mStore} {r : mR × mW} (h0 : sMod SH) {u1 : Option Value} {u2 : Option Value} : ((if I (S 90 36) = I 2 then (∃ v107 S108, G sc MX11_wants 0 [some (.ref 90), some (.int (I 1)), some (.int (I 1))] [] SH S (rI v107 SH S108) ∧ (if I v107 = I 0 then G sc MX11_pageThere 66 [some (.ref 90), u1, u2] [] SH S108 r else (if I 4 ≤ I (S108 90 37) then (∃ v109 S110, G sc MX11_wants 0 [some (.ref 90), some (.int (I 0)), some (.int (I 2))] [] SH S108 (rI v109 SH S110) ∧ (if I v109 = I 0 then G sc MX11_pageThere 66 [some (.ref 90), u1, u2] [] SH S110 r else (if I (S110 90 18) ≤ I (S110 90 37) then G sc MX11_pageThere 59 [some (.ref 90), u1, u2] [.int (I 0), .ref 90] SH S110 r else G sc MX11_pageThere 59 [some (.ref 90), u1, u2] [.int (I 1), .ref 90] SH S110 r))) else (∃ v111 S112, G sc MX11_wants 0 [some (.ref 90), some (.int (I 1)), some (.int (I 2))] [] SH S108 (rI v111 SH S112) ∧ (if I v111 = I 0 then G sc MX11_pageThere 66 [some (.ref 90), u1, u2] [] SH S112 r else (if I (S112 90 18) ≤ I (S112 90 37) then G sc MX11_pageThere 59 [some (.ref 90), u1, u2] [.int (I 0), .ref 90] SH S112 r else G sc MX11_pageThere 59 [some (.ref 90), u1, u2] [.int (I 1), .ref 90] SH S112 r)))))) else (∃ v101 S102, G sc MX11_wants 0 [some (.ref 90), some (.int (I 0)), some (.int (I 1))] [] SH S (rI v101 SH S102) ∧ (if I v101 = I 0 then G sc MX11_pageThere 66 [some (.ref 90), u1, u2] [] SH S102 r else (if I 4 ≤ I (S102 90 37) then (∃ v103 S104, G sc MX11_wants 0 [some (.ref 90), some (.int (I 0)), some (.int (I 2))] [] SH S102 (rI v103 SH S104) ∧ (if I v103 = I 0 then G sc MX11_pageThere 66 [some (.ref 90), u1, u2] [] SH S104 r else (if I (S104 90 18) ≤ I (S104 90 37) then G sc MX11_pageThere 59 [some (.ref 90), u1, u2] [.int (I 0), .ref 90] SH S104 r else G sc MX11_pageThere 59 [some (.ref 90), u1, u2] [.int (I 1), .ref 90] SH S104 r))) else (∃ v105 S106, G sc MX11_wants 0 [some (.ref 90), some (.int (I 1)), some (.int (I 2))] [] SH S102 (rI v105 SH S106) ∧ (if I v105 = I 0 then G sc MX11_pageThere 66 [some (.ref 90), u1, u2] [] SH S106 r else (if I (S106 90 18) ≤ I (S106 90 37) then G sc MX11_pageThere 59 [some (.ref 90), u1, u2] [.int (I 0), .ref 90] SH S106 r else G sc MX11_pageThere 59 [some (.ref 90), u1, u2] [.int (I 1), .ref 90] SH S106 r)))))))) → G sc MX11_pageThere 0 [some (.ref 90), u1, u2] [] SH S r := by
  refine t_ld (pc := 0) dX11_pageThere_0 rfl rfl rfl rfl rfl ?_
  refine t_ld (pc := 1) dX11_pageThere_1 rfl rfl rfl rfl rfl ?_
  refine t_getI (pc := 2) dX11_pageThere_2 rfl h0.1 rfl ?_
  refine t_iconst (pc := 5) dX11_pageThere_5 ?_
  refine t_ic_ne (pc := 6) 13 dX11_pageThere_6 rfl ?_ ?_
  · refine t_iconst (pc := 13) dX11_pageThere_13 ?_
    refine t_iconst (pc := 14) dX11_pageThere_14 ?_
    refine t_vcIN (pc := 15) dX11_pageThere_15 rfl rfl [] rfl rfl ⟨rfl, by decide, Nat.le_of_ble_eq_true rfl⟩ h0.1 fun v101 S102 => ?_
    refine t_if_eq (pc := 18) 66 dX11_pageThere_18 rfl ?_ ?_
    · exact id
    · refine t_ld (pc := 21) dX11_pageThere_21 rfl rfl rfl rfl rfl ?_
      refine t_ld (pc := 22) dX11_pageThere_22 rfl rfl rfl rfl rfl ?_
      refine t_getI (pc := 23) dX11_pageThere_23 rfl h0.1 rfl ?_
      refine t_iconst (pc := 26) dX11_pageThere_26 ?_
      refine t_ic_ge (pc := 27) 34 dX11_pageThere_27 rfl ?_ ?_
      · refine t_iconst (pc := 34) dX11_pageThere_34 ?_
        refine t_iconst (pc := 35) dX11_pageThere_35 ?_
        refine t_vcIN (pc := 36) dX11_pageThere_36 rfl rfl [] rfl rfl ⟨rfl, by decide, Nat.le_of_ble_eq_true rfl⟩ h0.1 fun v103 S104 => ?_
        refine t_if_eq (pc := 39) 66 dX11_pageThere_39 rfl ?_ ?_
        · exact id
        · refine t_ld (pc := 42) dX11_pageThere_42 rfl rfl rfl rfl rfl ?_
          refine t_ld (pc := 43) dX11_pageThere_43 rfl rfl rfl rfl rfl ?_
          refine t_getI (pc := 44) dX11_pageThere_44 rfl h0.1 rfl ?_
          refine t_ld (pc := 47) dX11_pageThere_47 rfl rfl rfl rfl rfl ?_
          refine t_getI (pc := 48) dX11_pageThere_48 rfl h0.1 rfl ?_
          refine t_ic_ge (pc := 51) 58 dX11_pageThere_51 rfl ?_ ?_
          · refine t_iconst (pc := 58) dX11_pageThere_58 ?_
            exact id
          · refine t_iconst (pc := 54) dX11_pageThere_54 ?_
            refine t_goto (pc := 55) 59 dX11_pageThere_55 rfl ?_
            exact id
      · refine t_iconst (pc := 30) dX11_pageThere_30 ?_
        refine t_goto (pc := 31) 35 dX11_pageThere_31 rfl ?_
        refine t_iconst (pc := 35) dX11_pageThere_35 ?_
        refine t_vcIN (pc := 36) dX11_pageThere_36 rfl rfl [] rfl rfl ⟨rfl, by decide, Nat.le_of_ble_eq_true rfl⟩ h0.1 fun v105 S106 => ?_
        refine t_if_eq (pc := 39) 66 dX11_pageThere_39 rfl ?_ ?_
        · exact id
        · refine t_ld (pc := 42) dX11_pageThere_42 rfl rfl rfl rfl rfl ?_
          refine t_ld (pc := 43) dX11_pageThere_43 rfl rfl rfl rfl rfl ?_
          refine t_getI (pc := 44) dX11_pageThere_44 rfl h0.1 rfl ?_
          refine t_ld (pc := 47) dX11_pageThere_47 rfl rfl rfl rfl rfl ?_
          refine t_getI (pc := 48) dX11_pageThere_48 rfl h0.1 rfl ?_
          refine t_ic_ge (pc := 51) 58 dX11_pageThere_51 rfl ?_ ?_
          · refine t_iconst (pc := 58) dX11_pageThere_58 ?_
            exact id
          · refine t_iconst (pc := 54) dX11_pageThere_54 ?_
            refine t_goto (pc := 55) 59 dX11_pageThere_55 rfl ?_
            exact id
  · refine t_iconst (pc := 9) dX11_pageThere_9 ?_
    refine t_goto (pc := 10) 14 dX11_pageThere_10 rfl ?_
    refine t_iconst (pc := 14) dX11_pageThere_14 ?_
    refine t_vcIN (pc := 15) dX11_pageThere_15 rfl rfl [] rfl rfl ⟨rfl, by decide, Nat.le_of_ble_eq_true rfl⟩ h0.1 fun v107 S108 => ?_
    refine t_if_eq (pc := 18) 66 dX11_pageThere_18 rfl ?_ ?_
    · exact id
    · refine t_ld (pc := 21) dX11_pageThere_21 rfl rfl rfl rfl rfl ?_
      refine t_ld (pc := 22) dX11_pageThere_22 rfl rfl rfl rfl rfl ?_
      refine t_getI (pc := 23) dX11_pageThere_23 rfl h0.1 rfl ?_
      refine t_iconst (pc := 26) dX11_pageThere_26 ?_
      refine t_ic_ge (pc := 27) 34 dX11_pageThere_27 rfl ?_ ?_
      · refine t_iconst (pc := 34) dX11_pageThere_34 ?_
        refine t_iconst (pc := 35) dX11_pageThere_35 ?_
        refine t_vcIN (pc := 36) dX11_pageThere_36 rfl rfl [] rfl rfl ⟨rfl, by decide, Nat.le_of_ble_eq_true rfl⟩ h0.1 fun v109 S110 => ?_
        refine t_if_eq (pc := 39) 66 dX11_pageThere_39 rfl ?_ ?_
        · exact id
        · refine t_ld (pc := 42) dX11_pageThere_42 rfl rfl rfl rfl rfl ?_
          refine t_ld (pc := 43) dX11_pageThere_43 rfl rfl rfl rfl rfl ?_
          refine t_getI (pc := 44) dX11_pageThere_44 rfl h0.1 rfl ?_
          refine t_ld (pc := 47) dX11_pageThere_47 rfl rfl rfl rfl rfl ?_
          refine t_getI (pc := 48) dX11_pageThere_48 rfl h0.1 rfl ?_
          refine t_ic_ge (pc := 51) 58 dX11_pageThere_51 rfl ?_ ?_
          · refine t_iconst (pc := 58) dX11_pageThere_58 ?_
            exact id
          · refine t_iconst (pc := 54) dX11_pageThere_54 ?_
            refine t_goto (pc := 55) 59 dX11_pageThere_55 rfl ?_
            exact id
      · refine t_iconst (pc := 30) dX11_pageThere_30 ?_
        refine t_goto (pc := 31) 35 dX11_pageThere_31 rfl ?_
        refine t_iconst (pc := 35) dX11_pageThere_35 ?_
        refine t_vcIN (pc := 36) dX11_pageThere_36 rfl rfl [] rfl rfl ⟨rfl, by decide, Nat.le_of_ble_eq_true rfl⟩ h0.1 fun v111 S112 => ?_
        refine t_if_eq (pc := 39) 66 dX11_pageThere_39 rfl ?_ ?_
        · exact id
        · refine t_ld (pc := 42) dX11_pageThere_42 rfl rfl rfl rfl rfl ?_
          refine t_ld (pc := 43) dX11_pageThere_43 rfl rfl rfl rfl rfl ?_
          refine t_getI (pc := 44) dX11_pageThere_44 rfl h0.1 rfl ?_
          refine t_ld (pc := 47) dX11_pageThere_47 rfl rfl rfl rfl rfl ?_
          refine t_getI (pc := 48) dX11_pageThere_48 rfl h0.1 rfl ?_
          refine t_ic_ge (pc := 51) 58 dX11_pageThere_51 rfl ?_ ?_
          · refine t_iconst (pc := 58) dX11_pageThere_58 ?_
            exact id
          · refine t_iconst (pc := 54) dX11_pageThere_54 ?_
            refine t_goto (pc := 55) 59 dX11_pageThere_55 rfl ?_
            exact id
theorem qX11_pageThere_59 {sc : Nat × (Nat → Int32)} {SH : List mCell} {S : mStore} {r : mR × mW} (h0 : sMod SH) {u1 : Option Value} {u2 : Option Value} {s0 : Int} : ((∃ v101 S102, G sc MX11_wants 0 [some (.ref 90), some (.int (I s0)), some (.int (I 3))] [] SH S (rI v101 SH S102) ∧ (if I v101 = I 0 then G sc MX11_pageThere 66 [some (.ref 90), u1, u2] [] SH S102 r else (∃ S103, G sc MX11_go 0 [some (.ref 90), none] [] SH S102 (rV SH S103) ∧ (if I (S103 90 36) = I 2 then G sc MX11_pageThere 91 [some (.ref 90), some (.int (I (S102 90 37))), u2] [.int (I 1), .ref 90] SH S103 r else G sc MX11_pageThere 91 [some (.ref 90), some (.int (I (S102 90 37))), u2] [.int (I 0), .ref 90] SH S103 r))))) → G sc MX11_pageThere 59 [some (.ref 90), u1, u2] [.int (I s0), .ref 90] SH S r := by
  refine t_iconst (pc := 59) dX11_pageThere_59 ?_
  refine t_vcIN (pc := 60) dX11_pageThere_60 rfl rfl [] rfl rfl ⟨rfl, by decide, Nat.le_of_ble_eq_true rfl⟩ h0.1 fun v101 S102 => ?_
  refine t_if_ne (pc := 63) 68 dX11_pageThere_63 rfl ?_ ?_
  · refine t_ld (pc := 68) dX11_pageThere_68 rfl rfl rfl rfl rfl ?_
    refine t_getI (pc := 69) dX11_pageThere_69 rfl h0.1 rfl ?_
    refine t_st (pc := 72) [some (.ref 90), some (.int (I (S102 90 37))), u2] dX11_pageThere_72 rfl rfl rfl rfl rfl rfl ?_
    refine t_ld (pc := 73) dX11_pageThere_73 rfl rfl rfl rfl rfl ?_
    refine t_vcVN (pc := 74) dX11_pageThere_74 rfl rfl [] rfl rfl ⟨rfl, by decide, Nat.le_of_ble_eq_true rfl⟩ h0.1 fun S103 => ?_
    refine t_ld (pc := 77) dX11_pageThere_77 rfl rfl rfl rfl rfl ?_
    refine t_ld (pc := 78) dX11_pageThere_78 rfl rfl rfl rfl rfl ?_
    refine t_getI (pc := 79) dX11_pageThere_79 rfl h0.1 rfl ?_
    refine t_iconst (pc := 82) dX11_pageThere_82 ?_
    refine t_ic_ne (pc := 83) 90 dX11_pageThere_83 rfl ?_ ?_
    · refine t_iconst (pc := 90) dX11_pageThere_90 ?_
      exact id
    · refine t_iconst (pc := 86) dX11_pageThere_86 ?_
      refine t_goto (pc := 87) 91 dX11_pageThere_87 rfl ?_
      exact id
  · exact id
theorem qX11_pageThere_66 {sc : Nat × (Nat → Int32)} {SH : List mCell} {S : mStore} {r : mR × mW} (h0 : sMod SH) {u1 : Option Value} {u2 : Option Value} : (r = rI (-1) SH S) → G sc MX11_pageThere 66 [some (.ref 90), u1, u2] [] SH S r := by
  refine t_iconst (pc := 66) dX11_pageThere_66 ?_
  exact t_iret (pc := 67) dX11_pageThere_67 rfl
theorem qX11_pageThere_91 {sc : Nat × (Nat → Int32)} {SH : List mCell} {S : mStore} {r : mR × mW} (h0 : sMod SH) {l1 : Int} {u2 : Option Value} {s0 : Int} : ((∃ v101 S102, G sc MX11_wants 0 [some (.ref 90), some (.int (I s0)), some (.int (I 1))] [] SH S (rI v101 SH S102) ∧ (if I v101 = I 0 then G sc MX11_pageThere 146 [some (.ref 90), some (.int (I l1)), u2] [] SH S102 r else (if I 12 ≤ I (S102 90 37) then G sc MX11_pageThere 113 [some (.ref 90), some (.int (I l1)), u2] [.int (I 0), .ref 90] SH S102 r else G sc MX11_pageThere 113 [some (.ref 90), some (.int (I l1)), u2] [.int (I 1), .ref 90] SH S102 r)))) → G sc MX11_pageThere 91 [some (.ref 90), some (.int (I l1)), u2] [.int (I s0), .ref 90] SH S r := by
  refine t_iconst (pc := 91) dX11_pageThere_91 ?_
  refine t_vcIN (pc := 92) dX11_pageThere_92 rfl rfl [] rfl rfl ⟨rfl, by decide, Nat.le_of_ble_eq_true rfl⟩ h0.1 fun v101 S102 => ?_
  refine t_if_eq (pc := 95) 146 dX11_pageThere_95 rfl ?_ ?_
  · exact id
  · refine t_ld (pc := 98) dX11_pageThere_98 rfl rfl rfl rfl rfl ?_
    refine t_ld (pc := 99) dX11_pageThere_99 rfl rfl rfl rfl rfl ?_
    refine t_getI (pc := 100) dX11_pageThere_100 rfl h0.1 rfl ?_
    refine t_bipush (pc := 103) dX11_pageThere_103 (by decide) ?_
    refine t_ic_ge (pc := 105) 112 dX11_pageThere_105 rfl ?_ ?_
    · refine t_iconst (pc := 112) dX11_pageThere_112 ?_
      exact id
    · refine t_iconst (pc := 108) dX11_pageThere_108 ?_
      refine t_goto (pc := 109) 113 dX11_pageThere_109 rfl ?_
      exact id
theorem qX11_pageThere_113 {sc : Nat × (Nat → Int32)} {SH : List mCell} {S : mStore} {r : mR × mW} (h0 : sMod SH) {l1 : Int} {u2 : Option Value} {s0 : Int} : ((∃ v101 S102, G sc MX11_wants 0 [some (.ref 90), some (.int (I s0)), some (.int (I 2))] [] SH S (rI v101 SH S102) ∧ (if I v101 = I 0 then G sc MX11_pageThere 146 [some (.ref 90), some (.int (I l1)), u2] [] SH S102 r else ((0 ≤ l1 ∧ l1 < 4) ∧ (if I (S102 95 l1) ≤ I (S102 90 37) then G sc MX11_pageThere 139 [some (.ref 90), some (.int (I l1)), u2] [.int (I 0), .ref 90] SH S102 r else G sc MX11_pageThere 139 [some (.ref 90), some (.int (I l1)), u2] [.int (I 1), .ref 90] SH S102 r))))) → G sc MX11_pageThere 113 [some (.ref 90), some (.int (I l1)), u2] [.int (I s0), .ref 90] SH S r := by
  refine t_iconst (pc := 113) dX11_pageThere_113 ?_
  refine t_vcIN (pc := 114) dX11_pageThere_114 rfl rfl [] rfl rfl ⟨rfl, by decide, Nat.le_of_ble_eq_true rfl⟩ h0.1 fun v101 S102 => ?_
  refine t_if_eq (pc := 117) 146 dX11_pageThere_117 rfl ?_ ?_
  · exact id
  · refine t_ld (pc := 120) dX11_pageThere_120 rfl rfl rfl rfl rfl ?_
    refine t_ld (pc := 121) dX11_pageThere_121 rfl rfl rfl rfl rfl ?_
    refine t_getI (pc := 122) dX11_pageThere_122 rfl h0.1 rfl ?_
    refine t_ld (pc := 125) dX11_pageThere_125 rfl rfl rfl rfl rfl ?_
    refine t_getR (pc := 126) dX11_pageThere_126 rfl h0.1 rfl ?_
    refine t_ld (pc := 129) dX11_pageThere_129 rfl rfl rfl rfl rfl ?_
    refine t_iaload (pc := 130) dX11_pageThere_130 h0.2.2.2.2.2.1 ?_
    refine t_ic_ge (pc := 131) 138 dX11_pageThere_131 rfl ?_ ?_
    · refine t_iconst (pc := 138) dX11_pageThere_138 ?_
      exact id
    · refine t_iconst (pc := 134) dX11_pageThere_134 ?_
      refine t_goto (pc := 135) 139 dX11_pageThere_135 rfl ?_
      exact id
theorem qX11_pageThere_139 {sc : Nat × (Nat → Int32)} {SH : List mCell} {S : mStore} {r : mR × mW} (h0 : sMod SH) {l1 : Int} {u2 : Option Value} {s0 : Int} : ((∃ v101 S102, G sc MX11_wants 0 [some (.ref 90), some (.int (I s0)), some (.int (I 3))] [] SH S (rI v101 SH S102) ∧ (if I v101 = I 0 then G sc MX11_pageThere 146 [some (.ref 90), some (.int (I l1)), u2] [] SH S102 r else ((0 ≤ l1 ∧ l1 < 5) ∧ (∃ S103, G sc MX11_go 0 [some (.ref 90), none] [] SH S102 (rV SH S103) ∧ r = rI ((S102 97 l1) + (S102 90 37)) SH S103))))) → G sc MX11_pageThere 139 [some (.ref 90), some (.int (I l1)), u2] [.int (I s0), .ref 90] SH S r := by
  refine t_iconst (pc := 139) dX11_pageThere_139 ?_
  refine t_vcIN (pc := 140) dX11_pageThere_140 rfl rfl [] rfl rfl ⟨rfl, by decide, Nat.le_of_ble_eq_true rfl⟩ h0.1 fun v101 S102 => ?_
  refine t_if_ne (pc := 143) 148 dX11_pageThere_143 rfl ?_ ?_
  · refine t_ld (pc := 148) dX11_pageThere_148 rfl rfl rfl rfl rfl ?_
    refine t_getR (pc := 149) dX11_pageThere_149 rfl h0.1 rfl ?_
    refine t_ld (pc := 152) dX11_pageThere_152 rfl rfl rfl rfl rfl ?_
    refine t_iaload (pc := 153) dX11_pageThere_153 h0.2.2.2.2.2.2.2.1 ?_
    refine t_ld (pc := 154) dX11_pageThere_154 rfl rfl rfl rfl rfl ?_
    refine t_getI (pc := 155) dX11_pageThere_155 rfl h0.1 rfl ?_
    refine t_iadd (pc := 158) dX11_pageThere_158 ?_
    refine t_st (pc := 159) [some (.ref 90), some (.int (I l1)), some (.int (I ((S102 97 l1) + (S102 90 37))))] dX11_pageThere_159 rfl rfl rfl rfl rfl rfl ?_
    refine t_ld (pc := 160) dX11_pageThere_160 rfl rfl rfl rfl rfl ?_
    refine t_vcVN (pc := 161) dX11_pageThere_161 rfl rfl [] rfl rfl ⟨rfl, by decide, Nat.le_of_ble_eq_true rfl⟩ h0.1 fun S103 => ?_
    refine t_ld (pc := 164) dX11_pageThere_164 rfl rfl rfl rfl rfl ?_
    exact t_iret (pc := 165) dX11_pageThere_165 rfl
  · exact id
theorem qX11_pageThere_146 {sc : Nat × (Nat → Int32)} {SH : List mCell} {S : mStore} {r : mR × mW} (h0 : sMod SH) {l1 : Int} {u2 : Option Value} : (r = rI (-1) SH S) → G sc MX11_pageThere 146 [some (.ref 90), some (.int (I l1)), u2] [] SH S r := by
  refine t_iconst (pc := 146) dX11_pageThere_146 ?_
  exact t_iret (pc := 147) dX11_pageThere_147 rfl
theorem qX11_order_0 {sc : Nat × (Nat → Int32)} {SH : List mCell} {S : mStore} {r : mR × mW} (h0 : sMod SH) {u1 : Option Value} : ((if I (S 90 36) = I 1 then (if I (S 90 38) < I 8 then G sc MX11_order 30 [some (.ref 90), some (.int (I (4 * (S 90 55))))] [.int (I 0), .ref 90] SH S r else G sc MX11_order 30 [some (.ref 90), some (.int (I (4 * (S 90 55))))] [.int (I 1), .ref 90] SH S r) else G sc MX11_order 30 [some (.ref 90), some (.int (I (4 * (S 90 55))))] [.int (I 0), .ref 90] SH S r)) → G sc MX11_order 0 [some (.ref 90), u1] [] SH S r := by
  refine t_iconst (pc := 0) dX11_order_0 ?_
  refine t_ld (pc := 1) dX11_order_1 rfl rfl rfl rfl rfl ?_
  refine t_getI (pc := 2) dX11_order_2 rfl h0.1 rfl ?_
  refine t_imul (pc := 5) dX11_order_5 ?_
  refine t_st (pc := 6) [some (.ref 90), some (.int (I (4 * (S 90 55))))] dX11_order_6 rfl rfl rfl rfl rfl rfl ?_
  refine t_ld (pc := 7) dX11_order_7 rfl rfl rfl rfl rfl ?_
  refine t_ld (pc := 8) dX11_order_8 rfl rfl rfl rfl rfl ?_
  refine t_getI (pc := 9) dX11_order_9 rfl h0.1 rfl ?_
  refine t_iconst (pc := 12) dX11_order_12 ?_
  refine t_ic_ne (pc := 13) 29 dX11_order_13 rfl ?_ ?_
  · refine t_iconst (pc := 29) dX11_order_29 ?_
    exact id
  · refine t_ld (pc := 16) dX11_order_16 rfl rfl rfl rfl rfl ?_
    refine t_getI (pc := 17) dX11_order_17 rfl h0.1 rfl ?_
    refine t_bipush (pc := 20) dX11_order_20 (by decide) ?_
    refine t_ic_lt (pc := 22) 29 dX11_order_22 rfl ?_ ?_
    · refine t_iconst (pc := 29) dX11_order_29 ?_
      exact id
    · refine t_iconst (pc := 25) dX11_order_25 ?_
      refine t_goto (pc := 26) 30 dX11_order_26 rfl ?_
      exact id
theorem qX11_order_30 {sc : Nat × (Nat → Int32)} {SH : List mCell} {S : mStore} {r : mR × mW} (h0 : sMod SH) {l1 : Int} {s0 : Int} : ((∃ v101 S102, G sc MX11_wants 0 [some (.ref 90), some (.int (I s0)), some (.int (I 1))] [] SH S (rI v101 SH S102) ∧ (if I v101 = I 0 then r = rV SH S102 else ((0 ≤ l1 ∧ l1 < 600) ∧ (∃ S103, G sc MX11_go 0 [some (.ref 90), none] [] SH (up S102 107 l1 (S102 90 38)) (rV SH S103) ∧ ((0 ≤ l1 ∧ l1 < 600) ∧ (if I (S103 107 l1) = I 11 then G sc MX11_order 74 [some (.ref 90), some (.int (I l1))] [] SH S103 r else ((0 ≤ l1 ∧ l1 < 600) ∧ (if I (S103 107 l1) = I 12 then G sc MX11_order 74 [some (.ref 90), some (.int (I l1))] [] SH S103 r else (∃ v104 S105, G sc MX11_pageThere 0 [some (.ref 90), none, none] [] SH S103 (rI v104 SH S105) ∧ ((0 ≤ l1 + 1 ∧ l1 + 1 < 600) ∧ (if I ((up S105 107 (l1 + 1) v104) 90 39) = I 0 then ((0 ≤ l1 ∧ l1 < 600) ∧ (if I ((up S105 107 (l1 + 1) v104) 107 l1) = I 9 then (∃ v106 S107, G sc MX11_pageThere 0 [some (.ref 90), none, none] [] SH (up S105 107 (l1 + 1) v104) (rI v106 SH S107) ∧ ((0 ≤ l1 + 2 ∧ l1 + 2 < 600) ∧ G sc MX11_order 150 [some (.ref 90), some (.int (I l1))] [] SH (up S107 107 (l1 + 2) v106) r)) else G sc MX11_order 150 [some (.ref 90), some (.int (I l1))] [] SH (up S105 107 (l1 + 1) v104) r)) else G sc MX11_order 150 [some (.ref 90), some (.int (I l1))] [] SH (up S105 107 (l1 + 1) v104) r)))))))))))) → G sc MX11_order 30 [some (.ref 90), some (.int (I l1))] [.int (I s0), .ref 90] SH S r := by
  refine t_iconst (pc := 30) dX11_order_30 ?_
  refine t_vcIN (pc := 31) dX11_order_31 rfl rfl [] rfl rfl ⟨rfl, by decide, Nat.le_of_ble_eq_true rfl⟩ h0.1 fun v101 S102 => ?_
  refine t_if_ne (pc := 34) 38 dX11_order_34 rfl ?_ ?_
  · refine t_ld (pc := 38) dX11_order_38 rfl rfl rfl rfl rfl ?_
    refine t_getR (pc := 39) dX11_order_39 rfl h0.1 rfl ?_
    refine t_ld (pc := 42) dX11_order_42 rfl rfl rfl rfl rfl ?_
    refine t_ld (pc := 43) dX11_order_43 rfl rfl rfl rfl rfl ?_
    refine t_getI (pc := 44) dX11_order_44 rfl h0.1 rfl ?_
    refine t_iastore (pc := 47) dX11_order_47 h0.2.2.2.2.2.2.2.2.2.2.2.2.2.2.2.2.2.1 ?_
    refine t_ld (pc := 48) dX11_order_48 rfl rfl rfl rfl rfl ?_
    refine t_vcVN (pc := 49) dX11_order_49 rfl rfl [] rfl rfl ⟨rfl, by decide, Nat.le_of_ble_eq_true rfl⟩ h0.1 fun S103 => ?_
    refine t_ld (pc := 52) dX11_order_52 rfl rfl rfl rfl rfl ?_
    refine t_getR (pc := 53) dX11_order_53 rfl h0.1 rfl ?_
    refine t_ld (pc := 56) dX11_order_56 rfl rfl rfl rfl rfl ?_
    refine t_iaload (pc := 57) dX11_order_57 h0.2.2.2.2.2.2.2.2.2.2.2.2.2.2.2.2.2.1 ?_
    refine t_bipush (pc := 58) dX11_order_58 (by decide) ?_
    refine t_ic_eq (pc := 60) 74 dX11_order_60 rfl ?_ ?_
    · exact id
    · refine t_ld (pc := 63) dX11_order_63 rfl rfl rfl rfl rfl ?_
      refine t_getR (pc := 64) dX11_order_64 rfl h0.1 rfl ?_
      refine t_ld (pc := 67) dX11_order_67 rfl rfl rfl rfl rfl ?_
      refine t_iaload (pc := 68) dX11_order_68 h0.2.2.2.2.2.2.2.2.2.2.2.2.2.2.2.2.2.1 ?_
      refine t_bipush (pc := 69) dX11_order_69 (by decide) ?_
      refine t_ic_ne (pc := 71) 108 dX11_order_71 rfl ?_ ?_
      · refine t_ld (pc := 108) dX11_order_108 rfl rfl rfl rfl rfl ?_
        refine t_getR (pc := 109) dX11_order_109 rfl h0.1 rfl ?_
        refine t_ld (pc := 112) dX11_order_112 rfl rfl rfl rfl rfl ?_
        refine t_iconst (pc := 113) dX11_order_113 ?_
        refine t_iadd (pc := 114) dX11_order_114 ?_
        refine t_ld (pc := 115) dX11_order_115 rfl rfl rfl rfl rfl ?_
        refine t_vcIN (pc := 116) dX11_order_116 rfl rfl [.int (I (l1 + 1)), .ref 107] rfl rfl ⟨rfl, by decide, Nat.le_of_ble_eq_true rfl⟩ h0.1 fun v104 S105 => ?_
        refine t_iastore (pc := 119) dX11_order_119 h0.2.2.2.2.2.2.2.2.2.2.2.2.2.2.2.2.2.1 ?_
        refine t_ld (pc := 120) dX11_order_120 rfl rfl rfl rfl rfl ?_
        refine t_getI (pc := 121) dX11_order_121 rfl h0.1 rfl ?_
        refine t_if_ne (pc := 124) 150 dX11_order_124 rfl ?_ ?_
        · exact id
        · refine t_ld (pc := 127) dX11_order_127 rfl rfl rfl rfl rfl ?_
          refine t_getR (pc := 128) dX11_order_128 rfl h0.1 rfl ?_
          refine t_ld (pc := 131) dX11_order_131 rfl rfl rfl rfl rfl ?_
          refine t_iaload (pc := 132) dX11_order_132 h0.2.2.2.2.2.2.2.2.2.2.2.2.2.2.2.2.2.1 ?_
          refine t_bipush (pc := 133) dX11_order_133 (by decide) ?_
          refine t_ic_ne (pc := 135) 150 dX11_order_135 rfl ?_ ?_
          · exact id
          · refine t_ld (pc := 138) dX11_order_138 rfl rfl rfl rfl rfl ?_
            refine t_getR (pc := 139) dX11_order_139 rfl h0.1 rfl ?_
            refine t_ld (pc := 142) dX11_order_142 rfl rfl rfl rfl rfl ?_
            refine t_iconst (pc := 143) dX11_order_143 ?_
            refine t_iadd (pc := 144) dX11_order_144 ?_
            refine t_ld (pc := 145) dX11_order_145 rfl rfl rfl rfl rfl ?_
            refine t_vcIN (pc := 146) dX11_order_146 rfl rfl [.int (I (l1 + 2)), .ref 107] rfl rfl ⟨rfl, by decide, Nat.le_of_ble_eq_true rfl⟩ h0.1 fun v106 S107 => ?_
            refine t_iastore (pc := 149) dX11_order_149 h0.2.2.2.2.2.2.2.2.2.2.2.2.2.2.2.2.2.1 ?_
            exact id
      · exact id
  · exact t_ret (pc := 37) dX11_order_37 rfl
theorem qX11_order_74 {sc : Nat × (Nat → Int32)} {SH : List mCell} {S : mStore} {r : mR × mW} (h0 : sMod SH) {l1 : Int} : (((0 ≤ l1 ∧ l1 < 600) ∧ (if I (S 107 l1) = I 11 then G sc MX11_order 101 [some (.ref 90), some (.int (I l1))] [.int (I 100), .int (I 1), .ref 90, .int (I (l1 + 1)), .ref 107] SH S r else G sc MX11_order 101 [some (.ref 90), some (.int (I l1))] [.int (I 20), .int (I 1), .ref 90, .int (I (l1 + 1)), .ref 107] SH S r))) → G sc MX11_order 74 [some (.ref 90), some (.int (I l1))] [] SH S r := by
  refine t_ld (pc := 74) dX11_order_74 rfl rfl rfl rfl rfl ?_
  refine t_getR (pc := 75) dX11_order_75 rfl h0.1 rfl ?_
  refine t_ld (pc := 78) dX11_order_78 rfl rfl rfl rfl rfl ?_
  refine t_iconst (pc := 79) dX11_order_79 ?_
  refine t_iadd (pc := 80) dX11_order_80 ?_
  refine t_ld (pc := 81) dX11_order_81 rfl rfl rfl rfl rfl ?_
  refine t_iconst (pc := 82) dX11_order_82 ?_
  refine t_ld (pc := 83) dX11_order_83 rfl rfl rfl rfl rfl ?_
  refine t_getR (pc := 84) dX11_order_84 rfl h0.1 rfl ?_
  refine t_ld (pc := 87) dX11_order_87 rfl rfl rfl rfl rfl ?_
  refine t_iaload (pc := 88) dX11_order_88 h0.2.2.2.2.2.2.2.2.2.2.2.2.2.2.2.2.2.1 ?_
  refine t_bipush (pc := 89) dX11_order_89 (by decide) ?_
  refine t_ic_ne (pc := 91) 99 dX11_order_91 rfl ?_ ?_
  · refine t_bipush (pc := 99) dX11_order_99 (by decide) ?_
    exact id
  · refine t_bipush (pc := 94) dX11_order_94 (by decide) ?_
    refine t_goto (pc := 96) 101 dX11_order_96 rfl ?_
    exact id
theorem qX11_order_101 {sc : Nat × (Nat → Int32)} {SH : List mCell} {S : mStore} {r : mR × mW} (h0 : sMod SH) {l1 : Int} {s0 : Int} {s1 : Int} {s3 : Int} : ((∃ v101 S102, G sc MX11_number 0 [some (.ref 90), some (.int (I s1)), some (.int (I s0)), none] [] SH S (rI v101 SH S102) ∧ ((0 ≤ s3 ∧ s3 < 600) ∧ G sc MX11_order 215 [some (.ref 90), some (.int (I l1))] [] SH (up S102 107 s3 v101) r))) → G sc MX11_order 101 [some (.ref 90), some (.int (I l1))] [.int (I s0), .int (I s1), .ref 90, .int (I s3), .ref 107] SH S r := by
  refine t_vcIN (pc := 101) dX11_order_101 rfl rfl [.int (I s3), .ref 107] rfl rfl ⟨rfl, by decide, Nat.le_of_ble_eq_true rfl⟩ h0.1 fun v101 S102 => ?_
  refine t_iastore (pc := 104) dX11_order_104 h0.2.2.2.2.2.2.2.2.2.2.2.2.2.2.2.2.2.1 ?_
  refine t_goto (pc := 105) 215 dX11_order_105 rfl ?_
  exact id
theorem qX11_order_150 {sc : Nat × (Nat → Int32)} {SH : List mCell} {S : mStore} {r : mR × mW} (h0 : sMod SH) {l1 : Int} : ((if I (S 90 39) = I 0 then ((0 ≤ l1 ∧ l1 < 600) ∧ (if I (S 107 l1) = I 8 then (∃ v101 S102, G sc MX11_number 0 [some (.ref 90), some (.int (I 0)), some (.int (I 3)), none] [] SH S (rI v101 SH S102) ∧ ((0 ≤ l1 + 2 ∧ l1 + 2 < 600) ∧ G sc MX11_order 182 [some (.ref 90), some (.int (I l1))] [] SH (up S102 107 (l1 + 2) v101) r)) else G sc MX11_order 182 [some (.ref 90), some (.int (I l1))] [] SH S r)) else G sc MX11_order 182 [some (.ref 90), some (.int (I l1))] [] SH S r)) → G sc MX11_order 150 [some (.ref 90), some (.int (I l1))] [] SH S r := by
  refine t_ld (pc := 150) dX11_order_150 rfl rfl rfl rfl rfl ?_
  refine t_getI (pc := 151) dX11_order_151 rfl h0.1 rfl ?_
  refine t_if_ne (pc := 154) 182 dX11_order_154 rfl ?_ ?_
  · exact id
  · refine t_ld (pc := 157) dX11_order_157 rfl rfl rfl rfl rfl ?_
    refine t_getR (pc := 158) dX11_order_158 rfl h0.1 rfl ?_
    refine t_ld (pc := 161) dX11_order_161 rfl rfl rfl rfl rfl ?_
    refine t_iaload (pc := 162) dX11_order_162 h0.2.2.2.2.2.2.2.2.2.2.2.2.2.2.2.2.2.1 ?_
    refine t_bipush (pc := 163) dX11_order_163 (by decide) ?_
    refine t_ic_ne (pc := 165) 182 dX11_order_165 rfl ?_ ?_
    · exact id
    · refine t_ld (pc := 168) dX11_order_168 rfl rfl rfl rfl rfl ?_
      refine t_getR (pc := 169) dX11_order_169 rfl h0.1 rfl ?_
      refine t_ld (pc := 172) dX11_order_172 rfl rfl rfl rfl rfl ?_
      refine t_iconst (pc := 173) dX11_order_173 ?_
      refine t_iadd (pc := 174) dX11_order_174 ?_
      refine t_ld (pc := 175) dX11_order_175 rfl rfl rfl rfl rfl ?_
      refine t_iconst (pc := 176) dX11_order_176 ?_
      refine t_iconst (pc := 177) dX11_order_177 ?_
      refine t_vcIN (pc := 178) dX11_order_178 rfl rfl [.int (I (l1 + 2)), .ref 107] rfl rfl ⟨rfl, by decide, Nat.le_of_ble_eq_true rfl⟩ h0.1 fun v101 S102 => ?_
      refine t_iastore (pc := 181) dX11_order_181 h0.2.2.2.2.2.2.2.2.2.2.2.2.2.2.2.2.2.1 ?_
      exact id
theorem qX11_order_182 {sc : Nat × (Nat → Int32)} {SH : List mCell} {S : mStore} {r : mR × mW} (h0 : sMod SH) {l1 : Int} : ((if I (S 90 39) = I 0 then ((0 ≤ l1 ∧ l1 < 600) ∧ (if I (S 107 l1) = I 8 then (∃ v101 S102, G sc MX11_number 0 [some (.ref 90), some (.int (I 0)), some (.int (I 15)), none] [] SH S (rI v101 SH S102) ∧ ((0 ≤ l1 + 3 ∧ l1 + 3 < 600) ∧ G sc MX11_order 215 [some (.ref 90), some (.int (I l1))] [] SH (up S102 107 (l1 + 3) v101) r)) else G sc MX11_order 215 [some (.ref 90), some (.int (I l1))] [] SH S r)) else G sc MX11_order 215 [some (.ref 90), some (.int (I l1))] [] SH S r)) → G sc MX11_order 182 [some (.ref 90), some (.int (I l1))] [] SH S r := by
  refine t_ld (pc := 182) dX11_order_182 rfl rfl rfl rfl rfl ?_
  refine t_getI (pc := 183) dX11_order_183 rfl h0.1 rfl ?_
  refine t_if_ne (pc := 186) 215 dX11_order_186 rfl ?_ ?_
  · exact id
  · refine t_ld (pc := 189) dX11_order_189 rfl rfl rfl rfl rfl ?_
    refine t_getR (pc := 190) dX11_order_190 rfl h0.1 rfl ?_
    refine t_ld (pc := 193) dX11_order_193 rfl rfl rfl rfl rfl ?_
    refine t_iaload (pc := 194) dX11_order_194 h0.2.2.2.2.2.2.2.2.2.2.2.2.2.2.2.2.2.1 ?_
    refine t_bipush (pc := 195) dX11_order_195 (by decide) ?_
    refine t_ic_ne (pc := 197) 215 dX11_order_197 rfl ?_ ?_
    · exact id
    · refine t_ld (pc := 200) dX11_order_200 rfl rfl rfl rfl rfl ?_
      refine t_getR (pc := 201) dX11_order_201 rfl h0.1 rfl ?_
      refine t_ld (pc := 204) dX11_order_204 rfl rfl rfl rfl rfl ?_
      refine t_iconst (pc := 205) dX11_order_205 ?_
      refine t_iadd (pc := 206) dX11_order_206 ?_
      refine t_ld (pc := 207) dX11_order_207 rfl rfl rfl rfl rfl ?_
      refine t_iconst (pc := 208) dX11_order_208 ?_
      refine t_bipush (pc := 209) dX11_order_209 (by decide) ?_
      refine t_vcIN (pc := 211) dX11_order_211 rfl rfl [.int (I (l1 + 3)), .ref 107] rfl rfl ⟨rfl, by decide, Nat.le_of_ble_eq_true rfl⟩ h0.1 fun v101 S102 => ?_
      refine t_iastore (pc := 214) dX11_order_214 h0.2.2.2.2.2.2.2.2.2.2.2.2.2.2.2.2.2.1 ?_
      exact id
theorem qX11_order_215 {sc : Nat × (Nat → Int32)} {SH : List mCell} {S : mStore} {r : mR × mW} (h0 : sMod SH) {l1 : Int} : (r = rV SH (up S 90 55 ((S 90 55) + 1))) → G sc MX11_order 215 [some (.ref 90), some (.int (I l1))] [] SH S r := by
  refine t_ld (pc := 215) dX11_order_215 rfl rfl rfl rfl rfl ?_
  refine t_dup (pc := 216) dX11_order_216 rfl ?_
  refine t_getI (pc := 217) dX11_order_217 rfl h0.1 rfl ?_
  refine t_iconst (pc := 220) dX11_order_220 ?_
  refine t_iadd (pc := 221) dX11_order_221 ?_
  refine t_putI (pc := 222) dX11_order_222 rfl rfl (Or.inl rfl) h0.1 rfl ?_
  exact t_ret (pc := 225) dX11_order_225 rfl
theorem qX11_isDone_0 {sc : Nat × (Nat → Int32)} {SH : List mCell} {S : mStore} {r : mR × mW} (h0 : sMod SH) {l1 : Int} {u2 : Option Value} : (((0 ≤ l1 + 1 ∧ l1 + 1 < 600) ∧ ((0 ≤ l1 ∧ l1 < 600) ∧ (swp (S 107 l1) 8 ((0 ≤ 2 ∧ 2 < 137400) ∧ (if I ((S 91 2) + (S 107 (l1 + 1))) ≤ I 9999 then (∃ v101 S102, G sc MX11_ticksOf 0 [some (.ref 90), some (.int (I 0)), some (.int (I (S 107 (l1 + 1)))), none, none] [] SH S (rI v101 SH S102) ∧ ((I 1 = I 0 ∨ I 1 = I 1) ∧ r = rI 1 SH S102)) else ((I 0 = I 0 ∨ I 0 = I 1) ∧ r = rI 0 SH S))) [((0 ≤ l1 + 2 ∧ l1 + 2 < 600) ∧ ((0 ≤ l1 + 3 ∧ l1 + 3 < 600) ∧ (∃ v103 S104, G sc MX11_writesCell 0 [some (.ref 90), some (.int (I 0)), some (.int (I (S 107 (l1 + 1)))), some (.int (I (S 107 (l1 + 2)))), some (.int (I (S 107 (l1 + 3))))] [] SH S (rI v103 SH S104) ∧ (if I v103 = I (-1) then ((I 0 = I 0 ∨ I 0 = I 1) ∧ r = rI 0 SH S104) else ((I 1 = I 0 ∨ I 1 = I 1) ∧ r = rI 1 SH S104))))), ((0 ≤ l1 + 2 ∧ l1 + 2 < 600) ∧ (∃ S105, G sc MX11_saysAs 0 [some (.ref 90), some (.int (I 0)), some (.int (I (S 107 (l1 + 2)))), none] [] SH S (rV SH S105) ∧ (∃ v106 S107, G sc MX11_writes 0 [some (.ref 90), some (.int (I 0)), some (.int (I (S 107 (l1 + 1)))), none, none, none, none] [] SH S105 (rI v106 SH S107) ∧ (if I v106 = I (-1) then ((I 0 = I 0 ∨ I 0 = I 1) ∧ r = rI 0 SH S107) else ((I 1 = I 0 ∨ I 1 = I 1) ∧ r = rI 1 SH S107))))), (∃ v108 S109, G sc MX11_drops 0 [some (.ref 90), some (.int (I 0)), some (.int (I (S 107 (l1 + 1)))), none] [] SH S (rI v108 SH S109) ∧ (if I v108 = I (-1) then ((I 0 = I 0 ∨ I 0 = I 1) ∧ r = rI 0 SH S109) else ((I 1 = I 0 ∨ I 1 = I 1) ∧ r = rI 1 SH S109))), (∃ v110 S111, G sc MX11_scans 0 [some (.ref 90), some (.int (I 0)), some (.int (I (S 107 (l1 + 1)))), none, none, none] [] SH S (rI v110 SH S111) ∧ ((I 1 = I 0 ∨ I 1 = I 1) ∧ r = rI 1 SH S111))])))) → G sc MX11_isDone 0 [some (.ref 90), some (.int (I l1)), u2] [] SH S r := by
  refine t_ld (pc := 0) dX11_isDone_0 rfl rfl rfl rfl rfl ?_
  refine t_getR (pc := 1) dX11_isDone_1 rfl h0.1 rfl ?_
  refine t_ld (pc := 4) dX11_isDone_4 rfl rfl rfl rfl rfl ?_
  refine t_iconst (pc := 5) dX11_isDone_5 ?_
  refine t_iadd (pc := 6) dX11_isDone_6 ?_
  refine t_iaload (pc := 7) dX11_isDone_7 h0.2.2.2.2.2.2.2.2.2.2.2.2.2.2.2.2.2.1 ?_
  refine t_st (pc := 8) [some (.ref 90), some (.int (I l1)), some (.int (I (S 107 (l1 + 1))))] dX11_isDone_8 rfl rfl rfl rfl rfl rfl ?_
  refine t_ld (pc := 9) dX11_isDone_9 rfl rfl rfl rfl rfl ?_
  refine t_getR (pc := 10) dX11_isDone_10 rfl h0.1 rfl ?_
  refine t_ld (pc := 13) dX11_isDone_13 rfl rfl rfl rfl rfl ?_
  refine t_iaload (pc := 14) dX11_isDone_14 h0.2.2.2.2.2.2.2.2.2.2.2.2.2.2.2.2.2.1 ?_
  refine t_switch (pc := 15) 130 dX11_isDone_15 (by decide) rfl rfl ?_ ?_
  · refine t_ld (pc := 130) dX11_isDone_130 rfl rfl rfl rfl rfl ?_
    refine t_getR (pc := 131) dX11_isDone_131 rfl h0.1 rfl ?_
    refine t_iconst (pc := 134) dX11_isDone_134 ?_
    refine t_iaload (pc := 135) dX11_isDone_135 h0.2.1 ?_
    refine t_ld (pc := 136) dX11_isDone_136 rfl rfl rfl rfl rfl ?_
    refine t_iadd (pc := 137) dX11_isDone_137 ?_
    refine t_sipush (pc := 138) dX11_isDone_138 (by decide) ?_
    refine t_ic_le (pc := 141) 146 dX11_isDone_141 rfl ?_ ?_
    · refine t_ld (pc := 146) dX11_isDone_146 rfl rfl rfl rfl rfl ?_
      refine t_iconst (pc := 147) dX11_isDone_147 ?_
      refine t_ld (pc := 148) dX11_isDone_148 rfl rfl rfl rfl rfl ?_
      refine t_vcIN (pc := 149) dX11_isDone_149 rfl rfl [] rfl rfl ⟨rfl, by decide, Nat.le_of_ble_eq_true rfl⟩ h0.1 fun v101 S102 => ?_
      refine t_pop (pc := 152) dX11_isDone_152 rfl ?_
      refine t_iconst (pc := 153) dX11_isDone_153 ?_
      exact t_zret (pc := 154) dX11_isDone_154 rfl
    · refine t_iconst (pc := 144) dX11_isDone_144 ?_
      exact t_zret (pc := 145) dX11_isDone_145 rfl
  · refine ⟨⟨44, rfl, ?_⟩, ⟨⟨76, rfl, ?_⟩, ⟨⟨105, rfl, ?_⟩, ⟨⟨121, rfl, ?_⟩, trivial⟩⟩⟩⟩
    · refine t_ld (pc := 44) dX11_isDone_44 rfl rfl rfl rfl rfl ?_
      refine t_iconst (pc := 45) dX11_isDone_45 ?_
      refine t_ld (pc := 46) dX11_isDone_46 rfl rfl rfl rfl rfl ?_
      refine t_ld (pc := 47) dX11_isDone_47 rfl rfl rfl rfl rfl ?_
      refine t_getR (pc := 48) dX11_isDone_48 rfl h0.1 rfl ?_
      refine t_ld (pc := 51) dX11_isDone_51 rfl rfl rfl rfl rfl ?_
      refine t_iconst (pc := 52) dX11_isDone_52 ?_
      refine t_iadd (pc := 53) dX11_isDone_53 ?_
      refine t_iaload (pc := 54) dX11_isDone_54 h0.2.2.2.2.2.2.2.2.2.2.2.2.2.2.2.2.2.1 ?_
      refine t_ld (pc := 55) dX11_isDone_55 rfl rfl rfl rfl rfl ?_
      refine t_getR (pc := 56) dX11_isDone_56 rfl h0.1 rfl ?_
      refine t_ld (pc := 59) dX11_isDone_59 rfl rfl rfl rfl rfl ?_
      refine t_iconst (pc := 60) dX11_isDone_60 ?_
      refine t_iadd (pc := 61) dX11_isDone_61 ?_
      refine t_iaload (pc := 62) dX11_isDone_62 h0.2.2.2.2.2.2.2.2.2.2.2.2.2.2.2.2.2.1 ?_
      refine t_vcIN (pc := 63) dX11_isDone_63 rfl rfl [] rfl rfl ⟨rfl, by decide, Nat.le_of_ble_eq_true rfl⟩ h0.1 fun v103 S104 => ?_
      refine t_iconst (pc := 66) dX11_isDone_66 ?_
      refine t_ic_eq (pc := 67) 74 dX11_isDone_67 rfl ?_ ?_
      · refine t_iconst (pc := 74) dX11_isDone_74 ?_
        exact t_zret (pc := 75) dX11_isDone_75 rfl
      · refine t_iconst (pc := 70) dX11_isDone_70 ?_
        refine t_goto (pc := 71) 75 dX11_isDone_71 rfl ?_
        exact t_zret (pc := 75) dX11_isDone_75 rfl
    · refine t_ld (pc := 76) dX11_isDone_76 rfl rfl rfl rfl rfl ?_
      refine t_iconst (pc := 77) dX11_isDone_77 ?_
      refine t_ld (pc := 78) dX11_isDone_78 rfl rfl rfl rfl rfl ?_
      refine t_getR (pc := 79) dX11_isDone_79 rfl h0.1 rfl ?_
      refine t_ld (pc := 82) dX11_isDone_82 rfl rfl rfl rfl rfl ?_
      refine t_iconst (pc := 83) dX11_isDone_83 ?_
      refine t_iadd (pc := 84) dX11_isDone_84 ?_
      refine t_iaload (pc := 85) dX11_isDone_85 h0.2.2.2.2.2.2.2.2.2.2.2.2.2.2.2.2.2.1 ?_
      refine t_vcVN (pc := 86) dX11_isDone_86 rfl rfl [] rfl rfl ⟨rfl, by decide, Nat.le_of_ble_eq_true rfl⟩ h0.1 fun S105 => ?_
      refine t_ld (pc := 89) dX11_isDone_89 rfl rfl rfl rfl rfl ?_
      refine t_iconst (pc := 90) dX11_isDone_90 ?_
      refine t_ld (pc := 91) dX11_isDone_91 rfl rfl rfl rfl rfl ?_
      refine t_vcIN (pc := 92) dX11_isDone_92 rfl rfl [] rfl rfl ⟨rfl, by decide, Nat.le_of_ble_eq_true rfl⟩ h0.1 fun v106 S107 => ?_
      refine t_iconst (pc := 95) dX11_isDone_95 ?_
      refine t_ic_eq (pc := 96) 103 dX11_isDone_96 rfl ?_ ?_
      · refine t_iconst (pc := 103) dX11_isDone_103 ?_
        exact t_zret (pc := 104) dX11_isDone_104 rfl
      · refine t_iconst (pc := 99) dX11_isDone_99 ?_
        refine t_goto (pc := 100) 104 dX11_isDone_100 rfl ?_
        exact t_zret (pc := 104) dX11_isDone_104 rfl
    · refine t_ld (pc := 105) dX11_isDone_105 rfl rfl rfl rfl rfl ?_
      refine t_iconst (pc := 106) dX11_isDone_106 ?_
      refine t_ld (pc := 107) dX11_isDone_107 rfl rfl rfl rfl rfl ?_
      refine t_vcIN (pc := 108) dX11_isDone_108 rfl rfl [] rfl rfl ⟨rfl, by decide, Nat.le_of_ble_eq_true rfl⟩ h0.1 fun v108 S109 => ?_
      refine t_iconst (pc := 111) dX11_isDone_111 ?_
      refine t_ic_eq (pc := 112) 119 dX11_isDone_112 rfl ?_ ?_
      · refine t_iconst (pc := 119) dX11_isDone_119 ?_
        exact t_zret (pc := 120) dX11_isDone_120 rfl
      · refine t_iconst (pc := 115) dX11_isDone_115 ?_
        refine t_goto (pc := 116) 120 dX11_isDone_116 rfl ?_
        exact t_zret (pc := 120) dX11_isDone_120 rfl
    · refine t_ld (pc := 121) dX11_isDone_121 rfl rfl rfl rfl rfl ?_
      refine t_iconst (pc := 122) dX11_isDone_122 ?_
      refine t_ld (pc := 123) dX11_isDone_123 rfl rfl rfl rfl rfl ?_
      refine t_vcIN (pc := 124) dX11_isDone_124 rfl rfl [] rfl rfl ⟨rfl, by decide, Nat.le_of_ble_eq_true rfl⟩ h0.1 fun v110 S111 => ?_
      refine t_pop (pc := 127) dX11_isDone_127 rfl ?_
      refine t_iconst (pc := 128) dX11_isDone_128 ?_
      exact t_zret (pc := 129) dX11_isDone_129 rfl
theorem qX11_orders_0 {sc : Nat × (Nat → Int32)} {SH : List mCell} {S : mStore} {r : mR × mW} (h0 : sMod SH) {l1 : Int} {u2 : Option Value} : ((∃ v101 S102, G sc MX11_reads 0 [some (.ref 90), some (.int (I l1))] [] SH S (rI v101 SH S102) ∧ (if I v101 = I 0 then r = rI 0 SH S102 else G sc MX11_orders 15 [some (.ref 90), some (.int (I l1)), u2] [] SH (up S102 90 55 0) r))) → G sc MX11_orders 0 [some (.ref 90), some (.int (I l1)), u2] [] SH S r := by
  refine t_ld (pc := 0) dX11_orders_0 rfl rfl rfl rfl rfl ?_
  refine t_ld (pc := 1) dX11_orders_1 rfl rfl rfl rfl rfl ?_
  refine t_vcIN (pc := 2) dX11_orders_2 rfl rfl [] rfl rfl ⟨rfl, by decide, Nat.le_of_ble_eq_true rfl⟩ h0.1 fun v101 S102 => ?_
  refine t_if_ne (pc := 5) 10 dX11_orders_5 rfl ?_ ?_
  · refine t_ld (pc := 10) dX11_orders_10 rfl rfl rfl rfl rfl ?_
    refine t_iconst (pc := 11) dX11_orders_11 ?_
    refine t_putI (pc := 12) dX11_orders_12 rfl rfl (Or.inl rfl) h0.1 rfl ?_
    exact id
  · refine t_iconst (pc := 8) dX11_orders_8 ?_
    exact t_iret (pc := 9) dX11_orders_9 rfl
theorem qX11_orders_15 {sc : Nat × (Nat → Int32)} {SH : List mCell} {S : mStore} {r : mR × mW} (h0 : sMod SH) {l1 : Int} {u2 : Option Value} : ((if I (S 90 39) = I 0 then (if I (S 90 36) = I 0 then (if I (S 90 39) = I 0 then (∃ S102, G sc MX11_copies 0 [some (.ref 90), some (.int (I 0)), some (.int (I 1654)), some (.int (I 1654)), none] [] SH S (rV SH S102) ∧ G sc MX11_orders 78 [some (.ref 90), some (.int (I l1)), some (.int (I 0))] [] SH S102 r) else ((0 ≤ 0 ∧ 0 < 6) ∧ ((0 ≤ 0 ∧ 0 < 6) ∧ r = rI ((-10) - ((up S 94 0 ((S 94 0) + 1)) 90 39)) SH (up S 94 0 ((S 94 0) + 1))))) else (∃ S103, G sc MX11_order 0 [some (.ref 90), none] [] SH S (rV SH S103) ∧ (∃ S104, G sc MX11_ends 0 [some (.ref 90)] [] SH S103 (rV SH S104) ∧ G sc MX11_orders 15 [some (.ref 90), some (.int (I l1)), u2] [] SH S104 r))) else (if I (S 90 39) = I 0 then (∃ S101, G sc MX11_copies 0 [some (.ref 90), some (.int (I 0)), some (.int (I 1654)), some (.int (I 1654)), none] [] SH S (rV SH S101) ∧ G sc MX11_orders 78 [some (.ref 90), some (.int (I l1)), some (.int (I 0))] [] SH S101 r) else ((0 ≤ 0 ∧ 0 < 6) ∧ ((0 ≤ 0 ∧ 0 < 6) ∧ r = rI ((-10) - ((up S 94 0 ((S 94 0) + 1)) 90 39)) SH (up S 94 0 ((S 94 0) + 1))))))) → G sc MX11_orders 15 [some (.ref 90), some (.int (I l1)), u2] [] SH S r := by
  refine t_ld (pc := 15) dX11_orders_15 rfl rfl rfl rfl rfl ?_
  refine t_getI (pc := 16) dX11_orders_16 rfl h0.1 rfl ?_
  refine t_if_ne (pc := 19) 40 dX11_orders_19 rfl ?_ ?_
  · refine t_ld (pc := 40) dX11_orders_40 rfl rfl rfl rfl rfl ?_
    refine t_getI (pc := 41) dX11_orders_41 rfl h0.1 rfl ?_
    refine t_if_eq (pc := 44) 65 dX11_orders_44 rfl ?_ ?_
    · refine t_ld (pc := 65) dX11_orders_65 rfl rfl rfl rfl rfl ?_
      refine t_iconst (pc := 66) dX11_orders_66 ?_
      refine t_sipush (pc := 67) dX11_orders_67 (by decide) ?_
      refine t_sipush (pc := 70) dX11_orders_70 (by decide) ?_
      refine t_vcVN (pc := 73) dX11_orders_73 rfl rfl [] rfl rfl ⟨rfl, by decide, Nat.le_of_ble_eq_true rfl⟩ h0.1 fun S101 => ?_
      refine t_iconst (pc := 76) dX11_orders_76 ?_
      refine t_st (pc := 77) [some (.ref 90), some (.int (I l1)), some (.int (I 0))] dX11_orders_77 rfl rfl rfl rfl rfl rfl ?_
      exact id
    · refine t_ld (pc := 47) dX11_orders_47 rfl rfl rfl rfl rfl ?_
      refine t_getR (pc := 48) dX11_orders_48 rfl h0.1 rfl ?_
      refine t_iconst (pc := 51) dX11_orders_51 ?_
      refine t_dup2 (pc := 52) dX11_orders_52 rfl rfl ?_
      refine t_iaload (pc := 53) dX11_orders_53 h0.2.2.2.2.1 ?_
      refine t_iconst (pc := 54) dX11_orders_54 ?_
      refine t_iadd (pc := 55) dX11_orders_55 ?_
      refine t_iastore (pc := 56) dX11_orders_56 h0.2.2.2.2.1 ?_
      refine t_bipush (pc := 57) dX11_orders_57 (by decide) ?_
      refine t_ld (pc := 59) dX11_orders_59 rfl rfl rfl rfl rfl ?_
      refine t_getI (pc := 60) dX11_orders_60 rfl h0.1 rfl ?_
      refine t_isub (pc := 63) dX11_orders_63 ?_
      exact t_iret (pc := 64) dX11_orders_64 rfl
  · refine t_ld (pc := 22) dX11_orders_22 rfl rfl rfl rfl rfl ?_
    refine t_getI (pc := 23) dX11_orders_23 rfl h0.1 rfl ?_
    refine t_if_eq (pc := 26) 40 dX11_orders_26 rfl ?_ ?_
    · refine t_ld (pc := 40) dX11_orders_40 rfl rfl rfl rfl rfl ?_
      refine t_getI (pc := 41) dX11_orders_41 rfl h0.1 rfl ?_
      refine t_if_eq (pc := 44) 65 dX11_orders_44 rfl ?_ ?_
      · refine t_ld (pc := 65) dX11_orders_65 rfl rfl rfl rfl rfl ?_
        refine t_iconst (pc := 66) dX11_orders_66 ?_
        refine t_sipush (pc := 67) dX11_orders_67 (by decide) ?_
        refine t_sipush (pc := 70) dX11_orders_70 (by decide) ?_
        refine t_vcVN (pc := 73) dX11_orders_73 rfl rfl [] rfl rfl ⟨rfl, by decide, Nat.le_of_ble_eq_true rfl⟩ h0.1 fun S102 => ?_
        refine t_iconst (pc := 76) dX11_orders_76 ?_
        refine t_st (pc := 77) [some (.ref 90), some (.int (I l1)), some (.int (I 0))] dX11_orders_77 rfl rfl rfl rfl rfl rfl ?_
        exact id
      · refine t_ld (pc := 47) dX11_orders_47 rfl rfl rfl rfl rfl ?_
        refine t_getR (pc := 48) dX11_orders_48 rfl h0.1 rfl ?_
        refine t_iconst (pc := 51) dX11_orders_51 ?_
        refine t_dup2 (pc := 52) dX11_orders_52 rfl rfl ?_
        refine t_iaload (pc := 53) dX11_orders_53 h0.2.2.2.2.1 ?_
        refine t_iconst (pc := 54) dX11_orders_54 ?_
        refine t_iadd (pc := 55) dX11_orders_55 ?_
        refine t_iastore (pc := 56) dX11_orders_56 h0.2.2.2.2.1 ?_
        refine t_bipush (pc := 57) dX11_orders_57 (by decide) ?_
        refine t_ld (pc := 59) dX11_orders_59 rfl rfl rfl rfl rfl ?_
        refine t_getI (pc := 60) dX11_orders_60 rfl h0.1 rfl ?_
        refine t_isub (pc := 63) dX11_orders_63 ?_
        exact t_iret (pc := 64) dX11_orders_64 rfl
    · refine t_ld (pc := 29) dX11_orders_29 rfl rfl rfl rfl rfl ?_
      refine t_vcVN (pc := 30) dX11_orders_30 rfl rfl [] rfl rfl ⟨rfl, by decide, Nat.le_of_ble_eq_true rfl⟩ h0.1 fun S103 => ?_
      refine t_ld (pc := 33) dX11_orders_33 rfl rfl rfl rfl rfl ?_
      refine t_vcVN (pc := 34) dX11_orders_34 rfl rfl [] rfl rfl ⟨rfl, by decide, Nat.le_of_ble_eq_true rfl⟩ h0.1 fun S104 => ?_
      refine t_goto (pc := 37) 15 dX11_orders_37 rfl ?_
      exact id
theorem qX11_orders_78 {sc : Nat × (Nat → Int32)} {SH : List mCell} {S : mStore} {r : mR × mW} (h0 : sMod SH) {l1 : Int} {l2 : Int} : ((if I (S 90 55) ≤ I l2 then (if I (S 90 55) ≤ I 0 then r = rI (S 90 55) SH S else (∃ S101, G sc MX11_keeps 0 [some (.ref 90), some (.int (I 1654))] [] SH S (rV SH S101) ∧ r = rI (S101 90 55) SH S101)) else (∃ v102 S103, G sc MX11_isDone 0 [some (.ref 90), some (.int (I (4 * l2))), none] [] SH S (rI v102 SH S103) ∧ (if I v102 = I 0 then (∃ S104, G sc MX11_copies 0 [some (.ref 90), some (.int (I 1654)), some (.int (I 0)), some (.int (I 1654)), none] [] SH S103 (rV SH S104) ∧ ((0 ≤ 1 ∧ 1 < 6) ∧ ((0 ≤ 1 ∧ 1 < 6) ∧ r = rI ((-100) - l2) SH (up S104 94 1 ((S104 94 1) + 1))))) else G sc MX11_orders 78 [some (.ref 90), some (.int (I l1)), some (.int (I (l2 + 1)))] [] SH S103 r)))) → G sc MX11_orders 78 [some (.ref 90), some (.int (I l1)), some (.int (I l2))] [] SH S r := by
  refine t_ld (pc := 78) dX11_orders_78 rfl rfl rfl rfl rfl ?_
  refine t_ld (pc := 79) dX11_orders_79 rfl rfl rfl rfl rfl ?_
  refine t_getI (pc := 80) dX11_orders_80 rfl h0.1 rfl ?_
  refine t_ic_ge (pc := 83) 131 dX11_orders_83 rfl ?_ ?_
  · refine t_ld (pc := 131) dX11_orders_131 rfl rfl rfl rfl rfl ?_
    refine t_getI (pc := 132) dX11_orders_132 rfl h0.1 rfl ?_
    refine t_if_le (pc := 135) 145 dX11_orders_135 rfl ?_ ?_
    · refine t_ld (pc := 145) dX11_orders_145 rfl rfl rfl rfl rfl ?_
      refine t_getI (pc := 146) dX11_orders_146 rfl h0.1 rfl ?_
      exact t_iret (pc := 149) dX11_orders_149 rfl
    · refine t_ld (pc := 138) dX11_orders_138 rfl rfl rfl rfl rfl ?_
      refine t_sipush (pc := 139) dX11_orders_139 (by decide) ?_
      refine t_vcVN (pc := 142) dX11_orders_142 rfl rfl [] rfl rfl ⟨rfl, by decide, Nat.le_of_ble_eq_true rfl⟩ h0.1 fun S101 => ?_
      refine t_ld (pc := 145) dX11_orders_145 rfl rfl rfl rfl rfl ?_
      refine t_getI (pc := 146) dX11_orders_146 rfl h0.1 rfl ?_
      exact t_iret (pc := 149) dX11_orders_149 rfl
  · refine t_ld (pc := 86) dX11_orders_86 rfl rfl rfl rfl rfl ?_
    refine t_iconst (pc := 87) dX11_orders_87 ?_
    refine t_ld (pc := 88) dX11_orders_88 rfl rfl rfl rfl rfl ?_
    refine t_imul (pc := 89) dX11_orders_89 ?_
    refine t_vcIN (pc := 90) dX11_orders_90 rfl rfl [] rfl rfl ⟨rfl, by decide, Nat.le_of_ble_eq_true rfl⟩ h0.1 fun v102 S103 => ?_
    refine t_if_eq (pc := 93) 99 dX11_orders_93 rfl ?_ ?_
    · refine t_ld (pc := 99) dX11_orders_99 rfl rfl rfl rfl rfl ?_
      refine t_sipush (pc := 100) dX11_orders_100 (by decide) ?_
      refine t_iconst (pc := 103) dX11_orders_103 ?_
      refine t_sipush (pc := 104) dX11_orders_104 (by decide) ?_
      refine t_vcVN (pc := 107) dX11_orders_107 rfl rfl [] rfl rfl ⟨rfl, by decide, Nat.le_of_ble_eq_true rfl⟩ h0.1 fun S104 => ?_
      refine t_ld (pc := 110) dX11_orders_110 rfl rfl rfl rfl rfl ?_
      refine t_getR (pc := 111) dX11_orders_111 rfl h0.1 rfl ?_
      refine t_iconst (pc := 114) dX11_orders_114 ?_
      refine t_dup2 (pc := 115) dX11_orders_115 rfl rfl ?_
      refine t_iaload (pc := 116) dX11_orders_116 h0.2.2.2.2.1 ?_
      refine t_iconst (pc := 117) dX11_orders_117 ?_
      refine t_iadd (pc := 118) dX11_orders_118 ?_
      refine t_iastore (pc := 119) dX11_orders_119 h0.2.2.2.2.1 ?_
      refine t_bipush (pc := 120) dX11_orders_120 (by decide) ?_
      refine t_ld (pc := 122) dX11_orders_122 rfl rfl rfl rfl rfl ?_
      refine t_isub (pc := 123) dX11_orders_123 ?_
      exact t_iret (pc := 124) dX11_orders_124 rfl
    · refine t_goto (pc := 96) 125 dX11_orders_96 rfl ?_
      refine t_iinc (pc := 125) [some (.ref 90), some (.int (I l1)), some (.int (I (l2 + 1)))] dX11_orders_125 rfl rfl ?_
      refine t_goto (pc := 128) 78 dX11_orders_128 rfl ?_
      exact id
theorem qX11_fault_0 {sc : Nat × (Nat → Int32)} {SH : List mCell} {S : mStore} {r : mR × mW} (h0 : sMod SH) : (r = rI ((up S 90 4 0) 90 26) SH (up S 90 4 0)) → G sc MX11_fault 0 [some (.ref 90)] [] SH S r := by
  refine t_ld (pc := 0) dX11_fault_0 rfl rfl rfl rfl rfl ?_
  refine t_iconst (pc := 1) dX11_fault_1 ?_
  refine t_putI (pc := 2) dX11_fault_2 rfl rfl (Or.inl rfl) h0.1 rfl ?_
  refine t_ld (pc := 5) dX11_fault_5 rfl rfl rfl rfl rfl ?_
  refine t_getI (pc := 6) dX11_fault_6 rfl h0.1 rfl ?_
  exact t_iret (pc := 9) dX11_fault_9 rfl
theorem qX11_merged_0 {sc : Nat × (Nat → Int32)} {SH : List mCell} {S : mStore} {r : mR × mW} (h0 : sMod SH) {l1 : Int} {u2 : Option Value} {u3 : Option Value} : (G sc MX11_merged 4 [some (.ref 90), some (.int (I l1)), some (.int (I 0)), some (.int (I 0))] [] SH S r) → G sc MX11_merged 0 [some (.ref 90), some (.int (I l1)), u2, u3] [] SH S r := by
  refine t_iconst (pc := 0) dX11_merged_0 ?_
  refine t_st (pc := 1) [some (.ref 90), some (.int (I l1)), some (.int (I 0)), u3] dX11_merged_1 rfl rfl rfl rfl rfl rfl ?_
  refine t_iconst (pc := 2) dX11_merged_2 ?_
  refine t_st (pc := 3) [some (.ref 90), some (.int (I l1)), some (.int (I 0)), some (.int (I 0))] dX11_merged_3 rfl rfl rfl rfl rfl rfl ?_
  exact id
theorem qX11_merged_4 {sc : Nat × (Nat → Int32)} {SH : List mCell} {S : mStore} {r : mR × mW} (h0 : sMod SH) {l1 : Int} {l2 : Int} {l3 : Int} : ((if I (S 90 19) ≤ I l3 then r = rI l2 SH S else (∃ v101 S102, G sc MX11_isMerged 0 [some (.ref 90), some (.int (I l1)), some (.int (I l3))] [] SH S (rI v101 SH S102) ∧ (if I v101 = I 0 then G sc MX11_merged 4 [some (.ref 90), some (.int (I l1)), some (.int (I (l2 + 0))), some (.int (I (l3 + 1)))] [] SH S102 r else G sc MX11_merged 4 [some (.ref 90), some (.int (I l1)), some (.int (I (l2 + 1))), some (.int (I (l3 + 1)))] [] SH S102 r)))) → G sc MX11_merged 4 [some (.ref 90), some (.int (I l1)), some (.int (I l2)), some (.int (I l3))] [] SH S r := by
  refine t_ld (pc := 4) dX11_merged_4 rfl rfl rfl rfl rfl ?_
  refine t_ld (pc := 5) dX11_merged_5 rfl rfl rfl rfl rfl ?_
  refine t_getI (pc := 6) dX11_merged_6 rfl h0.1 rfl ?_
  refine t_ic_ge (pc := 9) 35 dX11_merged_9 rfl ?_ ?_
  · refine t_ld (pc := 35) dX11_merged_35 rfl rfl rfl rfl rfl ?_
    exact t_iret (pc := 36) dX11_merged_36 rfl
  · refine t_ld (pc := 12) dX11_merged_12 rfl rfl rfl rfl rfl ?_
    refine t_ld (pc := 13) dX11_merged_13 rfl rfl rfl rfl rfl ?_
    refine t_ld (pc := 14) dX11_merged_14 rfl rfl rfl rfl rfl ?_
    refine t_ld (pc := 15) dX11_merged_15 rfl rfl rfl rfl rfl ?_
    refine t_vcIN (pc := 16) dX11_merged_16 rfl rfl [.int (I l2)] rfl rfl ⟨rfl, by decide, Nat.le_of_ble_eq_true rfl⟩ h0.1 fun v101 S102 => ?_
    refine t_if_eq (pc := 19) 26 dX11_merged_19 rfl ?_ ?_
    · refine t_iconst (pc := 26) dX11_merged_26 ?_
      refine t_iadd (pc := 27) dX11_merged_27 ?_
      refine t_st (pc := 28) [some (.ref 90), some (.int (I l1)), some (.int (I (l2 + 0))), some (.int (I l3))] dX11_merged_28 rfl rfl rfl rfl rfl rfl ?_
      refine t_iinc (pc := 29) [some (.ref 90), some (.int (I l1)), some (.int (I (l2 + 0))), some (.int (I (l3 + 1)))] dX11_merged_29 rfl rfl ?_
      refine t_goto (pc := 32) 4 dX11_merged_32 rfl ?_
      exact id
    · refine t_iconst (pc := 22) dX11_merged_22 ?_
      refine t_goto (pc := 23) 27 dX11_merged_23 rfl ?_
      refine t_iadd (pc := 27) dX11_merged_27 ?_
      refine t_st (pc := 28) [some (.ref 90), some (.int (I l1)), some (.int (I (l2 + 1))), some (.int (I l3))] dX11_merged_28 rfl rfl rfl rfl rfl rfl ?_
      refine t_iinc (pc := 29) [some (.ref 90), some (.int (I l1)), some (.int (I (l2 + 1))), some (.int (I (l3 + 1)))] dX11_merged_29 rfl rfl ?_
      refine t_goto (pc := 32) 4 dX11_merged_32 rfl ?_
      exact id
theorem qX11_waiting_0 {sc : Nat × (Nat → Int32)} {SH : List mCell} {S : mStore} {r : mR × mW} (h0 : sMod SH) {l1 : Int} : (((0 ≤ l1 + 1363 ∧ l1 + 1363 < 137400) ∧ ((0 ≤ (l1 + 1363) + 97 ∧ (l1 + 1363) + 97 < 137400) ∧ ((0 ≤ (l1 + 1363) + 194 ∧ (l1 + 1363) + 194 < 137400) ∧ r = rI (((S 91 (l1 + 1363)) + (S 91 ((l1 + 1363) + 97))) + (S 91 ((l1 + 1363) + 194))) SH S)))) → G sc MX11_waiting 0 [some (.ref 90), some (.int (I l1))] [] SH S r := by
  refine t_ld (pc := 0) dX11_waiting_0 rfl rfl rfl rfl rfl ?_
  refine t_getR (pc := 1) dX11_waiting_1 rfl h0.1 rfl ?_
  refine t_ld (pc := 4) dX11_waiting_4 rfl rfl rfl rfl rfl ?_
  refine t_sipush (pc := 5) dX11_waiting_5 (by decide) ?_
  refine t_iadd (pc := 8) dX11_waiting_8 ?_
  refine t_iaload (pc := 9) dX11_waiting_9 h0.2.1 ?_
  refine t_ld (pc := 10) dX11_waiting_10 rfl rfl rfl rfl rfl ?_
  refine t_getR (pc := 11) dX11_waiting_11 rfl h0.1 rfl ?_
  refine t_ld (pc := 14) dX11_waiting_14 rfl rfl rfl rfl rfl ?_
  refine t_sipush (pc := 15) dX11_waiting_15 (by decide) ?_
  refine t_iadd (pc := 18) dX11_waiting_18 ?_
  refine t_bipush (pc := 19) dX11_waiting_19 (by decide) ?_
  refine t_iadd (pc := 21) dX11_waiting_21 ?_
  refine t_iaload (pc := 22) dX11_waiting_22 h0.2.1 ?_
  refine t_iadd (pc := 23) dX11_waiting_23 ?_
  refine t_ld (pc := 24) dX11_waiting_24 rfl rfl rfl rfl rfl ?_
  refine t_getR (pc := 25) dX11_waiting_25 rfl h0.1 rfl ?_
  refine t_ld (pc := 28) dX11_waiting_28 rfl rfl rfl rfl rfl ?_
  refine t_sipush (pc := 29) dX11_waiting_29 (by decide) ?_
  refine t_iadd (pc := 32) dX11_waiting_32 ?_
  refine t_sipush (pc := 33) dX11_waiting_33 (by decide) ?_
  refine t_iadd (pc := 36) dX11_waiting_36 ?_
  refine t_iaload (pc := 37) dX11_waiting_37 h0.2.1 ?_
  refine t_iadd (pc := 38) dX11_waiting_38 ?_
  exact t_iret (pc := 39) dX11_waiting_39 rfl
theorem qX11_absent_0 {sc : Nat × (Nat → Int32)} {SH : List mCell} {S : mStore} {r : mR × mW} (h0 : sMod SH) {l1 : Int} {l2 : Int} {u3 : Option Value} {u4 : Option Value} : (G sc MX11_absent 5 [some (.ref 90), some (.int (I l1)), some (.int (I l2)), some (.int (I 0)), some (.int (I l1))] [] SH S r) → G sc MX11_absent 0 [some (.ref 90), some (.int (I l1)), some (.int (I l2)), u3, u4] [] SH S r := by
  refine t_iconst (pc := 0) dX11_absent_0 ?_
  refine t_st (pc := 1) [some (.ref 90), some (.int (I l1)), some (.int (I l2)), some (.int (I 0)), u4] dX11_absent_1 rfl rfl rfl rfl rfl rfl ?_
  refine t_ld (pc := 2) dX11_absent_2 rfl rfl rfl rfl rfl ?_
  refine t_st (pc := 3) [some (.ref 90), some (.int (I l1)), some (.int (I l2)), some (.int (I 0)), some (.int (I l1))] dX11_absent_3 rfl rfl rfl rfl rfl rfl ?_
  exact id
theorem qX11_absent_5 {sc : Nat × (Nat → Int32)} {SH : List mCell} {S : mStore} {r : mR × mW} (h0 : sMod SH) {l1 : Int} {l2 : Int} {l3 : Int} {l4 : Int} : ((if I l2 ≤ I l4 then r = rI l3 SH S else ((0 ≤ 16 + l4 ∧ 16 + l4 < 137400) ∧ (if I (S 91 (16 + l4)) = I (-1) then G sc MX11_absent 5 [some (.ref 90), some (.int (I l1)), some (.int (I l2)), some (.int (I (l3 + 1))), some (.int (I (l4 + 1)))] [] SH S r else G sc MX11_absent 5 [some (.ref 90), some (.int (I l1)), some (.int (I l2)), some (.int (I (l3 + 0))), some (.int (I (l4 + 1)))] [] SH S r)))) → G sc MX11_absent 5 [some (.ref 90), some (.int (I l1)), some (.int (I l2)), some (.int (I l3)), some (.int (I l4))] [] SH S r := by
  refine t_ld (pc := 5) dX11_absent_5 rfl rfl rfl rfl rfl ?_
  refine t_ld (pc := 7) dX11_absent_7 rfl rfl rfl rfl rfl ?_
  refine t_ic_ge (pc := 8) 39 dX11_absent_8 rfl ?_ ?_
  · refine t_ld (pc := 39) dX11_absent_39 rfl rfl rfl rfl rfl ?_
    exact t_iret (pc := 40) dX11_absent_40 rfl
  · refine t_ld (pc := 11) dX11_absent_11 rfl rfl rfl rfl rfl ?_
    refine t_ld (pc := 12) dX11_absent_12 rfl rfl rfl rfl rfl ?_
    refine t_getR (pc := 13) dX11_absent_13 rfl h0.1 rfl ?_
    refine t_bipush (pc := 16) dX11_absent_16 (by decide) ?_
    refine t_ld (pc := 18) dX11_absent_18 rfl rfl rfl rfl rfl ?_
    refine t_iadd (pc := 20) dX11_absent_20 ?_
    refine t_iaload (pc := 21) dX11_absent_21 h0.2.1 ?_
    refine t_iconst (pc := 22) dX11_absent_22 ?_
    refine t_ic_ne (pc := 23) 30 dX11_absent_23 rfl ?_ ?_
    · refine t_iconst (pc := 30) dX11_absent_30 ?_
      refine t_iadd (pc := 31) dX11_absent_31 ?_
      refine t_st (pc := 32) [some (.ref 90), some (.int (I l1)), some (.int (I l2)), some (.int (I (l3 + 0))), some (.int (I l4))] dX11_absent_32 rfl rfl rfl rfl rfl rfl ?_
      refine t_iinc (pc := 33) [some (.ref 90), some (.int (I l1)), some (.int (I l2)), some (.int (I (l3 + 0))), some (.int (I (l4 + 1)))] dX11_absent_33 rfl rfl ?_
      refine t_goto (pc := 36) 5 dX11_absent_36 rfl ?_
      exact id
    · refine t_iconst (pc := 26) dX11_absent_26 ?_
      refine t_goto (pc := 27) 31 dX11_absent_27 rfl ?_
      refine t_iadd (pc := 31) dX11_absent_31 ?_
      refine t_st (pc := 32) [some (.ref 90), some (.int (I l1)), some (.int (I l2)), some (.int (I (l3 + 1))), some (.int (I l4))] dX11_absent_32 rfl rfl rfl rfl rfl rfl ?_
      refine t_iinc (pc := 33) [some (.ref 90), some (.int (I l1)), some (.int (I l2)), some (.int (I (l3 + 1))), some (.int (I (l4 + 1)))] dX11_absent_33 rfl rfl ?_
      refine t_goto (pc := 36) 5 dX11_absent_36 rfl ?_
      exact id
