-- needs: 43.tshape
/-! ===== the program as conditions (gen_vc.py) ===== -/
theorem qX9_clear_0 {sc : Nat × (Nat → Int32)} {SH : List mCell} {S : mStore} {r : mR × mW} {o0 g0 : Nat} (h0 : sTree SH o0 g0) : ((∃ S101, G sc MJ7_fill_53178 0 [some (.ref g0), some (.int (I (-1))), none, none] [] SH S (rV SH S101) ∧ r = rV SH S101)) → G sc MX9_clear 0 [some (.ref o0)] [] SH S r := by
  refine tt_ld (M := MX9_clear) (pc := 0) dX9_clear_0 rfl rfl rfl rfl rfl ?_
  refine tt_getR (M := MX9_clear) (pc := 1) dX9_clear_1 rfl h0.1 rfl ?_
  refine tt_iconst (M := MX9_clear) (pc := 4) dX9_clear_4 ?_
  refine tt_scVN (M := MX9_clear) (pc := 5) dX9_clear_5 rfl [] rfl rfl ⟨rfl, by decide, Nat.le_of_ble_eq_true rfl⟩ fun S101 => ?_
  exact tt_ret (M := MX9_clear) (pc := 8) dX9_clear_8 rfl
theorem qX9_become_0 {sc : Nat × (Nat → Int32)} {SH : List mCell} {S : mStore} {r : mR × mW} {o0 g0 o1 g1 : Nat} (h0 : sTree SH o0 g0) (h1 : sTree SH o1 g1) : (r = rV SH (cpy S g1 g0 99)) → G sc MX9_become 0 [some (.ref o0), some (.ref o1)] [] SH S r := by
  refine tt_ld (M := MX9_become) (pc := 0) dX9_become_0 rfl rfl rfl rfl rfl ?_
  refine tt_getR (M := MX9_become) (pc := 1) dX9_become_1 rfl h1.1 rfl ?_
  refine tt_iconst (M := MX9_become) (pc := 4) dX9_become_4 ?_
  refine tt_ld (M := MX9_become) (pc := 5) dX9_become_5 rfl rfl rfl rfl rfl ?_
  refine tt_getR (M := MX9_become) (pc := 6) dX9_become_6 rfl h0.1 rfl ?_
  refine tt_iconst (M := MX9_become) (pc := 9) dX9_become_9 ?_
  refine tt_bipush (M := MX9_become) (pc := 10) dX9_become_10 (by decide) ?_
  refine tt_copy (M := MX9_become) (pc := 12) dX9_become_12 rfl [] rfl ⟨rfl, by decide, Nat.le_of_ble_eq_true rfl⟩ h1.2 h0.2 (by decide) ?_
  exact tt_ret (M := MX9_become) (pc := 15) dX9_become_15 rfl
theorem qX9_size_0 {sc : Nat × (Nat → Int32)} {SH : List mCell} {S : mStore} {r : mR × mW} {o0 g0 : Nat} (h0 : sTree SH o0 g0) {u1 : Option Value} {u2 : Option Value} : (G sc MX9_size 4 [some (.ref o0), some (.int (I 0)), some (.int (I 0))] [] SH S r) → G sc MX9_size 0 [some (.ref o0), u1, u2] [] SH S r := by
  refine tt_iconst (M := MX9_size) (pc := 0) dX9_size_0 ?_
  refine tt_st (M := MX9_size) (pc := 1) [some (.ref o0), some (.int (I 0)), u2] dX9_size_1 rfl rfl rfl rfl rfl rfl ?_
  refine tt_iconst (M := MX9_size) (pc := 2) dX9_size_2 ?_
  refine tt_st (M := MX9_size) (pc := 3) [some (.ref o0), some (.int (I 0)), some (.int (I 0))] dX9_size_3 rfl rfl rfl rfl rfl rfl ?_
  exact id
theorem qX9_size_4 {sc : Nat × (Nat → Int32)} {SH : List mCell} {S : mStore} {r : mR × mW} {o0 g0 : Nat} (h0 : sTree SH o0 g0) {l1 : Int} {l2 : Int} : ((if I 99 ≤ I l2 then r = rI l1 SH S else (((0 : Int) ≤ l2 ∧ l2 < 99) ∧ (if I (S g0 l2) = I (-1) then G sc MX9_size 4 [some (.ref o0), some (.int (I l1)), some (.int (I (l2 + 1)))] [] SH S r else G sc MX9_size 4 [some (.ref o0), some (.int (I (l1 + 1))), some (.int (I (l2 + 1)))] [] SH S r)))) → G sc MX9_size 4 [some (.ref o0), some (.int (I l1)), some (.int (I l2))] [] SH S r := by
  refine tt_ld (M := MX9_size) (pc := 4) dX9_size_4 rfl rfl rfl rfl rfl ?_
  refine tt_bipush (M := MX9_size) (pc := 5) dX9_size_5 (by decide) ?_
  refine tt_ic_ge (M := MX9_size) (pc := 7) 29 dX9_size_7 rfl ?_ ?_
  · refine tt_ld (M := MX9_size) (pc := 29) dX9_size_29 rfl rfl rfl rfl rfl ?_
    exact tt_iret (M := MX9_size) (pc := 30) dX9_size_30 rfl
  · refine tt_ld (M := MX9_size) (pc := 10) dX9_size_10 rfl rfl rfl rfl rfl ?_
    refine tt_getR (M := MX9_size) (pc := 11) dX9_size_11 rfl h0.1 rfl ?_
    refine tt_ld (M := MX9_size) (pc := 14) dX9_size_14 rfl rfl rfl rfl rfl ?_
    refine tt_iaload (M := MX9_size) (pc := 15) dX9_size_15 h0.2 rfl ?_
    refine tt_iconst (M := MX9_size) (pc := 16) dX9_size_16 ?_
    refine tt_ic_eq (M := MX9_size) (pc := 17) 23 dX9_size_17 rfl ?_ ?_
    · refine tt_iinc (M := MX9_size) (pc := 23) [some (.ref o0), some (.int (I l1)), some (.int (I (l2 + 1)))] dX9_size_23 rfl rfl ?_
      refine tt_goto (M := MX9_size) (pc := 26) 4 dX9_size_26 rfl ?_
      exact id
    · refine tt_iinc (M := MX9_size) (pc := 20) [some (.ref o0), some (.int (I (l1 + 1))), some (.int (I l2))] dX9_size_20 rfl rfl ?_
      refine tt_iinc (M := MX9_size) (pc := 23) [some (.ref o0), some (.int (I (l1 + 1))), some (.int (I (l2 + 1)))] dX9_size_23 rfl rfl ?_
      refine tt_goto (M := MX9_size) (pc := 26) 4 dX9_size_26 rfl ?_
      exact id
theorem qX9_slotOf_0 {sc : Nat × (Nat → Int32)} {SH : List mCell} {S : mStore} {r : mR × mW} {o0 g0 : Nat} (h0 : sTree SH o0 g0) {l1 : Int} {u2 : Option Value} : (G sc MX9_slotOf 2 [some (.ref o0), some (.int (I l1)), some (.int (I 0))] [] SH S r) → G sc MX9_slotOf 0 [some (.ref o0), some (.int (I l1)), u2] [] SH S r := by
  refine tt_iconst (M := MX9_slotOf) (pc := 0) dX9_slotOf_0 ?_
  refine tt_st (M := MX9_slotOf) (pc := 1) [some (.ref o0), some (.int (I l1)), some (.int (I 0))] dX9_slotOf_1 rfl rfl rfl rfl rfl rfl ?_
  exact id
theorem qX9_slotOf_2 {sc : Nat × (Nat → Int32)} {SH : List mCell} {S : mStore} {r : mR × mW} {o0 g0 : Nat} (h0 : sTree SH o0 g0) {l1 : Int} {l2 : Int} : ((if I 99 ≤ I l2 then r = rI (-1) SH S else (((0 : Int) ≤ l2 ∧ l2 < 99) ∧ (if I (S g0 l2) = I l1 then r = rI l2 SH S else G sc MX9_slotOf 2 [some (.ref o0), some (.int (I l1)), some (.int (I (l2 + 1)))] [] SH S r)))) → G sc MX9_slotOf 2 [some (.ref o0), some (.int (I l1)), some (.int (I l2))] [] SH S r := by
  refine tt_ld (M := MX9_slotOf) (pc := 2) dX9_slotOf_2 rfl rfl rfl rfl rfl ?_
  refine tt_bipush (M := MX9_slotOf) (pc := 3) dX9_slotOf_3 (by decide) ?_
  refine tt_ic_ge (M := MX9_slotOf) (pc := 5) 26 dX9_slotOf_5 rfl ?_ ?_
  · refine tt_iconst (M := MX9_slotOf) (pc := 26) dX9_slotOf_26 ?_
    exact tt_iret (M := MX9_slotOf) (pc := 27) dX9_slotOf_27 rfl
  · refine tt_ld (M := MX9_slotOf) (pc := 8) dX9_slotOf_8 rfl rfl rfl rfl rfl ?_
    refine tt_getR (M := MX9_slotOf) (pc := 9) dX9_slotOf_9 rfl h0.1 rfl ?_
    refine tt_ld (M := MX9_slotOf) (pc := 12) dX9_slotOf_12 rfl rfl rfl rfl rfl ?_
    refine tt_iaload (M := MX9_slotOf) (pc := 13) dX9_slotOf_13 h0.2 rfl ?_
    refine tt_ld (M := MX9_slotOf) (pc := 14) dX9_slotOf_14 rfl rfl rfl rfl rfl ?_
    refine tt_ic_ne (M := MX9_slotOf) (pc := 15) 20 dX9_slotOf_15 rfl ?_ ?_
    · refine tt_iinc (M := MX9_slotOf) (pc := 20) [some (.ref o0), some (.int (I l1)), some (.int (I (l2 + 1)))] dX9_slotOf_20 rfl rfl ?_
      refine tt_goto (M := MX9_slotOf) (pc := 23) 2 dX9_slotOf_23 rfl ?_
      exact id
    · refine tt_ld (M := MX9_slotOf) (pc := 18) dX9_slotOf_18 rfl rfl rfl rfl rfl ?_
      exact tt_iret (M := MX9_slotOf) (pc := 19) dX9_slotOf_19 rfl
theorem qX9_leave_0 {sc : Nat × (Nat → Int32)} {SH : List mCell} {S : mStore} {r : mR × mW} {o0 g0 : Nat} (h0 : sTree SH o0 g0) {l1 : Int} {u2 : Option Value} {u3 : Option Value} {u4 : Option Value} {u5 : Option Value} {u6 : Option Value} {u7 : Option Value} : ((∃ v101 S102, G sc MX9_slotOf 0 [some (.ref o0), some (.int (I l1)), none] [] SH S (rI v101 SH S102) ∧ (if I v101 = I (-1) then r = rV SH S102 else (if I l1 < I 0 then r = rV SH S102 else (if I l1 < I 48 then (((0 : Int) ≤ 2 * l1 ∧ 2 * l1 < 99) ∧ (((0 : Int) ≤ (2 * l1) + 1 ∧ (2 * l1) + 1 < 99) ∧ (if I (S102 g0 (2 * l1)) = I (-1) then (if I (S102 g0 (2 * l1)) = I (-1) then (((0 : Int) ≤ v101 ∧ v101 < 99) ∧ (((0 : Int) ≤ 2 * l1 ∧ 2 * l1 < 99) ∧ (((0 : Int) ≤ (2 * l1) + 1 ∧ (2 * l1) + 1 < 99) ∧ r = rV SH (up (up (up S102 g0 v101 (S102 g0 ((2 * l1) + 1))) g0 (2 * l1) (-1)) g0 ((2 * l1) + 1) (-1))))) else (((0 : Int) ≤ v101 ∧ v101 < 99) ∧ (((0 : Int) ≤ 2 * l1 ∧ 2 * l1 < 99) ∧ (((0 : Int) ≤ (2 * l1) + 1 ∧ (2 * l1) + 1 < 99) ∧ r = rV SH (up (up (up S102 g0 v101 (S102 g0 (2 * l1))) g0 (2 * l1) (-1)) g0 ((2 * l1) + 1) (-1)))))) else (if I (S102 g0 ((2 * l1) + 1)) = I (-1) then (if I (S102 g0 (2 * l1)) = I (-1) then (((0 : Int) ≤ v101 ∧ v101 < 99) ∧ (((0 : Int) ≤ 2 * l1 ∧ 2 * l1 < 99) ∧ (((0 : Int) ≤ (2 * l1) + 1 ∧ (2 * l1) + 1 < 99) ∧ r = rV SH (up (up (up S102 g0 v101 (S102 g0 ((2 * l1) + 1))) g0 (2 * l1) (-1)) g0 ((2 * l1) + 1) (-1))))) else (((0 : Int) ≤ v101 ∧ v101 < 99) ∧ (((0 : Int) ≤ 2 * l1 ∧ 2 * l1 < 99) ∧ (((0 : Int) ≤ (2 * l1) + 1 ∧ (2 * l1) + 1 < 99) ∧ r = rV SH (up (up (up S102 g0 v101 (S102 g0 (2 * l1))) g0 (2 * l1) (-1)) g0 ((2 * l1) + 1) (-1)))))) else G sc MX9_leave 88 [some (.ref o0), some (.int (I l1)), some (.int (I v101)), some (.int (I (S102 g0 (2 * l1)))), some (.int (I (S102 g0 ((2 * l1) + 1)))), some (.int (I ((2 * l1) + 1))), some (.int (I (S102 g0 ((2 * l1) + 1)))), some (.int (I 0))] [] SH S102 r)))) else r = rV SH S102))))) → G sc MX9_leave 0 [some (.ref o0), some (.int (I l1)), u2, u3, u4, u5, u6, u7] [] SH S r := by
  refine tt_ld (M := MX9_leave) (pc := 0) dX9_leave_0 rfl rfl rfl rfl rfl ?_
  refine tt_ld (M := MX9_leave) (pc := 1) dX9_leave_1 rfl rfl rfl rfl rfl ?_
  refine tt_vcIN (M := MX9_leave) (pc := 2) dX9_leave_2 rfl rfl [] rfl rfl ⟨rfl, by decide, Nat.le_of_ble_eq_true rfl⟩ h0.1 fun v101 S102 => ?_
  refine tt_st (M := MX9_leave) (pc := 5) [some (.ref o0), some (.int (I l1)), some (.int (I v101)), u3, u4, u5, u6, u7] dX9_leave_5 rfl rfl rfl rfl rfl rfl ?_
  refine tt_ld (M := MX9_leave) (pc := 6) dX9_leave_6 rfl rfl rfl rfl rfl ?_
  refine tt_iconst (M := MX9_leave) (pc := 7) dX9_leave_7 ?_
  refine tt_ic_eq (M := MX9_leave) (pc := 8) 21 dX9_leave_8 rfl ?_ ?_
  · exact tt_ret (M := MX9_leave) (pc := 21) dX9_leave_21 rfl
  · refine tt_ld (M := MX9_leave) (pc := 11) dX9_leave_11 rfl rfl rfl rfl rfl ?_
    refine tt_if_lt (M := MX9_leave) (pc := 12) 21 dX9_leave_12 rfl ?_ ?_
    · exact tt_ret (M := MX9_leave) (pc := 21) dX9_leave_21 rfl
    · refine tt_ld (M := MX9_leave) (pc := 15) dX9_leave_15 rfl rfl rfl rfl rfl ?_
      refine tt_bipush (M := MX9_leave) (pc := 16) dX9_leave_16 (by decide) ?_
      refine tt_ic_lt (M := MX9_leave) (pc := 18) 22 dX9_leave_18 rfl ?_ ?_
      · refine tt_ld (M := MX9_leave) (pc := 22) dX9_leave_22 rfl rfl rfl rfl rfl ?_
        refine tt_getR (M := MX9_leave) (pc := 23) dX9_leave_23 rfl h0.1 rfl ?_
        refine tt_iconst (M := MX9_leave) (pc := 26) dX9_leave_26 ?_
        refine tt_ld (M := MX9_leave) (pc := 27) dX9_leave_27 rfl rfl rfl rfl rfl ?_
        refine tt_imul (M := MX9_leave) (pc := 28) dX9_leave_28 ?_
        refine tt_iaload (M := MX9_leave) (pc := 29) dX9_leave_29 h0.2 rfl ?_
        refine tt_st (M := MX9_leave) (pc := 30) [some (.ref o0), some (.int (I l1)), some (.int (I v101)), some (.int (I (S102 g0 (2 * l1)))), u4, u5, u6, u7] dX9_leave_30 rfl rfl rfl rfl rfl rfl ?_
        refine tt_ld (M := MX9_leave) (pc := 31) dX9_leave_31 rfl rfl rfl rfl rfl ?_
        refine tt_getR (M := MX9_leave) (pc := 32) dX9_leave_32 rfl h0.1 rfl ?_
        refine tt_iconst (M := MX9_leave) (pc := 35) dX9_leave_35 ?_
        refine tt_ld (M := MX9_leave) (pc := 36) dX9_leave_36 rfl rfl rfl rfl rfl ?_
        refine tt_imul (M := MX9_leave) (pc := 37) dX9_leave_37 ?_
        refine tt_iconst (M := MX9_leave) (pc := 38) dX9_leave_38 ?_
        refine tt_iadd (M := MX9_leave) (pc := 39) dX9_leave_39 ?_
        refine tt_iaload (M := MX9_leave) (pc := 40) dX9_leave_40 h0.2 rfl ?_
        refine tt_st (M := MX9_leave) (pc := 41) [some (.ref o0), some (.int (I l1)), some (.int (I v101)), some (.int (I (S102 g0 (2 * l1)))), some (.int (I (S102 g0 ((2 * l1) + 1)))), u5, u6, u7] dX9_leave_41 rfl rfl rfl rfl rfl rfl ?_
        refine tt_ld (M := MX9_leave) (pc := 43) dX9_leave_43 rfl rfl rfl rfl rfl ?_
        refine tt_iconst (M := MX9_leave) (pc := 44) dX9_leave_44 ?_
        refine tt_ic_eq (M := MX9_leave) (pc := 45) 54 dX9_leave_45 rfl ?_ ?_
        · refine tt_ld (M := MX9_leave) (pc := 54) dX9_leave_54 rfl rfl rfl rfl rfl ?_
          refine tt_getR (M := MX9_leave) (pc := 55) dX9_leave_55 rfl h0.1 rfl ?_
          refine tt_ld (M := MX9_leave) (pc := 58) dX9_leave_58 rfl rfl rfl rfl rfl ?_
          refine tt_ld (M := MX9_leave) (pc := 59) dX9_leave_59 rfl rfl rfl rfl rfl ?_
          refine tt_iconst (M := MX9_leave) (pc := 60) dX9_leave_60 ?_
          refine tt_ic_ne (M := MX9_leave) (pc := 61) 69 dX9_leave_61 rfl ?_ ?_
          · refine tt_ld (M := MX9_leave) (pc := 69) dX9_leave_69 rfl rfl rfl rfl rfl ?_
            refine tt_iastore (M := MX9_leave) (pc := 70) dX9_leave_70 h0.2 rfl ?_
            refine tt_goto (M := MX9_leave) (pc := 71) 193 dX9_leave_71 rfl ?_
            refine tt_ld (M := MX9_leave) (pc := 193) dX9_leave_193 rfl rfl rfl rfl rfl ?_
            refine tt_getR (M := MX9_leave) (pc := 194) dX9_leave_194 rfl h0.1 rfl ?_
            refine tt_iconst (M := MX9_leave) (pc := 197) dX9_leave_197 ?_
            refine tt_ld (M := MX9_leave) (pc := 198) dX9_leave_198 rfl rfl rfl rfl rfl ?_
            refine tt_imul (M := MX9_leave) (pc := 199) dX9_leave_199 ?_
            refine tt_iconst (M := MX9_leave) (pc := 200) dX9_leave_200 ?_
            refine tt_iastore (M := MX9_leave) (pc := 201) dX9_leave_201 h0.2 rfl ?_
            refine tt_ld (M := MX9_leave) (pc := 202) dX9_leave_202 rfl rfl rfl rfl rfl ?_
            refine tt_getR (M := MX9_leave) (pc := 203) dX9_leave_203 rfl h0.1 rfl ?_
            refine tt_iconst (M := MX9_leave) (pc := 206) dX9_leave_206 ?_
            refine tt_ld (M := MX9_leave) (pc := 207) dX9_leave_207 rfl rfl rfl rfl rfl ?_
            refine tt_imul (M := MX9_leave) (pc := 208) dX9_leave_208 ?_
            refine tt_iconst (M := MX9_leave) (pc := 209) dX9_leave_209 ?_
            refine tt_iadd (M := MX9_leave) (pc := 210) dX9_leave_210 ?_
            refine tt_iconst (M := MX9_leave) (pc := 211) dX9_leave_211 ?_
            refine tt_iastore (M := MX9_leave) (pc := 212) dX9_leave_212 h0.2 rfl ?_
            exact tt_ret (M := MX9_leave) (pc := 213) dX9_leave_213 rfl
          · refine tt_ld (M := MX9_leave) (pc := 64) dX9_leave_64 rfl rfl rfl rfl rfl ?_
            refine tt_goto (M := MX9_leave) (pc := 66) 70 dX9_leave_66 rfl ?_
            refine tt_iastore (M := MX9_leave) (pc := 70) dX9_leave_70 h0.2 rfl ?_
            refine tt_goto (M := MX9_leave) (pc := 71) 193 dX9_leave_71 rfl ?_
            refine tt_ld (M := MX9_leave) (pc := 193) dX9_leave_193 rfl rfl rfl rfl rfl ?_
            refine tt_getR (M := MX9_leave) (pc := 194) dX9_leave_194 rfl h0.1 rfl ?_
            refine tt_iconst (M := MX9_leave) (pc := 197) dX9_leave_197 ?_
            refine tt_ld (M := MX9_leave) (pc := 198) dX9_leave_198 rfl rfl rfl rfl rfl ?_
            refine tt_imul (M := MX9_leave) (pc := 199) dX9_leave_199 ?_
            refine tt_iconst (M := MX9_leave) (pc := 200) dX9_leave_200 ?_
            refine tt_iastore (M := MX9_leave) (pc := 201) dX9_leave_201 h0.2 rfl ?_
            refine tt_ld (M := MX9_leave) (pc := 202) dX9_leave_202 rfl rfl rfl rfl rfl ?_
            refine tt_getR (M := MX9_leave) (pc := 203) dX9_leave_203 rfl h0.1 rfl ?_
            refine tt_iconst (M := MX9_leave) (pc := 206) dX9_leave_206 ?_
            refine tt_ld (M := MX9_leave) (pc := 207) dX9_leave_207 rfl rfl rfl rfl rfl ?_
            refine tt_imul (M := MX9_leave) (pc := 208) dX9_leave_208 ?_
            refine tt_iconst (M := MX9_leave) (pc := 209) dX9_leave_209 ?_
            refine tt_iadd (M := MX9_leave) (pc := 210) dX9_leave_210 ?_
            refine tt_iconst (M := MX9_leave) (pc := 211) dX9_leave_211 ?_
            refine tt_iastore (M := MX9_leave) (pc := 212) dX9_leave_212 h0.2 rfl ?_
            exact tt_ret (M := MX9_leave) (pc := 213) dX9_leave_213 rfl
        · refine tt_ld (M := MX9_leave) (pc := 48) dX9_leave_48 rfl rfl rfl rfl rfl ?_
          refine tt_iconst (M := MX9_leave) (pc := 50) dX9_leave_50 ?_
          refine tt_ic_ne (M := MX9_leave) (pc := 51) 74 dX9_leave_51 rfl ?_ ?_
          · refine tt_iconst (M := MX9_leave) (pc := 74) dX9_leave_74 ?_
            refine tt_ld (M := MX9_leave) (pc := 75) dX9_leave_75 rfl rfl rfl rfl rfl ?_
            refine tt_imul (M := MX9_leave) (pc := 76) dX9_leave_76 ?_
            refine tt_iconst (M := MX9_leave) (pc := 77) dX9_leave_77 ?_
            refine tt_iadd (M := MX9_leave) (pc := 78) dX9_leave_78 ?_
            refine tt_st (M := MX9_leave) (pc := 79) [some (.ref o0), some (.int (I l1)), some (.int (I v101)), some (.int (I (S102 g0 (2 * l1)))), some (.int (I (S102 g0 ((2 * l1) + 1)))), some (.int (I ((2 * l1) + 1))), u6, u7] dX9_leave_79 rfl rfl rfl rfl rfl rfl ?_
            refine tt_ld (M := MX9_leave) (pc := 81) dX9_leave_81 rfl rfl rfl rfl rfl ?_
            refine tt_st (M := MX9_leave) (pc := 83) [some (.ref o0), some (.int (I l1)), some (.int (I v101)), some (.int (I (S102 g0 (2 * l1)))), some (.int (I (S102 g0 ((2 * l1) + 1)))), some (.int (I ((2 * l1) + 1))), some (.int (I (S102 g0 ((2 * l1) + 1)))), u7] dX9_leave_83 rfl rfl rfl rfl rfl rfl ?_
            refine tt_iconst (M := MX9_leave) (pc := 85) dX9_leave_85 ?_
            refine tt_st (M := MX9_leave) (pc := 86) [some (.ref o0), some (.int (I l1)), some (.int (I v101)), some (.int (I (S102 g0 (2 * l1)))), some (.int (I (S102 g0 ((2 * l1) + 1)))), some (.int (I ((2 * l1) + 1))), some (.int (I (S102 g0 ((2 * l1) + 1)))), some (.int (I 0))] dX9_leave_86 rfl rfl rfl rfl rfl rfl ?_
            exact id
          · refine tt_ld (M := MX9_leave) (pc := 54) dX9_leave_54 rfl rfl rfl rfl rfl ?_
            refine tt_getR (M := MX9_leave) (pc := 55) dX9_leave_55 rfl h0.1 rfl ?_
            refine tt_ld (M := MX9_leave) (pc := 58) dX9_leave_58 rfl rfl rfl rfl rfl ?_
            refine tt_ld (M := MX9_leave) (pc := 59) dX9_leave_59 rfl rfl rfl rfl rfl ?_
            refine tt_iconst (M := MX9_leave) (pc := 60) dX9_leave_60 ?_
            refine tt_ic_ne (M := MX9_leave) (pc := 61) 69 dX9_leave_61 rfl ?_ ?_
            · refine tt_ld (M := MX9_leave) (pc := 69) dX9_leave_69 rfl rfl rfl rfl rfl ?_
              refine tt_iastore (M := MX9_leave) (pc := 70) dX9_leave_70 h0.2 rfl ?_
              refine tt_goto (M := MX9_leave) (pc := 71) 193 dX9_leave_71 rfl ?_
              refine tt_ld (M := MX9_leave) (pc := 193) dX9_leave_193 rfl rfl rfl rfl rfl ?_
              refine tt_getR (M := MX9_leave) (pc := 194) dX9_leave_194 rfl h0.1 rfl ?_
              refine tt_iconst (M := MX9_leave) (pc := 197) dX9_leave_197 ?_
              refine tt_ld (M := MX9_leave) (pc := 198) dX9_leave_198 rfl rfl rfl rfl rfl ?_
              refine tt_imul (M := MX9_leave) (pc := 199) dX9_leave_199 ?_
              refine tt_iconst (M := MX9_leave) (pc := 200) dX9_leave_200 ?_
              refine tt_iastore (M := MX9_leave) (pc := 201) dX9_leave_201 h0.2 rfl ?_
              refine tt_ld (M := MX9_leave) (pc := 202) dX9_leave_202 rfl rfl rfl rfl rfl ?_
              refine tt_getR (M := MX9_leave) (pc := 203) dX9_leave_203 rfl h0.1 rfl ?_
              refine tt_iconst (M := MX9_leave) (pc := 206) dX9_leave_206 ?_
              refine tt_ld (M := MX9_leave) (pc := 207) dX9_leave_207 rfl rfl rfl rfl rfl ?_
              refine tt_imul (M := MX9_leave) (pc := 208) dX9_leave_208 ?_
              refine tt_iconst (M := MX9_leave) (pc := 209) dX9_leave_209 ?_
              refine tt_iadd (M := MX9_leave) (pc := 210) dX9_leave_210 ?_
              refine tt_iconst (M := MX9_leave) (pc := 211) dX9_leave_211 ?_
              refine tt_iastore (M := MX9_leave) (pc := 212) dX9_leave_212 h0.2 rfl ?_
              exact tt_ret (M := MX9_leave) (pc := 213) dX9_leave_213 rfl
            · refine tt_ld (M := MX9_leave) (pc := 64) dX9_leave_64 rfl rfl rfl rfl rfl ?_
              refine tt_goto (M := MX9_leave) (pc := 66) 70 dX9_leave_66 rfl ?_
              refine tt_iastore (M := MX9_leave) (pc := 70) dX9_leave_70 h0.2 rfl ?_
              refine tt_goto (M := MX9_leave) (pc := 71) 193 dX9_leave_71 rfl ?_
              refine tt_ld (M := MX9_leave) (pc := 193) dX9_leave_193 rfl rfl rfl rfl rfl ?_
              refine tt_getR (M := MX9_leave) (pc := 194) dX9_leave_194 rfl h0.1 rfl ?_
              refine tt_iconst (M := MX9_leave) (pc := 197) dX9_leave_197 ?_
              refine tt_ld (M := MX9_leave) (pc := 198) dX9_leave_198 rfl rfl rfl rfl rfl ?_
              refine tt_imul (M := MX9_leave) (pc := 199) dX9_leave_199 ?_
              refine tt_iconst (M := MX9_leave) (pc := 200) dX9_leave_200 ?_
              refine tt_iastore (M := MX9_leave) (pc := 201) dX9_leave_201 h0.2 rfl ?_
              refine tt_ld (M := MX9_leave) (pc := 202) dX9_leave_202 rfl rfl rfl rfl rfl ?_
              refine tt_getR (M := MX9_leave) (pc := 203) dX9_leave_203 rfl h0.1 rfl ?_
              refine tt_iconst (M := MX9_leave) (pc := 206) dX9_leave_206 ?_
              refine tt_ld (M := MX9_leave) (pc := 207) dX9_leave_207 rfl rfl rfl rfl rfl ?_
              refine tt_imul (M := MX9_leave) (pc := 208) dX9_leave_208 ?_
              refine tt_iconst (M := MX9_leave) (pc := 209) dX9_leave_209 ?_
              refine tt_iadd (M := MX9_leave) (pc := 210) dX9_leave_210 ?_
              refine tt_iconst (M := MX9_leave) (pc := 211) dX9_leave_211 ?_
              refine tt_iastore (M := MX9_leave) (pc := 212) dX9_leave_212 h0.2 rfl ?_
              exact tt_ret (M := MX9_leave) (pc := 213) dX9_leave_213 rfl
      · exact tt_ret (M := MX9_leave) (pc := 21) dX9_leave_21 rfl
theorem qX9_leave_88 {sc : Nat × (Nat → Int32)} {SH : List mCell} {S : mStore} {r : mR × mW} {o0 g0 : Nat} (h0 : sTree SH o0 g0) {l1 : Int} {l2 : Int} {l3 : Int} {l4 : Int} {l5 : Int} {l6 : Int} {l7 : Int} : ((if I 48 ≤ I l7 then G sc MX9_leave 129 [some (.ref o0), some (.int (I l1)), some (.int (I l2)), some (.int (I l3)), some (.int (I l4)), some (.int (I l5)), some (.int (I l6)), some (.int (I l7))] [] SH S r else (((0 : Int) ≤ 2 * l6 ∧ 2 * l6 < 99) ∧ (if I (S g0 (2 * l6)) = I (-1) then G sc MX9_leave 129 [some (.ref o0), some (.int (I l1)), some (.int (I l2)), some (.int (I l3)), some (.int (I l4)), some (.int (I l5)), some (.int (I l6)), some (.int (I l7))] [] SH S r else (((0 : Int) ≤ 2 * l6 ∧ 2 * l6 < 99) ∧ G sc MX9_leave 88 [some (.ref o0), some (.int (I l1)), some (.int (I l2)), some (.int (I l3)), some (.int (I l4)), some (.int (I (2 * l6))), some (.int (I (S g0 (2 * l6)))), some (.int (I (l7 + 1)))] [] SH S r))))) → G sc MX9_leave 88 [some (.ref o0), some (.int (I l1)), some (.int (I l2)), some (.int (I l3)), some (.int (I l4)), some (.int (I l5)), some (.int (I l6)), some (.int (I l7))] [] SH S r := by
  refine tt_ld (M := MX9_leave) (pc := 88) dX9_leave_88 rfl rfl rfl rfl rfl ?_
  refine tt_bipush (M := MX9_leave) (pc := 90) dX9_leave_90 (by decide) ?_
  refine tt_ic_ge (M := MX9_leave) (pc := 92) 129 dX9_leave_92 rfl ?_ ?_
  · exact id
  · refine tt_ld (M := MX9_leave) (pc := 95) dX9_leave_95 rfl rfl rfl rfl rfl ?_
    refine tt_getR (M := MX9_leave) (pc := 96) dX9_leave_96 rfl h0.1 rfl ?_
    refine tt_iconst (M := MX9_leave) (pc := 99) dX9_leave_99 ?_
    refine tt_ld (M := MX9_leave) (pc := 100) dX9_leave_100 rfl rfl rfl rfl rfl ?_
    refine tt_imul (M := MX9_leave) (pc := 102) dX9_leave_102 ?_
    refine tt_iaload (M := MX9_leave) (pc := 103) dX9_leave_103 h0.2 rfl ?_
    refine tt_iconst (M := MX9_leave) (pc := 104) dX9_leave_104 ?_
    refine tt_ic_eq (M := MX9_leave) (pc := 105) 129 dX9_leave_105 rfl ?_ ?_
    · exact id
    · refine tt_iconst (M := MX9_leave) (pc := 108) dX9_leave_108 ?_
      refine tt_ld (M := MX9_leave) (pc := 109) dX9_leave_109 rfl rfl rfl rfl rfl ?_
      refine tt_imul (M := MX9_leave) (pc := 111) dX9_leave_111 ?_
      refine tt_st (M := MX9_leave) (pc := 112) [some (.ref o0), some (.int (I l1)), some (.int (I l2)), some (.int (I l3)), some (.int (I l4)), some (.int (I (2 * l6))), some (.int (I l6)), some (.int (I l7))] dX9_leave_112 rfl rfl rfl rfl rfl rfl ?_
      refine tt_ld (M := MX9_leave) (pc := 114) dX9_leave_114 rfl rfl rfl rfl rfl ?_
      refine tt_getR (M := MX9_leave) (pc := 115) dX9_leave_115 rfl h0.1 rfl ?_
      refine tt_ld (M := MX9_leave) (pc := 118) dX9_leave_118 rfl rfl rfl rfl rfl ?_
      refine tt_iaload (M := MX9_leave) (pc := 120) dX9_leave_120 h0.2 rfl ?_
      refine tt_st (M := MX9_leave) (pc := 121) [some (.ref o0), some (.int (I l1)), some (.int (I l2)), some (.int (I l3)), some (.int (I l4)), some (.int (I (2 * l6))), some (.int (I (S g0 (2 * l6)))), some (.int (I l7))] dX9_leave_121 rfl rfl rfl rfl rfl rfl ?_
      refine tt_iinc (M := MX9_leave) (pc := 123) [some (.ref o0), some (.int (I l1)), some (.int (I l2)), some (.int (I l3)), some (.int (I l4)), some (.int (I (2 * l6))), some (.int (I (S g0 (2 * l6)))), some (.int (I (l7 + 1)))] dX9_leave_123 rfl rfl ?_
      refine tt_goto (M := MX9_leave) (pc := 126) 88 dX9_leave_126 rfl ?_
      exact id
theorem qX9_leave_129 {sc : Nat × (Nat → Int32)} {SH : List mCell} {S : mStore} {r : mR × mW} {o0 g0 : Nat} (h0 : sTree SH o0 g0) {l1 : Int} {l2 : Int} {l3 : Int} {l4 : Int} {l5 : Int} {l6 : Int} {l7 : Int} : ((((0 : Int) ≤ (2 * l6) + 1 ∧ (2 * l6) + 1 < 99) ∧ (((0 : Int) ≤ l5 ∧ l5 < 99) ∧ (((0 : Int) ≤ 2 * l1 ∧ 2 * l1 < 99) ∧ (((0 : Int) ≤ 2 * l6 ∧ 2 * l6 < 99) ∧ (((0 : Int) ≤ (2 * l1) + 1 ∧ (2 * l1) + 1 < 99) ∧ (((0 : Int) ≤ (2 * l6) + 1 ∧ (2 * l6) + 1 < 99) ∧ (((0 : Int) ≤ l2 ∧ l2 < 99) ∧ (((0 : Int) ≤ 2 * l1 ∧ 2 * l1 < 99) ∧ (((0 : Int) ≤ (2 * l1) + 1 ∧ (2 * l1) + 1 < 99) ∧ r = rV SH (up (up (up (up (up (up S g0 l5 (S g0 ((2 * l6) + 1))) g0 (2 * l6) ((up S g0 l5 (S g0 ((2 * l6) + 1))) g0 (2 * l1))) g0 ((2 * l6) + 1) ((up (up S g0 l5 (S g0 ((2 * l6) + 1))) g0 (2 * l6) ((up S g0 l5 (S g0 ((2 * l6) + 1))) g0 (2 * l1))) g0 ((2 * l1) + 1))) g0 l2 l6) g0 (2 * l1) (-1)) g0 ((2 * l1) + 1) (-1)))))))))))) → G sc MX9_leave 129 [some (.ref o0), some (.int (I l1)), some (.int (I l2)), some (.int (I l3)), some (.int (I l4)), some (.int (I l5)), some (.int (I l6)), some (.int (I l7))] [] SH S r := by
  refine tt_ld (M := MX9_leave) (pc := 129) dX9_leave_129 rfl rfl rfl rfl rfl ?_
  refine tt_getR (M := MX9_leave) (pc := 130) dX9_leave_130 rfl h0.1 rfl ?_
  refine tt_ld (M := MX9_leave) (pc := 133) dX9_leave_133 rfl rfl rfl rfl rfl ?_
  refine tt_ld (M := MX9_leave) (pc := 135) dX9_leave_135 rfl rfl rfl rfl rfl ?_
  refine tt_getR (M := MX9_leave) (pc := 136) dX9_leave_136 rfl h0.1 rfl ?_
  refine tt_iconst (M := MX9_leave) (pc := 139) dX9_leave_139 ?_
  refine tt_ld (M := MX9_leave) (pc := 140) dX9_leave_140 rfl rfl rfl rfl rfl ?_
  refine tt_imul (M := MX9_leave) (pc := 142) dX9_leave_142 ?_
  refine tt_iconst (M := MX9_leave) (pc := 143) dX9_leave_143 ?_
  refine tt_iadd (M := MX9_leave) (pc := 144) dX9_leave_144 ?_
  refine tt_iaload (M := MX9_leave) (pc := 145) dX9_leave_145 h0.2 rfl ?_
  refine tt_iastore (M := MX9_leave) (pc := 146) dX9_leave_146 h0.2 rfl ?_
  refine tt_ld (M := MX9_leave) (pc := 147) dX9_leave_147 rfl rfl rfl rfl rfl ?_
  refine tt_getR (M := MX9_leave) (pc := 148) dX9_leave_148 rfl h0.1 rfl ?_
  refine tt_iconst (M := MX9_leave) (pc := 151) dX9_leave_151 ?_
  refine tt_ld (M := MX9_leave) (pc := 152) dX9_leave_152 rfl rfl rfl rfl rfl ?_
  refine tt_imul (M := MX9_leave) (pc := 154) dX9_leave_154 ?_
  refine tt_ld (M := MX9_leave) (pc := 155) dX9_leave_155 rfl rfl rfl rfl rfl ?_
  refine tt_getR (M := MX9_leave) (pc := 156) dX9_leave_156 rfl h0.1 rfl ?_
  refine tt_iconst (M := MX9_leave) (pc := 159) dX9_leave_159 ?_
  refine tt_ld (M := MX9_leave) (pc := 160) dX9_leave_160 rfl rfl rfl rfl rfl ?_
  refine tt_imul (M := MX9_leave) (pc := 161) dX9_leave_161 ?_
  refine tt_iaload (M := MX9_leave) (pc := 162) dX9_leave_162 h0.2 rfl ?_
  refine tt_iastore (M := MX9_leave) (pc := 163) dX9_leave_163 h0.2 rfl ?_
  refine tt_ld (M := MX9_leave) (pc := 164) dX9_leave_164 rfl rfl rfl rfl rfl ?_
  refine tt_getR (M := MX9_leave) (pc := 165) dX9_leave_165 rfl h0.1 rfl ?_
  refine tt_iconst (M := MX9_leave) (pc := 168) dX9_leave_168 ?_
  refine tt_ld (M := MX9_leave) (pc := 169) dX9_leave_169 rfl rfl rfl rfl rfl ?_
  refine tt_imul (M := MX9_leave) (pc := 171) dX9_leave_171 ?_
  refine tt_iconst (M := MX9_leave) (pc := 172) dX9_leave_172 ?_
  refine tt_iadd (M := MX9_leave) (pc := 173) dX9_leave_173 ?_
  refine tt_ld (M := MX9_leave) (pc := 174) dX9_leave_174 rfl rfl rfl rfl rfl ?_
  refine tt_getR (M := MX9_leave) (pc := 175) dX9_leave_175 rfl h0.1 rfl ?_
  refine tt_iconst (M := MX9_leave) (pc := 178) dX9_leave_178 ?_
  refine tt_ld (M := MX9_leave) (pc := 179) dX9_leave_179 rfl rfl rfl rfl rfl ?_
  refine tt_imul (M := MX9_leave) (pc := 180) dX9_leave_180 ?_
  refine tt_iconst (M := MX9_leave) (pc := 181) dX9_leave_181 ?_
  refine tt_iadd (M := MX9_leave) (pc := 182) dX9_leave_182 ?_
  refine tt_iaload (M := MX9_leave) (pc := 183) dX9_leave_183 h0.2 rfl ?_
  refine tt_iastore (M := MX9_leave) (pc := 184) dX9_leave_184 h0.2 rfl ?_
  refine tt_ld (M := MX9_leave) (pc := 185) dX9_leave_185 rfl rfl rfl rfl rfl ?_
  refine tt_getR (M := MX9_leave) (pc := 186) dX9_leave_186 rfl h0.1 rfl ?_
  refine tt_ld (M := MX9_leave) (pc := 189) dX9_leave_189 rfl rfl rfl rfl rfl ?_
  refine tt_ld (M := MX9_leave) (pc := 190) dX9_leave_190 rfl rfl rfl rfl rfl ?_
  refine tt_iastore (M := MX9_leave) (pc := 192) dX9_leave_192 h0.2 rfl ?_
  refine tt_ld (M := MX9_leave) (pc := 193) dX9_leave_193 rfl rfl rfl rfl rfl ?_
  refine tt_getR (M := MX9_leave) (pc := 194) dX9_leave_194 rfl h0.1 rfl ?_
  refine tt_iconst (M := MX9_leave) (pc := 197) dX9_leave_197 ?_
  refine tt_ld (M := MX9_leave) (pc := 198) dX9_leave_198 rfl rfl rfl rfl rfl ?_
  refine tt_imul (M := MX9_leave) (pc := 199) dX9_leave_199 ?_
  refine tt_iconst (M := MX9_leave) (pc := 200) dX9_leave_200 ?_
  refine tt_iastore (M := MX9_leave) (pc := 201) dX9_leave_201 h0.2 rfl ?_
  refine tt_ld (M := MX9_leave) (pc := 202) dX9_leave_202 rfl rfl rfl rfl rfl ?_
  refine tt_getR (M := MX9_leave) (pc := 203) dX9_leave_203 rfl h0.1 rfl ?_
  refine tt_iconst (M := MX9_leave) (pc := 206) dX9_leave_206 ?_
  refine tt_ld (M := MX9_leave) (pc := 207) dX9_leave_207 rfl rfl rfl rfl rfl ?_
  refine tt_imul (M := MX9_leave) (pc := 208) dX9_leave_208 ?_
  refine tt_iconst (M := MX9_leave) (pc := 209) dX9_leave_209 ?_
  refine tt_iadd (M := MX9_leave) (pc := 210) dX9_leave_210 ?_
  refine tt_iconst (M := MX9_leave) (pc := 211) dX9_leave_211 ?_
  refine tt_iastore (M := MX9_leave) (pc := 212) dX9_leave_212 h0.2 rfl ?_
  exact tt_ret (M := MX9_leave) (pc := 213) dX9_leave_213 rfl
theorem qX9_above_0 {sc : Nat × (Nat → Int32)} {SH : List mCell} {S : mStore} {r : mR × mW} {o0 g0 : Nat} (h0 : sTree SH o0 g0) {l1 : Int} {u2 : Option Value} {u3 : Option Value} : ((∃ v101 S102, G sc MX9_slotOf 0 [some (.ref o0), some (.int (I l1)), none] [] SH S (rI v101 SH S102) ∧ G sc MX9_above 8 [some (.ref o0), some (.int (I l1)), some (.int (I 0)), some (.int (I v101))] [] SH S102 r)) → G sc MX9_above 0 [some (.ref o0), some (.int (I l1)), u2, u3] [] SH S r := by
  refine tt_iconst (M := MX9_above) (pc := 0) dX9_above_0 ?_
  refine tt_st (M := MX9_above) (pc := 1) [some (.ref o0), some (.int (I l1)), some (.int (I 0)), u3] dX9_above_1 rfl rfl rfl rfl rfl rfl ?_
  refine tt_ld (M := MX9_above) (pc := 2) dX9_above_2 rfl rfl rfl rfl rfl ?_
  refine tt_ld (M := MX9_above) (pc := 3) dX9_above_3 rfl rfl rfl rfl rfl ?_
  refine tt_vcIN (M := MX9_above) (pc := 4) dX9_above_4 rfl rfl [] rfl rfl ⟨rfl, by decide, Nat.le_of_ble_eq_true rfl⟩ h0.1 fun v101 S102 => ?_
  refine tt_st (M := MX9_above) (pc := 7) [some (.ref o0), some (.int (I l1)), some (.int (I 0)), some (.int (I v101))] dX9_above_7 rfl rfl rfl rfl rfl rfl ?_
  exact id
theorem qX9_above_8 {sc : Nat × (Nat → Int32)} {SH : List mCell} {S : mStore} {r : mR × mW} {o0 g0 : Nat} (h0 : sTree SH o0 g0) {l1 : Int} {l2 : Int} {l3 : Int} : ((if I 48 ≤ I l2 then r = rI l2 SH S else (if I l3 = I (-1) then r = rI l2 SH S else (if I 96 ≤ I l3 then r = rI l2 SH S else (∃ v101 S102, G sc MX9_slotOf 0 [some (.ref o0), some (.int (I (idv l3 2))), none] [] SH S (rI v101 SH S102) ∧ G sc MX9_above 8 [some (.ref o0), some (.int (I l1)), some (.int (I (l2 + 1))), some (.int (I v101))] [] SH S102 r))))) → G sc MX9_above 8 [some (.ref o0), some (.int (I l1)), some (.int (I l2)), some (.int (I l3))] [] SH S r := by
  refine tt_ld (M := MX9_above) (pc := 8) dX9_above_8 rfl rfl rfl rfl rfl ?_
  refine tt_bipush (M := MX9_above) (pc := 9) dX9_above_9 (by decide) ?_
  refine tt_ic_ge (M := MX9_above) (pc := 11) 39 dX9_above_11 rfl ?_ ?_
  · refine tt_ld (M := MX9_above) (pc := 39) dX9_above_39 rfl rfl rfl rfl rfl ?_
    exact tt_iret (M := MX9_above) (pc := 40) dX9_above_40 rfl
  · refine tt_ld (M := MX9_above) (pc := 14) dX9_above_14 rfl rfl rfl rfl rfl ?_
    refine tt_iconst (M := MX9_above) (pc := 15) dX9_above_15 ?_
    refine tt_ic_eq (M := MX9_above) (pc := 16) 39 dX9_above_16 rfl ?_ ?_
    · refine tt_ld (M := MX9_above) (pc := 39) dX9_above_39 rfl rfl rfl rfl rfl ?_
      exact tt_iret (M := MX9_above) (pc := 40) dX9_above_40 rfl
    · refine tt_ld (M := MX9_above) (pc := 19) dX9_above_19 rfl rfl rfl rfl rfl ?_
      refine tt_bipush (M := MX9_above) (pc := 20) dX9_above_20 (by decide) ?_
      refine tt_ic_ge (M := MX9_above) (pc := 22) 39 dX9_above_22 rfl ?_ ?_
      · refine tt_ld (M := MX9_above) (pc := 39) dX9_above_39 rfl rfl rfl rfl rfl ?_
        exact tt_iret (M := MX9_above) (pc := 40) dX9_above_40 rfl
      · refine tt_iinc (M := MX9_above) (pc := 25) [some (.ref o0), some (.int (I l1)), some (.int (I (l2 + 1))), some (.int (I l3))] dX9_above_25 rfl rfl ?_
        refine tt_ld (M := MX9_above) (pc := 28) dX9_above_28 rfl rfl rfl rfl rfl ?_
        refine tt_ld (M := MX9_above) (pc := 29) dX9_above_29 rfl rfl rfl rfl rfl ?_
        refine tt_iconst (M := MX9_above) (pc := 30) dX9_above_30 ?_
        refine tt_idiv (M := MX9_above) (pc := 31) dX9_above_31 (by decide) ?_
        refine tt_vcIN (M := MX9_above) (pc := 32) dX9_above_32 rfl rfl [] rfl rfl ⟨rfl, by decide, Nat.le_of_ble_eq_true rfl⟩ h0.1 fun v101 S102 => ?_
        refine tt_st (M := MX9_above) (pc := 35) [some (.ref o0), some (.int (I l1)), some (.int (I (l2 + 1))), some (.int (I v101))] dX9_above_35 rfl rfl rfl rfl rfl rfl ?_
        refine tt_goto (M := MX9_above) (pc := 36) 8 dX9_above_36 rfl ?_
        exact id
theorem qX9_leftmost_0 {sc : Nat × (Nat → Int32)} {SH : List mCell} {S : mStore} {r : mR × mW} {o0 g0 : Nat} (h0 : sTree SH o0 g0) {l1 : Int} {u2 : Option Value} {u3 : Option Value} {u4 : Option Value} : ((if I l1 < I 0 then r = rI (-1) SH S else (if I l1 < I 99 then (((0 : Int) ≤ l1 ∧ l1 < 99) ∧ G sc MX9_leftmost 24 [some (.ref o0), some (.int (I l1)), some (.int (I (-1))), some (.int (I (S g0 l1))), some (.int (I 0))] [] SH S r) else r = rI (-1) SH S))) → G sc MX9_leftmost 0 [some (.ref o0), some (.int (I l1)), u2, u3, u4] [] SH S r := by
  refine tt_ld (M := MX9_leftmost) (pc := 0) dX9_leftmost_0 rfl rfl rfl rfl rfl ?_
  refine tt_if_lt (M := MX9_leftmost) (pc := 1) 10 dX9_leftmost_1 rfl ?_ ?_
  · refine tt_iconst (M := MX9_leftmost) (pc := 10) dX9_leftmost_10 ?_
    exact tt_iret (M := MX9_leftmost) (pc := 11) dX9_leftmost_11 rfl
  · refine tt_ld (M := MX9_leftmost) (pc := 4) dX9_leftmost_4 rfl rfl rfl rfl rfl ?_
    refine tt_bipush (M := MX9_leftmost) (pc := 5) dX9_leftmost_5 (by decide) ?_
    refine tt_ic_lt (M := MX9_leftmost) (pc := 7) 12 dX9_leftmost_7 rfl ?_ ?_
    · refine tt_iconst (M := MX9_leftmost) (pc := 12) dX9_leftmost_12 ?_
      refine tt_st (M := MX9_leftmost) (pc := 13) [some (.ref o0), some (.int (I l1)), some (.int (I (-1))), u3, u4] dX9_leftmost_13 rfl rfl rfl rfl rfl rfl ?_
      refine tt_ld (M := MX9_leftmost) (pc := 14) dX9_leftmost_14 rfl rfl rfl rfl rfl ?_
      refine tt_getR (M := MX9_leftmost) (pc := 15) dX9_leftmost_15 rfl h0.1 rfl ?_
      refine tt_ld (M := MX9_leftmost) (pc := 18) dX9_leftmost_18 rfl rfl rfl rfl rfl ?_
      refine tt_iaload (M := MX9_leftmost) (pc := 19) dX9_leftmost_19 h0.2 rfl ?_
      refine tt_st (M := MX9_leftmost) (pc := 20) [some (.ref o0), some (.int (I l1)), some (.int (I (-1))), some (.int (I (S g0 l1))), u4] dX9_leftmost_20 rfl rfl rfl rfl rfl rfl ?_
      refine tt_iconst (M := MX9_leftmost) (pc := 21) dX9_leftmost_21 ?_
      refine tt_st (M := MX9_leftmost) (pc := 22) [some (.ref o0), some (.int (I l1)), some (.int (I (-1))), some (.int (I (S g0 l1))), some (.int (I 0))] dX9_leftmost_22 rfl rfl rfl rfl rfl rfl ?_
      exact id
    · refine tt_iconst (M := MX9_leftmost) (pc := 10) dX9_leftmost_10 ?_
      exact tt_iret (M := MX9_leftmost) (pc := 11) dX9_leftmost_11 rfl
theorem qX9_leftmost_24 {sc : Nat × (Nat → Int32)} {SH : List mCell} {S : mStore} {r : mR × mW} {o0 g0 : Nat} (h0 : sTree SH o0 g0) {l1 : Int} {l2 : Int} {l3 : Int} {l4 : Int} : ((if I 48 ≤ I l4 then r = rI l2 SH S else (if I l3 = I (-1) then r = rI l2 SH S else (((0 : Int) ≤ 2 * l3 ∧ 2 * l3 < 99) ∧ G sc MX9_leftmost 24 [some (.ref o0), some (.int (I l1)), some (.int (I l3)), some (.int (I (S g0 (2 * l3)))), some (.int (I (l4 + 1)))] [] SH S r)))) → G sc MX9_leftmost 24 [some (.ref o0), some (.int (I l1)), some (.int (I l2)), some (.int (I l3)), some (.int (I l4))] [] SH S r := by
  refine tt_ld (M := MX9_leftmost) (pc := 24) dX9_leftmost_24 rfl rfl rfl rfl rfl ?_
  refine tt_bipush (M := MX9_leftmost) (pc := 26) dX9_leftmost_26 (by decide) ?_
  refine tt_ic_ge (M := MX9_leftmost) (pc := 28) 53 dX9_leftmost_28 rfl ?_ ?_
  · refine tt_ld (M := MX9_leftmost) (pc := 53) dX9_leftmost_53 rfl rfl rfl rfl rfl ?_
    exact tt_iret (M := MX9_leftmost) (pc := 54) dX9_leftmost_54 rfl
  · refine tt_ld (M := MX9_leftmost) (pc := 31) dX9_leftmost_31 rfl rfl rfl rfl rfl ?_
    refine tt_iconst (M := MX9_leftmost) (pc := 32) dX9_leftmost_32 ?_
    refine tt_ic_eq (M := MX9_leftmost) (pc := 33) 53 dX9_leftmost_33 rfl ?_ ?_
    · refine tt_ld (M := MX9_leftmost) (pc := 53) dX9_leftmost_53 rfl rfl rfl rfl rfl ?_
      exact tt_iret (M := MX9_leftmost) (pc := 54) dX9_leftmost_54 rfl
    · refine tt_ld (M := MX9_leftmost) (pc := 36) dX9_leftmost_36 rfl rfl rfl rfl rfl ?_
      refine tt_st (M := MX9_leftmost) (pc := 37) [some (.ref o0), some (.int (I l1)), some (.int (I l3)), some (.int (I l3)), some (.int (I l4))] dX9_leftmost_37 rfl rfl rfl rfl rfl rfl ?_
      refine tt_ld (M := MX9_leftmost) (pc := 38) dX9_leftmost_38 rfl rfl rfl rfl rfl ?_
      refine tt_getR (M := MX9_leftmost) (pc := 39) dX9_leftmost_39 rfl h0.1 rfl ?_
      refine tt_iconst (M := MX9_leftmost) (pc := 42) dX9_leftmost_42 ?_
      refine tt_ld (M := MX9_leftmost) (pc := 43) dX9_leftmost_43 rfl rfl rfl rfl rfl ?_
      refine tt_imul (M := MX9_leftmost) (pc := 44) dX9_leftmost_44 ?_
      refine tt_iaload (M := MX9_leftmost) (pc := 45) dX9_leftmost_45 h0.2 rfl ?_
      refine tt_st (M := MX9_leftmost) (pc := 46) [some (.ref o0), some (.int (I l1)), some (.int (I l3)), some (.int (I (S g0 (2 * l3)))), some (.int (I l4))] dX9_leftmost_46 rfl rfl rfl rfl rfl rfl ?_
      refine tt_iinc (M := MX9_leftmost) (pc := 47) [some (.ref o0), some (.int (I l1)), some (.int (I l3)), some (.int (I (S g0 (2 * l3)))), some (.int (I (l4 + 1)))] dX9_leftmost_47 rfl rfl ?_
      refine tt_goto (M := MX9_leftmost) (pc := 50) 24 dX9_leftmost_50 rfl ?_
      exact id
theorem qX9_after_0 {sc : Nat × (Nat → Int32)} {SH : List mCell} {S : mStore} {r : mR × mW} {o0 g0 : Nat} (h0 : sTree SH o0 g0) {l1 : Int} {u2 : Option Value} {u3 : Option Value} {u4 : Option Value} : ((∃ v101 S102, G sc MX9_leftmost 0 [some (.ref o0), some (.int (I ((2 * l1) + 1))), none, none, none] [] SH S (rI v101 SH S102) ∧ (if I v101 = I (-1) then (∃ v103 S104, G sc MX9_slotOf 0 [some (.ref o0), some (.int (I l1)), none] [] SH S102 (rI v103 SH S104) ∧ G sc MX9_after 26 [some (.ref o0), some (.int (I l1)), some (.int (I v101)), some (.int (I v103)), some (.int (I 0))] [] SH S104 r) else r = rI v101 SH S102))) → G sc MX9_after 0 [some (.ref o0), some (.int (I l1)), u2, u3, u4] [] SH S r := by
  refine tt_ld (M := MX9_after) (pc := 0) dX9_after_0 rfl rfl rfl rfl rfl ?_
  refine tt_iconst (M := MX9_after) (pc := 1) dX9_after_1 ?_
  refine tt_ld (M := MX9_after) (pc := 2) dX9_after_2 rfl rfl rfl rfl rfl ?_
  refine tt_imul (M := MX9_after) (pc := 3) dX9_after_3 ?_
  refine tt_iconst (M := MX9_after) (pc := 4) dX9_after_4 ?_
  refine tt_iadd (M := MX9_after) (pc := 5) dX9_after_5 ?_
  refine tt_vcIN (M := MX9_after) (pc := 6) dX9_after_6 rfl rfl [] rfl rfl ⟨rfl, by decide, Nat.le_of_ble_eq_true rfl⟩ h0.1 fun v101 S102 => ?_
  refine tt_st (M := MX9_after) (pc := 9) [some (.ref o0), some (.int (I l1)), some (.int (I v101)), u3, u4] dX9_after_9 rfl rfl rfl rfl rfl rfl ?_
  refine tt_ld (M := MX9_after) (pc := 10) dX9_after_10 rfl rfl rfl rfl rfl ?_
  refine tt_iconst (M := MX9_after) (pc := 11) dX9_after_11 ?_
  refine tt_ic_eq (M := MX9_after) (pc := 12) 17 dX9_after_12 rfl ?_ ?_
  · refine tt_ld (M := MX9_after) (pc := 17) dX9_after_17 rfl rfl rfl rfl rfl ?_
    refine tt_ld (M := MX9_after) (pc := 18) dX9_after_18 rfl rfl rfl rfl rfl ?_
    refine tt_vcIN (M := MX9_after) (pc := 19) dX9_after_19 rfl rfl [] rfl rfl ⟨rfl, by decide, Nat.le_of_ble_eq_true rfl⟩ h0.1 fun v103 S104 => ?_
    refine tt_st (M := MX9_after) (pc := 22) [some (.ref o0), some (.int (I l1)), some (.int (I v101)), some (.int (I v103)), u4] dX9_after_22 rfl rfl rfl rfl rfl rfl ?_
    refine tt_iconst (M := MX9_after) (pc := 23) dX9_after_23 ?_
    refine tt_st (M := MX9_after) (pc := 24) [some (.ref o0), some (.int (I l1)), some (.int (I v101)), some (.int (I v103)), some (.int (I 0))] dX9_after_24 rfl rfl rfl rfl rfl rfl ?_
    exact id
  · refine tt_ld (M := MX9_after) (pc := 15) dX9_after_15 rfl rfl rfl rfl rfl ?_
    exact tt_iret (M := MX9_after) (pc := 16) dX9_after_16 rfl
theorem qX9_after_26 {sc : Nat × (Nat → Int32)} {SH : List mCell} {S : mStore} {r : mR × mW} {o0 g0 : Nat} (h0 : sTree SH o0 g0) {l1 : Int} {l2 : Int} {l3 : Int} {l4 : Int} : ((if I 48 ≤ I l4 then r = rI (-1) SH S else (if I l3 = I (-1) then r = rI (-1) SH S else (if I 96 ≤ I l3 then r = rI (-1) SH S else (if I (l3 - idv l3 2 * 2) = I 0 then r = rI (idv l3 2) SH S else (∃ v101 S102, G sc MX9_slotOf 0 [some (.ref o0), some (.int (I (idv l3 2))), none] [] SH S (rI v101 SH S102) ∧ G sc MX9_after 26 [some (.ref o0), some (.int (I l1)), some (.int (I l2)), some (.int (I v101)), some (.int (I (l4 + 1)))] [] SH S102 r)))))) → G sc MX9_after 26 [some (.ref o0), some (.int (I l1)), some (.int (I l2)), some (.int (I l3)), some (.int (I l4))] [] SH S r := by
  refine tt_ld (M := MX9_after) (pc := 26) dX9_after_26 rfl rfl rfl rfl rfl ?_
  refine tt_bipush (M := MX9_after) (pc := 28) dX9_after_28 (by decide) ?_
  refine tt_ic_ge (M := MX9_after) (pc := 30) 68 dX9_after_30 rfl ?_ ?_
  · refine tt_iconst (M := MX9_after) (pc := 68) dX9_after_68 ?_
    exact tt_iret (M := MX9_after) (pc := 69) dX9_after_69 rfl
  · refine tt_ld (M := MX9_after) (pc := 33) dX9_after_33 rfl rfl rfl rfl rfl ?_
    refine tt_iconst (M := MX9_after) (pc := 34) dX9_after_34 ?_
    refine tt_ic_eq (M := MX9_after) (pc := 35) 68 dX9_after_35 rfl ?_ ?_
    · refine tt_iconst (M := MX9_after) (pc := 68) dX9_after_68 ?_
      exact tt_iret (M := MX9_after) (pc := 69) dX9_after_69 rfl
    · refine tt_ld (M := MX9_after) (pc := 38) dX9_after_38 rfl rfl rfl rfl rfl ?_
      refine tt_bipush (M := MX9_after) (pc := 39) dX9_after_39 (by decide) ?_
      refine tt_ic_ge (M := MX9_after) (pc := 41) 68 dX9_after_41 rfl ?_ ?_
      · refine tt_iconst (M := MX9_after) (pc := 68) dX9_after_68 ?_
        exact tt_iret (M := MX9_after) (pc := 69) dX9_after_69 rfl
      · refine tt_ld (M := MX9_after) (pc := 44) dX9_after_44 rfl rfl rfl rfl rfl ?_
        refine tt_iconst (M := MX9_after) (pc := 45) dX9_after_45 ?_
        refine tt_irem (M := MX9_after) (pc := 46) dX9_after_46 (by decide) ?_
        refine tt_if_ne (M := MX9_after) (pc := 47) 54 dX9_after_47 rfl ?_ ?_
        · refine tt_ld (M := MX9_after) (pc := 54) dX9_after_54 rfl rfl rfl rfl rfl ?_
          refine tt_ld (M := MX9_after) (pc := 55) dX9_after_55 rfl rfl rfl rfl rfl ?_
          refine tt_iconst (M := MX9_after) (pc := 56) dX9_after_56 ?_
          refine tt_idiv (M := MX9_after) (pc := 57) dX9_after_57 (by decide) ?_
          refine tt_vcIN (M := MX9_after) (pc := 58) dX9_after_58 rfl rfl [] rfl rfl ⟨rfl, by decide, Nat.le_of_ble_eq_true rfl⟩ h0.1 fun v101 S102 => ?_
          refine tt_st (M := MX9_after) (pc := 61) [some (.ref o0), some (.int (I l1)), some (.int (I l2)), some (.int (I v101)), some (.int (I l4))] dX9_after_61 rfl rfl rfl rfl rfl rfl ?_
          refine tt_iinc (M := MX9_after) (pc := 62) [some (.ref o0), some (.int (I l1)), some (.int (I l2)), some (.int (I v101)), some (.int (I (l4 + 1)))] dX9_after_62 rfl rfl ?_
          refine tt_goto (M := MX9_after) (pc := 65) 26 dX9_after_65 rfl ?_
          exact id
        · refine tt_ld (M := MX9_after) (pc := 50) dX9_after_50 rfl rfl rfl rfl rfl ?_
          refine tt_iconst (M := MX9_after) (pc := 51) dX9_after_51 ?_
          refine tt_idiv (M := MX9_after) (pc := 52) dX9_after_52 (by decide) ?_
          exact tt_iret (M := MX9_after) (pc := 53) dX9_after_53 rfl
theorem qX9_sizeOf_0 {sc : Nat × (Nat → Int32)} {SH : List mCell} {S : mStore} {r : mR × mW} {o0 g0 : Nat} (h0 : sTree SH o0 g0) {l1 : Int} {u2 : Option Value} {u3 : Option Value} : ((∃ v101 S102, G sc MX9_leftmost 0 [some (.ref o0), some (.int (I (96 + l1))), none, none, none] [] SH S (rI v101 SH S102) ∧ G sc MX9_sizeOf 11 [some (.ref o0), some (.int (I l1)), some (.int (I 0)), some (.int (I v101))] [] SH S102 r)) → G sc MX9_sizeOf 0 [some (.ref o0), some (.int (I l1)), u2, u3] [] SH S r := by
  refine tt_iconst (M := MX9_sizeOf) (pc := 0) dX9_sizeOf_0 ?_
  refine tt_st (M := MX9_sizeOf) (pc := 1) [some (.ref o0), some (.int (I l1)), some (.int (I 0)), u3] dX9_sizeOf_1 rfl rfl rfl rfl rfl rfl ?_
  refine tt_ld (M := MX9_sizeOf) (pc := 2) dX9_sizeOf_2 rfl rfl rfl rfl rfl ?_
  refine tt_bipush (M := MX9_sizeOf) (pc := 3) dX9_sizeOf_3 (by decide) ?_
  refine tt_ld (M := MX9_sizeOf) (pc := 5) dX9_sizeOf_5 rfl rfl rfl rfl rfl ?_
  refine tt_iadd (M := MX9_sizeOf) (pc := 6) dX9_sizeOf_6 ?_
  refine tt_vcIN (M := MX9_sizeOf) (pc := 7) dX9_sizeOf_7 rfl rfl [] rfl rfl ⟨rfl, by decide, Nat.le_of_ble_eq_true rfl⟩ h0.1 fun v101 S102 => ?_
  refine tt_st (M := MX9_sizeOf) (pc := 10) [some (.ref o0), some (.int (I l1)), some (.int (I 0)), some (.int (I v101))] dX9_sizeOf_10 rfl rfl rfl rfl rfl rfl ?_
  exact id
theorem qX9_sizeOf_11 {sc : Nat × (Nat → Int32)} {SH : List mCell} {S : mStore} {r : mR × mW} {o0 g0 : Nat} (h0 : sTree SH o0 g0) {l1 : Int} {l2 : Int} {l3 : Int} : ((if I 48 ≤ I l2 then r = rI l2 SH S else (if I l3 = I (-1) then r = rI l2 SH S else (∃ v101 S102, G sc MX9_after 0 [some (.ref o0), some (.int (I l3)), none, none, none] [] SH S (rI v101 SH S102) ∧ G sc MX9_sizeOf 11 [some (.ref o0), some (.int (I l1)), some (.int (I (l2 + 1))), some (.int (I v101))] [] SH S102 r)))) → G sc MX9_sizeOf 11 [some (.ref o0), some (.int (I l1)), some (.int (I l2)), some (.int (I l3))] [] SH S r := by
  refine tt_ld (M := MX9_sizeOf) (pc := 11) dX9_sizeOf_11 rfl rfl rfl rfl rfl ?_
  refine tt_bipush (M := MX9_sizeOf) (pc := 12) dX9_sizeOf_12 (by decide) ?_
  refine tt_ic_ge (M := MX9_sizeOf) (pc := 14) 34 dX9_sizeOf_14 rfl ?_ ?_
  · refine tt_ld (M := MX9_sizeOf) (pc := 34) dX9_sizeOf_34 rfl rfl rfl rfl rfl ?_
    exact tt_iret (M := MX9_sizeOf) (pc := 35) dX9_sizeOf_35 rfl
  · refine tt_ld (M := MX9_sizeOf) (pc := 17) dX9_sizeOf_17 rfl rfl rfl rfl rfl ?_
    refine tt_iconst (M := MX9_sizeOf) (pc := 18) dX9_sizeOf_18 ?_
    refine tt_ic_eq (M := MX9_sizeOf) (pc := 19) 34 dX9_sizeOf_19 rfl ?_ ?_
    · refine tt_ld (M := MX9_sizeOf) (pc := 34) dX9_sizeOf_34 rfl rfl rfl rfl rfl ?_
      exact tt_iret (M := MX9_sizeOf) (pc := 35) dX9_sizeOf_35 rfl
    · refine tt_iinc (M := MX9_sizeOf) (pc := 22) [some (.ref o0), some (.int (I l1)), some (.int (I (l2 + 1))), some (.int (I l3))] dX9_sizeOf_22 rfl rfl ?_
      refine tt_ld (M := MX9_sizeOf) (pc := 25) dX9_sizeOf_25 rfl rfl rfl rfl rfl ?_
      refine tt_ld (M := MX9_sizeOf) (pc := 26) dX9_sizeOf_26 rfl rfl rfl rfl rfl ?_
      refine tt_vcIN (M := MX9_sizeOf) (pc := 27) dX9_sizeOf_27 rfl rfl [] rfl rfl ⟨rfl, by decide, Nat.le_of_ble_eq_true rfl⟩ h0.1 fun v101 S102 => ?_
      refine tt_st (M := MX9_sizeOf) (pc := 30) [some (.ref o0), some (.int (I l1)), some (.int (I (l2 + 1))), some (.int (I v101))] dX9_sizeOf_30 rfl rfl rfl rfl rfl rfl ?_
      refine tt_goto (M := MX9_sizeOf) (pc := 31) 11 dX9_sizeOf_31 rfl ?_
      exact id
theorem qX9_nth_0 {sc : Nat × (Nat → Int32)} {SH : List mCell} {S : mStore} {r : mR × mW} {o0 g0 : Nat} (h0 : sTree SH o0 g0) {l1 : Int} {l2 : Int} {u3 : Option Value} {u4 : Option Value} : ((if I l2 < I 0 then r = rI (-1) SH S else (if I l2 < I 48 then (∃ v101 S102, G sc MX9_leftmost 0 [some (.ref o0), some (.int (I (96 + l1))), none, none, none] [] SH S (rI v101 SH S102) ∧ G sc MX9_nth 24 [some (.ref o0), some (.int (I l1)), some (.int (I l2)), some (.int (I v101)), some (.int (I 0))] [] SH S102 r) else r = rI (-1) SH S))) → G sc MX9_nth 0 [some (.ref o0), some (.int (I l1)), some (.int (I l2)), u3, u4] [] SH S r := by
  refine tt_ld (M := MX9_nth) (pc := 0) dX9_nth_0 rfl rfl rfl rfl rfl ?_
  refine tt_if_lt (M := MX9_nth) (pc := 1) 10 dX9_nth_1 rfl ?_ ?_
  · refine tt_iconst (M := MX9_nth) (pc := 10) dX9_nth_10 ?_
    exact tt_iret (M := MX9_nth) (pc := 11) dX9_nth_11 rfl
  · refine tt_ld (M := MX9_nth) (pc := 4) dX9_nth_4 rfl rfl rfl rfl rfl ?_
    refine tt_bipush (M := MX9_nth) (pc := 5) dX9_nth_5 (by decide) ?_
    refine tt_ic_lt (M := MX9_nth) (pc := 7) 12 dX9_nth_7 rfl ?_ ?_
    · refine tt_ld (M := MX9_nth) (pc := 12) dX9_nth_12 rfl rfl rfl rfl rfl ?_
      refine tt_bipush (M := MX9_nth) (pc := 13) dX9_nth_13 (by decide) ?_
      refine tt_ld (M := MX9_nth) (pc := 15) dX9_nth_15 rfl rfl rfl rfl rfl ?_
      refine tt_iadd (M := MX9_nth) (pc := 16) dX9_nth_16 ?_
      refine tt_vcIN (M := MX9_nth) (pc := 17) dX9_nth_17 rfl rfl [] rfl rfl ⟨rfl, by decide, Nat.le_of_ble_eq_true rfl⟩ h0.1 fun v101 S102 => ?_
      refine tt_st (M := MX9_nth) (pc := 20) [some (.ref o0), some (.int (I l1)), some (.int (I l2)), some (.int (I v101)), u4] dX9_nth_20 rfl rfl rfl rfl rfl rfl ?_
      refine tt_iconst (M := MX9_nth) (pc := 21) dX9_nth_21 ?_
      refine tt_st (M := MX9_nth) (pc := 22) [some (.ref o0), some (.int (I l1)), some (.int (I l2)), some (.int (I v101)), some (.int (I 0))] dX9_nth_22 rfl rfl rfl rfl rfl rfl ?_
      exact id
    · refine tt_iconst (M := MX9_nth) (pc := 10) dX9_nth_10 ?_
      exact tt_iret (M := MX9_nth) (pc := 11) dX9_nth_11 rfl
theorem qX9_nth_24 {sc : Nat × (Nat → Int32)} {SH : List mCell} {S : mStore} {r : mR × mW} {o0 g0 : Nat} (h0 : sTree SH o0 g0) {l1 : Int} {l2 : Int} {l3 : Int} {l4 : Int} : ((if I l2 ≤ I l4 then r = rI l3 SH S else (if I l3 = I (-1) then r = rI l3 SH S else (∃ v101 S102, G sc MX9_after 0 [some (.ref o0), some (.int (I l3)), none, none, none] [] SH S (rI v101 SH S102) ∧ G sc MX9_nth 24 [some (.ref o0), some (.int (I l1)), some (.int (I l2)), some (.int (I v101)), some (.int (I (l4 + 1)))] [] SH S102 r)))) → G sc MX9_nth 24 [some (.ref o0), some (.int (I l1)), some (.int (I l2)), some (.int (I l3)), some (.int (I l4))] [] SH S r := by
  refine tt_ld (M := MX9_nth) (pc := 24) dX9_nth_24 rfl rfl rfl rfl rfl ?_
  refine tt_ld (M := MX9_nth) (pc := 26) dX9_nth_26 rfl rfl rfl rfl rfl ?_
  refine tt_ic_ge (M := MX9_nth) (pc := 27) 47 dX9_nth_27 rfl ?_ ?_
  · refine tt_ld (M := MX9_nth) (pc := 47) dX9_nth_47 rfl rfl rfl rfl rfl ?_
    exact tt_iret (M := MX9_nth) (pc := 48) dX9_nth_48 rfl
  · refine tt_ld (M := MX9_nth) (pc := 30) dX9_nth_30 rfl rfl rfl rfl rfl ?_
    refine tt_iconst (M := MX9_nth) (pc := 31) dX9_nth_31 ?_
    refine tt_ic_eq (M := MX9_nth) (pc := 32) 47 dX9_nth_32 rfl ?_ ?_
    · refine tt_ld (M := MX9_nth) (pc := 47) dX9_nth_47 rfl rfl rfl rfl rfl ?_
      exact tt_iret (M := MX9_nth) (pc := 48) dX9_nth_48 rfl
    · refine tt_ld (M := MX9_nth) (pc := 35) dX9_nth_35 rfl rfl rfl rfl rfl ?_
      refine tt_ld (M := MX9_nth) (pc := 36) dX9_nth_36 rfl rfl rfl rfl rfl ?_
      refine tt_vcIN (M := MX9_nth) (pc := 37) dX9_nth_37 rfl rfl [] rfl rfl ⟨rfl, by decide, Nat.le_of_ble_eq_true rfl⟩ h0.1 fun v101 S102 => ?_
      refine tt_st (M := MX9_nth) (pc := 40) [some (.ref o0), some (.int (I l1)), some (.int (I l2)), some (.int (I v101)), some (.int (I l4))] dX9_nth_40 rfl rfl rfl rfl rfl rfl ?_
      refine tt_iinc (M := MX9_nth) (pc := 41) [some (.ref o0), some (.int (I l1)), some (.int (I l2)), some (.int (I v101)), some (.int (I (l4 + 1)))] dX9_nth_41 rfl rfl ?_
      refine tt_goto (M := MX9_nth) (pc := 44) 24 dX9_nth_44 rfl ?_
      exact id
