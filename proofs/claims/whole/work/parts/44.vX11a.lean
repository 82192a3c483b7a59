-- needs: 43.tshape
/-! ===== the program as conditions (gen_vc.py) ===== -/
theorem qX11_thrown_0 {sc : Nat × (Nat → Int32)} {SH : List mCell} {S : mStore} {r : mR × mW} (h0 : sMod SH) : (r = rI (S 90 4) SH S) → G sc MX11_thrown 0 [some (.ref 90)] [] SH S r := by
  refine tt_ld (M := MX11_thrown) (pc := 0) dX11_thrown_0 rfl rfl rfl rfl rfl ?_
  refine tt_getI (M := MX11_thrown) (pc := 1) dX11_thrown_1 rfl h0.1 rfl ?_
  exact tt_iret (M := MX11_thrown) (pc := 4) dX11_thrown_4 rfl
theorem qX11_right_0 {sc : Nat × (Nat → Int32)} {SH : List mCell} {S : mStore} {r : mR × mW} (h0 : sMod SH) {l1 : Int} {l2 : Int} : ((if I (S 90 4) = I 0 then (if I l1 = I 0 then (if I ((up S 90 4 l2) 90 4) = I 0 then ((I 1 = I 0 ∨ I 1 = I 1) ∧ r = rI 1 SH (up S 90 4 l2)) else ((I 0 = I 0 ∨ I 0 = I 1) ∧ r = rI 0 SH (up S 90 4 l2))) else (if I (S 90 4) = I 0 then ((I 1 = I 0 ∨ I 1 = I 1) ∧ r = rI 1 SH S) else ((I 0 = I 0 ∨ I 0 = I 1) ∧ r = rI 0 SH S))) else (if I (S 90 4) = I 0 then ((I 1 = I 0 ∨ I 1 = I 1) ∧ r = rI 1 SH S) else ((I 0 = I 0 ∨ I 0 = I 1) ∧ r = rI 0 SH S)))) → G sc MX11_right 0 [some (.ref 90), some (.int (I l1)), some (.int (I l2))] [] SH S r := by
  refine tt_ld (M := MX11_right) (pc := 0) dX11_right_0 rfl rfl rfl rfl rfl ?_
  refine tt_getI (M := MX11_right) (pc := 1) dX11_right_1 rfl h0.1 rfl ?_
  refine tt_if_ne (M := MX11_right) (pc := 4) 16 dX11_right_4 rfl ?_ ?_
  · refine tt_ld (M := MX11_right) (pc := 16) dX11_right_16 rfl rfl rfl rfl rfl ?_
    refine tt_getI (M := MX11_right) (pc := 17) dX11_right_17 rfl h0.1 rfl ?_
    refine tt_if_ne (M := MX11_right) (pc := 20) 27 dX11_right_20 rfl ?_ ?_
    · refine tt_iconst (M := MX11_right) (pc := 27) dX11_right_27 ?_
      exact tt_zret (M := MX11_right) (pc := 28) dX11_right_28 rfl
    · refine tt_iconst (M := MX11_right) (pc := 23) dX11_right_23 ?_
      refine tt_goto (M := MX11_right) (pc := 24) 28 dX11_right_24 rfl ?_
      exact tt_zret (M := MX11_right) (pc := 28) dX11_right_28 rfl
  · refine tt_ld (M := MX11_right) (pc := 7) dX11_right_7 rfl rfl rfl rfl rfl ?_
    refine tt_if_ne (M := MX11_right) (pc := 8) 16 dX11_right_8 rfl ?_ ?_
    · refine tt_ld (M := MX11_right) (pc := 16) dX11_right_16 rfl rfl rfl rfl rfl ?_
      refine tt_getI (M := MX11_right) (pc := 17) dX11_right_17 rfl h0.1 rfl ?_
      refine tt_if_ne (M := MX11_right) (pc := 20) 27 dX11_right_20 rfl ?_ ?_
      · refine tt_iconst (M := MX11_right) (pc := 27) dX11_right_27 ?_
        exact tt_zret (M := MX11_right) (pc := 28) dX11_right_28 rfl
      · refine tt_iconst (M := MX11_right) (pc := 23) dX11_right_23 ?_
        refine tt_goto (M := MX11_right) (pc := 24) 28 dX11_right_24 rfl ?_
        exact tt_zret (M := MX11_right) (pc := 28) dX11_right_28 rfl
    · refine tt_ld (M := MX11_right) (pc := 11) dX11_right_11 rfl rfl rfl rfl rfl ?_
      refine tt_ld (M := MX11_right) (pc := 12) dX11_right_12 rfl rfl rfl rfl rfl ?_
      refine tt_putI (M := MX11_right) (pc := 13) dX11_right_13 rfl rfl (Or.inl rfl) h0.1 rfl ?_
      refine tt_ld (M := MX11_right) (pc := 16) dX11_right_16 rfl rfl rfl rfl rfl ?_
      refine tt_getI (M := MX11_right) (pc := 17) dX11_right_17 rfl h0.1 rfl ?_
      refine tt_if_ne (M := MX11_right) (pc := 20) 27 dX11_right_20 rfl ?_ ?_
      · refine tt_iconst (M := MX11_right) (pc := 27) dX11_right_27 ?_
        exact tt_zret (M := MX11_right) (pc := 28) dX11_right_28 rfl
      · refine tt_iconst (M := MX11_right) (pc := 23) dX11_right_23 ?_
        refine tt_goto (M := MX11_right) (pc := 24) 28 dX11_right_24 rfl ?_
        exact tt_zret (M := MX11_right) (pc := 28) dX11_right_28 rfl
theorem qX11_within_0 {sc : Nat × (Nat → Int32)} {SH : List mCell} {S : mStore} {r : mR × mW} {l0 : Int} {l1 : Int} {l2 : Int} : ((if I l0 < I l1 then ((I 0 = I 0 ∨ I 0 = I 1) ∧ r = rI 0 SH S) else (if I l2 < I l0 then ((I 0 = I 0 ∨ I 0 = I 1) ∧ r = rI 0 SH S) else ((I 1 = I 0 ∨ I 1 = I 1) ∧ r = rI 1 SH S)))) → G sc MX11_within 0 [some (.int (I l0)), some (.int (I l1)), some (.int (I l2))] [] SH S r := by
  refine tt_ld (M := MX11_within) (pc := 0) dX11_within_0 rfl rfl rfl rfl rfl ?_
  refine tt_ld (M := MX11_within) (pc := 1) dX11_within_1 rfl rfl rfl rfl rfl ?_
  refine tt_ic_lt (M := MX11_within) (pc := 2) 14 dX11_within_2 rfl ?_ ?_
  · refine tt_iconst (M := MX11_within) (pc := 14) dX11_within_14 ?_
    exact tt_zret (M := MX11_within) (pc := 15) dX11_within_15 rfl
  · refine tt_ld (M := MX11_within) (pc := 5) dX11_within_5 rfl rfl rfl rfl rfl ?_
    refine tt_ld (M := MX11_within) (pc := 6) dX11_within_6 rfl rfl rfl rfl rfl ?_
    refine tt_ic_gt (M := MX11_within) (pc := 7) 14 dX11_within_7 rfl ?_ ?_
    · refine tt_iconst (M := MX11_within) (pc := 14) dX11_within_14 ?_
      exact tt_zret (M := MX11_within) (pc := 15) dX11_within_15 rfl
    · refine tt_iconst (M := MX11_within) (pc := 10) dX11_within_10 ?_
      refine tt_goto (M := MX11_within) (pc := 11) 15 dX11_within_11 rfl ?_
      exact tt_zret (M := MX11_within) (pc := 15) dX11_within_15 rfl
theorem qX11_lesser_0 {sc : Nat × (Nat → Int32)} {SH : List mCell} {S : mStore} {r : mR × mW} {l0 : Int} {l1 : Int} : ((if I l1 ≤ I l0 then r = rI l1 SH S else r = rI l0 SH S)) → G sc MX11_lesser 0 [some (.int (I l0)), some (.int (I l1))] [] SH S r := by
  refine tt_ld (M := MX11_lesser) (pc := 0) dX11_lesser_0 rfl rfl rfl rfl rfl ?_
  refine tt_ld (M := MX11_lesser) (pc := 1) dX11_lesser_1 rfl rfl rfl rfl rfl ?_
  refine tt_ic_ge (M := MX11_lesser) (pc := 2) 9 dX11_lesser_2 rfl ?_ ?_
  · refine tt_ld (M := MX11_lesser) (pc := 9) dX11_lesser_9 rfl rfl rfl rfl rfl ?_
    exact tt_iret (M := MX11_lesser) (pc := 10) dX11_lesser_10 rfl
  · refine tt_ld (M := MX11_lesser) (pc := 5) dX11_lesser_5 rfl rfl rfl rfl rfl ?_
    refine tt_goto (M := MX11_lesser) (pc := 6) 10 dX11_lesser_6 rfl ?_
    exact tt_iret (M := MX11_lesser) (pc := 10) dX11_lesser_10 rfl
theorem qX11_greater_0 {sc : Nat × (Nat → Int32)} {SH : List mCell} {S : mStore} {r : mR × mW} {l0 : Int} {l1 : Int} : ((if I l0 ≤ I l1 then r = rI l1 SH S else r = rI l0 SH S)) → G sc MX11_greater 0 [some (.int (I l0)), some (.int (I l1))] [] SH S r := by
  refine tt_ld (M := MX11_greater) (pc := 0) dX11_greater_0 rfl rfl rfl rfl rfl ?_
  refine tt_ld (M := MX11_greater) (pc := 1) dX11_greater_1 rfl rfl rfl rfl rfl ?_
  refine tt_ic_le (M := MX11_greater) (pc := 2) 9 dX11_greater_2 rfl ?_ ?_
  · refine tt_ld (M := MX11_greater) (pc := 9) dX11_greater_9 rfl rfl rfl rfl rfl ?_
    exact tt_iret (M := MX11_greater) (pc := 10) dX11_greater_10 rfl
  · refine tt_ld (M := MX11_greater) (pc := 5) dX11_greater_5 rfl rfl rfl rfl rfl ?_
    refine tt_goto (M := MX11_greater) (pc := 6) 10 dX11_greater_6 rfl ?_
    exact tt_iret (M := MX11_greater) (pc := 10) dX11_greater_10 rfl
theorem qX11_copies_0 {sc : Nat × (Nat → Int32)} {SH : List mCell} {S : mStore} {r : mR × mW} (h0 : sMod SH) {l1 : Int} {l2 : Int} {l3 : Int} {u4 : Option Value} : (G sc MX11_copies 3 [some (.ref 90), some (.int (I l1)), some (.int (I l2)), some (.int (I l3)), some (.int (I 0))] [] SH S r) → G sc MX11_copies 0 [some (.ref 90), some (.int (I l1)), some (.int (I l2)), some (.int (I l3)), u4] [] SH S r := by
  refine tt_iconst (M := MX11_copies) (pc := 0) dX11_copies_0 ?_
  refine tt_st (M := MX11_copies) (pc := 1) [some (.ref 90), some (.int (I l1)), some (.int (I l2)), some (.int (I l3)), some (.int (I 0))] dX11_copies_1 rfl rfl rfl rfl rfl rfl ?_
  exact id
theorem qX11_copies_3 {sc : Nat × (Nat → Int32)} {SH : List mCell} {S : mStore} {r : mR × mW} (h0 : sMod SH) {l1 : Int} {l2 : Int} {l3 : Int} {l4 : Int} : ((if I l3 ≤ I l4 then r = rV SH S else (((0 : Int) ≤ l1 + l4 ∧ l1 + l4 < 137400) ∧ (((0 : Int) ≤ l2 + l4 ∧ l2 + l4 < 137400) ∧ G sc MX11_copies 3 [some (.ref 90), some (.int (I l1)), some (.int (I l2)), some (.int (I l3)), some (.int (I (l4 + 1)))] [] SH (up S 91 (l2 + l4) (S 91 (l1 + l4))) r)))) → G sc MX11_copies 3 [some (.ref 90), some (.int (I l1)), some (.int (I l2)), some (.int (I l3)), some (.int (I l4))] [] SH S r := by
  refine tt_ld (M := MX11_copies) (pc := 3) dX11_copies_3 rfl rfl rfl rfl rfl ?_
  refine tt_ld (M := MX11_copies) (pc := 5) dX11_copies_5 rfl rfl rfl rfl rfl ?_
  refine tt_ic_ge (M := MX11_copies) (pc := 6) 33 dX11_copies_6 rfl ?_ ?_
  · exact tt_ret (M := MX11_copies) (pc := 33) dX11_copies_33 rfl
  · refine tt_ld (M := MX11_copies) (pc := 9) dX11_copies_9 rfl rfl rfl rfl rfl ?_
    refine tt_getR (M := MX11_copies) (pc := 10) dX11_copies_10 rfl h0.1 rfl ?_
    refine tt_ld (M := MX11_copies) (pc := 13) dX11_copies_13 rfl rfl rfl rfl rfl ?_
    refine tt_ld (M := MX11_copies) (pc := 14) dX11_copies_14 rfl rfl rfl rfl rfl ?_
    refine tt_iadd (M := MX11_copies) (pc := 16) dX11_copies_16 ?_
    refine tt_ld (M := MX11_copies) (pc := 17) dX11_copies_17 rfl rfl rfl rfl rfl ?_
    refine tt_getR (M := MX11_copies) (pc := 18) dX11_copies_18 rfl h0.1 rfl ?_
    refine tt_ld (M := MX11_copies) (pc := 21) dX11_copies_21 rfl rfl rfl rfl rfl ?_
    refine tt_ld (M := MX11_copies) (pc := 22) dX11_copies_22 rfl rfl rfl rfl rfl ?_
    refine tt_iadd (M := MX11_copies) (pc := 24) dX11_copies_24 ?_
    refine tt_iaload (M := MX11_copies) (pc := 25) dX11_copies_25 h0.2.1 rfl ?_
    refine tt_iastore (M := MX11_copies) (pc := 26) dX11_copies_26 h0.2.1 rfl ?_
    refine tt_iinc (M := MX11_copies) (pc := 27) [some (.ref 90), some (.int (I l1)), some (.int (I l2)), some (.int (I l3)), some (.int (I (l4 + 1)))] dX11_copies_27 rfl rfl ?_
    refine tt_goto (M := MX11_copies) (pc := 30) 3 dX11_copies_30 rfl ?_
    exact id
theorem qX11_begins_0 {sc : Nat × (Nat → Int32)} {SH : List mCell} {S : mStore} {r : mR × mW} (h0 : sMod SH) {u1 : Option Value} : (G sc MX11_begins 2 [some (.ref 90), some (.int (I 0))] [] SH S r) → G sc MX11_begins 0 [some (.ref 90), u1] [] SH S r := by
  refine tt_iconst (M := MX11_begins) (pc := 0) dX11_begins_0 ?_
  refine tt_st (M := MX11_begins) (pc := 1) [some (.ref 90), some (.int (I 0))] dX11_begins_1 rfl rfl rfl rfl rfl rfl ?_
  exact id
theorem qX11_begins_2 {sc : Nat × (Nat → Int32)} {SH : List mCell} {S : mStore} {r : mR × mW} (h0 : sMod SH) {l1 : Int} : ((if I 1654 ≤ I l1 then (((0 : Int) ≤ 0 ∧ (0 : Int) < 137400) ∧ G sc MX11_begins 34 [some (.ref 90), some (.int (I 0))] [] SH (up S 91 0 (S 90 14)) r) else (((0 : Int) ≤ l1 ∧ l1 < 137400) ∧ G sc MX11_begins 2 [some (.ref 90), some (.int (I (l1 + 1)))] [] SH (up S 91 l1 0) r))) → G sc MX11_begins 2 [some (.ref 90), some (.int (I l1))] [] SH S r := by
  refine tt_ld (M := MX11_begins) (pc := 2) dX11_begins_2 rfl rfl rfl rfl rfl ?_
  refine tt_sipush (M := MX11_begins) (pc := 3) dX11_begins_3 (by decide) ?_
  refine tt_ic_ge (M := MX11_begins) (pc := 6) 22 dX11_begins_6 rfl ?_ ?_
  · refine tt_ld (M := MX11_begins) (pc := 22) dX11_begins_22 rfl rfl rfl rfl rfl ?_
    refine tt_getR (M := MX11_begins) (pc := 23) dX11_begins_23 rfl h0.1 rfl ?_
    refine tt_iconst (M := MX11_begins) (pc := 26) dX11_begins_26 ?_
    refine tt_ld (M := MX11_begins) (pc := 27) dX11_begins_27 rfl rfl rfl rfl rfl ?_
    refine tt_getI (M := MX11_begins) (pc := 28) dX11_begins_28 rfl h0.1 rfl ?_
    refine tt_iastore (M := MX11_begins) (pc := 31) dX11_begins_31 h0.2.1 rfl ?_
    refine tt_iconst (M := MX11_begins) (pc := 32) dX11_begins_32 ?_
    refine tt_st (M := MX11_begins) (pc := 33) [some (.ref 90), some (.int (I 0))] dX11_begins_33 rfl rfl rfl rfl rfl rfl ?_
    exact id
  · refine tt_ld (M := MX11_begins) (pc := 9) dX11_begins_9 rfl rfl rfl rfl rfl ?_
    refine tt_getR (M := MX11_begins) (pc := 10) dX11_begins_10 rfl h0.1 rfl ?_
    refine tt_ld (M := MX11_begins) (pc := 13) dX11_begins_13 rfl rfl rfl rfl rfl ?_
    refine tt_iconst (M := MX11_begins) (pc := 14) dX11_begins_14 ?_
    refine tt_iastore (M := MX11_begins) (pc := 15) dX11_begins_15 h0.2.1 rfl ?_
    refine tt_iinc (M := MX11_begins) (pc := 16) [some (.ref 90), some (.int (I (l1 + 1)))] dX11_begins_16 rfl rfl ?_
    refine tt_goto (M := MX11_begins) (pc := 19) 2 dX11_begins_19 rfl ?_
    exact id
theorem qX11_begins_34 {sc : Nat × (Nat → Int32)} {SH : List mCell} {S : mStore} {r : mR × mW} (h0 : sMod SH) {l1 : Int} : ((if I 48 ≤ I l1 then G sc MX11_begins 69 [some (.ref 90), some (.int (I 0))] [] SH S r else (((0 : Int) ≤ 16 + l1 ∧ 16 + l1 < 137400) ∧ (((0 : Int) ≤ 160 + l1 ∧ 160 + l1 < 137400) ∧ G sc MX11_begins 34 [some (.ref 90), some (.int (I (l1 + 1)))] [] SH (up (up S 91 (16 + l1) (-1)) 91 (160 + l1) (-1)) r)))) → G sc MX11_begins 34 [some (.ref 90), some (.int (I l1))] [] SH S r := by
  refine tt_ld (M := MX11_begins) (pc := 34) dX11_begins_34 rfl rfl rfl rfl rfl ?_
  refine tt_bipush (M := MX11_begins) (pc := 35) dX11_begins_35 (by decide) ?_
  refine tt_ic_ge (M := MX11_begins) (pc := 37) 67 dX11_begins_37 rfl ?_ ?_
  · refine tt_iconst (M := MX11_begins) (pc := 67) dX11_begins_67 ?_
    refine tt_st (M := MX11_begins) (pc := 68) [some (.ref 90), some (.int (I 0))] dX11_begins_68 rfl rfl rfl rfl rfl rfl ?_
    exact id
  · refine tt_ld (M := MX11_begins) (pc := 40) dX11_begins_40 rfl rfl rfl rfl rfl ?_
    refine tt_getR (M := MX11_begins) (pc := 41) dX11_begins_41 rfl h0.1 rfl ?_
    refine tt_bipush (M := MX11_begins) (pc := 44) dX11_begins_44 (by decide) ?_
    refine tt_ld (M := MX11_begins) (pc := 46) dX11_begins_46 rfl rfl rfl rfl rfl ?_
    refine tt_iadd (M := MX11_begins) (pc := 47) dX11_begins_47 ?_
    refine tt_iconst (M := MX11_begins) (pc := 48) dX11_begins_48 ?_
    refine tt_iastore (M := MX11_begins) (pc := 49) dX11_begins_49 h0.2.1 rfl ?_
    refine tt_ld (M := MX11_begins) (pc := 50) dX11_begins_50 rfl rfl rfl rfl rfl ?_
    refine tt_getR (M := MX11_begins) (pc := 51) dX11_begins_51 rfl h0.1 rfl ?_
    refine tt_sipush (M := MX11_begins) (pc := 54) dX11_begins_54 (by decide) ?_
    refine tt_ld (M := MX11_begins) (pc := 57) dX11_begins_57 rfl rfl rfl rfl rfl ?_
    refine tt_iadd (M := MX11_begins) (pc := 58) dX11_begins_58 ?_
    refine tt_iconst (M := MX11_begins) (pc := 59) dX11_begins_59 ?_
    refine tt_iastore (M := MX11_begins) (pc := 60) dX11_begins_60 h0.2.1 rfl ?_
    refine tt_iinc (M := MX11_begins) (pc := 61) [some (.ref 90), some (.int (I (l1 + 1)))] dX11_begins_61 rfl rfl ?_
    refine tt_goto (M := MX11_begins) (pc := 64) 34 dX11_begins_64 rfl ?_
    exact id
theorem qX11_begins_69 {sc : Nat × (Nat → Int32)} {SH : List mCell} {S : mStore} {r : mR × mW} (h0 : sMod SH) {l1 : Int} : ((if I 48 ≤ I l1 then r = rV SH S else (((0 : Int) ≤ 976 + l1 ∧ 976 + l1 < 137400) ∧ G sc MX11_begins 69 [some (.ref 90), some (.int (I (l1 + 1)))] [] SH (up S 91 (976 + l1) (-1)) r))) → G sc MX11_begins 69 [some (.ref 90), some (.int (I l1))] [] SH S r := by
  refine tt_ld (M := MX11_begins) (pc := 69) dX11_begins_69 rfl rfl rfl rfl rfl ?_
  refine tt_bipush (M := MX11_begins) (pc := 70) dX11_begins_70 (by decide) ?_
  refine tt_ic_ge (M := MX11_begins) (pc := 72) 92 dX11_begins_72 rfl ?_ ?_
  · exact tt_ret (M := MX11_begins) (pc := 92) dX11_begins_92 rfl
  · refine tt_ld (M := MX11_begins) (pc := 75) dX11_begins_75 rfl rfl rfl rfl rfl ?_
    refine tt_getR (M := MX11_begins) (pc := 76) dX11_begins_76 rfl h0.1 rfl ?_
    refine tt_sipush (M := MX11_begins) (pc := 79) dX11_begins_79 (by decide) ?_
    refine tt_ld (M := MX11_begins) (pc := 82) dX11_begins_82 rfl rfl rfl rfl rfl ?_
    refine tt_iadd (M := MX11_begins) (pc := 83) dX11_begins_83 ?_
    refine tt_iconst (M := MX11_begins) (pc := 84) dX11_begins_84 ?_
    refine tt_iastore (M := MX11_begins) (pc := 85) dX11_begins_85 h0.2.1 rfl ?_
    refine tt_iinc (M := MX11_begins) (pc := 86) [some (.ref 90), some (.int (I (l1 + 1)))] dX11_begins_86 rfl rfl ?_
    refine tt_goto (M := MX11_begins) (pc := 89) 69 dX11_begins_89 rfl ?_
    exact id
theorem qX11_cellOf_0 {sc : Nat × (Nat → Int32)} {SH : List mCell} {S : mStore} {r : mR × mW} (h0 : sMod SH) {l1 : Int} {l2 : Int} {l3 : Int} {u4 : Option Value} : ((((0 : Int) ≤ (l1 + 16) + l2 ∧ (l1 + 16) + l2 < 137400) ∧ (if I (S 91 ((l1 + 16) + l2)) = I (-1) then r = rI 0 SH S else (((0 : Int) ≤ ((l1 + 352) + (4 * (S 91 ((l1 + 16) + l2)))) + l3 ∧ ((l1 + 352) + (4 * (S 91 ((l1 + 16) + l2)))) + l3 < 137400) ∧ r = rI (S 91 (((l1 + 352) + (4 * (S 91 ((l1 + 16) + l2)))) + l3)) SH S)))) → G sc MX11_cellOf 0 [some (.ref 90), some (.int (I l1)), some (.int (I l2)), some (.int (I l3)), u4] [] SH S r := by
  refine tt_ld (M := MX11_cellOf) (pc := 0) dX11_cellOf_0 rfl rfl rfl rfl rfl ?_
  refine tt_getR (M := MX11_cellOf) (pc := 1) dX11_cellOf_1 rfl h0.1 rfl ?_
  refine tt_ld (M := MX11_cellOf) (pc := 4) dX11_cellOf_4 rfl rfl rfl rfl rfl ?_
  refine tt_bipush (M := MX11_cellOf) (pc := 5) dX11_cellOf_5 (by decide) ?_
  refine tt_iadd (M := MX11_cellOf) (pc := 7) dX11_cellOf_7 ?_
  refine tt_ld (M := MX11_cellOf) (pc := 8) dX11_cellOf_8 rfl rfl rfl rfl rfl ?_
  refine tt_iadd (M := MX11_cellOf) (pc := 9) dX11_cellOf_9 ?_
  refine tt_iaload (M := MX11_cellOf) (pc := 10) dX11_cellOf_10 h0.2.1 rfl ?_
  refine tt_st (M := MX11_cellOf) (pc := 11) [some (.ref 90), some (.int (I l1)), some (.int (I l2)), some (.int (I l3)), some (.int (I (S 91 ((l1 + 16) + l2))))] dX11_cellOf_11 rfl rfl rfl rfl rfl rfl ?_
  refine tt_ld (M := MX11_cellOf) (pc := 13) dX11_cellOf_13 rfl rfl rfl rfl rfl ?_
  refine tt_iconst (M := MX11_cellOf) (pc := 15) dX11_cellOf_15 ?_
  refine tt_ic_ne (M := MX11_cellOf) (pc := 16) 23 dX11_cellOf_16 rfl ?_ ?_
  · refine tt_ld (M := MX11_cellOf) (pc := 23) dX11_cellOf_23 rfl rfl rfl rfl rfl ?_
    refine tt_getR (M := MX11_cellOf) (pc := 24) dX11_cellOf_24 rfl h0.1 rfl ?_
    refine tt_ld (M := MX11_cellOf) (pc := 27) dX11_cellOf_27 rfl rfl rfl rfl rfl ?_
    refine tt_sipush (M := MX11_cellOf) (pc := 28) dX11_cellOf_28 (by decide) ?_
    refine tt_iadd (M := MX11_cellOf) (pc := 31) dX11_cellOf_31 ?_
    refine tt_iconst (M := MX11_cellOf) (pc := 32) dX11_cellOf_32 ?_
    refine tt_ld (M := MX11_cellOf) (pc := 33) dX11_cellOf_33 rfl rfl rfl rfl rfl ?_
    refine tt_imul (M := MX11_cellOf) (pc := 35) dX11_cellOf_35 ?_
    refine tt_iadd (M := MX11_cellOf) (pc := 36) dX11_cellOf_36 ?_
    refine tt_ld (M := MX11_cellOf) (pc := 37) dX11_cellOf_37 rfl rfl rfl rfl rfl ?_
    refine tt_iadd (M := MX11_cellOf) (pc := 38) dX11_cellOf_38 ?_
    refine tt_iaload (M := MX11_cellOf) (pc := 39) dX11_cellOf_39 h0.2.1 rfl ?_
    exact tt_iret (M := MX11_cellOf) (pc := 40) dX11_cellOf_40 rfl
  · refine tt_iconst (M := MX11_cellOf) (pc := 19) dX11_cellOf_19 ?_
    refine tt_goto (M := MX11_cellOf) (pc := 20) 40 dX11_cellOf_20 rfl ?_
    exact tt_iret (M := MX11_cellOf) (pc := 40) dX11_cellOf_40 rfl
theorem qX11_free_0 {sc : Nat × (Nat → Int32)} {SH : List mCell} {S : mStore} {r : mR × mW} (h0 : sMod SH) {l1 : Int} {u2 : Option Value} : (G sc MX11_free 2 [some (.ref 90), some (.int (I l1)), some (.int (I 0))] [] SH S r) → G sc MX11_free 0 [some (.ref 90), some (.int (I l1)), u2] [] SH S r := by
  refine tt_iconst (M := MX11_free) (pc := 0) dX11_free_0 ?_
  refine tt_st (M := MX11_free) (pc := 1) [some (.ref 90), some (.int (I l1)), some (.int (I 0))] dX11_free_1 rfl rfl rfl rfl rfl rfl ?_
  exact id
theorem qX11_free_2 {sc : Nat × (Nat → Int32)} {SH : List mCell} {S : mStore} {r : mR × mW} (h0 : sMod SH) {l1 : Int} {l2 : Int} : ((if I (S 90 12) ≤ I l2 then G sc MX11_free 31 [some (.ref 90), some (.int (I l1)), some (.int (I l2))] [] SH S r else (((0 : Int) ≤ (l1 + 544) + l2 ∧ (l1 + 544) + l2 < 137400) ∧ (if I (S 91 ((l1 + 544) + l2)) ≤ I 0 then G sc MX11_free 31 [some (.ref 90), some (.int (I l1)), some (.int (I l2))] [] SH S r else G sc MX11_free 2 [some (.ref 90), some (.int (I l1)), some (.int (I (l2 + 1)))] [] SH S r)))) → G sc MX11_free 2 [some (.ref 90), some (.int (I l1)), some (.int (I l2))] [] SH S r := by
  refine tt_ld (M := MX11_free) (pc := 2) dX11_free_2 rfl rfl rfl rfl rfl ?_
  refine tt_ld (M := MX11_free) (pc := 3) dX11_free_3 rfl rfl rfl rfl rfl ?_
  refine tt_getI (M := MX11_free) (pc := 4) dX11_free_4 rfl h0.1 rfl ?_
  refine tt_ic_ge (M := MX11_free) (pc := 7) 31 dX11_free_7 rfl ?_ ?_
  · exact id
  · refine tt_ld (M := MX11_free) (pc := 10) dX11_free_10 rfl rfl rfl rfl rfl ?_
    refine tt_getR (M := MX11_free) (pc := 11) dX11_free_11 rfl h0.1 rfl ?_
    refine tt_ld (M := MX11_free) (pc := 14) dX11_free_14 rfl rfl rfl rfl rfl ?_
    refine tt_sipush (M := MX11_free) (pc := 15) dX11_free_15 (by decide) ?_
    refine tt_iadd (M := MX11_free) (pc := 18) dX11_free_18 ?_
    refine tt_ld (M := MX11_free) (pc := 19) dX11_free_19 rfl rfl rfl rfl rfl ?_
    refine tt_iadd (M := MX11_free) (pc := 20) dX11_free_20 ?_
    refine tt_iaload (M := MX11_free) (pc := 21) dX11_free_21 h0.2.1 rfl ?_
    refine tt_if_le (M := MX11_free) (pc := 22) 31 dX11_free_22 rfl ?_ ?_
    · exact id
    · refine tt_iinc (M := MX11_free) (pc := 25) [some (.ref 90), some (.int (I l1)), some (.int (I (l2 + 1)))] dX11_free_25 rfl rfl ?_
      refine tt_goto (M := MX11_free) (pc := 28) 2 dX11_free_28 rfl ?_
      exact id
theorem qX11_free_31 {sc : Nat × (Nat → Int32)} {SH : List mCell} {S : mStore} {r : mR × mW} (h0 : sMod SH) {l1 : Int} {l2 : Int} : ((if I (S 90 12) ≤ I l2 then r = rI (-1) SH S else r = rI l2 SH S)) → G sc MX11_free 31 [some (.ref 90), some (.int (I l1)), some (.int (I l2))] [] SH S r := by
  refine tt_ld (M := MX11_free) (pc := 31) dX11_free_31 rfl rfl rfl rfl rfl ?_
  refine tt_ld (M := MX11_free) (pc := 32) dX11_free_32 rfl rfl rfl rfl rfl ?_
  refine tt_getI (M := MX11_free) (pc := 33) dX11_free_33 rfl h0.1 rfl ?_
  refine tt_ic_ge (M := MX11_free) (pc := 36) 43 dX11_free_36 rfl ?_ ?_
  · refine tt_iconst (M := MX11_free) (pc := 43) dX11_free_43 ?_
    exact tt_iret (M := MX11_free) (pc := 44) dX11_free_44 rfl
  · refine tt_ld (M := MX11_free) (pc := 39) dX11_free_39 rfl rfl rfl rfl rfl ?_
    refine tt_goto (M := MX11_free) (pc := 40) 44 dX11_free_40 rfl ?_
    exact tt_iret (M := MX11_free) (pc := 44) dX11_free_44 rfl
theorem qX11_usedOf_0 {sc : Nat × (Nat → Int32)} {SH : List mCell} {S : mStore} {r : mR × mW} (h0 : sMod SH) {l1 : Int} {u2 : Option Value} {u3 : Option Value} : (G sc MX11_usedOf 4 [some (.ref 90), some (.int (I l1)), some (.int (I 0)), some (.int (I 0))] [] SH S r) → G sc MX11_usedOf 0 [some (.ref 90), some (.int (I l1)), u2, u3] [] SH S r := by
  refine tt_iconst (M := MX11_usedOf) (pc := 0) dX11_usedOf_0 ?_
  refine tt_st (M := MX11_usedOf) (pc := 1) [some (.ref 90), some (.int (I l1)), some (.int (I 0)), u3] dX11_usedOf_1 rfl rfl rfl rfl rfl rfl ?_
  refine tt_iconst (M := MX11_usedOf) (pc := 2) dX11_usedOf_2 ?_
  refine tt_st (M := MX11_usedOf) (pc := 3) [some (.ref 90), some (.int (I l1)), some (.int (I 0)), some (.int (I 0))] dX11_usedOf_3 rfl rfl rfl rfl rfl rfl ?_
  exact id
theorem qX11_usedOf_4 {sc : Nat × (Nat → Int32)} {SH : List mCell} {S : mStore} {r : mR × mW} (h0 : sMod SH) {l1 : Int} {l2 : Int} {l3 : Int} : ((if I (S 90 12) ≤ I l3 then r = rI l2 SH S else (((0 : Int) ≤ (l1 + 544) + l3 ∧ (l1 + 544) + l3 < 137400) ∧ (if I (S 91 ((l1 + 544) + l3)) ≤ I 0 then G sc MX11_usedOf 4 [some (.ref 90), some (.int (I l1)), some (.int (I (l2 + 0))), some (.int (I (l3 + 1)))] [] SH S r else G sc MX11_usedOf 4 [some (.ref 90), some (.int (I l1)), some (.int (I (l2 + 1))), some (.int (I (l3 + 1)))] [] SH S r)))) → G sc MX11_usedOf 4 [some (.ref 90), some (.int (I l1)), some (.int (I l2)), some (.int (I l3))] [] SH S r := by
  refine tt_ld (M := MX11_usedOf) (pc := 4) dX11_usedOf_4 rfl rfl rfl rfl rfl ?_
  refine tt_ld (M := MX11_usedOf) (pc := 5) dX11_usedOf_5 rfl rfl rfl rfl rfl ?_
  refine tt_getI (M := MX11_usedOf) (pc := 6) dX11_usedOf_6 rfl h0.1 rfl ?_
  refine tt_ic_ge (M := MX11_usedOf) (pc := 9) 41 dX11_usedOf_9 rfl ?_ ?_
  · refine tt_ld (M := MX11_usedOf) (pc := 41) dX11_usedOf_41 rfl rfl rfl rfl rfl ?_
    exact tt_iret (M := MX11_usedOf) (pc := 42) dX11_usedOf_42 rfl
  · refine tt_ld (M := MX11_usedOf) (pc := 12) dX11_usedOf_12 rfl rfl rfl rfl rfl ?_
    refine tt_ld (M := MX11_usedOf) (pc := 13) dX11_usedOf_13 rfl rfl rfl rfl rfl ?_
    refine tt_getR (M := MX11_usedOf) (pc := 14) dX11_usedOf_14 rfl h0.1 rfl ?_
    refine tt_ld (M := MX11_usedOf) (pc := 17) dX11_usedOf_17 rfl rfl rfl rfl rfl ?_
    refine tt_sipush (M := MX11_usedOf) (pc := 18) dX11_usedOf_18 (by decide) ?_
    refine tt_iadd (M := MX11_usedOf) (pc := 21) dX11_usedOf_21 ?_
    refine tt_ld (M := MX11_usedOf) (pc := 22) dX11_usedOf_22 rfl rfl rfl rfl rfl ?_
    refine tt_iadd (M := MX11_usedOf) (pc := 23) dX11_usedOf_23 ?_
    refine tt_iaload (M := MX11_usedOf) (pc := 24) dX11_usedOf_24 h0.2.1 rfl ?_
    refine tt_if_le (M := MX11_usedOf) (pc := 25) 32 dX11_usedOf_25 rfl ?_ ?_
    · refine tt_iconst (M := MX11_usedOf) (pc := 32) dX11_usedOf_32 ?_
      refine tt_iadd (M := MX11_usedOf) (pc := 33) dX11_usedOf_33 ?_
      refine tt_st (M := MX11_usedOf) (pc := 34) [some (.ref 90), some (.int (I l1)), some (.int (I (l2 + 0))), some (.int (I l3))] dX11_usedOf_34 rfl rfl rfl rfl rfl rfl ?_
      refine tt_iinc (M := MX11_usedOf) (pc := 35) [some (.ref 90), some (.int (I l1)), some (.int (I (l2 + 0))), some (.int (I (l3 + 1)))] dX11_usedOf_35 rfl rfl ?_
      refine tt_goto (M := MX11_usedOf) (pc := 38) 4 dX11_usedOf_38 rfl ?_
      exact id
    · refine tt_iconst (M := MX11_usedOf) (pc := 28) dX11_usedOf_28 ?_
      refine tt_goto (M := MX11_usedOf) (pc := 29) 33 dX11_usedOf_29 rfl ?_
      refine tt_iadd (M := MX11_usedOf) (pc := 33) dX11_usedOf_33 ?_
      refine tt_st (M := MX11_usedOf) (pc := 34) [some (.ref 90), some (.int (I l1)), some (.int (I (l2 + 1))), some (.int (I l3))] dX11_usedOf_34 rfl rfl rfl rfl rfl rfl ?_
      refine tt_iinc (M := MX11_usedOf) (pc := 35) [some (.ref 90), some (.int (I l1)), some (.int (I (l2 + 1))), some (.int (I (l3 + 1)))] dX11_usedOf_35 rfl rfl ?_
      refine tt_goto (M := MX11_usedOf) (pc := 38) 4 dX11_usedOf_38 rfl ?_
      exact id
theorem qX11_isMerged_0 {sc : Nat × (Nat → Int32)} {SH : List mCell} {S : mStore} {r : mR × mW} (h0 : sMod SH) {l1 : Int} {l2 : Int} : ((((0 : Int) ≤ (l1 + 16) + l2 ∧ (l1 + 16) + l2 < 137400) ∧ (if I (S 91 ((l1 + 16) + l2)) = I (-1) then ((I 0 = I 0 ∨ I 0 = I 1) ∧ r = rI 0 SH S) else (((0 : Int) ≤ (l1 + 16) + l2 ∧ (l1 + 16) + l2 < 137400) ∧ (((0 : Int) ≤ (l1 + 976) + (S 91 ((l1 + 16) + l2)) ∧ (l1 + 976) + (S 91 ((l1 + 16) + l2)) < 137400) ∧ (if I (S 91 ((l1 + 976) + (S 91 ((l1 + 16) + l2)))) = I (-1) then ((I 0 = I 0 ∨ I 0 = I 1) ∧ r = rI 0 SH S) else ((I 1 = I 0 ∨ I 1 = I 1) ∧ r = rI 1 SH S))))))) → G sc MX11_isMerged 0 [some (.ref 90), some (.int (I l1)), some (.int (I l2))] [] SH S r := by
  refine tt_ld (M := MX11_isMerged) (pc := 0) dX11_isMerged_0 rfl rfl rfl rfl rfl ?_
  refine tt_getR (M := MX11_isMerged) (pc := 1) dX11_isMerged_1 rfl h0.1 rfl ?_
  refine tt_ld (M := MX11_isMerged) (pc := 4) dX11_isMerged_4 rfl rfl rfl rfl rfl ?_
  refine tt_bipush (M := MX11_isMerged) (pc := 5) dX11_isMerged_5 (by decide) ?_
  refine tt_iadd (M := MX11_isMerged) (pc := 7) dX11_isMerged_7 ?_
  refine tt_ld (M := MX11_isMerged) (pc := 8) dX11_isMerged_8 rfl rfl rfl rfl rfl ?_
  refine tt_iadd (M := MX11_isMerged) (pc := 9) dX11_isMerged_9 ?_
  refine tt_iaload (M := MX11_isMerged) (pc := 10) dX11_isMerged_10 h0.2.1 rfl ?_
  refine tt_iconst (M := MX11_isMerged) (pc := 11) dX11_isMerged_11 ?_
  refine tt_ic_eq (M := MX11_isMerged) (pc := 12) 45 dX11_isMerged_12 rfl ?_ ?_
  · refine tt_iconst (M := MX11_isMerged) (pc := 45) dX11_isMerged_45 ?_
    exact tt_zret (M := MX11_isMerged) (pc := 46) dX11_isMerged_46 rfl
  · refine tt_ld (M := MX11_isMerged) (pc := 15) dX11_isMerged_15 rfl rfl rfl rfl rfl ?_
    refine tt_getR (M := MX11_isMerged) (pc := 16) dX11_isMerged_16 rfl h0.1 rfl ?_
    refine tt_ld (M := MX11_isMerged) (pc := 19) dX11_isMerged_19 rfl rfl rfl rfl rfl ?_
    refine tt_sipush (M := MX11_isMerged) (pc := 20) dX11_isMerged_20 (by decide) ?_
    refine tt_iadd (M := MX11_isMerged) (pc := 23) dX11_isMerged_23 ?_
    refine tt_ld (M := MX11_isMerged) (pc := 24) dX11_isMerged_24 rfl rfl rfl rfl rfl ?_
    refine tt_getR (M := MX11_isMerged) (pc := 25) dX11_isMerged_25 rfl h0.1 rfl ?_
    refine tt_ld (M := MX11_isMerged) (pc := 28) dX11_isMerged_28 rfl rfl rfl rfl rfl ?_
    refine tt_bipush (M := MX11_isMerged) (pc := 29) dX11_isMerged_29 (by decide) ?_
    refine tt_iadd (M := MX11_isMerged) (pc := 31) dX11_isMerged_31 ?_
    refine tt_ld (M := MX11_isMerged) (pc := 32) dX11_isMerged_32 rfl rfl rfl rfl rfl ?_
    refine tt_iadd (M := MX11_isMerged) (pc := 33) dX11_isMerged_33 ?_
    refine tt_iaload (M := MX11_isMerged) (pc := 34) dX11_isMerged_34 h0.2.1 rfl ?_
    refine tt_iadd (M := MX11_isMerged) (pc := 35) dX11_isMerged_35 ?_
    refine tt_iaload (M := MX11_isMerged) (pc := 36) dX11_isMerged_36 h0.2.1 rfl ?_
    refine tt_iconst (M := MX11_isMerged) (pc := 37) dX11_isMerged_37 ?_
    refine tt_ic_eq (M := MX11_isMerged) (pc := 38) 45 dX11_isMerged_38 rfl ?_ ?_
    · refine tt_iconst (M := MX11_isMerged) (pc := 45) dX11_isMerged_45 ?_
      exact tt_zret (M := MX11_isMerged) (pc := 46) dX11_isMerged_46 rfl
    · refine tt_iconst (M := MX11_isMerged) (pc := 41) dX11_isMerged_41 ?_
      refine tt_goto (M := MX11_isMerged) (pc := 42) 46 dX11_isMerged_42 rfl ?_
      exact tt_zret (M := MX11_isMerged) (pc := 46) dX11_isMerged_46 rfl
theorem qX11_liesIn_0 {sc : Nat × (Nat → Int32)} {SH : List mCell} {S : mStore} {r : mR × mW} (h0 : sMod SH) {l1 : Int} {l2 : Int} {l3 : Int} : ((((0 : Int) ≤ (l1 + 544) + l3 ∧ (l1 + 544) + l3 < 137400) ∧ (((0 : Int) ≤ ((l1 + 592) + (8 * l3)) + (S 91 ((l1 + 544) + l3)) ∧ ((l1 + 592) + (8 * l3)) + (S 91 ((l1 + 544) + l3)) < 137400) ∧ (((0 : Int) ≤ (l1 + 544) + l3 ∧ (l1 + 544) + l3 < 137400) ∧ (((0 : Int) ≤ (l1 + 544) + l3 ∧ (l1 + 544) + l3 < 137400) ∧ (((0 : Int) ≤ (l1 + 16) + l2 ∧ (l1 + 16) + l2 < 137400) ∧ r = rV SH (up (up (up S 91 (((l1 + 592) + (8 * l3)) + (S 91 ((l1 + 544) + l3))) l2) 91 ((l1 + 544) + l3) (((up S 91 (((l1 + 592) + (8 * l3)) + (S 91 ((l1 + 544) + l3))) l2) 91 ((l1 + 544) + l3)) + 1)) 91 ((l1 + 16) + l2) l3))))))) → G sc MX11_liesIn 0 [some (.ref 90), some (.int (I l1)), some (.int (I l2)), some (.int (I l3))] [] SH S r := by
  refine tt_ld (M := MX11_liesIn) (pc := 0) dX11_liesIn_0 rfl rfl rfl rfl rfl ?_
  refine tt_getR (M := MX11_liesIn) (pc := 1) dX11_liesIn_1 rfl h0.1 rfl ?_
  refine tt_ld (M := MX11_liesIn) (pc := 4) dX11_liesIn_4 rfl rfl rfl rfl rfl ?_
  refine tt_sipush (M := MX11_liesIn) (pc := 5) dX11_liesIn_5 (by decide) ?_
  refine tt_iadd (M := MX11_liesIn) (pc := 8) dX11_liesIn_8 ?_
  refine tt_bipush (M := MX11_liesIn) (pc := 9) dX11_liesIn_9 (by decide) ?_
  refine tt_ld (M := MX11_liesIn) (pc := 11) dX11_liesIn_11 rfl rfl rfl rfl rfl ?_
  refine tt_imul (M := MX11_liesIn) (pc := 12) dX11_liesIn_12 ?_
  refine tt_iadd (M := MX11_liesIn) (pc := 13) dX11_liesIn_13 ?_
  refine tt_ld (M := MX11_liesIn) (pc := 14) dX11_liesIn_14 rfl rfl rfl rfl rfl ?_
  refine tt_getR (M := MX11_liesIn) (pc := 15) dX11_liesIn_15 rfl h0.1 rfl ?_
  refine tt_ld (M := MX11_liesIn) (pc := 18) dX11_liesIn_18 rfl rfl rfl rfl rfl ?_
  refine tt_sipush (M := MX11_liesIn) (pc := 19) dX11_liesIn_19 (by decide) ?_
  refine tt_iadd (M := MX11_liesIn) (pc := 22) dX11_liesIn_22 ?_
  refine tt_ld (M := MX11_liesIn) (pc := 23) dX11_liesIn_23 rfl rfl rfl rfl rfl ?_
  refine tt_iadd (M := MX11_liesIn) (pc := 24) dX11_liesIn_24 ?_
  refine tt_iaload (M := MX11_liesIn) (pc := 25) dX11_liesIn_25 h0.2.1 rfl ?_
  refine tt_iadd (M := MX11_liesIn) (pc := 26) dX11_liesIn_26 ?_
  refine tt_ld (M := MX11_liesIn) (pc := 27) dX11_liesIn_27 rfl rfl rfl rfl rfl ?_
  refine tt_iastore (M := MX11_liesIn) (pc := 28) dX11_liesIn_28 h0.2.1 rfl ?_
  refine tt_ld (M := MX11_liesIn) (pc := 29) dX11_liesIn_29 rfl rfl rfl rfl rfl ?_
  refine tt_getR (M := MX11_liesIn) (pc := 30) dX11_liesIn_30 rfl h0.1 rfl ?_
  refine tt_ld (M := MX11_liesIn) (pc := 33) dX11_liesIn_33 rfl rfl rfl rfl rfl ?_
  refine tt_sipush (M := MX11_liesIn) (pc := 34) dX11_liesIn_34 (by decide) ?_
  refine tt_iadd (M := MX11_liesIn) (pc := 37) dX11_liesIn_37 ?_
  refine tt_ld (M := MX11_liesIn) (pc := 38) dX11_liesIn_38 rfl rfl rfl rfl rfl ?_
  refine tt_iadd (M := MX11_liesIn) (pc := 39) dX11_liesIn_39 ?_
  refine tt_dup2 (M := MX11_liesIn) (pc := 40) dX11_liesIn_40 rfl rfl ?_
  refine tt_iaload (M := MX11_liesIn) (pc := 41) dX11_liesIn_41 h0.2.1 rfl ?_
  refine tt_iconst (M := MX11_liesIn) (pc := 42) dX11_liesIn_42 ?_
  refine tt_iadd (M := MX11_liesIn) (pc := 43) dX11_liesIn_43 ?_
  refine tt_iastore (M := MX11_liesIn) (pc := 44) dX11_liesIn_44 h0.2.1 rfl ?_
  refine tt_ld (M := MX11_liesIn) (pc := 45) dX11_liesIn_45 rfl rfl rfl rfl rfl ?_
  refine tt_getR (M := MX11_liesIn) (pc := 46) dX11_liesIn_46 rfl h0.1 rfl ?_
  refine tt_ld (M := MX11_liesIn) (pc := 49) dX11_liesIn_49 rfl rfl rfl rfl rfl ?_
  refine tt_bipush (M := MX11_liesIn) (pc := 50) dX11_liesIn_50 (by decide) ?_
  refine tt_iadd (M := MX11_liesIn) (pc := 52) dX11_liesIn_52 ?_
  refine tt_ld (M := MX11_liesIn) (pc := 53) dX11_liesIn_53 rfl rfl rfl rfl rfl ?_
  refine tt_iadd (M := MX11_liesIn) (pc := 54) dX11_liesIn_54 ?_
  refine tt_ld (M := MX11_liesIn) (pc := 55) dX11_liesIn_55 rfl rfl rfl rfl rfl ?_
  refine tt_iastore (M := MX11_liesIn) (pc := 56) dX11_liesIn_56 h0.2.1 rfl ?_
  exact tt_ret (M := MX11_liesIn) (pc := 57) dX11_liesIn_57 rfl
theorem qX11_leavesFrame_0 {sc : Nat × (Nat → Int32)} {SH : List mCell} {S : mStore} {r : mR × mW} (h0 : sMod SH) {l1 : Int} {l2 : Int} {u3 : Option Value} {u4 : Option Value} {u5 : Option Value} {u6 : Option Value} : ((((0 : Int) ≤ (l1 + 16) + l2 ∧ (l1 + 16) + l2 < 137400) ∧ G sc MX11_leavesFrame 30 [some (.ref 90), some (.int (I l1)), some (.int (I l2)), some (.int (I (S 91 ((l1 + 16) + l2)))), some (.int (I ((l1 + 592) + (8 * (S 91 ((l1 + 16) + l2)))))), some (.int (I 0)), some (.int (I 0))] [] SH S r)) → G sc MX11_leavesFrame 0 [some (.ref 90), some (.int (I l1)), some (.int (I l2)), u3, u4, u5, u6] [] SH S r := by
  refine tt_ld (M := MX11_leavesFrame) (pc := 0) dX11_leavesFrame_0 rfl rfl rfl rfl rfl ?_
  refine tt_getR (M := MX11_leavesFrame) (pc := 1) dX11_leavesFrame_1 rfl h0.1 rfl ?_
  refine tt_ld (M := MX11_leavesFrame) (pc := 4) dX11_leavesFrame_4 rfl rfl rfl rfl rfl ?_
  refine tt_bipush (M := MX11_leavesFrame) (pc := 5) dX11_leavesFrame_5 (by decide) ?_
  refine tt_iadd (M := MX11_leavesFrame) (pc := 7) dX11_leavesFrame_7 ?_
  refine tt_ld (M := MX11_leavesFrame) (pc := 8) dX11_leavesFrame_8 rfl rfl rfl rfl rfl ?_
  refine tt_iadd (M := MX11_leavesFrame) (pc := 9) dX11_leavesFrame_9 ?_
  refine tt_iaload (M := MX11_leavesFrame) (pc := 10) dX11_leavesFrame_10 h0.2.1 rfl ?_
  refine tt_st (M := MX11_leavesFrame) (pc := 11) [some (.ref 90), some (.int (I l1)), some (.int (I l2)), some (.int (I (S 91 ((l1 + 16) + l2)))), u4, u5, u6] dX11_leavesFrame_11 rfl rfl rfl rfl rfl rfl ?_
  refine tt_ld (M := MX11_leavesFrame) (pc := 12) dX11_leavesFrame_12 rfl rfl rfl rfl rfl ?_
  refine tt_sipush (M := MX11_leavesFrame) (pc := 13) dX11_leavesFrame_13 (by decide) ?_
  refine tt_iadd (M := MX11_leavesFrame) (pc := 16) dX11_leavesFrame_16 ?_
  refine tt_bipush (M := MX11_leavesFrame) (pc := 17) dX11_leavesFrame_17 (by decide) ?_
  refine tt_ld (M := MX11_leavesFrame) (pc := 19) dX11_leavesFrame_19 rfl rfl rfl rfl rfl ?_
  refine tt_imul (M := MX11_leavesFrame) (pc := 20) dX11_leavesFrame_20 ?_
  refine tt_iadd (M := MX11_leavesFrame) (pc := 21) dX11_leavesFrame_21 ?_
  refine tt_st (M := MX11_leavesFrame) (pc := 22) [some (.ref 90), some (.int (I l1)), some (.int (I l2)), some (.int (I (S 91 ((l1 + 16) + l2)))), some (.int (I ((l1 + 592) + (8 * (S 91 ((l1 + 16) + l2)))))), u5, u6] dX11_leavesFrame_22 rfl rfl rfl rfl rfl rfl ?_
  refine tt_iconst (M := MX11_leavesFrame) (pc := 24) dX11_leavesFrame_24 ?_
  refine tt_st (M := MX11_leavesFrame) (pc := 25) [some (.ref 90), some (.int (I l1)), some (.int (I l2)), some (.int (I (S 91 ((l1 + 16) + l2)))), some (.int (I ((l1 + 592) + (8 * (S 91 ((l1 + 16) + l2)))))), some (.int (I 0)), u6] dX11_leavesFrame_25 rfl rfl rfl rfl rfl rfl ?_
  refine tt_iconst (M := MX11_leavesFrame) (pc := 27) dX11_leavesFrame_27 ?_
  refine tt_st (M := MX11_leavesFrame) (pc := 28) [some (.ref 90), some (.int (I l1)), some (.int (I l2)), some (.int (I (S 91 ((l1 + 16) + l2)))), some (.int (I ((l1 + 592) + (8 * (S 91 ((l1 + 16) + l2)))))), some (.int (I 0)), some (.int (I 0))] dX11_leavesFrame_28 rfl rfl rfl rfl rfl rfl ?_
  exact id
theorem qX11_leavesFrame_30 {sc : Nat × (Nat → Int32)} {SH : List mCell} {S : mStore} {r : mR × mW} (h0 : sMod SH) {l1 : Int} {l2 : Int} {l3 : Int} {l4 : Int} {l5 : Int} {l6 : Int} : ((((0 : Int) ≤ (l1 + 544) + l3 ∧ (l1 + 544) + l3 < 137400) ∧ (if I (S 91 ((l1 + 544) + l3)) ≤ I l6 then (((0 : Int) ≤ (l1 + 544) + l3 ∧ (l1 + 544) + l3 < 137400) ∧ (((0 : Int) ≤ (l1 + 16) + l2 ∧ (l1 + 16) + l2 < 137400) ∧ (if I l5 = I 0 then (∃ S101, G sc MX11_leavesKnot 0 [some (.ref 90), some (.int (I l1)), some (.int (I l3)), none, none, none, none] [] SH (up (up S 91 ((l1 + 544) + l3) l5) 91 ((l1 + 16) + l2) (-1)) (rV SH S101) ∧ r = rV SH S101) else r = rV SH (up (up S 91 ((l1 + 544) + l3) l5) 91 ((l1 + 16) + l2) (-1))))) else (((0 : Int) ≤ l4 + l6 ∧ l4 + l6 < 137400) ∧ (if I (S 91 (l4 + l6)) = I l2 then G sc MX11_leavesFrame 30 [some (.ref 90), some (.int (I l1)), some (.int (I l2)), some (.int (I l3)), some (.int (I l4)), some (.int (I l5)), some (.int (I (l6 + 1)))] [] SH S r else (((0 : Int) ≤ l4 + l6 ∧ l4 + l6 < 137400) ∧ (((0 : Int) ≤ l4 + l5 ∧ l4 + l5 < 137400) ∧ G sc MX11_leavesFrame 30 [some (.ref 90), some (.int (I l1)), some (.int (I l2)), some (.int (I l3)), some (.int (I l4)), some (.int (I (l5 + 1))), some (.int (I (l6 + 1)))] [] SH (up S 91 (l4 + l5) (S 91 (l4 + l6))) r))))))) → G sc MX11_leavesFrame 30 [some (.ref 90), some (.int (I l1)), some (.int (I l2)), some (.int (I l3)), some (.int (I l4)), some (.int (I l5)), some (.int (I l6))] [] SH S r := by
  refine tt_ld (M := MX11_leavesFrame) (pc := 30) dX11_leavesFrame_30 rfl rfl rfl rfl rfl ?_
  refine tt_ld (M := MX11_leavesFrame) (pc := 32) dX11_leavesFrame_32 rfl rfl rfl rfl rfl ?_
  refine tt_getR (M := MX11_leavesFrame) (pc := 33) dX11_leavesFrame_33 rfl h0.1 rfl ?_
  refine tt_ld (M := MX11_leavesFrame) (pc := 36) dX11_leavesFrame_36 rfl rfl rfl rfl rfl ?_
  refine tt_sipush (M := MX11_leavesFrame) (pc := 37) dX11_leavesFrame_37 (by decide) ?_
  refine tt_iadd (M := MX11_leavesFrame) (pc := 40) dX11_leavesFrame_40 ?_
  refine tt_ld (M := MX11_leavesFrame) (pc := 41) dX11_leavesFrame_41 rfl rfl rfl rfl rfl ?_
  refine tt_iadd (M := MX11_leavesFrame) (pc := 42) dX11_leavesFrame_42 ?_
  refine tt_iaload (M := MX11_leavesFrame) (pc := 43) dX11_leavesFrame_43 h0.2.1 rfl ?_
  refine tt_ic_ge (M := MX11_leavesFrame) (pc := 44) 93 dX11_leavesFrame_44 rfl ?_ ?_
  · refine tt_ld (M := MX11_leavesFrame) (pc := 93) dX11_leavesFrame_93 rfl rfl rfl rfl rfl ?_
    refine tt_getR (M := MX11_leavesFrame) (pc := 94) dX11_leavesFrame_94 rfl h0.1 rfl ?_
    refine tt_ld (M := MX11_leavesFrame) (pc := 97) dX11_leavesFrame_97 rfl rfl rfl rfl rfl ?_
    refine tt_sipush (M := MX11_leavesFrame) (pc := 98) dX11_leavesFrame_98 (by decide) ?_
    refine tt_iadd (M := MX11_leavesFrame) (pc := 101) dX11_leavesFrame_101 ?_
    refine tt_ld (M := MX11_leavesFrame) (pc := 102) dX11_leavesFrame_102 rfl rfl rfl rfl rfl ?_
    refine tt_iadd (M := MX11_leavesFrame) (pc := 103) dX11_leavesFrame_103 ?_
    refine tt_ld (M := MX11_leavesFrame) (pc := 104) dX11_leavesFrame_104 rfl rfl rfl rfl rfl ?_
    refine tt_iastore (M := MX11_leavesFrame) (pc := 106) dX11_leavesFrame_106 h0.2.1 rfl ?_
    refine tt_ld (M := MX11_leavesFrame) (pc := 107) dX11_leavesFrame_107 rfl rfl rfl rfl rfl ?_
    refine tt_getR (M := MX11_leavesFrame) (pc := 108) dX11_leavesFrame_108 rfl h0.1 rfl ?_
    refine tt_ld (M := MX11_leavesFrame) (pc := 111) dX11_leavesFrame_111 rfl rfl rfl rfl rfl ?_
    refine tt_bipush (M := MX11_leavesFrame) (pc := 112) dX11_leavesFrame_112 (by decide) ?_
    refine tt_iadd (M := MX11_leavesFrame) (pc := 114) dX11_leavesFrame_114 ?_
    refine tt_ld (M := MX11_leavesFrame) (pc := 115) dX11_leavesFrame_115 rfl rfl rfl rfl rfl ?_
    refine tt_iadd (M := MX11_leavesFrame) (pc := 116) dX11_leavesFrame_116 ?_
    refine tt_iconst (M := MX11_leavesFrame) (pc := 117) dX11_leavesFrame_117 ?_
    refine tt_iastore (M := MX11_leavesFrame) (pc := 118) dX11_leavesFrame_118 h0.2.1 rfl ?_
    refine tt_ld (M := MX11_leavesFrame) (pc := 119) dX11_leavesFrame_119 rfl rfl rfl rfl rfl ?_
    refine tt_if_ne (M := MX11_leavesFrame) (pc := 121) 130 dX11_leavesFrame_121 rfl ?_ ?_
    · exact tt_ret (M := MX11_leavesFrame) (pc := 130) dX11_leavesFrame_130 rfl
    · refine tt_ld (M := MX11_leavesFrame) (pc := 124) dX11_leavesFrame_124 rfl rfl rfl rfl rfl ?_
      refine tt_ld (M := MX11_leavesFrame) (pc := 125) dX11_leavesFrame_125 rfl rfl rfl rfl rfl ?_
      refine tt_ld (M := MX11_leavesFrame) (pc := 126) dX11_leavesFrame_126 rfl rfl rfl rfl rfl ?_
      refine tt_vcVN (M := MX11_leavesFrame) (pc := 127) dX11_leavesFrame_127 rfl rfl [] rfl rfl ⟨rfl, by decide, Nat.le_of_ble_eq_true rfl⟩ h0.1 fun S101 => ?_
      exact tt_ret (M := MX11_leavesFrame) (pc := 130) dX11_leavesFrame_130 rfl
  · refine tt_ld (M := MX11_leavesFrame) (pc := 47) dX11_leavesFrame_47 rfl rfl rfl rfl rfl ?_
    refine tt_getR (M := MX11_leavesFrame) (pc := 48) dX11_leavesFrame_48 rfl h0.1 rfl ?_
    refine tt_ld (M := MX11_leavesFrame) (pc := 51) dX11_leavesFrame_51 rfl rfl rfl rfl rfl ?_
    refine tt_ld (M := MX11_leavesFrame) (pc := 53) dX11_leavesFrame_53 rfl rfl rfl rfl rfl ?_
    refine tt_iadd (M := MX11_leavesFrame) (pc := 55) dX11_leavesFrame_55 ?_
    refine tt_iaload (M := MX11_leavesFrame) (pc := 56) dX11_leavesFrame_56 h0.2.1 rfl ?_
    refine tt_ld (M := MX11_leavesFrame) (pc := 57) dX11_leavesFrame_57 rfl rfl rfl rfl rfl ?_
    refine tt_ic_ne (M := MX11_leavesFrame) (pc := 58) 64 dX11_leavesFrame_58 rfl ?_ ?_
    · refine tt_ld (M := MX11_leavesFrame) (pc := 64) dX11_leavesFrame_64 rfl rfl rfl rfl rfl ?_
      refine tt_getR (M := MX11_leavesFrame) (pc := 65) dX11_leavesFrame_65 rfl h0.1 rfl ?_
      refine tt_ld (M := MX11_leavesFrame) (pc := 68) dX11_leavesFrame_68 rfl rfl rfl rfl rfl ?_
      refine tt_ld (M := MX11_leavesFrame) (pc := 70) dX11_leavesFrame_70 rfl rfl rfl rfl rfl ?_
      refine tt_iadd (M := MX11_leavesFrame) (pc := 72) dX11_leavesFrame_72 ?_
      refine tt_ld (M := MX11_leavesFrame) (pc := 73) dX11_leavesFrame_73 rfl rfl rfl rfl rfl ?_
      refine tt_getR (M := MX11_leavesFrame) (pc := 74) dX11_leavesFrame_74 rfl h0.1 rfl ?_
      refine tt_ld (M := MX11_leavesFrame) (pc := 77) dX11_leavesFrame_77 rfl rfl rfl rfl rfl ?_
      refine tt_ld (M := MX11_leavesFrame) (pc := 79) dX11_leavesFrame_79 rfl rfl rfl rfl rfl ?_
      refine tt_iadd (M := MX11_leavesFrame) (pc := 81) dX11_leavesFrame_81 ?_
      refine tt_iaload (M := MX11_leavesFrame) (pc := 82) dX11_leavesFrame_82 h0.2.1 rfl ?_
      refine tt_iastore (M := MX11_leavesFrame) (pc := 83) dX11_leavesFrame_83 h0.2.1 rfl ?_
      refine tt_iinc (M := MX11_leavesFrame) (pc := 84) [some (.ref 90), some (.int (I l1)), some (.int (I l2)), some (.int (I l3)), some (.int (I l4)), some (.int (I (l5 + 1))), some (.int (I l6))] dX11_leavesFrame_84 rfl rfl ?_
      refine tt_iinc (M := MX11_leavesFrame) (pc := 87) [some (.ref 90), some (.int (I l1)), some (.int (I l2)), some (.int (I l3)), some (.int (I l4)), some (.int (I (l5 + 1))), some (.int (I (l6 + 1)))] dX11_leavesFrame_87 rfl rfl ?_
      refine tt_goto (M := MX11_leavesFrame) (pc := 90) 30 dX11_leavesFrame_90 rfl ?_
      exact id
    · refine tt_goto (M := MX11_leavesFrame) (pc := 61) 87 dX11_leavesFrame_61 rfl ?_
      refine tt_iinc (M := MX11_leavesFrame) (pc := 87) [some (.ref 90), some (.int (I l1)), some (.int (I l2)), some (.int (I l3)), some (.int (I l4)), some (.int (I l5)), some (.int (I (l6 + 1)))] dX11_leavesFrame_87 rfl rfl ?_
      refine tt_goto (M := MX11_leavesFrame) (pc := 90) 30 dX11_leavesFrame_90 rfl ?_
      exact id
theorem qX11_realm_0 {sc : Nat × (Nat → Int32)} {SH : List mCell} {S : mStore} {r : mR × mW} (h0 : sMod SH) {l1 : Int} : ((((0 : Int) ≤ l1 ∧ l1 < 48) ∧ (((0 : Int) ≤ S 98 l1 ∧ S 98 l1 < 4) ∧ r = rI (S 96 (S 98 l1)) SH S))) → G sc MX11_realm 0 [some (.ref 90), some (.int (I l1))] [] SH S r := by
  refine tt_ld (M := MX11_realm) (pc := 0) dX11_realm_0 rfl rfl rfl rfl rfl ?_
  refine tt_getR (M := MX11_realm) (pc := 1) dX11_realm_1 rfl h0.1 rfl ?_
  refine tt_ld (M := MX11_realm) (pc := 4) dX11_realm_4 rfl rfl rfl rfl rfl ?_
  refine tt_getR (M := MX11_realm) (pc := 5) dX11_realm_5 rfl h0.1 rfl ?_
  refine tt_ld (M := MX11_realm) (pc := 8) dX11_realm_8 rfl rfl rfl rfl rfl ?_
  refine tt_iaload (M := MX11_realm) (pc := 9) dX11_realm_9 h0.2.2.2.2.2.2.2.2.1 rfl ?_
  refine tt_iaload (M := MX11_realm) (pc := 10) dX11_realm_10 h0.2.2.2.2.2.2.1 rfl ?_
  exact tt_iret (M := MX11_realm) (pc := 11) dX11_realm_11 rfl
theorem qX11_framesOf_0 {sc : Nat × (Nat → Int32)} {SH : List mCell} {S : mStore} {r : mR × mW} (h0 : sMod SH) {l1 : Int} {l2 : Int} {u3 : Option Value} {u4 : Option Value} : (G sc MX11_framesOf 5 [some (.ref 90), some (.int (I l1)), some (.int (I l2)), some (.int (I 0)), some (.int (I 0))] [] SH S r) → G sc MX11_framesOf 0 [some (.ref 90), some (.int (I l1)), some (.int (I l2)), u3, u4] [] SH S r := by
  refine tt_iconst (M := MX11_framesOf) (pc := 0) dX11_framesOf_0 ?_
  refine tt_st (M := MX11_framesOf) (pc := 1) [some (.ref 90), some (.int (I l1)), some (.int (I l2)), some (.int (I 0)), u4] dX11_framesOf_1 rfl rfl rfl rfl rfl rfl ?_
  refine tt_iconst (M := MX11_framesOf) (pc := 2) dX11_framesOf_2 ?_
  refine tt_st (M := MX11_framesOf) (pc := 3) [some (.ref 90), some (.int (I l1)), some (.int (I l2)), some (.int (I 0)), some (.int (I 0))] dX11_framesOf_3 rfl rfl rfl rfl rfl rfl ?_
  exact id
theorem qX11_framesOf_5 {sc : Nat × (Nat → Int32)} {SH : List mCell} {S : mStore} {r : mR × mW} (h0 : sMod SH) {l1 : Int} {l2 : Int} {l3 : Int} {l4 : Int} : ((if I 48 ≤ I l4 then r = rI l3 SH S else (((0 : Int) ≤ (l1 + 976) + l4 ∧ (l1 + 976) + l4 < 137400) ∧ (if I (S 91 ((l1 + 976) + l4)) = I l2 then G sc MX11_framesOf 5 [some (.ref 90), some (.int (I l1)), some (.int (I l2)), some (.int (I (l3 + 1))), some (.int (I (l4 + 1)))] [] SH S r else G sc MX11_framesOf 5 [some (.ref 90), some (.int (I l1)), some (.int (I l2)), some (.int (I (l3 + 0))), some (.int (I (l4 + 1)))] [] SH S r)))) → G sc MX11_framesOf 5 [some (.ref 90), some (.int (I l1)), some (.int (I l2)), some (.int (I l3)), some (.int (I l4))] [] SH S r := by
  refine tt_ld (M := MX11_framesOf) (pc := 5) dX11_framesOf_5 rfl rfl rfl rfl rfl ?_
  refine tt_bipush (M := MX11_framesOf) (pc := 7) dX11_framesOf_7 (by decide) ?_
  refine tt_ic_ge (M := MX11_framesOf) (pc := 9) 43 dX11_framesOf_9 rfl ?_ ?_
  · refine tt_ld (M := MX11_framesOf) (pc := 43) dX11_framesOf_43 rfl rfl rfl rfl rfl ?_
    exact tt_iret (M := MX11_framesOf) (pc := 44) dX11_framesOf_44 rfl
  · refine tt_ld (M := MX11_framesOf) (pc := 12) dX11_framesOf_12 rfl rfl rfl rfl rfl ?_
    refine tt_ld (M := MX11_framesOf) (pc := 13) dX11_framesOf_13 rfl rfl rfl rfl rfl ?_
    refine tt_getR (M := MX11_framesOf) (pc := 14) dX11_framesOf_14 rfl h0.1 rfl ?_
    refine tt_ld (M := MX11_framesOf) (pc := 17) dX11_framesOf_17 rfl rfl rfl rfl rfl ?_
    refine tt_sipush (M := MX11_framesOf) (pc := 18) dX11_framesOf_18 (by decide) ?_
    refine tt_iadd (M := MX11_framesOf) (pc := 21) dX11_framesOf_21 ?_
    refine tt_ld (M := MX11_framesOf) (pc := 22) dX11_framesOf_22 rfl rfl rfl rfl rfl ?_
    refine tt_iadd (M := MX11_framesOf) (pc := 24) dX11_framesOf_24 ?_
    refine tt_iaload (M := MX11_framesOf) (pc := 25) dX11_framesOf_25 h0.2.1 rfl ?_
    refine tt_ld (M := MX11_framesOf) (pc := 26) dX11_framesOf_26 rfl rfl rfl rfl rfl ?_
    refine tt_ic_ne (M := MX11_framesOf) (pc := 27) 34 dX11_framesOf_27 rfl ?_ ?_
    · refine tt_iconst (M := MX11_framesOf) (pc := 34) dX11_framesOf_34 ?_
      refine tt_iadd (M := MX11_framesOf) (pc := 35) dX11_framesOf_35 ?_
      refine tt_st (M := MX11_framesOf) (pc := 36) [some (.ref 90), some (.int (I l1)), some (.int (I l2)), some (.int (I (l3 + 0))), some (.int (I l4))] dX11_framesOf_36 rfl rfl rfl rfl rfl rfl ?_
      refine tt_iinc (M := MX11_framesOf) (pc := 37) [some (.ref 90), some (.int (I l1)), some (.int (I l2)), some (.int (I (l3 + 0))), some (.int (I (l4 + 1)))] dX11_framesOf_37 rfl rfl ?_
      refine tt_goto (M := MX11_framesOf) (pc := 40) 5 dX11_framesOf_40 rfl ?_
      exact id
    · refine tt_iconst (M := MX11_framesOf) (pc := 30) dX11_framesOf_30 ?_
      refine tt_goto (M := MX11_framesOf) (pc := 31) 35 dX11_framesOf_31 rfl ?_
      refine tt_iadd (M := MX11_framesOf) (pc := 35) dX11_framesOf_35 ?_
      refine tt_st (M := MX11_framesOf) (pc := 36) [some (.ref 90), some (.int (I l1)), some (.int (I l2)), some (.int (I (l3 + 1))), some (.int (I l4))] dX11_framesOf_36 rfl rfl rfl rfl rfl rfl ?_
      refine tt_iinc (M := MX11_framesOf) (pc := 37) [some (.ref 90), some (.int (I l1)), some (.int (I l2)), some (.int (I (l3 + 1))), some (.int (I (l4 + 1)))] dX11_framesOf_37 rfl rfl ?_
      refine tt_goto (M := MX11_framesOf) (pc := 40) 5 dX11_framesOf_40 rfl ?_
      exact id
theorem qX11_frameAt_0 {sc : Nat × (Nat → Int32)} {SH : List mCell} {S : mStore} {r : mR × mW} (h0 : sMod SH) {l1 : Int} {l2 : Int} {l3 : Int} {u4 : Option Value} {u5 : Option Value} {u6 : Option Value} : (G sc MX11_frameAt 3 [some (.ref 90), some (.int (I l1)), some (.int (I l2)), some (.int (I l3)), some (.int (I 0)), u5, u6] [] SH S r) → G sc MX11_frameAt 0 [some (.ref 90), some (.int (I l1)), some (.int (I l2)), some (.int (I l3)), u4, u5, u6] [] SH S r := by
  refine tt_iconst (M := MX11_frameAt) (pc := 0) dX11_frameAt_0 ?_
  refine tt_st (M := MX11_frameAt) (pc := 1) [some (.ref 90), some (.int (I l1)), some (.int (I l2)), some (.int (I l3)), some (.int (I 0)), u5, u6] dX11_frameAt_1 rfl rfl rfl rfl rfl rfl ?_
  exact id
theorem qX11_frameAt_3 {sc : Nat × (Nat → Int32)} {SH : List mCell} {S : mStore} {r : mR × mW} (h0 : sMod SH) {l1 : Int} {l2 : Int} {l3 : Int} {l4 : Int} {u5 : Option Value} {u6 : Option Value} : ((if I 48 ≤ I l4 then r = rI (-1) SH S else (((0 : Int) ≤ (l1 + 976) + l4 ∧ (l1 + 976) + l4 < 137400) ∧ (if I (S 91 ((l1 + 976) + l4)) = I l2 then G sc MX11_frameAt 36 [some (.ref 90), some (.int (I l1)), some (.int (I l2)), some (.int (I l3)), some (.int (I l4)), some (.int (I 0)), some (.int (I 0))] [] SH S r else G sc MX11_frameAt 3 [some (.ref 90), some (.int (I l1)), some (.int (I l2)), some (.int (I l3)), some (.int (I (l4 + 1))), u5, u6] [] SH S r)))) → G sc MX11_frameAt 3 [some (.ref 90), some (.int (I l1)), some (.int (I l2)), some (.int (I l3)), some (.int (I l4)), u5, u6] [] SH S r := by
  refine tt_ld (M := MX11_frameAt) (pc := 3) dX11_frameAt_3 rfl rfl rfl rfl rfl ?_
  refine tt_bipush (M := MX11_frameAt) (pc := 5) dX11_frameAt_5 (by decide) ?_
  refine tt_ic_ge (M := MX11_frameAt) (pc := 7) 120 dX11_frameAt_7 rfl ?_ ?_
  · refine tt_iconst (M := MX11_frameAt) (pc := 120) dX11_frameAt_120 ?_
    exact tt_iret (M := MX11_frameAt) (pc := 121) dX11_frameAt_121 rfl
  · refine tt_ld (M := MX11_frameAt) (pc := 10) dX11_frameAt_10 rfl rfl rfl rfl rfl ?_
    refine tt_getR (M := MX11_frameAt) (pc := 11) dX11_frameAt_11 rfl h0.1 rfl ?_
    refine tt_ld (M := MX11_frameAt) (pc := 14) dX11_frameAt_14 rfl rfl rfl rfl rfl ?_
    refine tt_sipush (M := MX11_frameAt) (pc := 15) dX11_frameAt_15 (by decide) ?_
    refine tt_iadd (M := MX11_frameAt) (pc := 18) dX11_frameAt_18 ?_
    refine tt_ld (M := MX11_frameAt) (pc := 19) dX11_frameAt_19 rfl rfl rfl rfl rfl ?_
    refine tt_iadd (M := MX11_frameAt) (pc := 21) dX11_frameAt_21 ?_
    refine tt_iaload (M := MX11_frameAt) (pc := 22) dX11_frameAt_22 h0.2.1 rfl ?_
    refine tt_ld (M := MX11_frameAt) (pc := 23) dX11_frameAt_23 rfl rfl rfl rfl rfl ?_
    refine tt_ic_eq (M := MX11_frameAt) (pc := 24) 30 dX11_frameAt_24 rfl ?_ ?_
    · refine tt_iconst (M := MX11_frameAt) (pc := 30) dX11_frameAt_30 ?_
      refine tt_st (M := MX11_frameAt) (pc := 31) [some (.ref 90), some (.int (I l1)), some (.int (I l2)), some (.int (I l3)), some (.int (I l4)), some (.int (I 0)), u6] dX11_frameAt_31 rfl rfl rfl rfl rfl rfl ?_
      refine tt_iconst (M := MX11_frameAt) (pc := 33) dX11_frameAt_33 ?_
      refine tt_st (M := MX11_frameAt) (pc := 34) [some (.ref 90), some (.int (I l1)), some (.int (I l2)), some (.int (I l3)), some (.int (I l4)), some (.int (I 0)), some (.int (I 0))] dX11_frameAt_34 rfl rfl rfl rfl rfl rfl ?_
      exact id
    · refine tt_goto (M := MX11_frameAt) (pc := 27) 114 dX11_frameAt_27 rfl ?_
      refine tt_iinc (M := MX11_frameAt) (pc := 114) [some (.ref 90), some (.int (I l1)), some (.int (I l2)), some (.int (I l3)), some (.int (I (l4 + 1))), u5, u6] dX11_frameAt_114 rfl rfl ?_
      refine tt_goto (M := MX11_frameAt) (pc := 117) 3 dX11_frameAt_117 rfl ?_
      exact id
theorem qX11_frameAt_36 {sc : Nat × (Nat → Int32)} {SH : List mCell} {S : mStore} {r : mR × mW} (h0 : sMod SH) {l1 : Int} {l2 : Int} {l3 : Int} {l4 : Int} {l5 : Int} {l6 : Int} : ((if I 48 ≤ I l6 then (if I l5 = I l3 then r = rI l4 SH S else G sc MX11_frameAt 3 [some (.ref 90), some (.int (I l1)), some (.int (I l2)), some (.int (I l3)), some (.int (I (l4 + 1))), some (.int (I l5)), some (.int (I l6))] [] SH S r) else (((0 : Int) ≤ (l1 + 976) + l6 ∧ (l1 + 976) + l6 < 137400) ∧ (if I (S 91 ((l1 + 976) + l6)) = I l2 then (((0 : Int) ≤ (l1 + 1024) + l6 ∧ (l1 + 1024) + l6 < 137400) ∧ (((0 : Int) ≤ (l1 + 1024) + l4 ∧ (l1 + 1024) + l4 < 137400) ∧ (if I (S 91 ((l1 + 1024) + l4)) ≤ I (S 91 ((l1 + 1024) + l6)) then G sc MX11_frameAt 36 [some (.ref 90), some (.int (I l1)), some (.int (I l2)), some (.int (I l3)), some (.int (I l4)), some (.int (I (l5 + 0))), some (.int (I (l6 + 1)))] [] SH S r else G sc MX11_frameAt 36 [some (.ref 90), some (.int (I l1)), some (.int (I l2)), some (.int (I l3)), some (.int (I l4)), some (.int (I (l5 + 1))), some (.int (I (l6 + 1)))] [] SH S r))) else G sc MX11_frameAt 36 [some (.ref 90), some (.int (I l1)), some (.int (I l2)), some (.int (I l3)), some (.int (I l4)), some (.int (I (l5 + 0))), some (.int (I (l6 + 1)))] [] SH S r)))) → G sc MX11_frameAt 36 [some (.ref 90), some (.int (I l1)), some (.int (I l2)), some (.int (I l3)), some (.int (I l4)), some (.int (I l5)), some (.int (I l6))] [] SH S r := by
  refine tt_ld (M := MX11_frameAt) (pc := 36) dX11_frameAt_36 rfl rfl rfl rfl rfl ?_
  refine tt_bipush (M := MX11_frameAt) (pc := 38) dX11_frameAt_38 (by decide) ?_
  refine tt_ic_ge (M := MX11_frameAt) (pc := 40) 105 dX11_frameAt_40 rfl ?_ ?_
  · refine tt_ld (M := MX11_frameAt) (pc := 105) dX11_frameAt_105 rfl rfl rfl rfl rfl ?_
    refine tt_ld (M := MX11_frameAt) (pc := 107) dX11_frameAt_107 rfl rfl rfl rfl rfl ?_
    refine tt_ic_ne (M := MX11_frameAt) (pc := 108) 114 dX11_frameAt_108 rfl ?_ ?_
    · refine tt_iinc (M := MX11_frameAt) (pc := 114) [some (.ref 90), some (.int (I l1)), some (.int (I l2)), some (.int (I l3)), some (.int (I (l4 + 1))), some (.int (I l5)), some (.int (I l6))] dX11_frameAt_114 rfl rfl ?_
      refine tt_goto (M := MX11_frameAt) (pc := 117) 3 dX11_frameAt_117 rfl ?_
      exact id
    · refine tt_ld (M := MX11_frameAt) (pc := 111) dX11_frameAt_111 rfl rfl rfl rfl rfl ?_
      exact tt_iret (M := MX11_frameAt) (pc := 113) dX11_frameAt_113 rfl
  · refine tt_ld (M := MX11_frameAt) (pc := 43) dX11_frameAt_43 rfl rfl rfl rfl rfl ?_
    refine tt_ld (M := MX11_frameAt) (pc := 45) dX11_frameAt_45 rfl rfl rfl rfl rfl ?_
    refine tt_getR (M := MX11_frameAt) (pc := 46) dX11_frameAt_46 rfl h0.1 rfl ?_
    refine tt_ld (M := MX11_frameAt) (pc := 49) dX11_frameAt_49 rfl rfl rfl rfl rfl ?_
    refine tt_sipush (M := MX11_frameAt) (pc := 50) dX11_frameAt_50 (by decide) ?_
    refine tt_iadd (M := MX11_frameAt) (pc := 53) dX11_frameAt_53 ?_
    refine tt_ld (M := MX11_frameAt) (pc := 54) dX11_frameAt_54 rfl rfl rfl rfl rfl ?_
    refine tt_iadd (M := MX11_frameAt) (pc := 56) dX11_frameAt_56 ?_
    refine tt_iaload (M := MX11_frameAt) (pc := 57) dX11_frameAt_57 h0.2.1 rfl ?_
    refine tt_ld (M := MX11_frameAt) (pc := 58) dX11_frameAt_58 rfl rfl rfl rfl rfl ?_
    refine tt_ic_ne (M := MX11_frameAt) (pc := 59) 95 dX11_frameAt_59 rfl ?_ ?_
    · refine tt_iconst (M := MX11_frameAt) (pc := 95) dX11_frameAt_95 ?_
      refine tt_iadd (M := MX11_frameAt) (pc := 96) dX11_frameAt_96 ?_
      refine tt_st (M := MX11_frameAt) (pc := 97) [some (.ref 90), some (.int (I l1)), some (.int (I l2)), some (.int (I l3)), some (.int (I l4)), some (.int (I (l5 + 0))), some (.int (I l6))] dX11_frameAt_97 rfl rfl rfl rfl rfl rfl ?_
      refine tt_iinc (M := MX11_frameAt) (pc := 99) [some (.ref 90), some (.int (I l1)), some (.int (I l2)), some (.int (I l3)), some (.int (I l4)), some (.int (I (l5 + 0))), some (.int (I (l6 + 1)))] dX11_frameAt_99 rfl rfl ?_
      refine tt_goto (M := MX11_frameAt) (pc := 102) 36 dX11_frameAt_102 rfl ?_
      exact id
    · refine tt_ld (M := MX11_frameAt) (pc := 62) dX11_frameAt_62 rfl rfl rfl rfl rfl ?_
      refine tt_getR (M := MX11_frameAt) (pc := 63) dX11_frameAt_63 rfl h0.1 rfl ?_
      refine tt_ld (M := MX11_frameAt) (pc := 66) dX11_frameAt_66 rfl rfl rfl rfl rfl ?_
      refine tt_sipush (M := MX11_frameAt) (pc := 67) dX11_frameAt_67 (by decide) ?_
      refine tt_iadd (M := MX11_frameAt) (pc := 70) dX11_frameAt_70 ?_
      refine tt_ld (M := MX11_frameAt) (pc := 71) dX11_frameAt_71 rfl rfl rfl rfl rfl ?_
      refine tt_iadd (M := MX11_frameAt) (pc := 73) dX11_frameAt_73 ?_
      refine tt_iaload (M := MX11_frameAt) (pc := 74) dX11_frameAt_74 h0.2.1 rfl ?_
      refine tt_ld (M := MX11_frameAt) (pc := 75) dX11_frameAt_75 rfl rfl rfl rfl rfl ?_
      refine tt_getR (M := MX11_frameAt) (pc := 76) dX11_frameAt_76 rfl h0.1 rfl ?_
      refine tt_ld (M := MX11_frameAt) (pc := 79) dX11_frameAt_79 rfl rfl rfl rfl rfl ?_
      refine tt_sipush (M := MX11_frameAt) (pc := 80) dX11_frameAt_80 (by decide) ?_
      refine tt_iadd (M := MX11_frameAt) (pc := 83) dX11_frameAt_83 ?_
      refine tt_ld (M := MX11_frameAt) (pc := 84) dX11_frameAt_84 rfl rfl rfl rfl rfl ?_
      refine tt_iadd (M := MX11_frameAt) (pc := 86) dX11_frameAt_86 ?_
      refine tt_iaload (M := MX11_frameAt) (pc := 87) dX11_frameAt_87 h0.2.1 rfl ?_
      refine tt_ic_ge (M := MX11_frameAt) (pc := 88) 95 dX11_frameAt_88 rfl ?_ ?_
      · refine tt_iconst (M := MX11_frameAt) (pc := 95) dX11_frameAt_95 ?_
        refine tt_iadd (M := MX11_frameAt) (pc := 96) dX11_frameAt_96 ?_
        refine tt_st (M := MX11_frameAt) (pc := 97) [some (.ref 90), some (.int (I l1)), some (.int (I l2)), some (.int (I l3)), some (.int (I l4)), some (.int (I (l5 + 0))), some (.int (I l6))] dX11_frameAt_97 rfl rfl rfl rfl rfl rfl ?_
        refine tt_iinc (M := MX11_frameAt) (pc := 99) [some (.ref 90), some (.int (I l1)), some (.int (I l2)), some (.int (I l3)), some (.int (I l4)), some (.int (I (l5 + 0))), some (.int (I (l6 + 1)))] dX11_frameAt_99 rfl rfl ?_
        refine tt_goto (M := MX11_frameAt) (pc := 102) 36 dX11_frameAt_102 rfl ?_
        exact id
      · refine tt_iconst (M := MX11_frameAt) (pc := 91) dX11_frameAt_91 ?_
        refine tt_goto (M := MX11_frameAt) (pc := 92) 96 dX11_frameAt_92 rfl ?_
        refine tt_iadd (M := MX11_frameAt) (pc := 96) dX11_frameAt_96 ?_
        refine tt_st (M := MX11_frameAt) (pc := 97) [some (.ref 90), some (.int (I l1)), some (.int (I l2)), some (.int (I l3)), some (.int (I l4)), some (.int (I (l5 + 1))), some (.int (I l6))] dX11_frameAt_97 rfl rfl rfl rfl rfl rfl ?_
        refine tt_iinc (M := MX11_frameAt) (pc := 99) [some (.ref 90), some (.int (I l1)), some (.int (I l2)), some (.int (I l3)), some (.int (I l4)), some (.int (I (l5 + 1))), some (.int (I (l6 + 1)))] dX11_frameAt_99 rfl rfl ?_
        refine tt_goto (M := MX11_frameAt) (pc := 102) 36 dX11_frameAt_102 rfl ?_
        exact id
theorem qX11_leavesKnot_0 {sc : Nat × (Nat → Int32)} {SH : List mCell} {S : mStore} {r : mR × mW} (h0 : sMod SH) {l1 : Int} {l2 : Int} {u3 : Option Value} {u4 : Option Value} {u5 : Option Value} {u6 : Option Value} : ((((0 : Int) ≤ (l1 + 976) + l2 ∧ (l1 + 976) + l2 < 137400) ∧ (((0 : Int) ≤ (l1 + 976) + l2 ∧ (l1 + 976) + l2 < 137400) ∧ (if I (S 91 ((l1 + 976) + l2)) = I (-1) then r = rV SH (up S 91 ((l1 + 976) + l2) (-1)) else (∃ v101 S102, G sc MX11_framesOf 0 [some (.ref 90), some (.int (I l1)), some (.int (I (S 91 ((l1 + 976) + l2)))), none, none] [] SH (up S 91 ((l1 + 976) + l2) (-1)) (rI v101 SH S102) ∧ (if I v101 ≤ I 0 then G sc MX11_leavesKnot 44 [some (.ref 90), some (.int (I l1)), some (.int (I l2)), some (.int (I (S 91 ((l1 + 976) + l2)))), some (.int (I 0)), u5, u6] [] SH S102 r else r = rV SH S102)))))) → G sc MX11_leavesKnot 0 [some (.ref 90), some (.int (I l1)), some (.int (I l2)), u3, u4, u5, u6] [] SH S r := by
  refine tt_ld (M := MX11_leavesKnot) (pc := 0) dX11_leavesKnot_0 rfl rfl rfl rfl rfl ?_
  refine tt_getR (M := MX11_leavesKnot) (pc := 1) dX11_leavesKnot_1 rfl h0.1 rfl ?_
  refine tt_ld (M := MX11_leavesKnot) (pc := 4) dX11_leavesKnot_4 rfl rfl rfl rfl rfl ?_
  refine tt_sipush (M := MX11_leavesKnot) (pc := 5) dX11_leavesKnot_5 (by decide) ?_
  refine tt_iadd (M := MX11_leavesKnot) (pc := 8) dX11_leavesKnot_8 ?_
  refine tt_ld (M := MX11_leavesKnot) (pc := 9) dX11_leavesKnot_9 rfl rfl rfl rfl rfl ?_
  refine tt_iadd (M := MX11_leavesKnot) (pc := 10) dX11_leavesKnot_10 ?_
  refine tt_iaload (M := MX11_leavesKnot) (pc := 11) dX11_leavesKnot_11 h0.2.1 rfl ?_
  refine tt_st (M := MX11_leavesKnot) (pc := 12) [some (.ref 90), some (.int (I l1)), some (.int (I l2)), some (.int (I (S 91 ((l1 + 976) + l2)))), u4, u5, u6] dX11_leavesKnot_12 rfl rfl rfl rfl rfl rfl ?_
  refine tt_ld (M := MX11_leavesKnot) (pc := 13) dX11_leavesKnot_13 rfl rfl rfl rfl rfl ?_
  refine tt_getR (M := MX11_leavesKnot) (pc := 14) dX11_leavesKnot_14 rfl h0.1 rfl ?_
  refine tt_ld (M := MX11_leavesKnot) (pc := 17) dX11_leavesKnot_17 rfl rfl rfl rfl rfl ?_
  refine tt_sipush (M := MX11_leavesKnot) (pc := 18) dX11_leavesKnot_18 (by decide) ?_
  refine tt_iadd (M := MX11_leavesKnot) (pc := 21) dX11_leavesKnot_21 ?_
  refine tt_ld (M := MX11_leavesKnot) (pc := 22) dX11_leavesKnot_22 rfl rfl rfl rfl rfl ?_
  refine tt_iadd (M := MX11_leavesKnot) (pc := 23) dX11_leavesKnot_23 ?_
  refine tt_iconst (M := MX11_leavesKnot) (pc := 24) dX11_leavesKnot_24 ?_
  refine tt_iastore (M := MX11_leavesKnot) (pc := 25) dX11_leavesKnot_25 h0.2.1 rfl ?_
  refine tt_ld (M := MX11_leavesKnot) (pc := 26) dX11_leavesKnot_26 rfl rfl rfl rfl rfl ?_
  refine tt_iconst (M := MX11_leavesKnot) (pc := 27) dX11_leavesKnot_27 ?_
  refine tt_ic_eq (M := MX11_leavesKnot) (pc := 28) 40 dX11_leavesKnot_28 rfl ?_ ?_
  · exact tt_ret (M := MX11_leavesKnot) (pc := 40) dX11_leavesKnot_40 rfl
  · refine tt_ld (M := MX11_leavesKnot) (pc := 31) dX11_leavesKnot_31 rfl rfl rfl rfl rfl ?_
    refine tt_ld (M := MX11_leavesKnot) (pc := 32) dX11_leavesKnot_32 rfl rfl rfl rfl rfl ?_
    refine tt_ld (M := MX11_leavesKnot) (pc := 33) dX11_leavesKnot_33 rfl rfl rfl rfl rfl ?_
    refine tt_vcIN (M := MX11_leavesKnot) (pc := 34) dX11_leavesKnot_34 rfl rfl [] rfl rfl ⟨rfl, by decide, Nat.le_of_ble_eq_true rfl⟩ h0.1 fun v101 S102 => ?_
    refine tt_if_le (M := MX11_leavesKnot) (pc := 37) 41 dX11_leavesKnot_37 rfl ?_ ?_
    · refine tt_iconst (M := MX11_leavesKnot) (pc := 41) dX11_leavesKnot_41 ?_
      refine tt_st (M := MX11_leavesKnot) (pc := 42) [some (.ref 90), some (.int (I l1)), some (.int (I l2)), some (.int (I (S 91 ((l1 + 976) + l2)))), some (.int (I 0)), u5, u6] dX11_leavesKnot_42 rfl rfl rfl rfl rfl rfl ?_
      exact id
    · exact tt_ret (M := MX11_leavesKnot) (pc := 40) dX11_leavesKnot_40 rfl
theorem qX11_leavesKnot_44 {sc : Nat × (Nat → Int32)} {SH : List mCell} {S : mStore} {r : mR × mW} (h0 : sMod SH) {l1 : Int} {l2 : Int} {l3 : Int} {l4 : Int} {u5 : Option Value} {u6 : Option Value} : ((if I 3 ≤ I l4 then r = rV SH S else (∃ v101 S102, G sc MX11_placeIn 0 [some (.ref 90), some (.int (I ((l1 + 1072) + (97 * l4)))), some (.int (I l3)), none] [] SH S (rI v101 SH S102) ∧ (if I v101 = I (-1) then G sc MX11_leavesKnot 44 [some (.ref 90), some (.int (I l1)), some (.int (I l2)), some (.int (I l3)), some (.int (I (l4 + 1))), some (.int (I ((l1 + 1072) + (97 * l4)))), some (.int (I v101))] [] SH S102 r else (∃ S103, G sc MX11_takesOut 0 [some (.ref 90), some (.int (I ((l1 + 1072) + (97 * l4)))), some (.int (I v101)), none] [] SH S102 (rV SH S103) ∧ G sc MX11_leavesKnot 44 [some (.ref 90), some (.int (I l1)), some (.int (I l2)), some (.int (I l3)), some (.int (I (l4 + 1))), some (.int (I ((l1 + 1072) + (97 * l4)))), some (.int (I v101))] [] SH S103 r))))) → G sc MX11_leavesKnot 44 [some (.ref 90), some (.int (I l1)), some (.int (I l2)), some (.int (I l3)), some (.int (I l4)), u5, u6] [] SH S r := by
  refine tt_ld (M := MX11_leavesKnot) (pc := 44) dX11_leavesKnot_44 rfl rfl rfl rfl rfl ?_
  refine tt_iconst (M := MX11_leavesKnot) (pc := 46) dX11_leavesKnot_46 ?_
  refine tt_ic_ge (M := MX11_leavesKnot) (pc := 47) 92 dX11_leavesKnot_47 rfl ?_ ?_
  · exact tt_ret (M := MX11_leavesKnot) (pc := 92) dX11_leavesKnot_92 rfl
  · refine tt_ld (M := MX11_leavesKnot) (pc := 50) dX11_leavesKnot_50 rfl rfl rfl rfl rfl ?_
    refine tt_sipush (M := MX11_leavesKnot) (pc := 51) dX11_leavesKnot_51 (by decide) ?_
    refine tt_iadd (M := MX11_leavesKnot) (pc := 54) dX11_leavesKnot_54 ?_
    refine tt_bipush (M := MX11_leavesKnot) (pc := 55) dX11_leavesKnot_55 (by decide) ?_
    refine tt_ld (M := MX11_leavesKnot) (pc := 57) dX11_leavesKnot_57 rfl rfl rfl rfl rfl ?_
    refine tt_imul (M := MX11_leavesKnot) (pc := 59) dX11_leavesKnot_59 ?_
    refine tt_iadd (M := MX11_leavesKnot) (pc := 60) dX11_leavesKnot_60 ?_
    refine tt_st (M := MX11_leavesKnot) (pc := 61) [some (.ref 90), some (.int (I l1)), some (.int (I l2)), some (.int (I l3)), some (.int (I l4)), some (.int (I ((l1 + 1072) + (97 * l4)))), u6] dX11_leavesKnot_61 rfl rfl rfl rfl rfl rfl ?_
    refine tt_ld (M := MX11_leavesKnot) (pc := 63) dX11_leavesKnot_63 rfl rfl rfl rfl rfl ?_
    refine tt_ld (M := MX11_leavesKnot) (pc := 64) dX11_leavesKnot_64 rfl rfl rfl rfl rfl ?_
    refine tt_ld (M := MX11_leavesKnot) (pc := 66) dX11_leavesKnot_66 rfl rfl rfl rfl rfl ?_
    refine tt_vcIN (M := MX11_leavesKnot) (pc := 67) dX11_leavesKnot_67 rfl rfl [] rfl rfl ⟨rfl, by decide, Nat.le_of_ble_eq_true rfl⟩ h0.1 fun v101 S102 => ?_
    refine tt_st (M := MX11_leavesKnot) (pc := 70) [some (.ref 90), some (.int (I l1)), some (.int (I l2)), some (.int (I l3)), some (.int (I l4)), some (.int (I ((l1 + 1072) + (97 * l4)))), some (.int (I v101))] dX11_leavesKnot_70 rfl rfl rfl rfl rfl rfl ?_
    refine tt_ld (M := MX11_leavesKnot) (pc := 72) dX11_leavesKnot_72 rfl rfl rfl rfl rfl ?_
    refine tt_iconst (M := MX11_leavesKnot) (pc := 74) dX11_leavesKnot_74 ?_
    refine tt_ic_eq (M := MX11_leavesKnot) (pc := 75) 86 dX11_leavesKnot_75 rfl ?_ ?_
    · refine tt_iinc (M := MX11_leavesKnot) (pc := 86) [some (.ref 90), some (.int (I l1)), some (.int (I l2)), some (.int (I l3)), some (.int (I (l4 + 1))), some (.int (I ((l1 + 1072) + (97 * l4)))), some (.int (I v101))] dX11_leavesKnot_86 rfl rfl ?_
      refine tt_goto (M := MX11_leavesKnot) (pc := 89) 44 dX11_leavesKnot_89 rfl ?_
      exact id
    · refine tt_ld (M := MX11_leavesKnot) (pc := 78) dX11_leavesKnot_78 rfl rfl rfl rfl rfl ?_
      refine tt_ld (M := MX11_leavesKnot) (pc := 79) dX11_leavesKnot_79 rfl rfl rfl rfl rfl ?_
      refine tt_ld (M := MX11_leavesKnot) (pc := 81) dX11_leavesKnot_81 rfl rfl rfl rfl rfl ?_
      refine tt_vcVN (M := MX11_leavesKnot) (pc := 83) dX11_leavesKnot_83 rfl rfl [] rfl rfl ⟨rfl, by decide, Nat.le_of_ble_eq_true rfl⟩ h0.1 fun S103 => ?_
      refine tt_iinc (M := MX11_leavesKnot) (pc := 86) [some (.ref 90), some (.int (I l1)), some (.int (I l2)), some (.int (I l3)), some (.int (I (l4 + 1))), some (.int (I ((l1 + 1072) + (97 * l4)))), some (.int (I v101))] dX11_leavesKnot_86 rfl rfl ?_
      refine tt_goto (M := MX11_leavesKnot) (pc := 89) 44 dX11_leavesKnot_89 rfl ?_
      exact id
theorem qX11_comesTo_0 {sc : Nat × (Nat → Int32)} {SH : List mCell} {S : mStore} {r : mR × mW} (h0 : sMod SH) {l1 : Int} {l2 : Int} {l3 : Int} : ((((0 : Int) ≤ (l1 + 976) + l2 ∧ (l1 + 976) + l2 < 137400) ∧ (((0 : Int) ≤ l1 + 12 ∧ l1 + 12 < 137400) ∧ (((0 : Int) ≤ l1 + 12 ∧ l1 + 12 < 137400) ∧ (((0 : Int) ≤ l1 + 12 ∧ l1 + 12 < 137400) ∧ (((0 : Int) ≤ (l1 + 1024) + l2 ∧ (l1 + 1024) + l2 < 137400) ∧ r = rV SH (up (up (up S 91 ((l1 + 976) + l2) l3) 91 (l1 + 12) (((up S 91 ((l1 + 976) + l2) l3) 91 (l1 + 12)) + 1)) 91 ((l1 + 1024) + l2) ((up (up S 91 ((l1 + 976) + l2) l3) 91 (l1 + 12) (((up S 91 ((l1 + 976) + l2) l3) 91 (l1 + 12)) + 1)) 91 (l1 + 12))))))))) → G sc MX11_comesTo 0 [some (.ref 90), some (.int (I l1)), some (.int (I l2)), some (.int (I l3))] [] SH S r := by
  refine tt_ld (M := MX11_comesTo) (pc := 0) dX11_comesTo_0 rfl rfl rfl rfl rfl ?_
  refine tt_getR (M := MX11_comesTo) (pc := 1) dX11_comesTo_1 rfl h0.1 rfl ?_
  refine tt_ld (M := MX11_comesTo) (pc := 4) dX11_comesTo_4 rfl rfl rfl rfl rfl ?_
  refine tt_sipush (M := MX11_comesTo) (pc := 5) dX11_comesTo_5 (by decide) ?_
  refine tt_iadd (M := MX11_comesTo) (pc := 8) dX11_comesTo_8 ?_
  refine tt_ld (M := MX11_comesTo) (pc := 9) dX11_comesTo_9 rfl rfl rfl rfl rfl ?_
  refine tt_iadd (M := MX11_comesTo) (pc := 10) dX11_comesTo_10 ?_
  refine tt_ld (M := MX11_comesTo) (pc := 11) dX11_comesTo_11 rfl rfl rfl rfl rfl ?_
  refine tt_iastore (M := MX11_comesTo) (pc := 12) dX11_comesTo_12 h0.2.1 rfl ?_
  refine tt_ld (M := MX11_comesTo) (pc := 13) dX11_comesTo_13 rfl rfl rfl rfl rfl ?_
  refine tt_getR (M := MX11_comesTo) (pc := 14) dX11_comesTo_14 rfl h0.1 rfl ?_
  refine tt_ld (M := MX11_comesTo) (pc := 17) dX11_comesTo_17 rfl rfl rfl rfl rfl ?_
  refine tt_bipush (M := MX11_comesTo) (pc := 18) dX11_comesTo_18 (by decide) ?_
  refine tt_iadd (M := MX11_comesTo) (pc := 20) dX11_comesTo_20 ?_
  refine tt_dup2 (M := MX11_comesTo) (pc := 21) dX11_comesTo_21 rfl rfl ?_
  refine tt_iaload (M := MX11_comesTo) (pc := 22) dX11_comesTo_22 h0.2.1 rfl ?_
  refine tt_iconst (M := MX11_comesTo) (pc := 23) dX11_comesTo_23 ?_
  refine tt_iadd (M := MX11_comesTo) (pc := 24) dX11_comesTo_24 ?_
  refine tt_iastore (M := MX11_comesTo) (pc := 25) dX11_comesTo_25 h0.2.1 rfl ?_
  refine tt_ld (M := MX11_comesTo) (pc := 26) dX11_comesTo_26 rfl rfl rfl rfl rfl ?_
  refine tt_getR (M := MX11_comesTo) (pc := 27) dX11_comesTo_27 rfl h0.1 rfl ?_
  refine tt_ld (M := MX11_comesTo) (pc := 30) dX11_comesTo_30 rfl rfl rfl rfl rfl ?_
  refine tt_sipush (M := MX11_comesTo) (pc := 31) dX11_comesTo_31 (by decide) ?_
  refine tt_iadd (M := MX11_comesTo) (pc := 34) dX11_comesTo_34 ?_
  refine tt_ld (M := MX11_comesTo) (pc := 35) dX11_comesTo_35 rfl rfl rfl rfl rfl ?_
  refine tt_iadd (M := MX11_comesTo) (pc := 36) dX11_comesTo_36 ?_
  refine tt_ld (M := MX11_comesTo) (pc := 37) dX11_comesTo_37 rfl rfl rfl rfl rfl ?_
  refine tt_getR (M := MX11_comesTo) (pc := 38) dX11_comesTo_38 rfl h0.1 rfl ?_
  refine tt_ld (M := MX11_comesTo) (pc := 41) dX11_comesTo_41 rfl rfl rfl rfl rfl ?_
  refine tt_bipush (M := MX11_comesTo) (pc := 42) dX11_comesTo_42 (by decide) ?_
  refine tt_iadd (M := MX11_comesTo) (pc := 44) dX11_comesTo_44 ?_
  refine tt_iaload (M := MX11_comesTo) (pc := 45) dX11_comesTo_45 h0.2.1 rfl ?_
  refine tt_iastore (M := MX11_comesTo) (pc := 46) dX11_comesTo_46 h0.2.1 rfl ?_
  exact tt_ret (M := MX11_comesTo) (pc := 47) dX11_comesTo_47 rfl
theorem qX11_newKnot_0 {sc : Nat × (Nat → Int32)} {SH : List mCell} {S : mStore} {r : mR × mW} (h0 : sMod SH) {l1 : Int} {u2 : Option Value} : (G sc MX11_newKnot 2 [some (.ref 90), some (.int (I l1)), some (.int (I 0))] [] SH S r) → G sc MX11_newKnot 0 [some (.ref 90), some (.int (I l1)), u2] [] SH S r := by
  refine tt_iconst (M := MX11_newKnot) (pc := 0) dX11_newKnot_0 ?_
  refine tt_st (M := MX11_newKnot) (pc := 1) [some (.ref 90), some (.int (I l1)), some (.int (I 0))] dX11_newKnot_1 rfl rfl rfl rfl rfl rfl ?_
  exact id
theorem qX11_newKnot_2 {sc : Nat × (Nat → Int32)} {SH : List mCell} {S : mStore} {r : mR × mW} (h0 : sMod SH) {l1 : Int} {l2 : Int} : ((∃ v101 S102, G sc MX11_framesOf 0 [some (.ref 90), some (.int (I l1)), some (.int (I l2)), none, none] [] SH S (rI v101 SH S102) ∧ (if I v101 ≤ I 0 then r = rI l2 SH S102 else G sc MX11_newKnot 2 [some (.ref 90), some (.int (I l1)), some (.int (I (l2 + 1)))] [] SH S102 r))) → G sc MX11_newKnot 2 [some (.ref 90), some (.int (I l1)), some (.int (I l2))] [] SH S r := by
  refine tt_ld (M := MX11_newKnot) (pc := 2) dX11_newKnot_2 rfl rfl rfl rfl rfl ?_
  refine tt_ld (M := MX11_newKnot) (pc := 3) dX11_newKnot_3 rfl rfl rfl rfl rfl ?_
  refine tt_ld (M := MX11_newKnot) (pc := 4) dX11_newKnot_4 rfl rfl rfl rfl rfl ?_
  refine tt_vcIN (M := MX11_newKnot) (pc := 5) dX11_newKnot_5 rfl rfl [] rfl rfl ⟨rfl, by decide, Nat.le_of_ble_eq_true rfl⟩ h0.1 fun v101 S102 => ?_
  refine tt_if_le (M := MX11_newKnot) (pc := 8) 17 dX11_newKnot_8 rfl ?_ ?_
  · refine tt_ld (M := MX11_newKnot) (pc := 17) dX11_newKnot_17 rfl rfl rfl rfl rfl ?_
    exact tt_iret (M := MX11_newKnot) (pc := 18) dX11_newKnot_18 rfl
  · refine tt_iinc (M := MX11_newKnot) (pc := 11) [some (.ref 90), some (.int (I l1)), some (.int (I (l2 + 1)))] dX11_newKnot_11 rfl rfl ?_
    refine tt_goto (M := MX11_newKnot) (pc := 14) 2 dX11_newKnot_14 rfl ?_
    exact id
theorem qX11_placeIn_0 {sc : Nat × (Nat → Int32)} {SH : List mCell} {S : mStore} {r : mR × mW} (h0 : sMod SH) {l1 : Int} {l2 : Int} {u3 : Option Value} : (G sc MX11_placeIn 2 [some (.ref 90), some (.int (I l1)), some (.int (I l2)), some (.int (I 0))] [] SH S r) → G sc MX11_placeIn 0 [some (.ref 90), some (.int (I l1)), some (.int (I l2)), u3] [] SH S r := by
  refine tt_iconst (M := MX11_placeIn) (pc := 0) dX11_placeIn_0 ?_
  refine tt_st (M := MX11_placeIn) (pc := 1) [some (.ref 90), some (.int (I l1)), some (.int (I l2)), some (.int (I 0))] dX11_placeIn_1 rfl rfl rfl rfl rfl rfl ?_
  exact id
theorem qX11_placeIn_2 {sc : Nat × (Nat → Int32)} {SH : List mCell} {S : mStore} {r : mR × mW} (h0 : sMod SH) {l1 : Int} {l2 : Int} {l3 : Int} : ((((0 : Int) ≤ l1 ∧ l1 < 137400) ∧ (if I (S 91 l1) ≤ I l3 then r = rI (-1) SH S else (((0 : Int) ≤ (l1 + 1) + l3 ∧ (l1 + 1) + l3 < 137400) ∧ (if I (S 91 ((l1 + 1) + l3)) = I l2 then r = rI l3 SH S else G sc MX11_placeIn 2 [some (.ref 90), some (.int (I l1)), some (.int (I l2)), some (.int (I (l3 + 1)))] [] SH S r))))) → G sc MX11_placeIn 2 [some (.ref 90), some (.int (I l1)), some (.int (I l2)), some (.int (I l3))] [] SH S r := by
  refine tt_ld (M := MX11_placeIn) (pc := 2) dX11_placeIn_2 rfl rfl rfl rfl rfl ?_
  refine tt_ld (M := MX11_placeIn) (pc := 3) dX11_placeIn_3 rfl rfl rfl rfl rfl ?_
  refine tt_getR (M := MX11_placeIn) (pc := 4) dX11_placeIn_4 rfl h0.1 rfl ?_
  refine tt_ld (M := MX11_placeIn) (pc := 7) dX11_placeIn_7 rfl rfl rfl rfl rfl ?_
  refine tt_iaload (M := MX11_placeIn) (pc := 8) dX11_placeIn_8 h0.2.1 rfl ?_
  refine tt_ic_ge (M := MX11_placeIn) (pc := 9) 34 dX11_placeIn_9 rfl ?_ ?_
  · refine tt_iconst (M := MX11_placeIn) (pc := 34) dX11_placeIn_34 ?_
    exact tt_iret (M := MX11_placeIn) (pc := 35) dX11_placeIn_35 rfl
  · refine tt_ld (M := MX11_placeIn) (pc := 12) dX11_placeIn_12 rfl rfl rfl rfl rfl ?_
    refine tt_getR (M := MX11_placeIn) (pc := 13) dX11_placeIn_13 rfl h0.1 rfl ?_
    refine tt_ld (M := MX11_placeIn) (pc := 16) dX11_placeIn_16 rfl rfl rfl rfl rfl ?_
    refine tt_iconst (M := MX11_placeIn) (pc := 17) dX11_placeIn_17 ?_
    refine tt_iadd (M := MX11_placeIn) (pc := 18) dX11_placeIn_18 ?_
    refine tt_ld (M := MX11_placeIn) (pc := 19) dX11_placeIn_19 rfl rfl rfl rfl rfl ?_
    refine tt_iadd (M := MX11_placeIn) (pc := 20) dX11_placeIn_20 ?_
    refine tt_iaload (M := MX11_placeIn) (pc := 21) dX11_placeIn_21 h0.2.1 rfl ?_
    refine tt_ld (M := MX11_placeIn) (pc := 22) dX11_placeIn_22 rfl rfl rfl rfl rfl ?_
    refine tt_ic_ne (M := MX11_placeIn) (pc := 23) 28 dX11_placeIn_23 rfl ?_ ?_
    · refine tt_iinc (M := MX11_placeIn) (pc := 28) [some (.ref 90), some (.int (I l1)), some (.int (I l2)), some (.int (I (l3 + 1)))] dX11_placeIn_28 rfl rfl ?_
      refine tt_goto (M := MX11_placeIn) (pc := 31) 2 dX11_placeIn_31 rfl ?_
      exact id
    · refine tt_ld (M := MX11_placeIn) (pc := 26) dX11_placeIn_26 rfl rfl rfl rfl rfl ?_
      exact tt_iret (M := MX11_placeIn) (pc := 27) dX11_placeIn_27 rfl
theorem qX11_begin_0 {sc : Nat × (Nat → Int32)} {SH : List mCell} {S : mStore} {r : mR × mW} (h0 : sMod SH) {l1 : Int} {l2 : Int} {u3 : Option Value} : (G sc MX11_begin 2 [some (.ref 90), some (.int (I l1)), some (.int (I l2)), some (.int (I l2))] [] SH S r) → G sc MX11_begin 0 [some (.ref 90), some (.int (I l1)), some (.int (I l2)), u3] [] SH S r := by
  refine tt_ld (M := MX11_begin) (pc := 0) dX11_begin_0 rfl rfl rfl rfl rfl ?_
  refine tt_st (M := MX11_begin) (pc := 1) [some (.ref 90), some (.int (I l1)), some (.int (I l2)), some (.int (I l2))] dX11_begin_1 rfl rfl rfl rfl rfl rfl ?_
  exact id
theorem qX11_begin_2 {sc : Nat × (Nat → Int32)} {SH : List mCell} {S : mStore} {r : mR × mW} (h0 : sMod SH) {l1 : Int} {l2 : Int} {l3 : Int} : ((if I l3 ≤ I 0 then r = rI l3 SH S else (((0 : Int) ≤ ((l1 + 49) + l3) - 1 ∧ ((l1 + 49) + l3) - 1 < 137400) ∧ (((0 : Int) ≤ (l1 + 49) + l2 ∧ (l1 + 49) + l2 < 137400) ∧ (if I (S 91 (((l1 + 49) + l3) - 1)) ≤ I (S 91 ((l1 + 49) + l2)) then r = rI l3 SH S else G sc MX11_begin 2 [some (.ref 90), some (.int (I l1)), some (.int (I l2)), some (.int (I (l3 + (-1))))] [] SH S r))))) → G sc MX11_begin 2 [some (.ref 90), some (.int (I l1)), some (.int (I l2)), some (.int (I l3))] [] SH S r := by
  refine tt_ld (M := MX11_begin) (pc := 2) dX11_begin_2 rfl rfl rfl rfl rfl ?_
  refine tt_if_le (M := MX11_begin) (pc := 3) 39 dX11_begin_3 rfl ?_ ?_
  · refine tt_ld (M := MX11_begin) (pc := 39) dX11_begin_39 rfl rfl rfl rfl rfl ?_
    exact tt_iret (M := MX11_begin) (pc := 40) dX11_begin_40 rfl
  · refine tt_ld (M := MX11_begin) (pc := 6) dX11_begin_6 rfl rfl rfl rfl rfl ?_
    refine tt_getR (M := MX11_begin) (pc := 7) dX11_begin_7 rfl h0.1 rfl ?_
    refine tt_ld (M := MX11_begin) (pc := 10) dX11_begin_10 rfl rfl rfl rfl rfl ?_
    refine tt_bipush (M := MX11_begin) (pc := 11) dX11_begin_11 (by decide) ?_
    refine tt_iadd (M := MX11_begin) (pc := 13) dX11_begin_13 ?_
    refine tt_ld (M := MX11_begin) (pc := 14) dX11_begin_14 rfl rfl rfl rfl rfl ?_
    refine tt_iadd (M := MX11_begin) (pc := 15) dX11_begin_15 ?_
    refine tt_iconst (M := MX11_begin) (pc := 16) dX11_begin_16 ?_
    refine tt_isub (M := MX11_begin) (pc := 17) dX11_begin_17 ?_
    refine tt_iaload (M := MX11_begin) (pc := 18) dX11_begin_18 h0.2.1 rfl ?_
    refine tt_ld (M := MX11_begin) (pc := 19) dX11_begin_19 rfl rfl rfl rfl rfl ?_
    refine tt_getR (M := MX11_begin) (pc := 20) dX11_begin_20 rfl h0.1 rfl ?_
    refine tt_ld (M := MX11_begin) (pc := 23) dX11_begin_23 rfl rfl rfl rfl rfl ?_
    refine tt_bipush (M := MX11_begin) (pc := 24) dX11_begin_24 (by decide) ?_
    refine tt_iadd (M := MX11_begin) (pc := 26) dX11_begin_26 ?_
    refine tt_ld (M := MX11_begin) (pc := 27) dX11_begin_27 rfl rfl rfl rfl rfl ?_
    refine tt_iadd (M := MX11_begin) (pc := 28) dX11_begin_28 ?_
    refine tt_iaload (M := MX11_begin) (pc := 29) dX11_begin_29 h0.2.1 rfl ?_
    refine tt_ic_le (M := MX11_begin) (pc := 30) 39 dX11_begin_30 rfl ?_ ?_
    · refine tt_ld (M := MX11_begin) (pc := 39) dX11_begin_39 rfl rfl rfl rfl rfl ?_
      exact tt_iret (M := MX11_begin) (pc := 40) dX11_begin_40 rfl
    · refine tt_iinc (M := MX11_begin) (pc := 33) [some (.ref 90), some (.int (I l1)), some (.int (I l2)), some (.int (I (l3 + (-1))))] dX11_begin_33 rfl rfl ?_
      refine tt_goto (M := MX11_begin) (pc := 36) 2 dX11_begin_36 rfl ?_
      exact id
theorem qX11_end_0 {sc : Nat × (Nat → Int32)} {SH : List mCell} {S : mStore} {r : mR × mW} (h0 : sMod SH) {l1 : Int} {l2 : Int} {u3 : Option Value} : (G sc MX11_end 4 [some (.ref 90), some (.int (I l1)), some (.int (I l2)), some (.int (I (l2 + 1)))] [] SH S r) → G sc MX11_end 0 [some (.ref 90), some (.int (I l1)), some (.int (I l2)), u3] [] SH S r := by
  refine tt_ld (M := MX11_end) (pc := 0) dX11_end_0 rfl rfl rfl rfl rfl ?_
  refine tt_iconst (M := MX11_end) (pc := 1) dX11_end_1 ?_
  refine tt_iadd (M := MX11_end) (pc := 2) dX11_end_2 ?_
  refine tt_st (M := MX11_end) (pc := 3) [some (.ref 90), some (.int (I l1)), some (.int (I l2)), some (.int (I (l2 + 1)))] dX11_end_3 rfl rfl rfl rfl rfl rfl ?_
  exact id
theorem qX11_end_4 {sc : Nat × (Nat → Int32)} {SH : List mCell} {S : mStore} {r : mR × mW} (h0 : sMod SH) {l1 : Int} {l2 : Int} {l3 : Int} : ((((0 : Int) ≤ l1 ∧ l1 < 137400) ∧ (if I (S 91 l1) ≤ I l3 then r = rI l3 SH S else (((0 : Int) ≤ (l1 + 49) + l3 ∧ (l1 + 49) + l3 < 137400) ∧ (((0 : Int) ≤ (l1 + 49) + l2 ∧ (l1 + 49) + l2 < 137400) ∧ (if I (S 91 ((l1 + 49) + l3)) ≤ I (S 91 ((l1 + 49) + l2)) then r = rI l3 SH S else G sc MX11_end 4 [some (.ref 90), some (.int (I l1)), some (.int (I l2)), some (.int (I (l3 + 1)))] [] SH S r)))))) → G sc MX11_end 4 [some (.ref 90), some (.int (I l1)), some (.int (I l2)), some (.int (I l3))] [] SH S r := by
  refine tt_ld (M := MX11_end) (pc := 4) dX11_end_4 rfl rfl rfl rfl rfl ?_
  refine tt_ld (M := MX11_end) (pc := 5) dX11_end_5 rfl rfl rfl rfl rfl ?_
  refine tt_getR (M := MX11_end) (pc := 6) dX11_end_6 rfl h0.1 rfl ?_
  refine tt_ld (M := MX11_end) (pc := 9) dX11_end_9 rfl rfl rfl rfl rfl ?_
  refine tt_iaload (M := MX11_end) (pc := 10) dX11_end_10 h0.2.1 rfl ?_
  refine tt_ic_ge (M := MX11_end) (pc := 11) 45 dX11_end_11 rfl ?_ ?_
  · refine tt_ld (M := MX11_end) (pc := 45) dX11_end_45 rfl rfl rfl rfl rfl ?_
    exact tt_iret (M := MX11_end) (pc := 46) dX11_end_46 rfl
  · refine tt_ld (M := MX11_end) (pc := 14) dX11_end_14 rfl rfl rfl rfl rfl ?_
    refine tt_getR (M := MX11_end) (pc := 15) dX11_end_15 rfl h0.1 rfl ?_
    refine tt_ld (M := MX11_end) (pc := 18) dX11_end_18 rfl rfl rfl rfl rfl ?_
    refine tt_bipush (M := MX11_end) (pc := 19) dX11_end_19 (by decide) ?_
    refine tt_iadd (M := MX11_end) (pc := 21) dX11_end_21 ?_
    refine tt_ld (M := MX11_end) (pc := 22) dX11_end_22 rfl rfl rfl rfl rfl ?_
    refine tt_iadd (M := MX11_end) (pc := 23) dX11_end_23 ?_
    refine tt_iaload (M := MX11_end) (pc := 24) dX11_end_24 h0.2.1 rfl ?_
    refine tt_ld (M := MX11_end) (pc := 25) dX11_end_25 rfl rfl rfl rfl rfl ?_
    refine tt_getR (M := MX11_end) (pc := 26) dX11_end_26 rfl h0.1 rfl ?_
    refine tt_ld (M := MX11_end) (pc := 29) dX11_end_29 rfl rfl rfl rfl rfl ?_
    refine tt_bipush (M := MX11_end) (pc := 30) dX11_end_30 (by decide) ?_
    refine tt_iadd (M := MX11_end) (pc := 32) dX11_end_32 ?_
    refine tt_ld (M := MX11_end) (pc := 33) dX11_end_33 rfl rfl rfl rfl rfl ?_
    refine tt_iadd (M := MX11_end) (pc := 34) dX11_end_34 ?_
    refine tt_iaload (M := MX11_end) (pc := 35) dX11_end_35 h0.2.1 rfl ?_
    refine tt_ic_le (M := MX11_end) (pc := 36) 45 dX11_end_36 rfl ?_ ?_
    · refine tt_ld (M := MX11_end) (pc := 45) dX11_end_45 rfl rfl rfl rfl rfl ?_
      exact tt_iret (M := MX11_end) (pc := 46) dX11_end_46 rfl
    · refine tt_iinc (M := MX11_end) (pc := 39) [some (.ref 90), some (.int (I l1)), some (.int (I l2)), some (.int (I (l3 + 1)))] dX11_end_39 rfl rfl ?_
      refine tt_goto (M := MX11_end) (pc := 42) 4 dX11_end_42 rfl ?_
      exact id
theorem qX11_putsIn_0 {sc : Nat × (Nat → Int32)} {SH : List mCell} {S : mStore} {r : mR × mW} (h0 : sMod SH) {l1 : Int} {l2 : Int} {l3 : Int} {l4 : Int} {u5 : Option Value} : ((((0 : Int) ≤ l1 ∧ l1 < 137400) ∧ G sc MX11_putsIn 8 [some (.ref 90), some (.int (I l1)), some (.int (I l2)), some (.int (I l3)), some (.int (I l4)), some (.int (I (S 91 l1)))] [] SH S r)) → G sc MX11_putsIn 0 [some (.ref 90), some (.int (I l1)), some (.int (I l2)), some (.int (I l3)), some (.int (I l4)), u5] [] SH S r := by
  refine tt_ld (M := MX11_putsIn) (pc := 0) dX11_putsIn_0 rfl rfl rfl rfl rfl ?_
  refine tt_getR (M := MX11_putsIn) (pc := 1) dX11_putsIn_1 rfl h0.1 rfl ?_
  refine tt_ld (M := MX11_putsIn) (pc := 4) dX11_putsIn_4 rfl rfl rfl rfl rfl ?_
  refine tt_iaload (M := MX11_putsIn) (pc := 5) dX11_putsIn_5 h0.2.1 rfl ?_
  refine tt_st (M := MX11_putsIn) (pc := 6) [some (.ref 90), some (.int (I l1)), some (.int (I l2)), some (.int (I l3)), some (.int (I l4)), some (.int (I (S 91 l1)))] dX11_putsIn_6 rfl rfl rfl rfl rfl rfl ?_
  exact id
theorem qX11_putsIn_8 {sc : Nat × (Nat → Int32)} {SH : List mCell} {S : mStore} {r : mR × mW} (h0 : sMod SH) {l1 : Int} {l2 : Int} {l3 : Int} {l4 : Int} {l5 : Int} : ((if I l5 ≤ I l2 then (((0 : Int) ≤ (l1 + 1) + l2 ∧ (l1 + 1) + l2 < 137400) ∧ (((0 : Int) ≤ (l1 + 49) + l2 ∧ (l1 + 49) + l2 < 137400) ∧ (((0 : Int) ≤ l1 ∧ l1 < 137400) ∧ (((0 : Int) ≤ l1 ∧ l1 < 137400) ∧ r = rV SH (up (up (up S 91 ((l1 + 1) + l2) l3) 91 ((l1 + 49) + l2) l4) 91 l1 (((up (up S 91 ((l1 + 1) + l2) l3) 91 ((l1 + 49) + l2) l4) 91 l1) + 1)))))) else (((0 : Int) ≤ l1 + l5 ∧ l1 + l5 < 137400) ∧ (((0 : Int) ≤ (l1 + 1) + l5 ∧ (l1 + 1) + l5 < 137400) ∧ (((0 : Int) ≤ ((l1 + 49) + l5) - 1 ∧ ((l1 + 49) + l5) - 1 < 137400) ∧ (((0 : Int) ≤ (l1 + 49) + l5 ∧ (l1 + 49) + l5 < 137400) ∧ G sc MX11_putsIn 8 [some (.ref 90), some (.int (I l1)), some (.int (I l2)), some (.int (I l3)), some (.int (I l4)), some (.int (I (l5 + (-1))))] [] SH (up (up S 91 ((l1 + 1) + l5) (S 91 (l1 + l5))) 91 ((l1 + 49) + l5) ((up S 91 ((l1 + 1) + l5) (S 91 (l1 + l5))) 91 (((l1 + 49) + l5) - 1))) r)))))) → G sc MX11_putsIn 8 [some (.ref 90), some (.int (I l1)), some (.int (I l2)), some (.int (I l3)), some (.int (I l4)), some (.int (I l5))] [] SH S r := by
  refine tt_ld (M := MX11_putsIn) (pc := 8) dX11_putsIn_8 rfl rfl rfl rfl rfl ?_
  refine tt_ld (M := MX11_putsIn) (pc := 10) dX11_putsIn_10 rfl rfl rfl rfl rfl ?_
  refine tt_ic_le (M := MX11_putsIn) (pc := 11) 66 dX11_putsIn_11 rfl ?_ ?_
  · refine tt_ld (M := MX11_putsIn) (pc := 66) dX11_putsIn_66 rfl rfl rfl rfl rfl ?_
    refine tt_getR (M := MX11_putsIn) (pc := 67) dX11_putsIn_67 rfl h0.1 rfl ?_
    refine tt_ld (M := MX11_putsIn) (pc := 70) dX11_putsIn_70 rfl rfl rfl rfl rfl ?_
    refine tt_iconst (M := MX11_putsIn) (pc := 71) dX11_putsIn_71 ?_
    refine tt_iadd (M := MX11_putsIn) (pc := 72) dX11_putsIn_72 ?_
    refine tt_ld (M := MX11_putsIn) (pc := 73) dX11_putsIn_73 rfl rfl rfl rfl rfl ?_
    refine tt_iadd (M := MX11_putsIn) (pc := 74) dX11_putsIn_74 ?_
    refine tt_ld (M := MX11_putsIn) (pc := 75) dX11_putsIn_75 rfl rfl rfl rfl rfl ?_
    refine tt_iastore (M := MX11_putsIn) (pc := 76) dX11_putsIn_76 h0.2.1 rfl ?_
    refine tt_ld (M := MX11_putsIn) (pc := 77) dX11_putsIn_77 rfl rfl rfl rfl rfl ?_
    refine tt_getR (M := MX11_putsIn) (pc := 78) dX11_putsIn_78 rfl h0.1 rfl ?_
    refine tt_ld (M := MX11_putsIn) (pc := 81) dX11_putsIn_81 rfl rfl rfl rfl rfl ?_
    refine tt_bipush (M := MX11_putsIn) (pc := 82) dX11_putsIn_82 (by decide) ?_
    refine tt_iadd (M := MX11_putsIn) (pc := 84) dX11_putsIn_84 ?_
    refine tt_ld (M := MX11_putsIn) (pc := 85) dX11_putsIn_85 rfl rfl rfl rfl rfl ?_
    refine tt_iadd (M := MX11_putsIn) (pc := 86) dX11_putsIn_86 ?_
    refine tt_ld (M := MX11_putsIn) (pc := 87) dX11_putsIn_87 rfl rfl rfl rfl rfl ?_
    refine tt_iastore (M := MX11_putsIn) (pc := 89) dX11_putsIn_89 h0.2.1 rfl ?_
    refine tt_ld (M := MX11_putsIn) (pc := 90) dX11_putsIn_90 rfl rfl rfl rfl rfl ?_
    refine tt_getR (M := MX11_putsIn) (pc := 91) dX11_putsIn_91 rfl h0.1 rfl ?_
    refine tt_ld (M := MX11_putsIn) (pc := 94) dX11_putsIn_94 rfl rfl rfl rfl rfl ?_
    refine tt_dup2 (M := MX11_putsIn) (pc := 95) dX11_putsIn_95 rfl rfl ?_
    refine tt_iaload (M := MX11_putsIn) (pc := 96) dX11_putsIn_96 h0.2.1 rfl ?_
    refine tt_iconst (M := MX11_putsIn) (pc := 97) dX11_putsIn_97 ?_
    refine tt_iadd (M := MX11_putsIn) (pc := 98) dX11_putsIn_98 ?_
    refine tt_iastore (M := MX11_putsIn) (pc := 99) dX11_putsIn_99 h0.2.1 rfl ?_
    exact tt_ret (M := MX11_putsIn) (pc := 100) dX11_putsIn_100 rfl
  · refine tt_ld (M := MX11_putsIn) (pc := 14) dX11_putsIn_14 rfl rfl rfl rfl rfl ?_
    refine tt_getR (M := MX11_putsIn) (pc := 15) dX11_putsIn_15 rfl h0.1 rfl ?_
    refine tt_ld (M := MX11_putsIn) (pc := 18) dX11_putsIn_18 rfl rfl rfl rfl rfl ?_
    refine tt_iconst (M := MX11_putsIn) (pc := 19) dX11_putsIn_19 ?_
    refine tt_iadd (M := MX11_putsIn) (pc := 20) dX11_putsIn_20 ?_
    refine tt_ld (M := MX11_putsIn) (pc := 21) dX11_putsIn_21 rfl rfl rfl rfl rfl ?_
    refine tt_iadd (M := MX11_putsIn) (pc := 23) dX11_putsIn_23 ?_
    refine tt_ld (M := MX11_putsIn) (pc := 24) dX11_putsIn_24 rfl rfl rfl rfl rfl ?_
    refine tt_getR (M := MX11_putsIn) (pc := 25) dX11_putsIn_25 rfl h0.1 rfl ?_
    refine tt_ld (M := MX11_putsIn) (pc := 28) dX11_putsIn_28 rfl rfl rfl rfl rfl ?_
    refine tt_ld (M := MX11_putsIn) (pc := 29) dX11_putsIn_29 rfl rfl rfl rfl rfl ?_
    refine tt_iadd (M := MX11_putsIn) (pc := 31) dX11_putsIn_31 ?_
    refine tt_iaload (M := MX11_putsIn) (pc := 32) dX11_putsIn_32 h0.2.1 rfl ?_
    refine tt_iastore (M := MX11_putsIn) (pc := 33) dX11_putsIn_33 h0.2.1 rfl ?_
    refine tt_ld (M := MX11_putsIn) (pc := 34) dX11_putsIn_34 rfl rfl rfl rfl rfl ?_
    refine tt_getR (M := MX11_putsIn) (pc := 35) dX11_putsIn_35 rfl h0.1 rfl ?_
    refine tt_ld (M := MX11_putsIn) (pc := 38) dX11_putsIn_38 rfl rfl rfl rfl rfl ?_
    refine tt_bipush (M := MX11_putsIn) (pc := 39) dX11_putsIn_39 (by decide) ?_
    refine tt_iadd (M := MX11_putsIn) (pc := 41) dX11_putsIn_41 ?_
    refine tt_ld (M := MX11_putsIn) (pc := 42) dX11_putsIn_42 rfl rfl rfl rfl rfl ?_
    refine tt_iadd (M := MX11_putsIn) (pc := 44) dX11_putsIn_44 ?_
    refine tt_ld (M := MX11_putsIn) (pc := 45) dX11_putsIn_45 rfl rfl rfl rfl rfl ?_
    refine tt_getR (M := MX11_putsIn) (pc := 46) dX11_putsIn_46 rfl h0.1 rfl ?_
    refine tt_ld (M := MX11_putsIn) (pc := 49) dX11_putsIn_49 rfl rfl rfl rfl rfl ?_
    refine tt_bipush (M := MX11_putsIn) (pc := 50) dX11_putsIn_50 (by decide) ?_
    refine tt_iadd (M := MX11_putsIn) (pc := 52) dX11_putsIn_52 ?_
    refine tt_ld (M := MX11_putsIn) (pc := 53) dX11_putsIn_53 rfl rfl rfl rfl rfl ?_
    refine tt_iadd (M := MX11_putsIn) (pc := 55) dX11_putsIn_55 ?_
    refine tt_iconst (M := MX11_putsIn) (pc := 56) dX11_putsIn_56 ?_
    refine tt_isub (M := MX11_putsIn) (pc := 57) dX11_putsIn_57 ?_
    refine tt_iaload (M := MX11_putsIn) (pc := 58) dX11_putsIn_58 h0.2.1 rfl ?_
    refine tt_iastore (M := MX11_putsIn) (pc := 59) dX11_putsIn_59 h0.2.1 rfl ?_
    refine tt_iinc (M := MX11_putsIn) (pc := 60) [some (.ref 90), some (.int (I l1)), some (.int (I l2)), some (.int (I l3)), some (.int (I l4)), some (.int (I (l5 + (-1))))] dX11_putsIn_60 rfl rfl ?_
    refine tt_goto (M := MX11_putsIn) (pc := 63) 8 dX11_putsIn_63 rfl ?_
    exact id
theorem qX11_cutsOut_0 {sc : Nat × (Nat → Int32)} {SH : List mCell} {S : mStore} {r : mR × mW} (h0 : sMod SH) {l1 : Int} {l2 : Int} {u3 : Option Value} : (G sc MX11_cutsOut 2 [some (.ref 90), some (.int (I l1)), some (.int (I l2)), some (.int (I l2))] [] SH S r) → G sc MX11_cutsOut 0 [some (.ref 90), some (.int (I l1)), some (.int (I l2)), u3] [] SH S r := by
  refine tt_ld (M := MX11_cutsOut) (pc := 0) dX11_cutsOut_0 rfl rfl rfl rfl rfl ?_
  refine tt_st (M := MX11_cutsOut) (pc := 1) [some (.ref 90), some (.int (I l1)), some (.int (I l2)), some (.int (I l2))] dX11_cutsOut_1 rfl rfl rfl rfl rfl rfl ?_
  exact id
theorem qX11_cutsOut_2 {sc : Nat × (Nat → Int32)} {SH : List mCell} {S : mStore} {r : mR × mW} (h0 : sMod SH) {l1 : Int} {l2 : Int} {l3 : Int} : ((((0 : Int) ≤ l1 ∧ l1 < 137400) ∧ (if I (S 91 l1) ≤ I (l3 + 1) then (((0 : Int) ≤ l1 ∧ l1 < 137400) ∧ (((0 : Int) ≤ l1 ∧ l1 < 137400) ∧ r = rV SH (up S 91 l1 ((S 91 l1) - 1)))) else (((0 : Int) ≤ (l1 + 2) + l3 ∧ (l1 + 2) + l3 < 137400) ∧ (((0 : Int) ≤ (l1 + 1) + l3 ∧ (l1 + 1) + l3 < 137400) ∧ (((0 : Int) ≤ ((l1 + 49) + l3) + 1 ∧ ((l1 + 49) + l3) + 1 < 137400) ∧ (((0 : Int) ≤ (l1 + 49) + l3 ∧ (l1 + 49) + l3 < 137400) ∧ G sc MX11_cutsOut 2 [some (.ref 90), some (.int (I l1)), some (.int (I l2)), some (.int (I (l3 + 1)))] [] SH (up (up S 91 ((l1 + 1) + l3) (S 91 ((l1 + 2) + l3))) 91 ((l1 + 49) + l3) ((up S 91 ((l1 + 1) + l3) (S 91 ((l1 + 2) + l3))) 91 (((l1 + 49) + l3) + 1))) r))))))) → G sc MX11_cutsOut 2 [some (.ref 90), some (.int (I l1)), some (.int (I l2)), some (.int (I l3))] [] SH S r := by
  refine tt_ld (M := MX11_cutsOut) (pc := 2) dX11_cutsOut_2 rfl rfl rfl rfl rfl ?_
  refine tt_iconst (M := MX11_cutsOut) (pc := 3) dX11_cutsOut_3 ?_
  refine tt_iadd (M := MX11_cutsOut) (pc := 4) dX11_cutsOut_4 ?_
  refine tt_ld (M := MX11_cutsOut) (pc := 5) dX11_cutsOut_5 rfl rfl rfl rfl rfl ?_
  refine tt_getR (M := MX11_cutsOut) (pc := 6) dX11_cutsOut_6 rfl h0.1 rfl ?_
  refine tt_ld (M := MX11_cutsOut) (pc := 9) dX11_cutsOut_9 rfl rfl rfl rfl rfl ?_
  refine tt_iaload (M := MX11_cutsOut) (pc := 10) dX11_cutsOut_10 h0.2.1 rfl ?_
  refine tt_ic_ge (M := MX11_cutsOut) (pc := 11) 64 dX11_cutsOut_11 rfl ?_ ?_
  · refine tt_ld (M := MX11_cutsOut) (pc := 64) dX11_cutsOut_64 rfl rfl rfl rfl rfl ?_
    refine tt_getR (M := MX11_cutsOut) (pc := 65) dX11_cutsOut_65 rfl h0.1 rfl ?_
    refine tt_ld (M := MX11_cutsOut) (pc := 68) dX11_cutsOut_68 rfl rfl rfl rfl rfl ?_
    refine tt_dup2 (M := MX11_cutsOut) (pc := 69) dX11_cutsOut_69 rfl rfl ?_
    refine tt_iaload (M := MX11_cutsOut) (pc := 70) dX11_cutsOut_70 h0.2.1 rfl ?_
    refine tt_iconst (M := MX11_cutsOut) (pc := 71) dX11_cutsOut_71 ?_
    refine tt_isub (M := MX11_cutsOut) (pc := 72) dX11_cutsOut_72 ?_
    refine tt_iastore (M := MX11_cutsOut) (pc := 73) dX11_cutsOut_73 h0.2.1 rfl ?_
    exact tt_ret (M := MX11_cutsOut) (pc := 74) dX11_cutsOut_74 rfl
  · refine tt_ld (M := MX11_cutsOut) (pc := 14) dX11_cutsOut_14 rfl rfl rfl rfl rfl ?_
    refine tt_getR (M := MX11_cutsOut) (pc := 15) dX11_cutsOut_15 rfl h0.1 rfl ?_
    refine tt_ld (M := MX11_cutsOut) (pc := 18) dX11_cutsOut_18 rfl rfl rfl rfl rfl ?_
    refine tt_iconst (M := MX11_cutsOut) (pc := 19) dX11_cutsOut_19 ?_
    refine tt_iadd (M := MX11_cutsOut) (pc := 20) dX11_cutsOut_20 ?_
    refine tt_ld (M := MX11_cutsOut) (pc := 21) dX11_cutsOut_21 rfl rfl rfl rfl rfl ?_
    refine tt_iadd (M := MX11_cutsOut) (pc := 22) dX11_cutsOut_22 ?_
    refine tt_ld (M := MX11_cutsOut) (pc := 23) dX11_cutsOut_23 rfl rfl rfl rfl rfl ?_
    refine tt_getR (M := MX11_cutsOut) (pc := 24) dX11_cutsOut_24 rfl h0.1 rfl ?_
    refine tt_ld (M := MX11_cutsOut) (pc := 27) dX11_cutsOut_27 rfl rfl rfl rfl rfl ?_
    refine tt_iconst (M := MX11_cutsOut) (pc := 28) dX11_cutsOut_28 ?_
    refine tt_iadd (M := MX11_cutsOut) (pc := 29) dX11_cutsOut_29 ?_
    refine tt_ld (M := MX11_cutsOut) (pc := 30) dX11_cutsOut_30 rfl rfl rfl rfl rfl ?_
    refine tt_iadd (M := MX11_cutsOut) (pc := 31) dX11_cutsOut_31 ?_
    refine tt_iaload (M := MX11_cutsOut) (pc := 32) dX11_cutsOut_32 h0.2.1 rfl ?_
    refine tt_iastore (M := MX11_cutsOut) (pc := 33) dX11_cutsOut_33 h0.2.1 rfl ?_
    refine tt_ld (M := MX11_cutsOut) (pc := 34) dX11_cutsOut_34 rfl rfl rfl rfl rfl ?_
    refine tt_getR (M := MX11_cutsOut) (pc := 35) dX11_cutsOut_35 rfl h0.1 rfl ?_
    refine tt_ld (M := MX11_cutsOut) (pc := 38) dX11_cutsOut_38 rfl rfl rfl rfl rfl ?_
    refine tt_bipush (M := MX11_cutsOut) (pc := 39) dX11_cutsOut_39 (by decide) ?_
    refine tt_iadd (M := MX11_cutsOut) (pc := 41) dX11_cutsOut_41 ?_
    refine tt_ld (M := MX11_cutsOut) (pc := 42) dX11_cutsOut_42 rfl rfl rfl rfl rfl ?_
    refine tt_iadd (M := MX11_cutsOut) (pc := 43) dX11_cutsOut_43 ?_
    refine tt_ld (M := MX11_cutsOut) (pc := 44) dX11_cutsOut_44 rfl rfl rfl rfl rfl ?_
    refine tt_getR (M := MX11_cutsOut) (pc := 45) dX11_cutsOut_45 rfl h0.1 rfl ?_
    refine tt_ld (M := MX11_cutsOut) (pc := 48) dX11_cutsOut_48 rfl rfl rfl rfl rfl ?_
    refine tt_bipush (M := MX11_cutsOut) (pc := 49) dX11_cutsOut_49 (by decide) ?_
    refine tt_iadd (M := MX11_cutsOut) (pc := 51) dX11_cutsOut_51 ?_
    refine tt_ld (M := MX11_cutsOut) (pc := 52) dX11_cutsOut_52 rfl rfl rfl rfl rfl ?_
    refine tt_iadd (M := MX11_cutsOut) (pc := 53) dX11_cutsOut_53 ?_
    refine tt_iconst (M := MX11_cutsOut) (pc := 54) dX11_cutsOut_54 ?_
    refine tt_iadd (M := MX11_cutsOut) (pc := 55) dX11_cutsOut_55 ?_
    refine tt_iaload (M := MX11_cutsOut) (pc := 56) dX11_cutsOut_56 h0.2.1 rfl ?_
    refine tt_iastore (M := MX11_cutsOut) (pc := 57) dX11_cutsOut_57 h0.2.1 rfl ?_
    refine tt_iinc (M := MX11_cutsOut) (pc := 58) [some (.ref 90), some (.int (I l1)), some (.int (I l2)), some (.int (I (l3 + 1)))] dX11_cutsOut_58 rfl rfl ?_
    refine tt_goto (M := MX11_cutsOut) (pc := 61) 2 dX11_cutsOut_61 rfl ?_
    exact id
