-- needs: 43.tshape
/-! ===== the program as conditions (gen_vc.py) ===== -/
theorem qX8_append_0 {sc : Nat × (Nat → Int32)} {SH : List mCell} {S : mStore} {r : mR × mW} (h0 : sText SH) {l1 : Int} {u2 : Option Value} : ((if I ((S 11 1) + 4) ≤ I 700 then G sc MX8_append 16 [some (.ref 11), some (.int (I l1)), some (.int (I 24))] [] SH S r else r = rV SH S)) → G sc MX8_append 0 [some (.ref 11), some (.int (I l1)), u2] [] SH S r := by
  refine tt_ld (M := MX8_append) (pc := 0) dX8_append_0 rfl rfl rfl rfl rfl ?_
  refine tt_getI (M := MX8_append) (pc := 1) dX8_append_1 rfl h0.1 rfl ?_
  refine tt_iconst (M := MX8_append) (pc := 4) dX8_append_4 ?_
  refine tt_iadd (M := MX8_append) (pc := 5) dX8_append_5 ?_
  refine tt_sipush (M := MX8_append) (pc := 6) dX8_append_6 (by decide) ?_
  refine tt_ic_le (M := MX8_append) (pc := 9) 13 dX8_append_9 rfl ?_ ?_
  · refine tt_bipush (M := MX8_append) (pc := 13) dX8_append_13 (by decide) ?_
    refine tt_st (M := MX8_append) (pc := 15) [some (.ref 11), some (.int (I l1)), some (.int (I 24))] dX8_append_15 rfl rfl rfl rfl rfl rfl ?_
    exact id
  · exact tt_ret (M := MX8_append) (pc := 12) dX8_append_12 rfl
theorem qX8_append_16 {sc : Nat × (Nat → Int32)} {SH : List mCell} {S : mStore} {r : mR × mW} (h0 : sText SH) {l1 : Int} {l2 : Int} : ((if I l2 < I 0 then r = rV SH S else (((0 : Int) ≤ S 11 1 ∧ S 11 1 < 700) ∧ G sc MX8_append 16 [some (.ref 11), some (.int (I l1)), some (.int (I (l2 + (-8))))] [] SH (up (up S 12 (S 11 1) (ib8 (ib8 (isr l1 l2)))) 11 1 (((up S 12 (S 11 1) (ib8 (ib8 (isr l1 l2)))) 11 1) + 1)) r))) → G sc MX8_append 16 [some (.ref 11), some (.int (I l1)), some (.int (I l2))] [] SH S r := by
  refine tt_ld (M := MX8_append) (pc := 16) dX8_append_16 rfl rfl rfl rfl rfl ?_
  refine tt_if_lt (M := MX8_append) (pc := 17) 49 dX8_append_17 rfl ?_ ?_
  · exact tt_ret (M := MX8_append) (pc := 49) dX8_append_49 rfl
  · refine tt_ld (M := MX8_append) (pc := 20) dX8_append_20 rfl rfl rfl rfl rfl ?_
    refine tt_getR (M := MX8_append) (pc := 21) dX8_append_21 rfl h0.1 rfl ?_
    refine tt_ld (M := MX8_append) (pc := 24) dX8_append_24 rfl rfl rfl rfl rfl ?_
    refine tt_getI (M := MX8_append) (pc := 25) dX8_append_25 rfl h0.1 rfl ?_
    refine tt_ld (M := MX8_append) (pc := 28) dX8_append_28 rfl rfl rfl rfl rfl ?_
    refine tt_ld (M := MX8_append) (pc := 29) dX8_append_29 rfl rfl rfl rfl rfl ?_
    refine tt_ishr (M := MX8_append) (pc := 30) dX8_append_30 ?_
    refine tt_i2b (M := MX8_append) (pc := 31) dX8_append_31 ?_
    refine tt_bastore (M := MX8_append) (pc := 32) dX8_append_32 h0.2 rfl ?_
    refine tt_ld (M := MX8_append) (pc := 33) dX8_append_33 rfl rfl rfl rfl rfl ?_
    refine tt_dup (M := MX8_append) (pc := 34) dX8_append_34 rfl ?_
    refine tt_getI (M := MX8_append) (pc := 35) dX8_append_35 rfl h0.1 rfl ?_
    refine tt_iconst (M := MX8_append) (pc := 38) dX8_append_38 ?_
    refine tt_iadd (M := MX8_append) (pc := 39) dX8_append_39 ?_
    refine tt_putI (M := MX8_append) (pc := 40) dX8_append_40 rfl rfl (Or.inl rfl) h0.1 rfl ?_
    refine tt_iinc (M := MX8_append) (pc := 43) [some (.ref 11), some (.int (I l1)), some (.int (I (l2 + (-8))))] dX8_append_43 rfl rfl ?_
    refine tt_goto (M := MX8_append) (pc := 46) 16 dX8_append_46 rfl ?_
    exact id
theorem qX8_begin_0 {sc : Nat × (Nat → Int32)} {SH : List mCell} {S : mStore} {r : mR × mW} (h0 : sText SH) {l1 : Int} : ((if I 700 ≤ I l1 then r = rV SH (up (up (up (up (up (up S 11 2 700) 11 3 0) 11 4 0) 11 5 0) 11 6 0) 11 7 (-1)) else r = rV SH (up (up (up (up (up (up S 11 2 l1) 11 3 0) 11 4 0) 11 5 0) 11 6 0) 11 7 (-1)))) → G sc MX8_begin 0 [some (.ref 11), some (.int (I l1))] [] SH S r := by
  refine tt_ld (M := MX8_begin) (pc := 0) dX8_begin_0 rfl rfl rfl rfl rfl ?_
  refine tt_ld (M := MX8_begin) (pc := 1) dX8_begin_1 rfl rfl rfl rfl rfl ?_
  refine tt_sipush (M := MX8_begin) (pc := 2) dX8_begin_2 (by decide) ?_
  refine tt_ic_ge (M := MX8_begin) (pc := 5) 12 dX8_begin_5 rfl ?_ ?_
  · refine tt_sipush (M := MX8_begin) (pc := 12) dX8_begin_12 (by decide) ?_
    refine tt_putI (M := MX8_begin) (pc := 15) dX8_begin_15 rfl rfl (Or.inl rfl) h0.1 rfl ?_
    refine tt_ld (M := MX8_begin) (pc := 18) dX8_begin_18 rfl rfl rfl rfl rfl ?_
    refine tt_iconst (M := MX8_begin) (pc := 19) dX8_begin_19 ?_
    refine tt_putI (M := MX8_begin) (pc := 20) dX8_begin_20 rfl rfl (Or.inl rfl) h0.1 rfl ?_
    refine tt_ld (M := MX8_begin) (pc := 23) dX8_begin_23 rfl rfl rfl rfl rfl ?_
    refine tt_iconst (M := MX8_begin) (pc := 24) dX8_begin_24 ?_
    refine tt_putI (M := MX8_begin) (pc := 25) dX8_begin_25 rfl rfl (Or.inl rfl) h0.1 rfl ?_
    refine tt_ld (M := MX8_begin) (pc := 28) dX8_begin_28 rfl rfl rfl rfl rfl ?_
    refine tt_iconst (M := MX8_begin) (pc := 29) dX8_begin_29 ?_
    refine tt_putI (M := MX8_begin) (pc := 30) dX8_begin_30 rfl rfl (Or.inl rfl) h0.1 rfl ?_
    refine tt_ld (M := MX8_begin) (pc := 33) dX8_begin_33 rfl rfl rfl rfl rfl ?_
    refine tt_iconst (M := MX8_begin) (pc := 34) dX8_begin_34 ?_
    refine tt_putI (M := MX8_begin) (pc := 35) dX8_begin_35 rfl rfl (Or.inl rfl) h0.1 rfl ?_
    refine tt_ld (M := MX8_begin) (pc := 38) dX8_begin_38 rfl rfl rfl rfl rfl ?_
    refine tt_iconst (M := MX8_begin) (pc := 39) dX8_begin_39 ?_
    refine tt_putI (M := MX8_begin) (pc := 40) dX8_begin_40 rfl rfl (Or.inl rfl) h0.1 rfl ?_
    exact tt_ret (M := MX8_begin) (pc := 43) dX8_begin_43 rfl
  · refine tt_ld (M := MX8_begin) (pc := 8) dX8_begin_8 rfl rfl rfl rfl rfl ?_
    refine tt_goto (M := MX8_begin) (pc := 9) 15 dX8_begin_9 rfl ?_
    refine tt_putI (M := MX8_begin) (pc := 15) dX8_begin_15 rfl rfl (Or.inl rfl) h0.1 rfl ?_
    refine tt_ld (M := MX8_begin) (pc := 18) dX8_begin_18 rfl rfl rfl rfl rfl ?_
    refine tt_iconst (M := MX8_begin) (pc := 19) dX8_begin_19 ?_
    refine tt_putI (M := MX8_begin) (pc := 20) dX8_begin_20 rfl rfl (Or.inl rfl) h0.1 rfl ?_
    refine tt_ld (M := MX8_begin) (pc := 23) dX8_begin_23 rfl rfl rfl rfl rfl ?_
    refine tt_iconst (M := MX8_begin) (pc := 24) dX8_begin_24 ?_
    refine tt_putI (M := MX8_begin) (pc := 25) dX8_begin_25 rfl rfl (Or.inl rfl) h0.1 rfl ?_
    refine tt_ld (M := MX8_begin) (pc := 28) dX8_begin_28 rfl rfl rfl rfl rfl ?_
    refine tt_iconst (M := MX8_begin) (pc := 29) dX8_begin_29 ?_
    refine tt_putI (M := MX8_begin) (pc := 30) dX8_begin_30 rfl rfl (Or.inl rfl) h0.1 rfl ?_
    refine tt_ld (M := MX8_begin) (pc := 33) dX8_begin_33 rfl rfl rfl rfl rfl ?_
    refine tt_iconst (M := MX8_begin) (pc := 34) dX8_begin_34 ?_
    refine tt_putI (M := MX8_begin) (pc := 35) dX8_begin_35 rfl rfl (Or.inl rfl) h0.1 rfl ?_
    refine tt_ld (M := MX8_begin) (pc := 38) dX8_begin_38 rfl rfl rfl rfl rfl ?_
    refine tt_iconst (M := MX8_begin) (pc := 39) dX8_begin_39 ?_
    refine tt_putI (M := MX8_begin) (pc := 40) dX8_begin_40 rfl rfl (Or.inl rfl) h0.1 rfl ?_
    exact tt_ret (M := MX8_begin) (pc := 43) dX8_begin_43 rfl
theorem qX8_kindOf_0 {sc : Nat × (Nat → Int32)} {SH : List mCell} {S : mStore} {r : mR × mW} {l0 : Int} : ((if I l0 < I 97 then (if I l0 < I 48 then (if I l0 = I 59 then r = rI 3 SH S else r = rI 4 SH S) else (if I 57 < I l0 then (if I l0 = I 59 then r = rI 3 SH S else r = rI 4 SH S) else r = rI 2 SH S)) else (if I 122 < I l0 then (if I l0 < I 48 then (if I l0 = I 59 then r = rI 3 SH S else r = rI 4 SH S) else (if I 57 < I l0 then (if I l0 = I 59 then r = rI 3 SH S else r = rI 4 SH S) else r = rI 2 SH S)) else r = rI 1 SH S))) → G sc MX8_kindOf 0 [some (.int (I l0))] [] SH S r := by
  refine tt_ld (M := MX8_kindOf) (pc := 0) dX8_kindOf_0 rfl rfl rfl rfl rfl ?_
  refine tt_bipush (M := MX8_kindOf) (pc := 1) dX8_kindOf_1 (by decide) ?_
  refine tt_ic_lt (M := MX8_kindOf) (pc := 3) 14 dX8_kindOf_3 rfl ?_ ?_
  · refine tt_ld (M := MX8_kindOf) (pc := 14) dX8_kindOf_14 rfl rfl rfl rfl rfl ?_
    refine tt_bipush (M := MX8_kindOf) (pc := 15) dX8_kindOf_15 (by decide) ?_
    refine tt_ic_lt (M := MX8_kindOf) (pc := 17) 28 dX8_kindOf_17 rfl ?_ ?_
    · refine tt_ld (M := MX8_kindOf) (pc := 28) dX8_kindOf_28 rfl rfl rfl rfl rfl ?_
      refine tt_bipush (M := MX8_kindOf) (pc := 29) dX8_kindOf_29 (by decide) ?_
      refine tt_ic_ne (M := MX8_kindOf) (pc := 31) 38 dX8_kindOf_31 rfl ?_ ?_
      · refine tt_iconst (M := MX8_kindOf) (pc := 38) dX8_kindOf_38 ?_
        exact tt_iret (M := MX8_kindOf) (pc := 39) dX8_kindOf_39 rfl
      · refine tt_iconst (M := MX8_kindOf) (pc := 34) dX8_kindOf_34 ?_
        refine tt_goto (M := MX8_kindOf) (pc := 35) 39 dX8_kindOf_35 rfl ?_
        exact tt_iret (M := MX8_kindOf) (pc := 39) dX8_kindOf_39 rfl
    · refine tt_ld (M := MX8_kindOf) (pc := 20) dX8_kindOf_20 rfl rfl rfl rfl rfl ?_
      refine tt_bipush (M := MX8_kindOf) (pc := 21) dX8_kindOf_21 (by decide) ?_
      refine tt_ic_gt (M := MX8_kindOf) (pc := 23) 28 dX8_kindOf_23 rfl ?_ ?_
      · refine tt_ld (M := MX8_kindOf) (pc := 28) dX8_kindOf_28 rfl rfl rfl rfl rfl ?_
        refine tt_bipush (M := MX8_kindOf) (pc := 29) dX8_kindOf_29 (by decide) ?_
        refine tt_ic_ne (M := MX8_kindOf) (pc := 31) 38 dX8_kindOf_31 rfl ?_ ?_
        · refine tt_iconst (M := MX8_kindOf) (pc := 38) dX8_kindOf_38 ?_
          exact tt_iret (M := MX8_kindOf) (pc := 39) dX8_kindOf_39 rfl
        · refine tt_iconst (M := MX8_kindOf) (pc := 34) dX8_kindOf_34 ?_
          refine tt_goto (M := MX8_kindOf) (pc := 35) 39 dX8_kindOf_35 rfl ?_
          exact tt_iret (M := MX8_kindOf) (pc := 39) dX8_kindOf_39 rfl
      · refine tt_iconst (M := MX8_kindOf) (pc := 26) dX8_kindOf_26 ?_
        exact tt_iret (M := MX8_kindOf) (pc := 27) dX8_kindOf_27 rfl
  · refine tt_ld (M := MX8_kindOf) (pc := 6) dX8_kindOf_6 rfl rfl rfl rfl rfl ?_
    refine tt_bipush (M := MX8_kindOf) (pc := 7) dX8_kindOf_7 (by decide) ?_
    refine tt_ic_gt (M := MX8_kindOf) (pc := 9) 14 dX8_kindOf_9 rfl ?_ ?_
    · refine tt_ld (M := MX8_kindOf) (pc := 14) dX8_kindOf_14 rfl rfl rfl rfl rfl ?_
      refine tt_bipush (M := MX8_kindOf) (pc := 15) dX8_kindOf_15 (by decide) ?_
      refine tt_ic_lt (M := MX8_kindOf) (pc := 17) 28 dX8_kindOf_17 rfl ?_ ?_
      · refine tt_ld (M := MX8_kindOf) (pc := 28) dX8_kindOf_28 rfl rfl rfl rfl rfl ?_
        refine tt_bipush (M := MX8_kindOf) (pc := 29) dX8_kindOf_29 (by decide) ?_
        refine tt_ic_ne (M := MX8_kindOf) (pc := 31) 38 dX8_kindOf_31 rfl ?_ ?_
        · refine tt_iconst (M := MX8_kindOf) (pc := 38) dX8_kindOf_38 ?_
          exact tt_iret (M := MX8_kindOf) (pc := 39) dX8_kindOf_39 rfl
        · refine tt_iconst (M := MX8_kindOf) (pc := 34) dX8_kindOf_34 ?_
          refine tt_goto (M := MX8_kindOf) (pc := 35) 39 dX8_kindOf_35 rfl ?_
          exact tt_iret (M := MX8_kindOf) (pc := 39) dX8_kindOf_39 rfl
      · refine tt_ld (M := MX8_kindOf) (pc := 20) dX8_kindOf_20 rfl rfl rfl rfl rfl ?_
        refine tt_bipush (M := MX8_kindOf) (pc := 21) dX8_kindOf_21 (by decide) ?_
        refine tt_ic_gt (M := MX8_kindOf) (pc := 23) 28 dX8_kindOf_23 rfl ?_ ?_
        · refine tt_ld (M := MX8_kindOf) (pc := 28) dX8_kindOf_28 rfl rfl rfl rfl rfl ?_
          refine tt_bipush (M := MX8_kindOf) (pc := 29) dX8_kindOf_29 (by decide) ?_
          refine tt_ic_ne (M := MX8_kindOf) (pc := 31) 38 dX8_kindOf_31 rfl ?_ ?_
          · refine tt_iconst (M := MX8_kindOf) (pc := 38) dX8_kindOf_38 ?_
            exact tt_iret (M := MX8_kindOf) (pc := 39) dX8_kindOf_39 rfl
          · refine tt_iconst (M := MX8_kindOf) (pc := 34) dX8_kindOf_34 ?_
            refine tt_goto (M := MX8_kindOf) (pc := 35) 39 dX8_kindOf_35 rfl ?_
            exact tt_iret (M := MX8_kindOf) (pc := 39) dX8_kindOf_39 rfl
        · refine tt_iconst (M := MX8_kindOf) (pc := 26) dX8_kindOf_26 ?_
          exact tt_iret (M := MX8_kindOf) (pc := 27) dX8_kindOf_27 rfl
    · refine tt_iconst (M := MX8_kindOf) (pc := 12) dX8_kindOf_12 ?_
      exact tt_iret (M := MX8_kindOf) (pc := 13) dX8_kindOf_13 rfl
theorem qX8_step_0 {sc : Nat × (Nat → Int32)} {SH : List mCell} {S : mStore} {r : mR × mW} (h0 : sText SH) {u1 : Option Value} : (G sc MX8_step 5 [some (.ref 11), some (.int (I (S 11 4)))] [] SH S r) → G sc MX8_step 0 [some (.ref 11), u1] [] SH S r := by
  refine tt_ld (M := MX8_step) (pc := 0) dX8_step_0 rfl rfl rfl rfl rfl ?_
  refine tt_getI (M := MX8_step) (pc := 1) dX8_step_1 rfl h0.1 rfl ?_
  refine tt_st (M := MX8_step) (pc := 4) [some (.ref 11), some (.int (I (S 11 4)))] dX8_step_4 rfl rfl rfl rfl rfl rfl ?_
  exact id
theorem qX8_step_5 {sc : Nat × (Nat → Int32)} {SH : List mCell} {S : mStore} {r : mR × mW} (h0 : sText SH) {l1 : Int} : ((if I (S 11 2) ≤ I l1 then G sc MX8_step 41 [some (.ref 11), some (.int (I l1))] [] SH S r else (((0 : Int) ≤ l1 ∧ l1 < 700) ∧ (if I (S 12 l1) = I 32 then G sc MX8_step 5 [some (.ref 11), some (.int (I (l1 + 1)))] [] SH S r else (((0 : Int) ≤ l1 ∧ l1 < 700) ∧ (if I (S 12 l1) = I 10 then G sc MX8_step 5 [some (.ref 11), some (.int (I (l1 + 1)))] [] SH S r else G sc MX8_step 41 [some (.ref 11), some (.int (I l1))] [] SH S r)))))) → G sc MX8_step 5 [some (.ref 11), some (.int (I l1))] [] SH S r := by
  refine tt_ld (M := MX8_step) (pc := 5) dX8_step_5 rfl rfl rfl rfl rfl ?_
  refine tt_ld (M := MX8_step) (pc := 6) dX8_step_6 rfl rfl rfl rfl rfl ?_
  refine tt_getI (M := MX8_step) (pc := 7) dX8_step_7 rfl h0.1 rfl ?_
  refine tt_ic_ge (M := MX8_step) (pc := 10) 41 dX8_step_10 rfl ?_ ?_
  · exact id
  · refine tt_ld (M := MX8_step) (pc := 13) dX8_step_13 rfl rfl rfl rfl rfl ?_
    refine tt_getR (M := MX8_step) (pc := 14) dX8_step_14 rfl h0.1 rfl ?_
    refine tt_ld (M := MX8_step) (pc := 17) dX8_step_17 rfl rfl rfl rfl rfl ?_
    refine tt_baload (M := MX8_step) (pc := 18) dX8_step_18 h0.2 rfl ?_
    refine tt_bipush (M := MX8_step) (pc := 19) dX8_step_19 (by decide) ?_
    refine tt_ic_eq (M := MX8_step) (pc := 21) 35 dX8_step_21 rfl ?_ ?_
    · refine tt_iinc (M := MX8_step) (pc := 35) [some (.ref 11), some (.int (I (l1 + 1)))] dX8_step_35 rfl rfl ?_
      refine tt_goto (M := MX8_step) (pc := 38) 5 dX8_step_38 rfl ?_
      exact id
    · refine tt_ld (M := MX8_step) (pc := 24) dX8_step_24 rfl rfl rfl rfl rfl ?_
      refine tt_getR (M := MX8_step) (pc := 25) dX8_step_25 rfl h0.1 rfl ?_
      refine tt_ld (M := MX8_step) (pc := 28) dX8_step_28 rfl rfl rfl rfl rfl ?_
      refine tt_baload (M := MX8_step) (pc := 29) dX8_step_29 h0.2 rfl ?_
      refine tt_bipush (M := MX8_step) (pc := 30) dX8_step_30 (by decide) ?_
      refine tt_ic_ne (M := MX8_step) (pc := 32) 41 dX8_step_32 rfl ?_ ?_
      · exact id
      · refine tt_iinc (M := MX8_step) (pc := 35) [some (.ref 11), some (.int (I (l1 + 1)))] dX8_step_35 rfl rfl ?_
        refine tt_goto (M := MX8_step) (pc := 38) 5 dX8_step_38 rfl ?_
        exact id
theorem qX8_step_41 {sc : Nat × (Nat → Int32)} {SH : List mCell} {S : mStore} {r : mR × mW} (h0 : sText SH) {l1 : Int} : ((if I ((up (up S 11 3 l1) 11 5 0) 11 2) ≤ I l1 then r = rV SH (up (up (up S 11 3 l1) 11 5 0) 11 4 l1) else (((0 : Int) ≤ l1 ∧ l1 < 700) ∧ (∃ v101 S102, G sc MX8_kindOf 0 [some (.int (I ((up (up S 11 3 l1) 11 5 0) 12 l1)))] [] SH (up (up S 11 3 l1) 11 5 0) (rI v101 SH S102) ∧ G sc MX8_step 75 [some (.ref 11), some (.int (I (l1 + 1)))] [] SH (up S102 11 5 v101) r)))) → G sc MX8_step 41 [some (.ref 11), some (.int (I l1))] [] SH S r := by
  refine tt_ld (M := MX8_step) (pc := 41) dX8_step_41 rfl rfl rfl rfl rfl ?_
  refine tt_ld (M := MX8_step) (pc := 42) dX8_step_42 rfl rfl rfl rfl rfl ?_
  refine tt_putI (M := MX8_step) (pc := 43) dX8_step_43 rfl rfl (Or.inl rfl) h0.1 rfl ?_
  refine tt_ld (M := MX8_step) (pc := 46) dX8_step_46 rfl rfl rfl rfl rfl ?_
  refine tt_iconst (M := MX8_step) (pc := 47) dX8_step_47 ?_
  refine tt_putI (M := MX8_step) (pc := 48) dX8_step_48 rfl rfl (Or.inl rfl) h0.1 rfl ?_
  refine tt_ld (M := MX8_step) (pc := 51) dX8_step_51 rfl rfl rfl rfl rfl ?_
  refine tt_ld (M := MX8_step) (pc := 52) dX8_step_52 rfl rfl rfl rfl rfl ?_
  refine tt_getI (M := MX8_step) (pc := 53) dX8_step_53 rfl h0.1 rfl ?_
  refine tt_ic_ge (M := MX8_step) (pc := 56) 121 dX8_step_56 rfl ?_ ?_
  · refine tt_ld (M := MX8_step) (pc := 121) dX8_step_121 rfl rfl rfl rfl rfl ?_
    refine tt_ld (M := MX8_step) (pc := 122) dX8_step_122 rfl rfl rfl rfl rfl ?_
    refine tt_putI (M := MX8_step) (pc := 123) dX8_step_123 rfl rfl (Or.inl rfl) h0.1 rfl ?_
    exact tt_ret (M := MX8_step) (pc := 126) dX8_step_126 rfl
  · refine tt_ld (M := MX8_step) (pc := 59) dX8_step_59 rfl rfl rfl rfl rfl ?_
    refine tt_ld (M := MX8_step) (pc := 60) dX8_step_60 rfl rfl rfl rfl rfl ?_
    refine tt_getR (M := MX8_step) (pc := 61) dX8_step_61 rfl h0.1 rfl ?_
    refine tt_ld (M := MX8_step) (pc := 64) dX8_step_64 rfl rfl rfl rfl rfl ?_
    refine tt_baload (M := MX8_step) (pc := 65) dX8_step_65 h0.2 rfl ?_
    refine tt_scIN (M := MX8_step) (pc := 66) dX8_step_66 rfl [.ref 11] rfl rfl ⟨rfl, by decide, Nat.le_of_ble_eq_true rfl⟩ fun v101 S102 => ?_
    refine tt_putI (M := MX8_step) (pc := 69) dX8_step_69 rfl rfl (Or.inl rfl) h0.1 rfl ?_
    refine tt_iinc (M := MX8_step) (pc := 72) [some (.ref 11), some (.int (I (l1 + 1)))] dX8_step_72 rfl rfl ?_
    exact id
theorem qX8_step_75 {sc : Nat × (Nat → Int32)} {SH : List mCell} {S : mStore} {r : mR × mW} (h0 : sText SH) {l1 : Int} : ((if I (S 11 2) ≤ I l1 then r = rV SH (up S 11 4 l1) else (if I (S 11 5) = I 1 then (((0 : Int) ≤ l1 ∧ l1 < 700) ∧ (∃ v101 S102, G sc MX8_kindOf 0 [some (.int (I (S 12 l1)))] [] SH S (rI v101 SH S102) ∧ (if I v101 = I (S102 11 5) then G sc MX8_step 75 [some (.ref 11), some (.int (I (l1 + 1)))] [] SH S102 r else r = rV SH (up S102 11 4 l1)))) else (if I (S 11 5) = I 2 then (((0 : Int) ≤ l1 ∧ l1 < 700) ∧ (∃ v103 S104, G sc MX8_kindOf 0 [some (.int (I (S 12 l1)))] [] SH S (rI v103 SH S104) ∧ (if I v103 = I (S104 11 5) then G sc MX8_step 75 [some (.ref 11), some (.int (I (l1 + 1)))] [] SH S104 r else r = rV SH (up S104 11 4 l1)))) else r = rV SH (up S 11 4 l1))))) → G sc MX8_step 75 [some (.ref 11), some (.int (I l1))] [] SH S r := by
  refine tt_ld (M := MX8_step) (pc := 75) dX8_step_75 rfl rfl rfl rfl rfl ?_
  refine tt_ld (M := MX8_step) (pc := 76) dX8_step_76 rfl rfl rfl rfl rfl ?_
  refine tt_getI (M := MX8_step) (pc := 77) dX8_step_77 rfl h0.1 rfl ?_
  refine tt_ic_ge (M := MX8_step) (pc := 80) 121 dX8_step_80 rfl ?_ ?_
  · refine tt_ld (M := MX8_step) (pc := 121) dX8_step_121 rfl rfl rfl rfl rfl ?_
    refine tt_ld (M := MX8_step) (pc := 122) dX8_step_122 rfl rfl rfl rfl rfl ?_
    refine tt_putI (M := MX8_step) (pc := 123) dX8_step_123 rfl rfl (Or.inl rfl) h0.1 rfl ?_
    exact tt_ret (M := MX8_step) (pc := 126) dX8_step_126 rfl
  · refine tt_ld (M := MX8_step) (pc := 83) dX8_step_83 rfl rfl rfl rfl rfl ?_
    refine tt_getI (M := MX8_step) (pc := 84) dX8_step_84 rfl h0.1 rfl ?_
    refine tt_iconst (M := MX8_step) (pc := 87) dX8_step_87 ?_
    refine tt_ic_eq (M := MX8_step) (pc := 88) 99 dX8_step_88 rfl ?_ ?_
    · refine tt_ld (M := MX8_step) (pc := 99) dX8_step_99 rfl rfl rfl rfl rfl ?_
      refine tt_getR (M := MX8_step) (pc := 100) dX8_step_100 rfl h0.1 rfl ?_
      refine tt_ld (M := MX8_step) (pc := 103) dX8_step_103 rfl rfl rfl rfl rfl ?_
      refine tt_baload (M := MX8_step) (pc := 104) dX8_step_104 h0.2 rfl ?_
      refine tt_scIN (M := MX8_step) (pc := 105) dX8_step_105 rfl [] rfl rfl ⟨rfl, by decide, Nat.le_of_ble_eq_true rfl⟩ fun v101 S102 => ?_
      refine tt_ld (M := MX8_step) (pc := 108) dX8_step_108 rfl rfl rfl rfl rfl ?_
      refine tt_getI (M := MX8_step) (pc := 109) dX8_step_109 rfl h0.1 rfl ?_
      refine tt_ic_ne (M := MX8_step) (pc := 112) 121 dX8_step_112 rfl ?_ ?_
      · refine tt_ld (M := MX8_step) (pc := 121) dX8_step_121 rfl rfl rfl rfl rfl ?_
        refine tt_ld (M := MX8_step) (pc := 122) dX8_step_122 rfl rfl rfl rfl rfl ?_
        refine tt_putI (M := MX8_step) (pc := 123) dX8_step_123 rfl rfl (Or.inl rfl) h0.1 rfl ?_
        exact tt_ret (M := MX8_step) (pc := 126) dX8_step_126 rfl
      · refine tt_iinc (M := MX8_step) (pc := 115) [some (.ref 11), some (.int (I (l1 + 1)))] dX8_step_115 rfl rfl ?_
        refine tt_goto (M := MX8_step) (pc := 118) 75 dX8_step_118 rfl ?_
        exact id
    · refine tt_ld (M := MX8_step) (pc := 91) dX8_step_91 rfl rfl rfl rfl rfl ?_
      refine tt_getI (M := MX8_step) (pc := 92) dX8_step_92 rfl h0.1 rfl ?_
      refine tt_iconst (M := MX8_step) (pc := 95) dX8_step_95 ?_
      refine tt_ic_ne (M := MX8_step) (pc := 96) 121 dX8_step_96 rfl ?_ ?_
      · refine tt_ld (M := MX8_step) (pc := 121) dX8_step_121 rfl rfl rfl rfl rfl ?_
        refine tt_ld (M := MX8_step) (pc := 122) dX8_step_122 rfl rfl rfl rfl rfl ?_
        refine tt_putI (M := MX8_step) (pc := 123) dX8_step_123 rfl rfl (Or.inl rfl) h0.1 rfl ?_
        exact tt_ret (M := MX8_step) (pc := 126) dX8_step_126 rfl
      · refine tt_ld (M := MX8_step) (pc := 99) dX8_step_99 rfl rfl rfl rfl rfl ?_
        refine tt_getR (M := MX8_step) (pc := 100) dX8_step_100 rfl h0.1 rfl ?_
        refine tt_ld (M := MX8_step) (pc := 103) dX8_step_103 rfl rfl rfl rfl rfl ?_
        refine tt_baload (M := MX8_step) (pc := 104) dX8_step_104 h0.2 rfl ?_
        refine tt_scIN (M := MX8_step) (pc := 105) dX8_step_105 rfl [] rfl rfl ⟨rfl, by decide, Nat.le_of_ble_eq_true rfl⟩ fun v103 S104 => ?_
        refine tt_ld (M := MX8_step) (pc := 108) dX8_step_108 rfl rfl rfl rfl rfl ?_
        refine tt_getI (M := MX8_step) (pc := 109) dX8_step_109 rfl h0.1 rfl ?_
        refine tt_ic_ne (M := MX8_step) (pc := 112) 121 dX8_step_112 rfl ?_ ?_
        · refine tt_ld (M := MX8_step) (pc := 121) dX8_step_121 rfl rfl rfl rfl rfl ?_
          refine tt_ld (M := MX8_step) (pc := 122) dX8_step_122 rfl rfl rfl rfl rfl ?_
          refine tt_putI (M := MX8_step) (pc := 123) dX8_step_123 rfl rfl (Or.inl rfl) h0.1 rfl ?_
          exact tt_ret (M := MX8_step) (pc := 126) dX8_step_126 rfl
        · refine tt_iinc (M := MX8_step) (pc := 115) [some (.ref 11), some (.int (I (l1 + 1)))] dX8_step_115 rfl rfl ?_
          refine tt_goto (M := MX8_step) (pc := 118) 75 dX8_step_118 rfl ?_
          exact id
theorem qX8_fail_0 {sc : Nat × (Nat → Int32)} {SH : List mCell} {S : mStore} {r : mR × mW} (h0 : sText SH) {l1 : Int} : ((if I (S 11 6) = I 0 then r = rV SH (up (up S 11 6 l1) 11 7 ((up S 11 6 l1) 11 3)) else r = rV SH S)) → G sc MX8_fail 0 [some (.ref 11), some (.int (I l1))] [] SH S r := by
  refine tt_ld (M := MX8_fail) (pc := 0) dX8_fail_0 rfl rfl rfl rfl rfl ?_
  refine tt_getI (M := MX8_fail) (pc := 1) dX8_fail_1 rfl h0.1 rfl ?_
  refine tt_if_ne (M := MX8_fail) (pc := 4) 20 dX8_fail_4 rfl ?_ ?_
  · exact tt_ret (M := MX8_fail) (pc := 20) dX8_fail_20 rfl
  · refine tt_ld (M := MX8_fail) (pc := 7) dX8_fail_7 rfl rfl rfl rfl rfl ?_
    refine tt_ld (M := MX8_fail) (pc := 8) dX8_fail_8 rfl rfl rfl rfl rfl ?_
    refine tt_putI (M := MX8_fail) (pc := 9) dX8_fail_9 rfl rfl (Or.inl rfl) h0.1 rfl ?_
    refine tt_ld (M := MX8_fail) (pc := 12) dX8_fail_12 rfl rfl rfl rfl rfl ?_
    refine tt_ld (M := MX8_fail) (pc := 13) dX8_fail_13 rfl rfl rfl rfl rfl ?_
    refine tt_getI (M := MX8_fail) (pc := 14) dX8_fail_14 rfl h0.1 rfl ?_
    refine tt_putI (M := MX8_fail) (pc := 17) dX8_fail_17 rfl rfl (Or.inl rfl) h0.1 rfl ?_
    exact tt_ret (M := MX8_fail) (pc := 20) dX8_fail_20 rfl
theorem qX8_atClause_0 {sc : Nat × (Nat → Int32)} {SH : List mCell} {S : mStore} {r : mR × mW} (h0 : sText SH) : ((if I (S 11 6) = I 0 then (∃ S101, G sc MX8_step 0 [some (.ref 11), none] [] SH S (rV SH S101) ∧ (if I (S101 11 5) = I 0 then ((I 0 = I 0 ∨ I 0 = I 1) ∧ r = rI 0 SH S101) else ((I 1 = I 0 ∨ I 1 = I 1) ∧ r = rI 1 SH S101))) else ((I 0 = I 0 ∨ I 0 = I 1) ∧ r = rI 0 SH S))) → G sc MX8_atClause 0 [some (.ref 11)] [] SH S r := by
  refine tt_ld (M := MX8_atClause) (pc := 0) dX8_atClause_0 rfl rfl rfl rfl rfl ?_
  refine tt_getI (M := MX8_atClause) (pc := 1) dX8_atClause_1 rfl h0.1 rfl ?_
  refine tt_if_eq (M := MX8_atClause) (pc := 4) 9 dX8_atClause_4 rfl ?_ ?_
  · refine tt_ld (M := MX8_atClause) (pc := 9) dX8_atClause_9 rfl rfl rfl rfl rfl ?_
    refine tt_vcVN (M := MX8_atClause) (pc := 10) dX8_atClause_10 rfl rfl [] rfl rfl ⟨rfl, by decide, Nat.le_of_ble_eq_true rfl⟩ h0.1 fun S101 => ?_
    refine tt_ld (M := MX8_atClause) (pc := 13) dX8_atClause_13 rfl rfl rfl rfl rfl ?_
    refine tt_getI (M := MX8_atClause) (pc := 14) dX8_atClause_14 rfl h0.1 rfl ?_
    refine tt_if_eq (M := MX8_atClause) (pc := 17) 24 dX8_atClause_17 rfl ?_ ?_
    · refine tt_iconst (M := MX8_atClause) (pc := 24) dX8_atClause_24 ?_
      exact tt_zret (M := MX8_atClause) (pc := 25) dX8_atClause_25 rfl
    · refine tt_iconst (M := MX8_atClause) (pc := 20) dX8_atClause_20 ?_
      refine tt_goto (M := MX8_atClause) (pc := 21) 25 dX8_atClause_21 rfl ?_
      exact tt_zret (M := MX8_atClause) (pc := 25) dX8_atClause_25 rfl
  · refine tt_iconst (M := MX8_atClause) (pc := 7) dX8_atClause_7 ?_
    exact tt_zret (M := MX8_atClause) (pc := 8) dX8_atClause_8 rfl
theorem qX8_isWord_0 {sc : Nat × (Nat → Int32)} {SH : List mCell} {S : mStore} {r : mR × mW} (h0 : sText SH) {k1 : Nat} {u2 : Option Value} : ((if I (S 11 5) = I 1 then (∃ t101, mstrs k1 = some t101 ∧ (if I ((S 11 4) - (S 11 3)) = I (t101.length) then G sc MX8_isWord 28 [some (.ref 11), some (.retAddr k1), some (.int (I 0))] [] SH S r else ((I 0 = I 0 ∨ I 0 = I 1) ∧ r = rI 0 SH S))) else ((I 0 = I 0 ∨ I 0 = I 1) ∧ r = rI 0 SH S))) → G sc MX8_isWord 0 [some (.ref 11), some (.retAddr k1), u2] [] SH S r := by
  refine tt_ld (M := MX8_isWord) (pc := 0) dX8_isWord_0 rfl rfl rfl rfl rfl ?_
  refine tt_getI (M := MX8_isWord) (pc := 1) dX8_isWord_1 rfl h0.1 rfl ?_
  refine tt_iconst (M := MX8_isWord) (pc := 4) dX8_isWord_4 ?_
  refine tt_ic_ne (M := MX8_isWord) (pc := 5) 24 dX8_isWord_5 rfl ?_ ?_
  · refine tt_iconst (M := MX8_isWord) (pc := 24) dX8_isWord_24 ?_
    exact tt_zret (M := MX8_isWord) (pc := 25) dX8_isWord_25 rfl
  · refine tt_ld (M := MX8_isWord) (pc := 8) dX8_isWord_8 rfl rfl rfl rfl rfl ?_
    refine tt_getI (M := MX8_isWord) (pc := 9) dX8_isWord_9 rfl h0.1 rfl ?_
    refine tt_ld (M := MX8_isWord) (pc := 12) dX8_isWord_12 rfl rfl rfl rfl rfl ?_
    refine tt_getI (M := MX8_isWord) (pc := 13) dX8_isWord_13 rfl h0.1 rfl ?_
    refine tt_isub (M := MX8_isWord) (pc := 16) dX8_isWord_16 ?_
    refine tt_ld (M := MX8_isWord) (pc := 17) dX8_isWord_17 rfl rfl rfl rfl rfl ?_
    refine tt_slen (M := MX8_isWord) (pc := 18) dX8_isWord_18 rfl [.int (I ((S 11 4) - (S 11 3)))] rfl ⟨rfl, by decide, Nat.le_of_ble_eq_true rfl⟩ (by decide) fun t101 => ?_
    refine tt_ic_eq (M := MX8_isWord) (pc := 21) 26 dX8_isWord_21 rfl ?_ ?_
    · refine tt_iconst (M := MX8_isWord) (pc := 26) dX8_isWord_26 ?_
      refine tt_st (M := MX8_isWord) (pc := 27) [some (.ref 11), some (.retAddr k1), some (.int (I 0))] dX8_isWord_27 rfl rfl rfl rfl rfl rfl ?_
      exact id
    · refine tt_iconst (M := MX8_isWord) (pc := 24) dX8_isWord_24 ?_
      exact tt_zret (M := MX8_isWord) (pc := 25) dX8_isWord_25 rfl
theorem qX8_isWord_28 {sc : Nat × (Nat → Int32)} {SH : List mCell} {S : mStore} {r : mR × mW} (h0 : sText SH) {k1 : Nat} {l2 : Int} : ((∃ t101, mstrs k1 = some t101 ∧ (if I (t101.length) ≤ I l2 then ((I 1 = I 0 ∨ I 1 = I 1) ∧ r = rI 1 SH S) else (((0 : Int) ≤ (S 11 3) + l2 ∧ (S 11 3) + l2 < 700) ∧ (∃ t102, mstrs k1 = some t102 ∧ (0 ≤ l2 ∧ l2 < t102.length ∧ t102.length < 2147483648) ∧ (if I (S 12 ((S 11 3) + l2)) = I ((t102.getD (l2).toNat 0).toInt) then G sc MX8_isWord 28 [some (.ref 11), some (.retAddr k1), some (.int (I (l2 + 1)))] [] SH S r else ((I 0 = I 0 ∨ I 0 = I 1) ∧ r = rI 0 SH S))))))) → G sc MX8_isWord 28 [some (.ref 11), some (.retAddr k1), some (.int (I l2))] [] SH S r := by
  refine tt_ld (M := MX8_isWord) (pc := 28) dX8_isWord_28 rfl rfl rfl rfl rfl ?_
  refine tt_ld (M := MX8_isWord) (pc := 29) dX8_isWord_29 rfl rfl rfl rfl rfl ?_
  refine tt_slen (M := MX8_isWord) (pc := 30) dX8_isWord_30 rfl [.int (I l2)] rfl ⟨rfl, by decide, Nat.le_of_ble_eq_true rfl⟩ (by decide) fun t101 => ?_
  refine tt_ic_ge (M := MX8_isWord) (pc := 33) 63 dX8_isWord_33 rfl ?_ ?_
  · refine tt_iconst (M := MX8_isWord) (pc := 63) dX8_isWord_63 ?_
    exact tt_zret (M := MX8_isWord) (pc := 64) dX8_isWord_64 rfl
  · refine tt_ld (M := MX8_isWord) (pc := 36) dX8_isWord_36 rfl rfl rfl rfl rfl ?_
    refine tt_getR (M := MX8_isWord) (pc := 37) dX8_isWord_37 rfl h0.1 rfl ?_
    refine tt_ld (M := MX8_isWord) (pc := 40) dX8_isWord_40 rfl rfl rfl rfl rfl ?_
    refine tt_getI (M := MX8_isWord) (pc := 41) dX8_isWord_41 rfl h0.1 rfl ?_
    refine tt_ld (M := MX8_isWord) (pc := 44) dX8_isWord_44 rfl rfl rfl rfl rfl ?_
    refine tt_iadd (M := MX8_isWord) (pc := 45) dX8_isWord_45 ?_
    refine tt_baload (M := MX8_isWord) (pc := 46) dX8_isWord_46 h0.2 rfl ?_
    refine tt_ld (M := MX8_isWord) (pc := 47) dX8_isWord_47 rfl rfl rfl rfl rfl ?_
    refine tt_ld (M := MX8_isWord) (pc := 48) dX8_isWord_48 rfl rfl rfl rfl rfl ?_
    refine tt_scha (M := MX8_isWord) (pc := 49) dX8_isWord_49 rfl [.int (I (S 12 ((S 11 3) + l2)))] rfl ⟨rfl, by decide, Nat.le_of_ble_eq_true rfl⟩ (by decide) fun t102 => ?_
    refine tt_ic_eq (M := MX8_isWord) (pc := 52) 57 dX8_isWord_52 rfl ?_ ?_
    · refine tt_iinc (M := MX8_isWord) (pc := 57) [some (.ref 11), some (.retAddr k1), some (.int (I (l2 + 1)))] dX8_isWord_57 rfl rfl ?_
      refine tt_goto (M := MX8_isWord) (pc := 60) 28 dX8_isWord_60 rfl ?_
      exact id
    · refine tt_iconst (M := MX8_isWord) (pc := 55) dX8_isWord_55 ?_
      exact tt_zret (M := MX8_isWord) (pc := 56) dX8_isWord_56 rfl
theorem qX8_numberIn_0 {sc : Nat × (Nat → Int32)} {SH : List mCell} {S : mStore} {r : mR × mW} (h0 : sText SH) {l1 : Int} {l2 : Int} {u3 : Option Value} {u4 : Option Value} : ((if I (S 11 6) = I 0 then (∃ S101, G sc MX8_step 0 [some (.ref 11), none] [] SH S (rV SH S101) ∧ (if I (S101 11 5) = I 2 then (if I ((S101 11 4) - (S101 11 3)) ≤ I 3 then G sc MX8_numberIn 53 [some (.ref 11), some (.int (I l1)), some (.int (I l2)), some (.int (I 0)), some (.int (I (S101 11 3)))] [] SH S101 r else G sc MX8_numberIn 53 [some (.ref 11), some (.int (I l1)), some (.int (I l2)), some (.int (I (-1))), some (.int (I (S101 11 3)))] [] SH S101 r) else (∃ S102, G sc MX8_fail 0 [some (.ref 11), some (.int (I 1))] [] SH S101 (rV SH S102) ∧ r = rI 0 SH S102))) else r = rI 0 SH S)) → G sc MX8_numberIn 0 [some (.ref 11), some (.int (I l1)), some (.int (I l2)), u3, u4] [] SH S r := by
  refine tt_ld (M := MX8_numberIn) (pc := 0) dX8_numberIn_0 rfl rfl rfl rfl rfl ?_
  refine tt_getI (M := MX8_numberIn) (pc := 1) dX8_numberIn_1 rfl h0.1 rfl ?_
  refine tt_if_eq (M := MX8_numberIn) (pc := 4) 9 dX8_numberIn_4 rfl ?_ ?_
  · refine tt_ld (M := MX8_numberIn) (pc := 9) dX8_numberIn_9 rfl rfl rfl rfl rfl ?_
    refine tt_vcVN (M := MX8_numberIn) (pc := 10) dX8_numberIn_10 rfl rfl [] rfl rfl ⟨rfl, by decide, Nat.le_of_ble_eq_true rfl⟩ h0.1 fun S101 => ?_
    refine tt_ld (M := MX8_numberIn) (pc := 13) dX8_numberIn_13 rfl rfl rfl rfl rfl ?_
    refine tt_getI (M := MX8_numberIn) (pc := 14) dX8_numberIn_14 rfl h0.1 rfl ?_
    refine tt_iconst (M := MX8_numberIn) (pc := 17) dX8_numberIn_17 ?_
    refine tt_ic_eq (M := MX8_numberIn) (pc := 18) 28 dX8_numberIn_18 rfl ?_ ?_
    · refine tt_ld (M := MX8_numberIn) (pc := 28) dX8_numberIn_28 rfl rfl rfl rfl rfl ?_
      refine tt_getI (M := MX8_numberIn) (pc := 29) dX8_numberIn_29 rfl h0.1 rfl ?_
      refine tt_ld (M := MX8_numberIn) (pc := 32) dX8_numberIn_32 rfl rfl rfl rfl rfl ?_
      refine tt_getI (M := MX8_numberIn) (pc := 33) dX8_numberIn_33 rfl h0.1 rfl ?_
      refine tt_isub (M := MX8_numberIn) (pc := 36) dX8_numberIn_36 ?_
      refine tt_iconst (M := MX8_numberIn) (pc := 37) dX8_numberIn_37 ?_
      refine tt_ic_le (M := MX8_numberIn) (pc := 38) 45 dX8_numberIn_38 rfl ?_ ?_
      · refine tt_iconst (M := MX8_numberIn) (pc := 45) dX8_numberIn_45 ?_
        refine tt_st (M := MX8_numberIn) (pc := 46) [some (.ref 11), some (.int (I l1)), some (.int (I l2)), some (.int (I 0)), u4] dX8_numberIn_46 rfl rfl rfl rfl rfl rfl ?_
        refine tt_ld (M := MX8_numberIn) (pc := 47) dX8_numberIn_47 rfl rfl rfl rfl rfl ?_
        refine tt_getI (M := MX8_numberIn) (pc := 48) dX8_numberIn_48 rfl h0.1 rfl ?_
        refine tt_st (M := MX8_numberIn) (pc := 51) [some (.ref 11), some (.int (I l1)), some (.int (I l2)), some (.int (I 0)), some (.int (I (S101 11 3)))] dX8_numberIn_51 rfl rfl rfl rfl rfl rfl ?_
        exact id
      · refine tt_iconst (M := MX8_numberIn) (pc := 41) dX8_numberIn_41 ?_
        refine tt_goto (M := MX8_numberIn) (pc := 42) 46 dX8_numberIn_42 rfl ?_
        refine tt_st (M := MX8_numberIn) (pc := 46) [some (.ref 11), some (.int (I l1)), some (.int (I l2)), some (.int (I (-1))), u4] dX8_numberIn_46 rfl rfl rfl rfl rfl rfl ?_
        refine tt_ld (M := MX8_numberIn) (pc := 47) dX8_numberIn_47 rfl rfl rfl rfl rfl ?_
        refine tt_getI (M := MX8_numberIn) (pc := 48) dX8_numberIn_48 rfl h0.1 rfl ?_
        refine tt_st (M := MX8_numberIn) (pc := 51) [some (.ref 11), some (.int (I l1)), some (.int (I l2)), some (.int (I (-1))), some (.int (I (S101 11 3)))] dX8_numberIn_51 rfl rfl rfl rfl rfl rfl ?_
        exact id
    · refine tt_ld (M := MX8_numberIn) (pc := 21) dX8_numberIn_21 rfl rfl rfl rfl rfl ?_
      refine tt_iconst (M := MX8_numberIn) (pc := 22) dX8_numberIn_22 ?_
      refine tt_vcVN (M := MX8_numberIn) (pc := 23) dX8_numberIn_23 rfl rfl [] rfl rfl ⟨rfl, by decide, Nat.le_of_ble_eq_true rfl⟩ h0.1 fun S102 => ?_
      refine tt_iconst (M := MX8_numberIn) (pc := 26) dX8_numberIn_26 ?_
      exact tt_iret (M := MX8_numberIn) (pc := 27) dX8_numberIn_27 rfl
  · refine tt_iconst (M := MX8_numberIn) (pc := 7) dX8_numberIn_7 ?_
    exact tt_iret (M := MX8_numberIn) (pc := 8) dX8_numberIn_8 rfl
theorem qX8_numberIn_53 {sc : Nat × (Nat → Int32)} {SH : List mCell} {S : mStore} {r : mR × mW} (h0 : sText SH) {l1 : Int} {l2 : Int} {l3 : Int} {l4 : Int} : ((if I l3 = I (-1) then G sc MX8_numberIn 89 [some (.ref 11), some (.int (I l1)), some (.int (I l2)), some (.int (I l3)), some (.int (I l4))] [] SH S r else (if I (S 11 4) ≤ I l4 then G sc MX8_numberIn 89 [some (.ref 11), some (.int (I l1)), some (.int (I l2)), some (.int (I l3)), some (.int (I l4))] [] SH S r else (((0 : Int) ≤ l4 ∧ l4 < 700) ∧ G sc MX8_numberIn 53 [some (.ref 11), some (.int (I l1)), some (.int (I l2)), some (.int (I (((10 * l3) + (S 12 l4)) - 48))), some (.int (I (l4 + 1)))] [] SH S r)))) → G sc MX8_numberIn 53 [some (.ref 11), some (.int (I l1)), some (.int (I l2)), some (.int (I l3)), some (.int (I l4))] [] SH S r := by
  refine tt_ld (M := MX8_numberIn) (pc := 53) dX8_numberIn_53 rfl rfl rfl rfl rfl ?_
  refine tt_iconst (M := MX8_numberIn) (pc := 54) dX8_numberIn_54 ?_
  refine tt_ic_eq (M := MX8_numberIn) (pc := 55) 89 dX8_numberIn_55 rfl ?_ ?_
  · exact id
  · refine tt_ld (M := MX8_numberIn) (pc := 58) dX8_numberIn_58 rfl rfl rfl rfl rfl ?_
    refine tt_ld (M := MX8_numberIn) (pc := 60) dX8_numberIn_60 rfl rfl rfl rfl rfl ?_
    refine tt_getI (M := MX8_numberIn) (pc := 61) dX8_numberIn_61 rfl h0.1 rfl ?_
    refine tt_ic_ge (M := MX8_numberIn) (pc := 64) 89 dX8_numberIn_64 rfl ?_ ?_
    · exact id
    · refine tt_bipush (M := MX8_numberIn) (pc := 67) dX8_numberIn_67 (by decide) ?_
      refine tt_ld (M := MX8_numberIn) (pc := 69) dX8_numberIn_69 rfl rfl rfl rfl rfl ?_
      refine tt_imul (M := MX8_numberIn) (pc := 70) dX8_numberIn_70 ?_
      refine tt_ld (M := MX8_numberIn) (pc := 71) dX8_numberIn_71 rfl rfl rfl rfl rfl ?_
      refine tt_getR (M := MX8_numberIn) (pc := 72) dX8_numberIn_72 rfl h0.1 rfl ?_
      refine tt_ld (M := MX8_numberIn) (pc := 75) dX8_numberIn_75 rfl rfl rfl rfl rfl ?_
      refine tt_baload (M := MX8_numberIn) (pc := 77) dX8_numberIn_77 h0.2 rfl ?_
      refine tt_iadd (M := MX8_numberIn) (pc := 78) dX8_numberIn_78 ?_
      refine tt_bipush (M := MX8_numberIn) (pc := 79) dX8_numberIn_79 (by decide) ?_
      refine tt_isub (M := MX8_numberIn) (pc := 81) dX8_numberIn_81 ?_
      refine tt_st (M := MX8_numberIn) (pc := 82) [some (.ref 11), some (.int (I l1)), some (.int (I l2)), some (.int (I (((10 * l3) + (S 12 l4)) - 48))), some (.int (I l4))] dX8_numberIn_82 rfl rfl rfl rfl rfl rfl ?_
      refine tt_iinc (M := MX8_numberIn) (pc := 83) [some (.ref 11), some (.int (I l1)), some (.int (I l2)), some (.int (I (((10 * l3) + (S 12 l4)) - 48))), some (.int (I (l4 + 1)))] dX8_numberIn_83 rfl rfl ?_
      refine tt_goto (M := MX8_numberIn) (pc := 86) 53 dX8_numberIn_86 rfl ?_
      exact id
theorem qX8_numberIn_89 {sc : Nat × (Nat → Int32)} {SH : List mCell} {S : mStore} {r : mR × mW} (h0 : sText SH) {l1 : Int} {l2 : Int} {l3 : Int} {l4 : Int} : ((if I l3 < I l1 then (∃ S101, G sc MX8_fail 0 [some (.ref 11), some (.int (I 2))] [] SH S (rV SH S101) ∧ r = rI 0 SH S101) else (if I l3 ≤ I l2 then r = rI l3 SH S else (∃ S102, G sc MX8_fail 0 [some (.ref 11), some (.int (I 2))] [] SH S (rV SH S102) ∧ r = rI 0 SH S102)))) → G sc MX8_numberIn 89 [some (.ref 11), some (.int (I l1)), some (.int (I l2)), some (.int (I l3)), some (.int (I l4))] [] SH S r := by
  refine tt_ld (M := MX8_numberIn) (pc := 89) dX8_numberIn_89 rfl rfl rfl rfl rfl ?_
  refine tt_ld (M := MX8_numberIn) (pc := 90) dX8_numberIn_90 rfl rfl rfl rfl rfl ?_
  refine tt_ic_lt (M := MX8_numberIn) (pc := 91) 99 dX8_numberIn_91 rfl ?_ ?_
  · refine tt_ld (M := MX8_numberIn) (pc := 99) dX8_numberIn_99 rfl rfl rfl rfl rfl ?_
    refine tt_iconst (M := MX8_numberIn) (pc := 100) dX8_numberIn_100 ?_
    refine tt_vcVN (M := MX8_numberIn) (pc := 101) dX8_numberIn_101 rfl rfl [] rfl rfl ⟨rfl, by decide, Nat.le_of_ble_eq_true rfl⟩ h0.1 fun S101 => ?_
    refine tt_iconst (M := MX8_numberIn) (pc := 104) dX8_numberIn_104 ?_
    exact tt_iret (M := MX8_numberIn) (pc := 105) dX8_numberIn_105 rfl
  · refine tt_ld (M := MX8_numberIn) (pc := 94) dX8_numberIn_94 rfl rfl rfl rfl rfl ?_
    refine tt_ld (M := MX8_numberIn) (pc := 95) dX8_numberIn_95 rfl rfl rfl rfl rfl ?_
    refine tt_ic_le (M := MX8_numberIn) (pc := 96) 106 dX8_numberIn_96 rfl ?_ ?_
    · refine tt_ld (M := MX8_numberIn) (pc := 106) dX8_numberIn_106 rfl rfl rfl rfl rfl ?_
      exact tt_iret (M := MX8_numberIn) (pc := 107) dX8_numberIn_107 rfl
    · refine tt_ld (M := MX8_numberIn) (pc := 99) dX8_numberIn_99 rfl rfl rfl rfl rfl ?_
      refine tt_iconst (M := MX8_numberIn) (pc := 100) dX8_numberIn_100 ?_
      refine tt_vcVN (M := MX8_numberIn) (pc := 101) dX8_numberIn_101 rfl rfl [] rfl rfl ⟨rfl, by decide, Nat.le_of_ble_eq_true rfl⟩ h0.1 fun S102 => ?_
      refine tt_iconst (M := MX8_numberIn) (pc := 104) dX8_numberIn_104 ?_
      exact tt_iret (M := MX8_numberIn) (pc := 105) dX8_numberIn_105 rfl
theorem qX8_numberIsNext_0 {sc : Nat × (Nat → Int32)} {SH : List mCell} {S : mStore} {r : mR × mW} (h0 : sText SH) {u1 : Option Value} : ((if I (S 11 6) = I 0 then (∃ S101, G sc MX8_step 0 [some (.ref 11), none] [] SH S (rV SH S101) ∧ (if I ((up S101 11 4 (S 11 4)) 11 5) = I 2 then ((I 1 = I 0 ∨ I 1 = I 1) ∧ r = rI 1 SH (up S101 11 4 (S 11 4))) else ((I 0 = I 0 ∨ I 0 = I 1) ∧ r = rI 0 SH (up S101 11 4 (S 11 4))))) else ((I 0 = I 0 ∨ I 0 = I 1) ∧ r = rI 0 SH S))) → G sc MX8_numberIsNext 0 [some (.ref 11), u1] [] SH S r := by
  refine tt_ld (M := MX8_numberIsNext) (pc := 0) dX8_numberIsNext_0 rfl rfl rfl rfl rfl ?_
  refine tt_getI (M := MX8_numberIsNext) (pc := 1) dX8_numberIsNext_1 rfl h0.1 rfl ?_
  refine tt_if_eq (M := MX8_numberIsNext) (pc := 4) 9 dX8_numberIsNext_4 rfl ?_ ?_
  · refine tt_ld (M := MX8_numberIsNext) (pc := 9) dX8_numberIsNext_9 rfl rfl rfl rfl rfl ?_
    refine tt_getI (M := MX8_numberIsNext) (pc := 10) dX8_numberIsNext_10 rfl h0.1 rfl ?_
    refine tt_st (M := MX8_numberIsNext) (pc := 13) [some (.ref 11), some (.int (I (S 11 4)))] dX8_numberIsNext_13 rfl rfl rfl rfl rfl rfl ?_
    refine tt_ld (M := MX8_numberIsNext) (pc := 14) dX8_numberIsNext_14 rfl rfl rfl rfl rfl ?_
    refine tt_vcVN (M := MX8_numberIsNext) (pc := 15) dX8_numberIsNext_15 rfl rfl [] rfl rfl ⟨rfl, by decide, Nat.le_of_ble_eq_true rfl⟩ h0.1 fun S101 => ?_
    refine tt_ld (M := MX8_numberIsNext) (pc := 18) dX8_numberIsNext_18 rfl rfl rfl rfl rfl ?_
    refine tt_ld (M := MX8_numberIsNext) (pc := 19) dX8_numberIsNext_19 rfl rfl rfl rfl rfl ?_
    refine tt_putI (M := MX8_numberIsNext) (pc := 20) dX8_numberIsNext_20 rfl rfl (Or.inl rfl) h0.1 rfl ?_
    refine tt_ld (M := MX8_numberIsNext) (pc := 23) dX8_numberIsNext_23 rfl rfl rfl rfl rfl ?_
    refine tt_getI (M := MX8_numberIsNext) (pc := 24) dX8_numberIsNext_24 rfl h0.1 rfl ?_
    refine tt_iconst (M := MX8_numberIsNext) (pc := 27) dX8_numberIsNext_27 ?_
    refine tt_ic_ne (M := MX8_numberIsNext) (pc := 28) 35 dX8_numberIsNext_28 rfl ?_ ?_
    · refine tt_iconst (M := MX8_numberIsNext) (pc := 35) dX8_numberIsNext_35 ?_
      exact tt_zret (M := MX8_numberIsNext) (pc := 36) dX8_numberIsNext_36 rfl
    · refine tt_iconst (M := MX8_numberIsNext) (pc := 31) dX8_numberIsNext_31 ?_
      refine tt_goto (M := MX8_numberIsNext) (pc := 32) 36 dX8_numberIsNext_32 rfl ?_
      exact tt_zret (M := MX8_numberIsNext) (pc := 36) dX8_numberIsNext_36 rfl
  · refine tt_iconst (M := MX8_numberIsNext) (pc := 7) dX8_numberIsNext_7 ?_
    exact tt_zret (M := MX8_numberIsNext) (pc := 8) dX8_numberIsNext_8 rfl
theorem qX8_clauseEnds_0 {sc : Nat × (Nat → Int32)} {SH : List mCell} {S : mStore} {r : mR × mW} (h0 : sText SH) : ((if I (S 11 6) = I 0 then (∃ S101, G sc MX8_step 0 [some (.ref 11), none] [] SH S (rV SH S101) ∧ (if I (S101 11 5) = I 3 then r = rV SH S101 else (∃ S102, G sc MX8_fail 0 [some (.ref 11), some (.int (I 1))] [] SH S101 (rV SH S102) ∧ r = rV SH S102))) else r = rV SH S)) → G sc MX8_clauseEnds 0 [some (.ref 11)] [] SH S r := by
  refine tt_ld (M := MX8_clauseEnds) (pc := 0) dX8_clauseEnds_0 rfl rfl rfl rfl rfl ?_
  refine tt_getI (M := MX8_clauseEnds) (pc := 1) dX8_clauseEnds_1 rfl h0.1 rfl ?_
  refine tt_if_eq (M := MX8_clauseEnds) (pc := 4) 8 dX8_clauseEnds_4 rfl ?_ ?_
  · refine tt_ld (M := MX8_clauseEnds) (pc := 8) dX8_clauseEnds_8 rfl rfl rfl rfl rfl ?_
    refine tt_vcVN (M := MX8_clauseEnds) (pc := 9) dX8_clauseEnds_9 rfl rfl [] rfl rfl ⟨rfl, by decide, Nat.le_of_ble_eq_true rfl⟩ h0.1 fun S101 => ?_
    refine tt_ld (M := MX8_clauseEnds) (pc := 12) dX8_clauseEnds_12 rfl rfl rfl rfl rfl ?_
    refine tt_getI (M := MX8_clauseEnds) (pc := 13) dX8_clauseEnds_13 rfl h0.1 rfl ?_
    refine tt_iconst (M := MX8_clauseEnds) (pc := 16) dX8_clauseEnds_16 ?_
    refine tt_ic_eq (M := MX8_clauseEnds) (pc := 17) 25 dX8_clauseEnds_17 rfl ?_ ?_
    · exact tt_ret (M := MX8_clauseEnds) (pc := 25) dX8_clauseEnds_25 rfl
    · refine tt_ld (M := MX8_clauseEnds) (pc := 20) dX8_clauseEnds_20 rfl rfl rfl rfl rfl ?_
      refine tt_iconst (M := MX8_clauseEnds) (pc := 21) dX8_clauseEnds_21 ?_
      refine tt_vcVN (M := MX8_clauseEnds) (pc := 22) dX8_clauseEnds_22 rfl rfl [] rfl rfl ⟨rfl, by decide, Nat.le_of_ble_eq_true rfl⟩ h0.1 fun S102 => ?_
      exact tt_ret (M := MX8_clauseEnds) (pc := 25) dX8_clauseEnds_25 rfl
  · exact tt_ret (M := MX8_clauseEnds) (pc := 7) dX8_clauseEnds_7 rfl
theorem qX8_pageIn_0 {sc : Nat × (Nat → Int32)} {SH : List mCell} {S : mStore} {r : mR × mW} {a1 : Nat} (h0 : sText SH) (h1 : sPlan SH a1) {u2 : Option Value} {u3 : Option Value} {u4 : Option Value} : ((∃ v101 S102, G sc MX8_numberIn 0 [some (.ref 11), some (.int (I 0)), some (.int (I 3)), none, none] [] SH S (rI v101 SH S102) ∧ (if I v101 < I (S102 a1 6) then (∃ v103 S104, G sc MX8_numberIn 0 [some (.ref 11), some (.int (I 0)), some (.int (I 11)), none, none] [] SH S102 (rI v103 SH S104) ∧ (∃ v105 S106, G sc MX5_placeAt 0 [some (.ref a1), some (.int (I v101)), some (.int (I v103))] [] SH S104 (rI v105 SH S106) ∧ (if I v105 = I (-1) then (∃ S107, G sc MX8_fail 0 [some (.ref 11), some (.int (I 3))] [] SH S106 (rV SH S107) ∧ (if I (S107 11 6) = I 0 then r = rI v105 SH S107 else r = rI (-1) SH S107)) else (if I (S106 11 6) = I 0 then r = rI v105 SH S106 else r = rI (-1) SH S106)))) else (∃ S108, G sc MX8_fail 0 [some (.ref 11), some (.int (I 3))] [] SH S102 (rV SH S108) ∧ (∃ v109 S110, G sc MX8_numberIn 0 [some (.ref 11), some (.int (I 0)), some (.int (I 11)), none, none] [] SH S108 (rI v109 SH S110) ∧ (∃ v111 S112, G sc MX5_placeAt 0 [some (.ref a1), some (.int (I v101)), some (.int (I v109))] [] SH S110 (rI v111 SH S112) ∧ (if I v111 = I (-1) then (∃ S113, G sc MX8_fail 0 [some (.ref 11), some (.int (I 3))] [] SH S112 (rV SH S113) ∧ (if I (S113 11 6) = I 0 then r = rI v111 SH S113 else r = rI (-1) SH S113)) else (if I (S112 11 6) = I 0 then r = rI v111 SH S112 else r = rI (-1) SH S112)))))))) → G sc MX8_pageIn 0 [some (.ref 11), some (.ref a1), u2, u3, u4] [] SH S r := by
  refine tt_ld (M := MX8_pageIn) (pc := 0) dX8_pageIn_0 rfl rfl rfl rfl rfl ?_
  refine tt_iconst (M := MX8_pageIn) (pc := 1) dX8_pageIn_1 ?_
  refine tt_iconst (M := MX8_pageIn) (pc := 2) dX8_pageIn_2 ?_
  refine tt_vcIN (M := MX8_pageIn) (pc := 3) dX8_pageIn_3 rfl rfl [] rfl rfl ⟨rfl, by decide, Nat.le_of_ble_eq_true rfl⟩ h0.1 fun v101 S102 => ?_
  refine tt_st (M := MX8_pageIn) (pc := 6) [some (.ref 11), some (.ref a1), some (.int (I v101)), u3, u4] dX8_pageIn_6 rfl rfl rfl rfl rfl rfl ?_
  refine tt_ld (M := MX8_pageIn) (pc := 7) dX8_pageIn_7 rfl rfl rfl rfl rfl ?_
  refine tt_ld (M := MX8_pageIn) (pc := 8) dX8_pageIn_8 rfl rfl rfl rfl rfl ?_
  refine tt_getI (M := MX8_pageIn) (pc := 9) dX8_pageIn_9 rfl h1.1 rfl ?_
  refine tt_ic_lt (M := MX8_pageIn) (pc := 12) 20 dX8_pageIn_12 rfl ?_ ?_
  · refine tt_ld (M := MX8_pageIn) (pc := 20) dX8_pageIn_20 rfl rfl rfl rfl rfl ?_
    refine tt_iconst (M := MX8_pageIn) (pc := 21) dX8_pageIn_21 ?_
    refine tt_bipush (M := MX8_pageIn) (pc := 22) dX8_pageIn_22 (by decide) ?_
    refine tt_vcIN (M := MX8_pageIn) (pc := 24) dX8_pageIn_24 rfl rfl [] rfl rfl ⟨rfl, by decide, Nat.le_of_ble_eq_true rfl⟩ h0.1 fun v103 S104 => ?_
    refine tt_st (M := MX8_pageIn) (pc := 27) [some (.ref 11), some (.ref a1), some (.int (I v101)), some (.int (I v103)), u4] dX8_pageIn_27 rfl rfl rfl rfl rfl rfl ?_
    refine tt_ld (M := MX8_pageIn) (pc := 28) dX8_pageIn_28 rfl rfl rfl rfl rfl ?_
    refine tt_ld (M := MX8_pageIn) (pc := 29) dX8_pageIn_29 rfl rfl rfl rfl rfl ?_
    refine tt_ld (M := MX8_pageIn) (pc := 30) dX8_pageIn_30 rfl rfl rfl rfl rfl ?_
    refine tt_vcIN (M := MX8_pageIn) (pc := 31) dX8_pageIn_31 rfl rfl [] rfl rfl ⟨rfl, by decide, Nat.le_of_ble_eq_true rfl⟩ h1.1 fun v105 S106 => ?_
    refine tt_st (M := MX8_pageIn) (pc := 34) [some (.ref 11), some (.ref a1), some (.int (I v101)), some (.int (I v103)), some (.int (I v105))] dX8_pageIn_34 rfl rfl rfl rfl rfl rfl ?_
    refine tt_ld (M := MX8_pageIn) (pc := 36) dX8_pageIn_36 rfl rfl rfl rfl rfl ?_
    refine tt_iconst (M := MX8_pageIn) (pc := 38) dX8_pageIn_38 ?_
    refine tt_ic_ne (M := MX8_pageIn) (pc := 39) 47 dX8_pageIn_39 rfl ?_ ?_
    · refine tt_ld (M := MX8_pageIn) (pc := 47) dX8_pageIn_47 rfl rfl rfl rfl rfl ?_
      refine tt_getI (M := MX8_pageIn) (pc := 48) dX8_pageIn_48 rfl h0.1 rfl ?_
      refine tt_if_ne (M := MX8_pageIn) (pc := 51) 59 dX8_pageIn_51 rfl ?_ ?_
      · refine tt_iconst (M := MX8_pageIn) (pc := 59) dX8_pageIn_59 ?_
        exact tt_iret (M := MX8_pageIn) (pc := 60) dX8_pageIn_60 rfl
      · refine tt_ld (M := MX8_pageIn) (pc := 54) dX8_pageIn_54 rfl rfl rfl rfl rfl ?_
        refine tt_goto (M := MX8_pageIn) (pc := 56) 60 dX8_pageIn_56 rfl ?_
        exact tt_iret (M := MX8_pageIn) (pc := 60) dX8_pageIn_60 rfl
    · refine tt_ld (M := MX8_pageIn) (pc := 42) dX8_pageIn_42 rfl rfl rfl rfl rfl ?_
      refine tt_iconst (M := MX8_pageIn) (pc := 43) dX8_pageIn_43 ?_
      refine tt_vcVN (M := MX8_pageIn) (pc := 44) dX8_pageIn_44 rfl rfl [] rfl rfl ⟨rfl, by decide, Nat.le_of_ble_eq_true rfl⟩ h0.1 fun S107 => ?_
      refine tt_ld (M := MX8_pageIn) (pc := 47) dX8_pageIn_47 rfl rfl rfl rfl rfl ?_
      refine tt_getI (M := MX8_pageIn) (pc := 48) dX8_pageIn_48 rfl h0.1 rfl ?_
      refine tt_if_ne (M := MX8_pageIn) (pc := 51) 59 dX8_pageIn_51 rfl ?_ ?_
      · refine tt_iconst (M := MX8_pageIn) (pc := 59) dX8_pageIn_59 ?_
        exact tt_iret (M := MX8_pageIn) (pc := 60) dX8_pageIn_60 rfl
      · refine tt_ld (M := MX8_pageIn) (pc := 54) dX8_pageIn_54 rfl rfl rfl rfl rfl ?_
        refine tt_goto (M := MX8_pageIn) (pc := 56) 60 dX8_pageIn_56 rfl ?_
        exact tt_iret (M := MX8_pageIn) (pc := 60) dX8_pageIn_60 rfl
  · refine tt_ld (M := MX8_pageIn) (pc := 15) dX8_pageIn_15 rfl rfl rfl rfl rfl ?_
    refine tt_iconst (M := MX8_pageIn) (pc := 16) dX8_pageIn_16 ?_
    refine tt_vcVN (M := MX8_pageIn) (pc := 17) dX8_pageIn_17 rfl rfl [] rfl rfl ⟨rfl, by decide, Nat.le_of_ble_eq_true rfl⟩ h0.1 fun S108 => ?_
    refine tt_ld (M := MX8_pageIn) (pc := 20) dX8_pageIn_20 rfl rfl rfl rfl rfl ?_
    refine tt_iconst (M := MX8_pageIn) (pc := 21) dX8_pageIn_21 ?_
    refine tt_bipush (M := MX8_pageIn) (pc := 22) dX8_pageIn_22 (by decide) ?_
    refine tt_vcIN (M := MX8_pageIn) (pc := 24) dX8_pageIn_24 rfl rfl [] rfl rfl ⟨rfl, by decide, Nat.le_of_ble_eq_true rfl⟩ h0.1 fun v109 S110 => ?_
    refine tt_st (M := MX8_pageIn) (pc := 27) [some (.ref 11), some (.ref a1), some (.int (I v101)), some (.int (I v109)), u4] dX8_pageIn_27 rfl rfl rfl rfl rfl rfl ?_
    refine tt_ld (M := MX8_pageIn) (pc := 28) dX8_pageIn_28 rfl rfl rfl rfl rfl ?_
    refine tt_ld (M := MX8_pageIn) (pc := 29) dX8_pageIn_29 rfl rfl rfl rfl rfl ?_
    refine tt_ld (M := MX8_pageIn) (pc := 30) dX8_pageIn_30 rfl rfl rfl rfl rfl ?_
    refine tt_vcIN (M := MX8_pageIn) (pc := 31) dX8_pageIn_31 rfl rfl [] rfl rfl ⟨rfl, by decide, Nat.le_of_ble_eq_true rfl⟩ h1.1 fun v111 S112 => ?_
    refine tt_st (M := MX8_pageIn) (pc := 34) [some (.ref 11), some (.ref a1), some (.int (I v101)), some (.int (I v109)), some (.int (I v111))] dX8_pageIn_34 rfl rfl rfl rfl rfl rfl ?_
    refine tt_ld (M := MX8_pageIn) (pc := 36) dX8_pageIn_36 rfl rfl rfl rfl rfl ?_
    refine tt_iconst (M := MX8_pageIn) (pc := 38) dX8_pageIn_38 ?_
    refine tt_ic_ne (M := MX8_pageIn) (pc := 39) 47 dX8_pageIn_39 rfl ?_ ?_
    · refine tt_ld (M := MX8_pageIn) (pc := 47) dX8_pageIn_47 rfl rfl rfl rfl rfl ?_
      refine tt_getI (M := MX8_pageIn) (pc := 48) dX8_pageIn_48 rfl h0.1 rfl ?_
      refine tt_if_ne (M := MX8_pageIn) (pc := 51) 59 dX8_pageIn_51 rfl ?_ ?_
      · refine tt_iconst (M := MX8_pageIn) (pc := 59) dX8_pageIn_59 ?_
        exact tt_iret (M := MX8_pageIn) (pc := 60) dX8_pageIn_60 rfl
      · refine tt_ld (M := MX8_pageIn) (pc := 54) dX8_pageIn_54 rfl rfl rfl rfl rfl ?_
        refine tt_goto (M := MX8_pageIn) (pc := 56) 60 dX8_pageIn_56 rfl ?_
        exact tt_iret (M := MX8_pageIn) (pc := 60) dX8_pageIn_60 rfl
    · refine tt_ld (M := MX8_pageIn) (pc := 42) dX8_pageIn_42 rfl rfl rfl rfl rfl ?_
      refine tt_iconst (M := MX8_pageIn) (pc := 43) dX8_pageIn_43 ?_
      refine tt_vcVN (M := MX8_pageIn) (pc := 44) dX8_pageIn_44 rfl rfl [] rfl rfl ⟨rfl, by decide, Nat.le_of_ble_eq_true rfl⟩ h0.1 fun S113 => ?_
      refine tt_ld (M := MX8_pageIn) (pc := 47) dX8_pageIn_47 rfl rfl rfl rfl rfl ?_
      refine tt_getI (M := MX8_pageIn) (pc := 48) dX8_pageIn_48 rfl h0.1 rfl ?_
      refine tt_if_ne (M := MX8_pageIn) (pc := 51) 59 dX8_pageIn_51 rfl ?_ ?_
      · refine tt_iconst (M := MX8_pageIn) (pc := 59) dX8_pageIn_59 ?_
        exact tt_iret (M := MX8_pageIn) (pc := 60) dX8_pageIn_60 rfl
      · refine tt_ld (M := MX8_pageIn) (pc := 54) dX8_pageIn_54 rfl rfl rfl rfl rfl ?_
        refine tt_goto (M := MX8_pageIn) (pc := 56) 60 dX8_pageIn_56 rfl ?_
        exact tt_iret (M := MX8_pageIn) (pc := 60) dX8_pageIn_60 rfl
