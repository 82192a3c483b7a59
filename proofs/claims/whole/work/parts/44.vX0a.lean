-- needs: 43.tshape
/-! ===== the program as conditions (gen_vc.py) ===== -/
theorem qX0_clear_0 {sc : Nat × (Nat → Int32)} {SH : List mCell} {S : mStore} {r : mR × mW} {q0 s0 : Nat} (h0 : sAct SH q0 s0) : (r = rV SH (up (up S q0 2 0) q0 3 0)) → G sc MX0_clear 0 [some (.ref q0)] [] SH S r := by
  refine tt_ld (M := MX0_clear) (pc := 0) dX0_clear_0 rfl rfl rfl rfl rfl ?_
  refine tt_iconst (M := MX0_clear) (pc := 1) dX0_clear_1 ?_
  refine tt_putI (M := MX0_clear) (pc := 2) dX0_clear_2 rfl rfl (Or.inl rfl) h0 rfl ?_
  refine tt_ld (M := MX0_clear) (pc := 5) dX0_clear_5 rfl rfl rfl rfl rfl ?_
  refine tt_iconst (M := MX0_clear) (pc := 6) dX0_clear_6 ?_
  refine tt_putI (M := MX0_clear) (pc := 7) dX0_clear_7 rfl rfl (Or.inl rfl) h0 rfl ?_
  exact tt_ret (M := MX0_clear) (pc := 10) dX0_clear_10 rfl
theorem qX0_stand_0 {sc : Nat × (Nat → Int32)} {SH : List mCell} {S : mStore} {r : mR × mW} {q0 s0 : Nat} (h0 : sAct SH q0 s0) : ((if I 40 ≤ I (S q0 3) then r = rV SH (up S q0 2 (((S q0 2) + 1) - idv ((S q0 2) + 1) 41 * 41)) else r = rV SH (up S q0 3 ((S q0 3) + 1)))) → G sc MX0_stand 0 [some (.ref q0)] [] SH S r := by
  refine tt_ld (M := MX0_stand) (pc := 0) dX0_stand_0 rfl rfl rfl rfl rfl ?_
  refine tt_getI (M := MX0_stand) (pc := 1) dX0_stand_1 rfl h0 rfl ?_
  refine tt_bipush (M := MX0_stand) (pc := 4) dX0_stand_4 (by decide) ?_
  refine tt_ic_ge (M := MX0_stand) (pc := 6) 22 dX0_stand_6 rfl ?_ ?_
  · refine tt_ld (M := MX0_stand) (pc := 22) dX0_stand_22 rfl rfl rfl rfl rfl ?_
    refine tt_ld (M := MX0_stand) (pc := 23) dX0_stand_23 rfl rfl rfl rfl rfl ?_
    refine tt_getI (M := MX0_stand) (pc := 24) dX0_stand_24 rfl h0 rfl ?_
    refine tt_iconst (M := MX0_stand) (pc := 27) dX0_stand_27 ?_
    refine tt_iadd (M := MX0_stand) (pc := 28) dX0_stand_28 ?_
    refine tt_bipush (M := MX0_stand) (pc := 29) dX0_stand_29 (by decide) ?_
    refine tt_irem (M := MX0_stand) (pc := 31) dX0_stand_31 (by decide) ?_
    refine tt_putI (M := MX0_stand) (pc := 32) dX0_stand_32 rfl rfl (Or.inl rfl) h0 rfl ?_
    exact tt_ret (M := MX0_stand) (pc := 35) dX0_stand_35 rfl
  · refine tt_ld (M := MX0_stand) (pc := 9) dX0_stand_9 rfl rfl rfl rfl rfl ?_
    refine tt_dup (M := MX0_stand) (pc := 10) dX0_stand_10 rfl ?_
    refine tt_getI (M := MX0_stand) (pc := 11) dX0_stand_11 rfl h0 rfl ?_
    refine tt_iconst (M := MX0_stand) (pc := 14) dX0_stand_14 ?_
    refine tt_iadd (M := MX0_stand) (pc := 15) dX0_stand_15 ?_
    refine tt_putI (M := MX0_stand) (pc := 16) dX0_stand_16 rfl rfl (Or.inl rfl) h0 rfl ?_
    refine tt_goto (M := MX0_stand) (pc := 19) 35 dX0_stand_19 rfl ?_
    exact tt_ret (M := MX0_stand) (pc := 35) dX0_stand_35 rfl
