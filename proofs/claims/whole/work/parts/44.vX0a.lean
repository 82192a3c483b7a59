-- needs: 43.tshape
/-! ===== the program as conditions (gen_vc.py) ===== -/
theorem qX0_clear_0 {sc : Nat × (Nat → Int32)} {SH : List mCell} {S : mStore} {r : mR × mW} {q0 s0 : Nat} (h0 : sAct SH q0 s0) : (r = rV SH (up (up S q0 2 0) q0 3 0)) → G sc MX0_clear 0 [some (.ref q0)] [] SH S r := by
  refine t_ld (pc := 0) dX0_clear_0 rfl rfl rfl rfl rfl ?_
  refine t_iconst (pc := 1) dX0_clear_1 ?_
  refine t_putI (pc := 2) dX0_clear_2 rfl rfl (Or.inl rfl) h0 rfl ?_
  refine t_ld (pc := 5) dX0_clear_5 rfl rfl rfl rfl rfl ?_
  refine t_iconst (pc := 6) dX0_clear_6 ?_
  refine t_putI (pc := 7) dX0_clear_7 rfl rfl (Or.inl rfl) h0 rfl ?_
  exact t_ret (pc := 10) dX0_clear_10 rfl
theorem qX0_stand_0 {sc : Nat × (Nat → Int32)} {SH : List mCell} {S : mStore} {r : mR × mW} {q0 s0 : Nat} (h0 : sAct SH q0 s0) : ((if I 40 ≤ I (S q0 3) then r = rV SH (up S q0 2 (((S q0 2) + 1) - idv ((S q0 2) + 1) 41 * 41)) else r = rV SH (up S q0 3 ((S q0 3) + 1)))) → G sc MX0_stand 0 [some (.ref q0)] [] SH S r := by
  refine t_ld (pc := 0) dX0_stand_0 rfl rfl rfl rfl rfl ?_
  refine t_getI (pc := 1) dX0_stand_1 rfl h0 rfl ?_
  refine t_bipush (pc := 4) dX0_stand_4 (by decide) ?_
  refine t_ic_ge (pc := 6) 22 dX0_stand_6 rfl ?_ ?_
  · refine t_ld (pc := 22) dX0_stand_22 rfl rfl rfl rfl rfl ?_
    refine t_ld (pc := 23) dX0_stand_23 rfl rfl rfl rfl rfl ?_
    refine t_getI (pc := 24) dX0_stand_24 rfl h0 rfl ?_
    refine t_iconst (pc := 27) dX0_stand_27 ?_
    refine t_iadd (pc := 28) dX0_stand_28 ?_
    refine t_bipush (pc := 29) dX0_stand_29 (by decide) ?_
    refine t_irem (pc := 31) dX0_stand_31 (by decide) ?_
    refine t_putI (pc := 32) dX0_stand_32 rfl rfl (Or.inl rfl) h0 rfl ?_
    exact t_ret (pc := 35) dX0_stand_35 rfl
  · refine t_ld (pc := 9) dX0_stand_9 rfl rfl rfl rfl rfl ?_
    refine t_dup (pc := 10) dX0_stand_10 rfl ?_
    refine t_getI (pc := 11) dX0_stand_11 rfl h0 rfl ?_
    refine t_iconst (pc := 14) dX0_stand_14 ?_
    refine t_iadd (pc := 15) dX0_stand_15 ?_
    refine t_putI (pc := 16) dX0_stand_16 rfl rfl (Or.inl rfl) h0 rfl ?_
    refine t_goto (pc := 19) 35 dX0_stand_19 rfl ?_
    exact t_ret (pc := 35) dX0_stand_35 rfl
