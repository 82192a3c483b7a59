-- needs: 43.tshape
/-! ===== the program as conditions (gen_vc.py) ===== -/
theorem qX2_drawOf_0 {sc : Nat × (Nat → Int32)} {SH : List mCell} {S : mStore} {r : mR × mW} (h0 : sDraws SH) {l1 : Int} : ((if I l1 ≤ I 0 then r = rI 0 SH (up S 87 0 (((S 87 0) * 1103515245) + 12345)) else (I l1 ≠ I 0 ∧ r = rI ((ian (isu ((up S 87 0 (((S 87 0) * 1103515245) + 12345)) 87 0) 16) 32767) - idv (ian (isu ((up S 87 0 (((S 87 0) * 1103515245) + 12345)) 87 0) 16) 32767) l1 * l1) SH (up S 87 0 (((S 87 0) * 1103515245) + 12345))))) → G sc MX2_drawOf 0 [some (.ref 87), some (.int (I l1))] [] SH S r := by
  refine t_ld (pc := 0) dX2_drawOf_0 rfl rfl rfl rfl rfl ?_
  refine t_ld (pc := 1) dX2_drawOf_1 rfl rfl rfl rfl rfl ?_
  refine t_getI (pc := 2) dX2_drawOf_2 rfl h0 rfl ?_
  refine t_push (pc := 5) 1103515245 dX2_drawOf_5 rfl (by decide +kernel) ?_
  refine t_imul (pc := 7) dX2_drawOf_7 ?_
  refine t_sipush (pc := 8) dX2_drawOf_8 (by decide) ?_
  refine t_iadd (pc := 11) dX2_drawOf_11 ?_
  refine t_putI (pc := 12) dX2_drawOf_12 rfl rfl (Or.inl rfl) h0 rfl ?_
  refine t_ld (pc := 15) dX2_drawOf_15 rfl rfl rfl rfl rfl ?_
  refine t_if_le (pc := 16) 35 dX2_drawOf_16 rfl ?_ ?_
  · refine t_iconst (pc := 35) dX2_drawOf_35 ?_
    exact t_iret (pc := 36) dX2_drawOf_36 rfl
  · refine t_ld (pc := 19) dX2_drawOf_19 rfl rfl rfl rfl rfl ?_
    refine t_getI (pc := 20) dX2_drawOf_20 rfl h0 rfl ?_
    refine t_bipush (pc := 23) dX2_drawOf_23 (by decide) ?_
    refine t_iushr (pc := 25) dX2_drawOf_25 ?_
    refine t_sipush (pc := 26) dX2_drawOf_26 (by decide) ?_
    refine t_iand (pc := 29) dX2_drawOf_29 ?_
    refine t_ld (pc := 30) dX2_drawOf_30 rfl rfl rfl rfl rfl ?_
    refine t_iremc (pc := 31) dX2_drawOf_31 ?_
    refine t_goto (pc := 32) 36 dX2_drawOf_32 rfl ?_
    exact t_iret (pc := 36) dX2_drawOf_36 rfl
