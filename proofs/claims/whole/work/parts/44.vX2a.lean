-- needs: 43.tshape
/-! ===== the program as conditions (gen_vc.py) ===== -/
theorem qX2_drawOf_0 {sc : Nat × (Nat → Int32)} {SH : List mCell} {S : mStore} {r : mR × mW} (h0 : sDraws SH) {l1 : Int} : ((if I l1 ≤ I 0 then r = rI 0 SH (up S 87 0 (((S 87 0) * 1103515245) + 12345)) else (I l1 ≠ I 0 ∧ r = rI ((ian (isu ((up S 87 0 (((S 87 0) * 1103515245) + 12345)) 87 0) 16) 32767) - idv (ian (isu ((up S 87 0 (((S 87 0) * 1103515245) + 12345)) 87 0) 16) 32767) l1 * l1) SH (up S 87 0 (((S 87 0) * 1103515245) + 12345))))) → G sc MX2_drawOf 0 [some (.ref 87), some (.int (I l1))] [] SH S r := by
  refine tt_ld (M := MX2_drawOf) (pc := 0) dX2_drawOf_0 rfl rfl rfl rfl rfl ?_
  refine tt_ld (M := MX2_drawOf) (pc := 1) dX2_drawOf_1 rfl rfl rfl rfl rfl ?_
  refine tt_getI (M := MX2_drawOf) (pc := 2) dX2_drawOf_2 rfl h0 rfl ?_
  refine tt_push (M := MX2_drawOf) (pc := 5) 1103515245 dX2_drawOf_5 rfl (by decide +kernel) ?_
  refine tt_imul (M := MX2_drawOf) (pc := 7) dX2_drawOf_7 ?_
  refine tt_sipush (M := MX2_drawOf) (pc := 8) dX2_drawOf_8 (by decide) ?_
  refine tt_iadd (M := MX2_drawOf) (pc := 11) dX2_drawOf_11 ?_
  refine tt_putI (M := MX2_drawOf) (pc := 12) dX2_drawOf_12 rfl rfl (Or.inl rfl) h0 rfl ?_
  refine tt_ld (M := MX2_drawOf) (pc := 15) dX2_drawOf_15 rfl rfl rfl rfl rfl ?_
  refine tt_if_le (M := MX2_drawOf) (pc := 16) 35 dX2_drawOf_16 rfl ?_ ?_
  · refine tt_iconst (M := MX2_drawOf) (pc := 35) dX2_drawOf_35 ?_
    exact tt_iret (M := MX2_drawOf) (pc := 36) dX2_drawOf_36 rfl
  · refine tt_ld (M := MX2_drawOf) (pc := 19) dX2_drawOf_19 rfl rfl rfl rfl rfl ?_
    refine tt_getI (M := MX2_drawOf) (pc := 20) dX2_drawOf_20 rfl h0 rfl ?_
    refine tt_bipush (M := MX2_drawOf) (pc := 23) dX2_drawOf_23 (by decide) ?_
    refine tt_iushr (M := MX2_drawOf) (pc := 25) dX2_drawOf_25 ?_
    refine tt_sipush (M := MX2_drawOf) (pc := 26) dX2_drawOf_26 (by decide) ?_
    refine tt_iand (M := MX2_drawOf) (pc := 29) dX2_drawOf_29 ?_
    refine tt_ld (M := MX2_drawOf) (pc := 30) dX2_drawOf_30 rfl rfl rfl rfl rfl ?_
    refine tt_iremc (M := MX2_drawOf) (pc := 31) dX2_drawOf_31 ?_
    refine tt_goto (M := MX2_drawOf) (pc := 32) 36 dX2_drawOf_32 rfl ?_
    exact tt_iret (M := MX2_drawOf) (pc := 36) dX2_drawOf_36 rfl
