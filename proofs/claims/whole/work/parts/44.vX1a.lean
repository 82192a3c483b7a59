-- needs: 43.tshape
/-! ===== the program as conditions (gen_vc.py) ===== -/
theorem qX1_lastNoted_0 {sc : Nat × (Nat → Int32)} {SH : List mCell} {S : mStore} {r : mR × mW} {o0 t0 u0 v0 w0 q0 s0 : Nat} (h0 : sBook SH o0 t0 u0 v0 w0 q0 s0) {u1 : Option Value} {u2 : Option Value} : (G sc MX1_lastNoted 4 [some (.ref o0), some (.int (I 0)), some (.int (I 0))] [] SH S r) → G sc MX1_lastNoted 0 [some (.ref o0), u1, u2] [] SH S r := by
  refine tt_iconst (M := MX1_lastNoted) (pc := 0) dX1_lastNoted_0 ?_
  refine tt_st (M := MX1_lastNoted) (pc := 1) [some (.ref o0), some (.int (I 0)), u2] dX1_lastNoted_1 rfl rfl rfl rfl rfl rfl ?_
  refine tt_iconst (M := MX1_lastNoted) (pc := 2) dX1_lastNoted_2 ?_
  refine tt_st (M := MX1_lastNoted) (pc := 3) [some (.ref o0), some (.int (I 0)), some (.int (I 0))] dX1_lastNoted_3 rfl rfl rfl rfl rfl rfl ?_
  exact id
theorem qX1_lastNoted_4 {sc : Nat × (Nat → Int32)} {SH : List mCell} {S : mStore} {r : mR × mW} {o0 t0 u0 v0 w0 q0 s0 : Nat} (h0 : sBook SH o0 t0 u0 v0 w0 q0 s0) {l1 : Int} {l2 : Int} : ((if I (S o0 5) ≤ I l2 then r = rI l1 SH S else (((0 : Int) ≤ l2 ∧ l2 < 8) ∧ (if I (S t0 l2) ≤ I l1 then G sc MX1_lastNoted 4 [some (.ref o0), some (.int (I l1)), some (.int (I (l2 + 1)))] [] SH S r else (((0 : Int) ≤ l2 ∧ l2 < 8) ∧ G sc MX1_lastNoted 4 [some (.ref o0), some (.int (I (S t0 l2))), some (.int (I (l2 + 1)))] [] SH S r))))) → G sc MX1_lastNoted 4 [some (.ref o0), some (.int (I l1)), some (.int (I l2))] [] SH S r := by
  refine tt_ld (M := MX1_lastNoted) (pc := 4) dX1_lastNoted_4 rfl rfl rfl rfl rfl ?_
  refine tt_ld (M := MX1_lastNoted) (pc := 5) dX1_lastNoted_5 rfl rfl rfl rfl rfl ?_
  refine tt_getI (M := MX1_lastNoted) (pc := 6) dX1_lastNoted_6 rfl h0.1 rfl ?_
  refine tt_ic_ge (M := MX1_lastNoted) (pc := 9) 39 dX1_lastNoted_9 rfl ?_ ?_
  · refine tt_ld (M := MX1_lastNoted) (pc := 39) dX1_lastNoted_39 rfl rfl rfl rfl rfl ?_
    exact tt_iret (M := MX1_lastNoted) (pc := 40) dX1_lastNoted_40 rfl
  · refine tt_ld (M := MX1_lastNoted) (pc := 12) dX1_lastNoted_12 rfl rfl rfl rfl rfl ?_
    refine tt_getR (M := MX1_lastNoted) (pc := 13) dX1_lastNoted_13 rfl h0.1 rfl ?_
    refine tt_ld (M := MX1_lastNoted) (pc := 16) dX1_lastNoted_16 rfl rfl rfl rfl rfl ?_
    refine tt_iaload (M := MX1_lastNoted) (pc := 17) dX1_lastNoted_17 h0.2.1 rfl ?_
    refine tt_ld (M := MX1_lastNoted) (pc := 18) dX1_lastNoted_18 rfl rfl rfl rfl rfl ?_
    refine tt_ic_le (M := MX1_lastNoted) (pc := 19) 31 dX1_lastNoted_19 rfl ?_ ?_
    · refine tt_ld (M := MX1_lastNoted) (pc := 31) dX1_lastNoted_31 rfl rfl rfl rfl rfl ?_
      refine tt_st (M := MX1_lastNoted) (pc := 32) [some (.ref o0), some (.int (I l1)), some (.int (I l2))] dX1_lastNoted_32 rfl rfl rfl rfl rfl rfl ?_
      refine tt_iinc (M := MX1_lastNoted) (pc := 33) [some (.ref o0), some (.int (I l1)), some (.int (I (l2 + 1)))] dX1_lastNoted_33 rfl rfl ?_
      refine tt_goto (M := MX1_lastNoted) (pc := 36) 4 dX1_lastNoted_36 rfl ?_
      exact id
    · refine tt_ld (M := MX1_lastNoted) (pc := 22) dX1_lastNoted_22 rfl rfl rfl rfl rfl ?_
      refine tt_getR (M := MX1_lastNoted) (pc := 23) dX1_lastNoted_23 rfl h0.1 rfl ?_
      refine tt_ld (M := MX1_lastNoted) (pc := 26) dX1_lastNoted_26 rfl rfl rfl rfl rfl ?_
      refine tt_iaload (M := MX1_lastNoted) (pc := 27) dX1_lastNoted_27 h0.2.1 rfl ?_
      refine tt_goto (M := MX1_lastNoted) (pc := 28) 32 dX1_lastNoted_28 rfl ?_
      refine tt_st (M := MX1_lastNoted) (pc := 32) [some (.ref o0), some (.int (I (S t0 l2))), some (.int (I l2))] dX1_lastNoted_32 rfl rfl rfl rfl rfl rfl ?_
      refine tt_iinc (M := MX1_lastNoted) (pc := 33) [some (.ref o0), some (.int (I (S t0 l2))), some (.int (I (l2 + 1)))] dX1_lastNoted_33 rfl rfl ?_
      refine tt_goto (M := MX1_lastNoted) (pc := 36) 4 dX1_lastNoted_36 rfl ?_
      exact id
