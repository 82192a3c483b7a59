-- needs: 43.tshape
/-! ===== the program as conditions (gen_vc.py) ===== -/
theorem qJ7_fill_d0a16_0 {sc : Nat × (Nat → Int32)} {SH : List mCell} {S : mStore} {r : mR × mW} {a0 n0 : Nat} (h0 : aj SH a0 n0) {j1 : Int64} {u3 : Option Value} {u4 : Option Value} : (G sc MJ7_fill_d0a16 6 [some (.ref a0), some (.long j1), none, some (.int (I 0)), some (.int (I n0))] [] SH S r) → G sc MJ7_fill_d0a16 0 [some (.ref a0), some (.long j1), none, u3, u4] [] SH S r := by
  refine tt_iconst (M := MJ7_fill_d0a16) (pc := 0) dJ7_fill_d0a16_0 ?_
  refine tt_st (M := MJ7_fill_d0a16) (pc := 1) [some (.ref a0), some (.long j1), none, some (.int (I 0)), u4] dJ7_fill_d0a16_1 rfl rfl rfl rfl rfl rfl ?_
  refine tt_ld (M := MJ7_fill_d0a16) (pc := 2) dJ7_fill_d0a16_2 rfl rfl rfl rfl rfl ?_
  refine tt_lenJ (M := MJ7_fill_d0a16) (pc := 3) dJ7_fill_d0a16_3 h0 ?_
  refine tt_st (M := MJ7_fill_d0a16) (pc := 4) [some (.ref a0), some (.long j1), none, some (.int (I 0)), some (.int (I n0))] dJ7_fill_d0a16_4 rfl rfl rfl rfl rfl rfl ?_
  exact id
theorem qJ7_fill_d0a16_6 {sc : Nat × (Nat → Int32)} {SH : List mCell} {S : mStore} {r : mR × mW} {a0 n0 : Nat} (h0 : aj SH a0 n0) {j1 : Int64} {l3 : Int} {l4 : Int} : ((if I l4 ≤ I l3 then r = rV SH S else (((0 : Int) ≤ l3 ∧ l3 < n0) ∧ G sc MJ7_fill_d0a16 6 [some (.ref a0), some (.long j1), none, some (.int (I (l3 + 1))), some (.int (I l4))] [] SH (up S a0 l3 ((j1 : Int64)).toInt) r))) → G sc MJ7_fill_d0a16 6 [some (.ref a0), some (.long j1), none, some (.int (I l3)), some (.int (I l4))] [] SH S r := by
  refine tt_ld (M := MJ7_fill_d0a16) (pc := 6) dJ7_fill_d0a16_6 rfl rfl rfl rfl rfl ?_
  refine tt_ld (M := MJ7_fill_d0a16) (pc := 7) dJ7_fill_d0a16_7 rfl rfl rfl rfl rfl ?_
  refine tt_ic_ge (M := MJ7_fill_d0a16) (pc := 9) 22 dJ7_fill_d0a16_9 rfl ?_ ?_
  · exact tt_ret (M := MJ7_fill_d0a16) (pc := 22) dJ7_fill_d0a16_22 rfl
  · refine tt_ld (M := MJ7_fill_d0a16) (pc := 12) dJ7_fill_d0a16_12 rfl rfl rfl rfl rfl ?_
    refine tt_ld (M := MJ7_fill_d0a16) (pc := 13) dJ7_fill_d0a16_13 rfl rfl rfl rfl rfl ?_
    refine tt_ld (M := MJ7_fill_d0a16) (pc := 14) dJ7_fill_d0a16_14 rfl rfl rfl rfl rfl ?_
    refine tt_lastore (M := MJ7_fill_d0a16) (pc := 15) dJ7_fill_d0a16_15 h0 rfl ?_
    refine tt_iinc (M := MJ7_fill_d0a16) (pc := 16) [some (.ref a0), some (.long j1), none, some (.int (I (l3 + 1))), some (.int (I l4))] dJ7_fill_d0a16_16 rfl rfl ?_
    refine tt_goto (M := MJ7_fill_d0a16) (pc := 19) 6 dJ7_fill_d0a16_19 rfl ?_
    exact id
theorem qJ7_fill_53178_0 {sc : Nat × (Nat → Int32)} {SH : List mCell} {S : mStore} {r : mR × mW} {a0 n0 : Nat} (h0 : ar SH a0 n0) {l1 : Int} {u2 : Option Value} {u3 : Option Value} : (G sc MJ7_fill_53178 5 [some (.ref a0), some (.int (I l1)), some (.int (I 0)), some (.int (I n0))] [] SH S r) → G sc MJ7_fill_53178 0 [some (.ref a0), some (.int (I l1)), u2, u3] [] SH S r := by
  refine tt_iconst (M := MJ7_fill_53178) (pc := 0) dJ7_fill_53178_0 ?_
  refine tt_st (M := MJ7_fill_53178) (pc := 1) [some (.ref a0), some (.int (I l1)), some (.int (I 0)), u3] dJ7_fill_53178_1 rfl rfl rfl rfl rfl rfl ?_
  refine tt_ld (M := MJ7_fill_53178) (pc := 2) dJ7_fill_53178_2 rfl rfl rfl rfl rfl ?_
  refine tt_len (M := MJ7_fill_53178) (pc := 3) dJ7_fill_53178_3 h0 ?_
  refine tt_st (M := MJ7_fill_53178) (pc := 4) [some (.ref a0), some (.int (I l1)), some (.int (I 0)), some (.int (I n0))] dJ7_fill_53178_4 rfl rfl rfl rfl rfl rfl ?_
  exact id
theorem qJ7_fill_53178_5 {sc : Nat × (Nat → Int32)} {SH : List mCell} {S : mStore} {r : mR × mW} {a0 n0 : Nat} (h0 : ar SH a0 n0) {l1 : Int} {l2 : Int} {l3 : Int} : ((if I l3 ≤ I l2 then r = rV SH S else (((0 : Int) ≤ l2 ∧ l2 < n0) ∧ G sc MJ7_fill_53178 5 [some (.ref a0), some (.int (I l1)), some (.int (I (l2 + 1))), some (.int (I l3))] [] SH (up S a0 l2 l1) r))) → G sc MJ7_fill_53178 5 [some (.ref a0), some (.int (I l1)), some (.int (I l2)), some (.int (I l3))] [] SH S r := by
  refine tt_ld (M := MJ7_fill_53178) (pc := 5) dJ7_fill_53178_5 rfl rfl rfl rfl rfl ?_
  refine tt_ld (M := MJ7_fill_53178) (pc := 6) dJ7_fill_53178_6 rfl rfl rfl rfl rfl ?_
  refine tt_ic_ge (M := MJ7_fill_53178) (pc := 7) 20 dJ7_fill_53178_7 rfl ?_ ?_
  · exact tt_ret (M := MJ7_fill_53178) (pc := 20) dJ7_fill_53178_20 rfl
  · refine tt_ld (M := MJ7_fill_53178) (pc := 10) dJ7_fill_53178_10 rfl rfl rfl rfl rfl ?_
    refine tt_ld (M := MJ7_fill_53178) (pc := 11) dJ7_fill_53178_11 rfl rfl rfl rfl rfl ?_
    refine tt_ld (M := MJ7_fill_53178) (pc := 12) dJ7_fill_53178_12 rfl rfl rfl rfl rfl ?_
    refine tt_iastore (M := MJ7_fill_53178) (pc := 13) dJ7_fill_53178_13 h0 rfl ?_
    refine tt_iinc (M := MJ7_fill_53178) (pc := 14) [some (.ref a0), some (.int (I l1)), some (.int (I (l2 + 1))), some (.int (I l3))] dJ7_fill_53178_14 rfl rfl ?_
    refine tt_goto (M := MJ7_fill_53178) (pc := 17) 5 dJ7_fill_53178_17 rfl ?_
    exact id
