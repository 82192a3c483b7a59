-- needs: 43.tshape
/-! ===== the program as conditions (gen_vc.py) ===== -/
theorem qX6_clear_0 {sc : Nat × (Nat → Int32)} {SH : List mCell} {S : mStore} {r : mR × mW} {o0 i0 n0 f0 : Nat} (h0 : sRows SH o0 i0 n0 f0) : ((∃ S101, G sc MJ7_fill_53178 0 [some (.ref i0), some (.int (I (-1))), none, none] [] SH S (rV SH S101) ∧ (∃ S102, G sc MJ7_fill_53178 0 [some (.ref n0), some (.int (I (-1))), none, none] [] SH S101 (rV SH S102) ∧ (∃ S103, G sc MJ7_fill_53178 0 [some (.ref f0), some (.int (I (-1))), none, none] [] SH S102 (rV SH S103) ∧ r = rV SH S103)))) → G sc MX6_clear 0 [some (.ref o0)] [] SH S r := by
  refine tt_ld (M := MX6_clear) (pc := 0) dX6_clear_0 rfl rfl rfl rfl rfl ?_
  refine tt_getR (M := MX6_clear) (pc := 1) dX6_clear_1 rfl h0.1 rfl ?_
  refine tt_iconst (M := MX6_clear) (pc := 4) dX6_clear_4 ?_
  refine tt_scVN (M := MX6_clear) (pc := 5) dX6_clear_5 rfl [] rfl rfl ⟨rfl, by decide, Nat.le_of_ble_eq_true rfl⟩ fun S101 => ?_
  refine tt_ld (M := MX6_clear) (pc := 8) dX6_clear_8 rfl rfl rfl rfl rfl ?_
  refine tt_getR (M := MX6_clear) (pc := 9) dX6_clear_9 rfl h0.1 rfl ?_
  refine tt_iconst (M := MX6_clear) (pc := 12) dX6_clear_12 ?_
  refine tt_scVN (M := MX6_clear) (pc := 13) dX6_clear_13 rfl [] rfl rfl ⟨rfl, by decide, Nat.le_of_ble_eq_true rfl⟩ fun S102 => ?_
  refine tt_ld (M := MX6_clear) (pc := 16) dX6_clear_16 rfl rfl rfl rfl rfl ?_
  refine tt_getR (M := MX6_clear) (pc := 17) dX6_clear_17 rfl h0.1 rfl ?_
  refine tt_iconst (M := MX6_clear) (pc := 20) dX6_clear_20 ?_
  refine tt_scVN (M := MX6_clear) (pc := 21) dX6_clear_21 rfl [] rfl rfl ⟨rfl, by decide, Nat.le_of_ble_eq_true rfl⟩ fun S103 => ?_
  exact tt_ret (M := MX6_clear) (pc := 24) dX6_clear_24 rfl
theorem qX6_become_0 {sc : Nat × (Nat → Int32)} {SH : List mCell} {S : mStore} {r : mR × mW} {o0 i0 n0 f0 o1 i1 n1 f1 : Nat} (h0 : sRows SH o0 i0 n0 f0) (h1 : sRows SH o1 i1 n1 f1) : (r = rV SH (cpy (cpy (cpy S i1 i0 48) n1 n0 48) f1 f0 48)) → G sc MX6_become 0 [some (.ref o0), some (.ref o1)] [] SH S r := by
  refine tt_ld (M := MX6_become) (pc := 0) dX6_become_0 rfl rfl rfl rfl rfl ?_
  refine tt_getR (M := MX6_become) (pc := 1) dX6_become_1 rfl h1.1 rfl ?_
  refine tt_iconst (M := MX6_become) (pc := 4) dX6_become_4 ?_
  refine tt_ld (M := MX6_become) (pc := 5) dX6_become_5 rfl rfl rfl rfl rfl ?_
  refine tt_getR (M := MX6_become) (pc := 6) dX6_become_6 rfl h0.1 rfl ?_
  refine tt_iconst (M := MX6_become) (pc := 9) dX6_become_9 ?_
  refine tt_bipush (M := MX6_become) (pc := 10) dX6_become_10 (by decide) ?_
  refine tt_copy (M := MX6_become) (pc := 12) dX6_become_12 rfl [] rfl ⟨rfl, by decide, Nat.le_of_ble_eq_true rfl⟩ h1.2.1 h0.2.1 (by decide) ?_
  refine tt_ld (M := MX6_become) (pc := 15) dX6_become_15 rfl rfl rfl rfl rfl ?_
  refine tt_getR (M := MX6_become) (pc := 16) dX6_become_16 rfl h1.1 rfl ?_
  refine tt_iconst (M := MX6_become) (pc := 19) dX6_become_19 ?_
  refine tt_ld (M := MX6_become) (pc := 20) dX6_become_20 rfl rfl rfl rfl rfl ?_
  refine tt_getR (M := MX6_become) (pc := 21) dX6_become_21 rfl h0.1 rfl ?_
  refine tt_iconst (M := MX6_become) (pc := 24) dX6_become_24 ?_
  refine tt_bipush (M := MX6_become) (pc := 25) dX6_become_25 (by decide) ?_
  refine tt_copy (M := MX6_become) (pc := 27) dX6_become_27 rfl [] rfl ⟨rfl, by decide, Nat.le_of_ble_eq_true rfl⟩ h1.2.2.1 h0.2.2.1 (by decide) ?_
  refine tt_ld (M := MX6_become) (pc := 30) dX6_become_30 rfl rfl rfl rfl rfl ?_
  refine tt_getR (M := MX6_become) (pc := 31) dX6_become_31 rfl h1.1 rfl ?_
  refine tt_iconst (M := MX6_become) (pc := 34) dX6_become_34 ?_
  refine tt_ld (M := MX6_become) (pc := 35) dX6_become_35 rfl rfl rfl rfl rfl ?_
  refine tt_getR (M := MX6_become) (pc := 36) dX6_become_36 rfl h0.1 rfl ?_
  refine tt_iconst (M := MX6_become) (pc := 39) dX6_become_39 ?_
  refine tt_bipush (M := MX6_become) (pc := 40) dX6_become_40 (by decide) ?_
  refine tt_copy (M := MX6_become) (pc := 42) dX6_become_42 rfl [] rfl ⟨rfl, by decide, Nat.le_of_ble_eq_true rfl⟩ h1.2.2.2 h0.2.2.2 (by decide) ?_
  exact tt_ret (M := MX6_become) (pc := 45) dX6_become_45 rfl
theorem qX6_add_0 {sc : Nat × (Nat → Int32)} {SH : List mCell} {S : mStore} {r : mR × mW} {o0 i0 n0 f0 : Nat} (h0 : sRows SH o0 i0 n0 f0) {l1 : Int} {l2 : Int} {u3 : Option Value} {u4 : Option Value} {u5 : Option Value} : ((if I l1 < I 0 then r = rV SH S else (if I 48 ≤ I l1 then r = rV SH S else (if I l2 < I 0 then r = rV SH S else (if I l2 < I 48 then (((0 : Int) ≤ l1 ∧ l1 < 48) ∧ G sc MX6_add 34 [some (.ref o0), some (.int (I l1)), some (.int (I l2)), some (.int (I (-1))), some (.int (I (S f0 l1))), some (.int (I 0))] [] SH S r) else r = rV SH S))))) → G sc MX6_add 0 [some (.ref o0), some (.int (I l1)), some (.int (I l2)), u3, u4, u5] [] SH S r := by
  refine tt_ld (M := MX6_add) (pc := 0) dX6_add_0 rfl rfl rfl rfl rfl ?_
  refine tt_if_lt (M := MX6_add) (pc := 1) 20 dX6_add_1 rfl ?_ ?_
  · exact tt_ret (M := MX6_add) (pc := 20) dX6_add_20 rfl
  · refine tt_ld (M := MX6_add) (pc := 4) dX6_add_4 rfl rfl rfl rfl rfl ?_
    refine tt_bipush (M := MX6_add) (pc := 5) dX6_add_5 (by decide) ?_
    refine tt_ic_ge (M := MX6_add) (pc := 7) 20 dX6_add_7 rfl ?_ ?_
    · exact tt_ret (M := MX6_add) (pc := 20) dX6_add_20 rfl
    · refine tt_ld (M := MX6_add) (pc := 10) dX6_add_10 rfl rfl rfl rfl rfl ?_
      refine tt_if_lt (M := MX6_add) (pc := 11) 20 dX6_add_11 rfl ?_ ?_
      · exact tt_ret (M := MX6_add) (pc := 20) dX6_add_20 rfl
      · refine tt_ld (M := MX6_add) (pc := 14) dX6_add_14 rfl rfl rfl rfl rfl ?_
        refine tt_bipush (M := MX6_add) (pc := 15) dX6_add_15 (by decide) ?_
        refine tt_ic_lt (M := MX6_add) (pc := 17) 21 dX6_add_17 rfl ?_ ?_
        · refine tt_iconst (M := MX6_add) (pc := 21) dX6_add_21 ?_
          refine tt_st (M := MX6_add) (pc := 22) [some (.ref o0), some (.int (I l1)), some (.int (I l2)), some (.int (I (-1))), u4, u5] dX6_add_22 rfl rfl rfl rfl rfl rfl ?_
          refine tt_ld (M := MX6_add) (pc := 23) dX6_add_23 rfl rfl rfl rfl rfl ?_
          refine tt_getR (M := MX6_add) (pc := 24) dX6_add_24 rfl h0.1 rfl ?_
          refine tt_ld (M := MX6_add) (pc := 27) dX6_add_27 rfl rfl rfl rfl rfl ?_
          refine tt_iaload (M := MX6_add) (pc := 28) dX6_add_28 h0.2.2.2 rfl ?_
          refine tt_st (M := MX6_add) (pc := 29) [some (.ref o0), some (.int (I l1)), some (.int (I l2)), some (.int (I (-1))), some (.int (I (S f0 l1))), u5] dX6_add_29 rfl rfl rfl rfl rfl rfl ?_
          refine tt_iconst (M := MX6_add) (pc := 31) dX6_add_31 ?_
          refine tt_st (M := MX6_add) (pc := 32) [some (.ref o0), some (.int (I l1)), some (.int (I l2)), some (.int (I (-1))), some (.int (I (S f0 l1))), some (.int (I 0))] dX6_add_32 rfl rfl rfl rfl rfl rfl ?_
          exact id
        · exact tt_ret (M := MX6_add) (pc := 20) dX6_add_20 rfl
theorem qX6_add_34 {sc : Nat × (Nat → Int32)} {SH : List mCell} {S : mStore} {r : mR × mW} {o0 i0 n0 f0 : Nat} (h0 : sRows SH o0 i0 n0 f0) {l1 : Int} {l2 : Int} {l3 : Int} {l4 : Int} {l5 : Int} : ((if I 48 ≤ I l5 then G sc MX6_add 65 [some (.ref o0), some (.int (I l1)), some (.int (I l2)), some (.int (I l3)), some (.int (I l4)), some (.int (I l5))] [] SH S r else (if I l4 = I (-1) then G sc MX6_add 65 [some (.ref o0), some (.int (I l1)), some (.int (I l2)), some (.int (I l3)), some (.int (I l4)), some (.int (I l5))] [] SH S r else (((0 : Int) ≤ l4 ∧ l4 < 48) ∧ G sc MX6_add 34 [some (.ref o0), some (.int (I l1)), some (.int (I l2)), some (.int (I l4)), some (.int (I (S n0 l4))), some (.int (I (l5 + 1)))] [] SH S r)))) → G sc MX6_add 34 [some (.ref o0), some (.int (I l1)), some (.int (I l2)), some (.int (I l3)), some (.int (I l4)), some (.int (I l5))] [] SH S r := by
  refine tt_ld (M := MX6_add) (pc := 34) dX6_add_34 rfl rfl rfl rfl rfl ?_
  refine tt_bipush (M := MX6_add) (pc := 36) dX6_add_36 (by decide) ?_
  refine tt_ic_ge (M := MX6_add) (pc := 38) 65 dX6_add_38 rfl ?_ ?_
  · exact id
  · refine tt_ld (M := MX6_add) (pc := 41) dX6_add_41 rfl rfl rfl rfl rfl ?_
    refine tt_iconst (M := MX6_add) (pc := 43) dX6_add_43 ?_
    refine tt_ic_eq (M := MX6_add) (pc := 44) 65 dX6_add_44 rfl ?_ ?_
    · exact id
    · refine tt_ld (M := MX6_add) (pc := 47) dX6_add_47 rfl rfl rfl rfl rfl ?_
      refine tt_st (M := MX6_add) (pc := 49) [some (.ref o0), some (.int (I l1)), some (.int (I l2)), some (.int (I l4)), some (.int (I l4)), some (.int (I l5))] dX6_add_49 rfl rfl rfl rfl rfl rfl ?_
      refine tt_ld (M := MX6_add) (pc := 50) dX6_add_50 rfl rfl rfl rfl rfl ?_
      refine tt_getR (M := MX6_add) (pc := 51) dX6_add_51 rfl h0.1 rfl ?_
      refine tt_ld (M := MX6_add) (pc := 54) dX6_add_54 rfl rfl rfl rfl rfl ?_
      refine tt_iaload (M := MX6_add) (pc := 56) dX6_add_56 h0.2.2.1 rfl ?_
      refine tt_st (M := MX6_add) (pc := 57) [some (.ref o0), some (.int (I l1)), some (.int (I l2)), some (.int (I l4)), some (.int (I (S n0 l4))), some (.int (I l5))] dX6_add_57 rfl rfl rfl rfl rfl rfl ?_
      refine tt_iinc (M := MX6_add) (pc := 59) [some (.ref o0), some (.int (I l1)), some (.int (I l2)), some (.int (I l4)), some (.int (I (S n0 l4))), some (.int (I (l5 + 1)))] dX6_add_59 rfl rfl ?_
      refine tt_goto (M := MX6_add) (pc := 62) 34 dX6_add_62 rfl ?_
      exact id
theorem qX6_add_65 {sc : Nat × (Nat → Int32)} {SH : List mCell} {S : mStore} {r : mR × mW} {o0 i0 n0 f0 : Nat} (h0 : sRows SH o0 i0 n0 f0) {l1 : Int} {l2 : Int} {l3 : Int} {l4 : Int} {l5 : Int} : ((if I l3 = I (-1) then (((0 : Int) ≤ l1 ∧ l1 < 48) ∧ (((0 : Int) ≤ l2 ∧ l2 < 48) ∧ (((0 : Int) ≤ l2 ∧ l2 < 48) ∧ r = rV SH (up (up (up S f0 l1 l2) n0 l2 (-1)) i0 l2 l1)))) else (((0 : Int) ≤ l3 ∧ l3 < 48) ∧ (((0 : Int) ≤ l2 ∧ l2 < 48) ∧ (((0 : Int) ≤ l2 ∧ l2 < 48) ∧ r = rV SH (up (up (up S n0 l3 l2) n0 l2 (-1)) i0 l2 l1)))))) → G sc MX6_add 65 [some (.ref o0), some (.int (I l1)), some (.int (I l2)), some (.int (I l3)), some (.int (I l4)), some (.int (I l5))] [] SH S r := by
  refine tt_ld (M := MX6_add) (pc := 65) dX6_add_65 rfl rfl rfl rfl rfl ?_
  refine tt_iconst (M := MX6_add) (pc := 66) dX6_add_66 ?_
  refine tt_ic_ne (M := MX6_add) (pc := 67) 80 dX6_add_67 rfl ?_ ?_
  · refine tt_ld (M := MX6_add) (pc := 80) dX6_add_80 rfl rfl rfl rfl rfl ?_
    refine tt_getR (M := MX6_add) (pc := 81) dX6_add_81 rfl h0.1 rfl ?_
    refine tt_ld (M := MX6_add) (pc := 84) dX6_add_84 rfl rfl rfl rfl rfl ?_
    refine tt_ld (M := MX6_add) (pc := 85) dX6_add_85 rfl rfl rfl rfl rfl ?_
    refine tt_iastore (M := MX6_add) (pc := 86) dX6_add_86 h0.2.2.1 rfl ?_
    refine tt_ld (M := MX6_add) (pc := 87) dX6_add_87 rfl rfl rfl rfl rfl ?_
    refine tt_getR (M := MX6_add) (pc := 88) dX6_add_88 rfl h0.1 rfl ?_
    refine tt_ld (M := MX6_add) (pc := 91) dX6_add_91 rfl rfl rfl rfl rfl ?_
    refine tt_iconst (M := MX6_add) (pc := 92) dX6_add_92 ?_
    refine tt_iastore (M := MX6_add) (pc := 93) dX6_add_93 h0.2.2.1 rfl ?_
    refine tt_ld (M := MX6_add) (pc := 94) dX6_add_94 rfl rfl rfl rfl rfl ?_
    refine tt_getR (M := MX6_add) (pc := 95) dX6_add_95 rfl h0.1 rfl ?_
    refine tt_ld (M := MX6_add) (pc := 98) dX6_add_98 rfl rfl rfl rfl rfl ?_
    refine tt_ld (M := MX6_add) (pc := 99) dX6_add_99 rfl rfl rfl rfl rfl ?_
    refine tt_iastore (M := MX6_add) (pc := 100) dX6_add_100 h0.2.1 rfl ?_
    exact tt_ret (M := MX6_add) (pc := 101) dX6_add_101 rfl
  · refine tt_ld (M := MX6_add) (pc := 70) dX6_add_70 rfl rfl rfl rfl rfl ?_
    refine tt_getR (M := MX6_add) (pc := 71) dX6_add_71 rfl h0.1 rfl ?_
    refine tt_ld (M := MX6_add) (pc := 74) dX6_add_74 rfl rfl rfl rfl rfl ?_
    refine tt_ld (M := MX6_add) (pc := 75) dX6_add_75 rfl rfl rfl rfl rfl ?_
    refine tt_iastore (M := MX6_add) (pc := 76) dX6_add_76 h0.2.2.2 rfl ?_
    refine tt_goto (M := MX6_add) (pc := 77) 87 dX6_add_77 rfl ?_
    refine tt_ld (M := MX6_add) (pc := 87) dX6_add_87 rfl rfl rfl rfl rfl ?_
    refine tt_getR (M := MX6_add) (pc := 88) dX6_add_88 rfl h0.1 rfl ?_
    refine tt_ld (M := MX6_add) (pc := 91) dX6_add_91 rfl rfl rfl rfl rfl ?_
    refine tt_iconst (M := MX6_add) (pc := 92) dX6_add_92 ?_
    refine tt_iastore (M := MX6_add) (pc := 93) dX6_add_93 h0.2.2.1 rfl ?_
    refine tt_ld (M := MX6_add) (pc := 94) dX6_add_94 rfl rfl rfl rfl rfl ?_
    refine tt_getR (M := MX6_add) (pc := 95) dX6_add_95 rfl h0.1 rfl ?_
    refine tt_ld (M := MX6_add) (pc := 98) dX6_add_98 rfl rfl rfl rfl rfl ?_
    refine tt_ld (M := MX6_add) (pc := 99) dX6_add_99 rfl rfl rfl rfl rfl ?_
    refine tt_iastore (M := MX6_add) (pc := 100) dX6_add_100 h0.2.1 rfl ?_
    exact tt_ret (M := MX6_add) (pc := 101) dX6_add_101 rfl
theorem qX6_remove_0 {sc : Nat × (Nat → Int32)} {SH : List mCell} {S : mStore} {r : mR × mW} {o0 i0 n0 f0 : Nat} (h0 : sRows SH o0 i0 n0 f0) {l1 : Int} {u2 : Option Value} {u3 : Option Value} {u4 : Option Value} {u5 : Option Value} : ((if I l1 < I 0 then r = rV SH S else (if I 48 ≤ I l1 then r = rV SH S else (((0 : Int) ≤ l1 ∧ l1 < 48) ∧ (if I (S i0 l1) = I (-1) then r = rV SH S else (((0 : Int) ≤ l1 ∧ l1 < 48) ∧ (((0 : Int) ≤ S i0 l1 ∧ S i0 l1 < 48) ∧ G sc MX6_remove 41 [some (.ref o0), some (.int (I l1)), some (.int (I (S i0 l1))), some (.int (I (-1))), some (.int (I (S f0 (S i0 l1)))), some (.int (I 0))] [] SH S r))))))) → G sc MX6_remove 0 [some (.ref o0), some (.int (I l1)), u2, u3, u4, u5] [] SH S r := by
  refine tt_ld (M := MX6_remove) (pc := 0) dX6_remove_0 rfl rfl rfl rfl rfl ?_
  refine tt_if_lt (M := MX6_remove) (pc := 1) 20 dX6_remove_1 rfl ?_ ?_
  · exact tt_ret (M := MX6_remove) (pc := 20) dX6_remove_20 rfl
  · refine tt_ld (M := MX6_remove) (pc := 4) dX6_remove_4 rfl rfl rfl rfl rfl ?_
    refine tt_bipush (M := MX6_remove) (pc := 5) dX6_remove_5 (by decide) ?_
    refine tt_ic_ge (M := MX6_remove) (pc := 7) 20 dX6_remove_7 rfl ?_ ?_
    · exact tt_ret (M := MX6_remove) (pc := 20) dX6_remove_20 rfl
    · refine tt_ld (M := MX6_remove) (pc := 10) dX6_remove_10 rfl rfl rfl rfl rfl ?_
      refine tt_getR (M := MX6_remove) (pc := 11) dX6_remove_11 rfl h0.1 rfl ?_
      refine tt_ld (M := MX6_remove) (pc := 14) dX6_remove_14 rfl rfl rfl rfl rfl ?_
      refine tt_iaload (M := MX6_remove) (pc := 15) dX6_remove_15 h0.2.1 rfl ?_
      refine tt_iconst (M := MX6_remove) (pc := 16) dX6_remove_16 ?_
      refine tt_ic_ne (M := MX6_remove) (pc := 17) 21 dX6_remove_17 rfl ?_ ?_
      · refine tt_ld (M := MX6_remove) (pc := 21) dX6_remove_21 rfl rfl rfl rfl rfl ?_
        refine tt_getR (M := MX6_remove) (pc := 22) dX6_remove_22 rfl h0.1 rfl ?_
        refine tt_ld (M := MX6_remove) (pc := 25) dX6_remove_25 rfl rfl rfl rfl rfl ?_
        refine tt_iaload (M := MX6_remove) (pc := 26) dX6_remove_26 h0.2.1 rfl ?_
        refine tt_st (M := MX6_remove) (pc := 27) [some (.ref o0), some (.int (I l1)), some (.int (I (S i0 l1))), u3, u4, u5] dX6_remove_27 rfl rfl rfl rfl rfl rfl ?_
        refine tt_iconst (M := MX6_remove) (pc := 28) dX6_remove_28 ?_
        refine tt_st (M := MX6_remove) (pc := 29) [some (.ref o0), some (.int (I l1)), some (.int (I (S i0 l1))), some (.int (I (-1))), u4, u5] dX6_remove_29 rfl rfl rfl rfl rfl rfl ?_
        refine tt_ld (M := MX6_remove) (pc := 30) dX6_remove_30 rfl rfl rfl rfl rfl ?_
        refine tt_getR (M := MX6_remove) (pc := 31) dX6_remove_31 rfl h0.1 rfl ?_
        refine tt_ld (M := MX6_remove) (pc := 34) dX6_remove_34 rfl rfl rfl rfl rfl ?_
        refine tt_iaload (M := MX6_remove) (pc := 35) dX6_remove_35 h0.2.2.2 rfl ?_
        refine tt_st (M := MX6_remove) (pc := 36) [some (.ref o0), some (.int (I l1)), some (.int (I (S i0 l1))), some (.int (I (-1))), some (.int (I (S f0 (S i0 l1)))), u5] dX6_remove_36 rfl rfl rfl rfl rfl rfl ?_
        refine tt_iconst (M := MX6_remove) (pc := 38) dX6_remove_38 ?_
        refine tt_st (M := MX6_remove) (pc := 39) [some (.ref o0), some (.int (I l1)), some (.int (I (S i0 l1))), some (.int (I (-1))), some (.int (I (S f0 (S i0 l1)))), some (.int (I 0))] dX6_remove_39 rfl rfl rfl rfl rfl rfl ?_
        exact id
      · exact tt_ret (M := MX6_remove) (pc := 20) dX6_remove_20 rfl
theorem qX6_remove_41 {sc : Nat × (Nat → Int32)} {SH : List mCell} {S : mStore} {r : mR × mW} {o0 i0 n0 f0 : Nat} (h0 : sRows SH o0 i0 n0 f0) {l1 : Int} {l2 : Int} {l3 : Int} {l4 : Int} {l5 : Int} : ((if I 48 ≤ I l5 then G sc MX6_remove 78 [some (.ref o0), some (.int (I l1)), some (.int (I l2)), some (.int (I l3)), some (.int (I l4)), some (.int (I l5))] [] SH S r else (if I l4 = I l1 then G sc MX6_remove 78 [some (.ref o0), some (.int (I l1)), some (.int (I l2)), some (.int (I l3)), some (.int (I l4)), some (.int (I l5))] [] SH S r else (if I l4 = I (-1) then G sc MX6_remove 78 [some (.ref o0), some (.int (I l1)), some (.int (I l2)), some (.int (I l3)), some (.int (I l4)), some (.int (I l5))] [] SH S r else (((0 : Int) ≤ l4 ∧ l4 < 48) ∧ G sc MX6_remove 41 [some (.ref o0), some (.int (I l1)), some (.int (I l2)), some (.int (I l4)), some (.int (I (S n0 l4))), some (.int (I (l5 + 1)))] [] SH S r))))) → G sc MX6_remove 41 [some (.ref o0), some (.int (I l1)), some (.int (I l2)), some (.int (I l3)), some (.int (I l4)), some (.int (I l5))] [] SH S r := by
  refine tt_ld (M := MX6_remove) (pc := 41) dX6_remove_41 rfl rfl rfl rfl rfl ?_
  refine tt_bipush (M := MX6_remove) (pc := 43) dX6_remove_43 (by decide) ?_
  refine tt_ic_ge (M := MX6_remove) (pc := 45) 78 dX6_remove_45 rfl ?_ ?_
  · exact id
  · refine tt_ld (M := MX6_remove) (pc := 48) dX6_remove_48 rfl rfl rfl rfl rfl ?_
    refine tt_ld (M := MX6_remove) (pc := 50) dX6_remove_50 rfl rfl rfl rfl rfl ?_
    refine tt_ic_eq (M := MX6_remove) (pc := 51) 78 dX6_remove_51 rfl ?_ ?_
    · exact id
    · refine tt_ld (M := MX6_remove) (pc := 54) dX6_remove_54 rfl rfl rfl rfl rfl ?_
      refine tt_iconst (M := MX6_remove) (pc := 56) dX6_remove_56 ?_
      refine tt_ic_eq (M := MX6_remove) (pc := 57) 78 dX6_remove_57 rfl ?_ ?_
      · exact id
      · refine tt_ld (M := MX6_remove) (pc := 60) dX6_remove_60 rfl rfl rfl rfl rfl ?_
        refine tt_st (M := MX6_remove) (pc := 62) [some (.ref o0), some (.int (I l1)), some (.int (I l2)), some (.int (I l4)), some (.int (I l4)), some (.int (I l5))] dX6_remove_62 rfl rfl rfl rfl rfl rfl ?_
        refine tt_ld (M := MX6_remove) (pc := 63) dX6_remove_63 rfl rfl rfl rfl rfl ?_
        refine tt_getR (M := MX6_remove) (pc := 64) dX6_remove_64 rfl h0.1 rfl ?_
        refine tt_ld (M := MX6_remove) (pc := 67) dX6_remove_67 rfl rfl rfl rfl rfl ?_
        refine tt_iaload (M := MX6_remove) (pc := 69) dX6_remove_69 h0.2.2.1 rfl ?_
        refine tt_st (M := MX6_remove) (pc := 70) [some (.ref o0), some (.int (I l1)), some (.int (I l2)), some (.int (I l4)), some (.int (I (S n0 l4))), some (.int (I l5))] dX6_remove_70 rfl rfl rfl rfl rfl rfl ?_
        refine tt_iinc (M := MX6_remove) (pc := 72) [some (.ref o0), some (.int (I l1)), some (.int (I l2)), some (.int (I l4)), some (.int (I (S n0 l4))), some (.int (I (l5 + 1)))] dX6_remove_72 rfl rfl ?_
        refine tt_goto (M := MX6_remove) (pc := 75) 41 dX6_remove_75 rfl ?_
        exact id
theorem qX6_remove_78 {sc : Nat × (Nat → Int32)} {SH : List mCell} {S : mStore} {r : mR × mW} {o0 i0 n0 f0 : Nat} (h0 : sRows SH o0 i0 n0 f0) {l1 : Int} {l2 : Int} {l3 : Int} {l4 : Int} {l5 : Int} : ((if I l3 = I (-1) then (((0 : Int) ≤ l1 ∧ l1 < 48) ∧ (((0 : Int) ≤ l2 ∧ l2 < 48) ∧ (((0 : Int) ≤ l1 ∧ l1 < 48) ∧ (((0 : Int) ≤ l1 ∧ l1 < 48) ∧ r = rV SH (up (up (up S f0 l2 (S n0 l1)) n0 l1 (-1)) i0 l1 (-1)))))) else (((0 : Int) ≤ l1 ∧ l1 < 48) ∧ (((0 : Int) ≤ l3 ∧ l3 < 48) ∧ (((0 : Int) ≤ l1 ∧ l1 < 48) ∧ (((0 : Int) ≤ l1 ∧ l1 < 48) ∧ r = rV SH (up (up (up S n0 l3 (S n0 l1)) n0 l1 (-1)) i0 l1 (-1)))))))) → G sc MX6_remove 78 [some (.ref o0), some (.int (I l1)), some (.int (I l2)), some (.int (I l3)), some (.int (I l4)), some (.int (I l5))] [] SH S r := by
  refine tt_ld (M := MX6_remove) (pc := 78) dX6_remove_78 rfl rfl rfl rfl rfl ?_
  refine tt_iconst (M := MX6_remove) (pc := 79) dX6_remove_79 ?_
  refine tt_ic_ne (M := MX6_remove) (pc := 80) 98 dX6_remove_80 rfl ?_ ?_
  · refine tt_ld (M := MX6_remove) (pc := 98) dX6_remove_98 rfl rfl rfl rfl rfl ?_
    refine tt_getR (M := MX6_remove) (pc := 99) dX6_remove_99 rfl h0.1 rfl ?_
    refine tt_ld (M := MX6_remove) (pc := 102) dX6_remove_102 rfl rfl rfl rfl rfl ?_
    refine tt_ld (M := MX6_remove) (pc := 103) dX6_remove_103 rfl rfl rfl rfl rfl ?_
    refine tt_getR (M := MX6_remove) (pc := 104) dX6_remove_104 rfl h0.1 rfl ?_
    refine tt_ld (M := MX6_remove) (pc := 107) dX6_remove_107 rfl rfl rfl rfl rfl ?_
    refine tt_iaload (M := MX6_remove) (pc := 108) dX6_remove_108 h0.2.2.1 rfl ?_
    refine tt_iastore (M := MX6_remove) (pc := 109) dX6_remove_109 h0.2.2.1 rfl ?_
    refine tt_ld (M := MX6_remove) (pc := 110) dX6_remove_110 rfl rfl rfl rfl rfl ?_
    refine tt_getR (M := MX6_remove) (pc := 111) dX6_remove_111 rfl h0.1 rfl ?_
    refine tt_ld (M := MX6_remove) (pc := 114) dX6_remove_114 rfl rfl rfl rfl rfl ?_
    refine tt_iconst (M := MX6_remove) (pc := 115) dX6_remove_115 ?_
    refine tt_iastore (M := MX6_remove) (pc := 116) dX6_remove_116 h0.2.2.1 rfl ?_
    refine tt_ld (M := MX6_remove) (pc := 117) dX6_remove_117 rfl rfl rfl rfl rfl ?_
    refine tt_getR (M := MX6_remove) (pc := 118) dX6_remove_118 rfl h0.1 rfl ?_
    refine tt_ld (M := MX6_remove) (pc := 121) dX6_remove_121 rfl rfl rfl rfl rfl ?_
    refine tt_iconst (M := MX6_remove) (pc := 122) dX6_remove_122 ?_
    refine tt_iastore (M := MX6_remove) (pc := 123) dX6_remove_123 h0.2.1 rfl ?_
    exact tt_ret (M := MX6_remove) (pc := 124) dX6_remove_124 rfl
  · refine tt_ld (M := MX6_remove) (pc := 83) dX6_remove_83 rfl rfl rfl rfl rfl ?_
    refine tt_getR (M := MX6_remove) (pc := 84) dX6_remove_84 rfl h0.1 rfl ?_
    refine tt_ld (M := MX6_remove) (pc := 87) dX6_remove_87 rfl rfl rfl rfl rfl ?_
    refine tt_ld (M := MX6_remove) (pc := 88) dX6_remove_88 rfl rfl rfl rfl rfl ?_
    refine tt_getR (M := MX6_remove) (pc := 89) dX6_remove_89 rfl h0.1 rfl ?_
    refine tt_ld (M := MX6_remove) (pc := 92) dX6_remove_92 rfl rfl rfl rfl rfl ?_
    refine tt_iaload (M := MX6_remove) (pc := 93) dX6_remove_93 h0.2.2.1 rfl ?_
    refine tt_iastore (M := MX6_remove) (pc := 94) dX6_remove_94 h0.2.2.2 rfl ?_
    refine tt_goto (M := MX6_remove) (pc := 95) 110 dX6_remove_95 rfl ?_
    refine tt_ld (M := MX6_remove) (pc := 110) dX6_remove_110 rfl rfl rfl rfl rfl ?_
    refine tt_getR (M := MX6_remove) (pc := 111) dX6_remove_111 rfl h0.1 rfl ?_
    refine tt_ld (M := MX6_remove) (pc := 114) dX6_remove_114 rfl rfl rfl rfl rfl ?_
    refine tt_iconst (M := MX6_remove) (pc := 115) dX6_remove_115 ?_
    refine tt_iastore (M := MX6_remove) (pc := 116) dX6_remove_116 h0.2.2.1 rfl ?_
    refine tt_ld (M := MX6_remove) (pc := 117) dX6_remove_117 rfl rfl rfl rfl rfl ?_
    refine tt_getR (M := MX6_remove) (pc := 118) dX6_remove_118 rfl h0.1 rfl ?_
    refine tt_ld (M := MX6_remove) (pc := 121) dX6_remove_121 rfl rfl rfl rfl rfl ?_
    refine tt_iconst (M := MX6_remove) (pc := 122) dX6_remove_122 ?_
    refine tt_iastore (M := MX6_remove) (pc := 123) dX6_remove_123 h0.2.1 rfl ?_
    exact tt_ret (M := MX6_remove) (pc := 124) dX6_remove_124 rfl
theorem qX6_sizeOf_0 {sc : Nat × (Nat → Int32)} {SH : List mCell} {S : mStore} {r : mR × mW} {o0 i0 n0 f0 : Nat} (h0 : sRows SH o0 i0 n0 f0) {l1 : Int} {u2 : Option Value} {u3 : Option Value} : ((if I l1 < I 0 then r = rI 0 SH S else (if I l1 < I 48 then (((0 : Int) ≤ l1 ∧ l1 < 48) ∧ G sc MX6_sizeOf 21 [some (.ref o0), some (.int (I l1)), some (.int (I 0)), some (.int (I (S f0 l1)))] [] SH S r) else r = rI 0 SH S))) → G sc MX6_sizeOf 0 [some (.ref o0), some (.int (I l1)), u2, u3] [] SH S r := by
  refine tt_ld (M := MX6_sizeOf) (pc := 0) dX6_sizeOf_0 rfl rfl rfl rfl rfl ?_
  refine tt_if_lt (M := MX6_sizeOf) (pc := 1) 10 dX6_sizeOf_1 rfl ?_ ?_
  · refine tt_iconst (M := MX6_sizeOf) (pc := 10) dX6_sizeOf_10 ?_
    exact tt_iret (M := MX6_sizeOf) (pc := 11) dX6_sizeOf_11 rfl
  · refine tt_ld (M := MX6_sizeOf) (pc := 4) dX6_sizeOf_4 rfl rfl rfl rfl rfl ?_
    refine tt_bipush (M := MX6_sizeOf) (pc := 5) dX6_sizeOf_5 (by decide) ?_
    refine tt_ic_lt (M := MX6_sizeOf) (pc := 7) 12 dX6_sizeOf_7 rfl ?_ ?_
    · refine tt_iconst (M := MX6_sizeOf) (pc := 12) dX6_sizeOf_12 ?_
      refine tt_st (M := MX6_sizeOf) (pc := 13) [some (.ref o0), some (.int (I l1)), some (.int (I 0)), u3] dX6_sizeOf_13 rfl rfl rfl rfl rfl rfl ?_
      refine tt_ld (M := MX6_sizeOf) (pc := 14) dX6_sizeOf_14 rfl rfl rfl rfl rfl ?_
      refine tt_getR (M := MX6_sizeOf) (pc := 15) dX6_sizeOf_15 rfl h0.1 rfl ?_
      refine tt_ld (M := MX6_sizeOf) (pc := 18) dX6_sizeOf_18 rfl rfl rfl rfl rfl ?_
      refine tt_iaload (M := MX6_sizeOf) (pc := 19) dX6_sizeOf_19 h0.2.2.2 rfl ?_
      refine tt_st (M := MX6_sizeOf) (pc := 20) [some (.ref o0), some (.int (I l1)), some (.int (I 0)), some (.int (I (S f0 l1)))] dX6_sizeOf_20 rfl rfl rfl rfl rfl rfl ?_
      exact id
    · refine tt_iconst (M := MX6_sizeOf) (pc := 10) dX6_sizeOf_10 ?_
      exact tt_iret (M := MX6_sizeOf) (pc := 11) dX6_sizeOf_11 rfl
theorem qX6_sizeOf_21 {sc : Nat × (Nat → Int32)} {SH : List mCell} {S : mStore} {r : mR × mW} {o0 i0 n0 f0 : Nat} (h0 : sRows SH o0 i0 n0 f0) {l1 : Int} {l2 : Int} {l3 : Int} : ((if I 48 ≤ I l2 then r = rI l2 SH S else (if I l3 = I (-1) then r = rI l2 SH S else (((0 : Int) ≤ l3 ∧ l3 < 48) ∧ G sc MX6_sizeOf 21 [some (.ref o0), some (.int (I l1)), some (.int (I (l2 + 1))), some (.int (I (S n0 l3)))] [] SH S r)))) → G sc MX6_sizeOf 21 [some (.ref o0), some (.int (I l1)), some (.int (I l2)), some (.int (I l3))] [] SH S r := by
  refine tt_ld (M := MX6_sizeOf) (pc := 21) dX6_sizeOf_21 rfl rfl rfl rfl rfl ?_
  refine tt_bipush (M := MX6_sizeOf) (pc := 22) dX6_sizeOf_22 (by decide) ?_
  refine tt_ic_ge (M := MX6_sizeOf) (pc := 24) 45 dX6_sizeOf_24 rfl ?_ ?_
  · refine tt_ld (M := MX6_sizeOf) (pc := 45) dX6_sizeOf_45 rfl rfl rfl rfl rfl ?_
    exact tt_iret (M := MX6_sizeOf) (pc := 46) dX6_sizeOf_46 rfl
  · refine tt_ld (M := MX6_sizeOf) (pc := 27) dX6_sizeOf_27 rfl rfl rfl rfl rfl ?_
    refine tt_iconst (M := MX6_sizeOf) (pc := 28) dX6_sizeOf_28 ?_
    refine tt_ic_eq (M := MX6_sizeOf) (pc := 29) 45 dX6_sizeOf_29 rfl ?_ ?_
    · refine tt_ld (M := MX6_sizeOf) (pc := 45) dX6_sizeOf_45 rfl rfl rfl rfl rfl ?_
      exact tt_iret (M := MX6_sizeOf) (pc := 46) dX6_sizeOf_46 rfl
    · refine tt_iinc (M := MX6_sizeOf) (pc := 32) [some (.ref o0), some (.int (I l1)), some (.int (I (l2 + 1))), some (.int (I l3))] dX6_sizeOf_32 rfl rfl ?_
      refine tt_ld (M := MX6_sizeOf) (pc := 35) dX6_sizeOf_35 rfl rfl rfl rfl rfl ?_
      refine tt_getR (M := MX6_sizeOf) (pc := 36) dX6_sizeOf_36 rfl h0.1 rfl ?_
      refine tt_ld (M := MX6_sizeOf) (pc := 39) dX6_sizeOf_39 rfl rfl rfl rfl rfl ?_
      refine tt_iaload (M := MX6_sizeOf) (pc := 40) dX6_sizeOf_40 h0.2.2.1 rfl ?_
      refine tt_st (M := MX6_sizeOf) (pc := 41) [some (.ref o0), some (.int (I l1)), some (.int (I (l2 + 1))), some (.int (I (S n0 l3)))] dX6_sizeOf_41 rfl rfl rfl rfl rfl rfl ?_
      refine tt_goto (M := MX6_sizeOf) (pc := 42) 21 dX6_sizeOf_42 rfl ?_
      exact id
theorem qX6_nth_0 {sc : Nat × (Nat → Int32)} {SH : List mCell} {S : mStore} {r : mR × mW} {o0 i0 n0 f0 : Nat} (h0 : sRows SH o0 i0 n0 f0) {l1 : Int} {l2 : Int} {u3 : Option Value} {u4 : Option Value} : ((if I l1 < I 0 then r = rI (-1) SH S else (if I 48 ≤ I l1 then r = rI (-1) SH S else (if I l2 < I 0 then r = rI (-1) SH S else (if I l2 < I 48 then (((0 : Int) ≤ l1 ∧ l1 < 48) ∧ G sc MX6_nth 32 [some (.ref o0), some (.int (I l1)), some (.int (I l2)), some (.int (I (S f0 l1))), some (.int (I 0))] [] SH S r) else r = rI (-1) SH S))))) → G sc MX6_nth 0 [some (.ref o0), some (.int (I l1)), some (.int (I l2)), u3, u4] [] SH S r := by
  refine tt_ld (M := MX6_nth) (pc := 0) dX6_nth_0 rfl rfl rfl rfl rfl ?_
  refine tt_if_lt (M := MX6_nth) (pc := 1) 20 dX6_nth_1 rfl ?_ ?_
  · refine tt_iconst (M := MX6_nth) (pc := 20) dX6_nth_20 ?_
    exact tt_iret (M := MX6_nth) (pc := 21) dX6_nth_21 rfl
  · refine tt_ld (M := MX6_nth) (pc := 4) dX6_nth_4 rfl rfl rfl rfl rfl ?_
    refine tt_bipush (M := MX6_nth) (pc := 5) dX6_nth_5 (by decide) ?_
    refine tt_ic_ge (M := MX6_nth) (pc := 7) 20 dX6_nth_7 rfl ?_ ?_
    · refine tt_iconst (M := MX6_nth) (pc := 20) dX6_nth_20 ?_
      exact tt_iret (M := MX6_nth) (pc := 21) dX6_nth_21 rfl
    · refine tt_ld (M := MX6_nth) (pc := 10) dX6_nth_10 rfl rfl rfl rfl rfl ?_
      refine tt_if_lt (M := MX6_nth) (pc := 11) 20 dX6_nth_11 rfl ?_ ?_
      · refine tt_iconst (M := MX6_nth) (pc := 20) dX6_nth_20 ?_
        exact tt_iret (M := MX6_nth) (pc := 21) dX6_nth_21 rfl
      · refine tt_ld (M := MX6_nth) (pc := 14) dX6_nth_14 rfl rfl rfl rfl rfl ?_
        refine tt_bipush (M := MX6_nth) (pc := 15) dX6_nth_15 (by decide) ?_
        refine tt_ic_lt (M := MX6_nth) (pc := 17) 22 dX6_nth_17 rfl ?_ ?_
        · refine tt_ld (M := MX6_nth) (pc := 22) dX6_nth_22 rfl rfl rfl rfl rfl ?_
          refine tt_getR (M := MX6_nth) (pc := 23) dX6_nth_23 rfl h0.1 rfl ?_
          refine tt_ld (M := MX6_nth) (pc := 26) dX6_nth_26 rfl rfl rfl rfl rfl ?_
          refine tt_iaload (M := MX6_nth) (pc := 27) dX6_nth_27 h0.2.2.2 rfl ?_
          refine tt_st (M := MX6_nth) (pc := 28) [some (.ref o0), some (.int (I l1)), some (.int (I l2)), some (.int (I (S f0 l1))), u4] dX6_nth_28 rfl rfl rfl rfl rfl rfl ?_
          refine tt_iconst (M := MX6_nth) (pc := 29) dX6_nth_29 ?_
          refine tt_st (M := MX6_nth) (pc := 30) [some (.ref o0), some (.int (I l1)), some (.int (I l2)), some (.int (I (S f0 l1))), some (.int (I 0))] dX6_nth_30 rfl rfl rfl rfl rfl rfl ?_
          exact id
        · refine tt_iconst (M := MX6_nth) (pc := 20) dX6_nth_20 ?_
          exact tt_iret (M := MX6_nth) (pc := 21) dX6_nth_21 rfl
theorem qX6_nth_32 {sc : Nat × (Nat → Int32)} {SH : List mCell} {S : mStore} {r : mR × mW} {o0 i0 n0 f0 : Nat} (h0 : sRows SH o0 i0 n0 f0) {l1 : Int} {l2 : Int} {l3 : Int} {l4 : Int} : ((if I l2 ≤ I l4 then r = rI l3 SH S else (if I l3 = I (-1) then r = rI l3 SH S else (((0 : Int) ≤ l3 ∧ l3 < 48) ∧ G sc MX6_nth 32 [some (.ref o0), some (.int (I l1)), some (.int (I l2)), some (.int (I (S n0 l3))), some (.int (I (l4 + 1)))] [] SH S r)))) → G sc MX6_nth 32 [some (.ref o0), some (.int (I l1)), some (.int (I l2)), some (.int (I l3)), some (.int (I l4))] [] SH S r := by
  refine tt_ld (M := MX6_nth) (pc := 32) dX6_nth_32 rfl rfl rfl rfl rfl ?_
  refine tt_ld (M := MX6_nth) (pc := 34) dX6_nth_34 rfl rfl rfl rfl rfl ?_
  refine tt_ic_ge (M := MX6_nth) (pc := 35) 56 dX6_nth_35 rfl ?_ ?_
  · refine tt_ld (M := MX6_nth) (pc := 56) dX6_nth_56 rfl rfl rfl rfl rfl ?_
    exact tt_iret (M := MX6_nth) (pc := 57) dX6_nth_57 rfl
  · refine tt_ld (M := MX6_nth) (pc := 38) dX6_nth_38 rfl rfl rfl rfl rfl ?_
    refine tt_iconst (M := MX6_nth) (pc := 39) dX6_nth_39 ?_
    refine tt_ic_eq (M := MX6_nth) (pc := 40) 56 dX6_nth_40 rfl ?_ ?_
    · refine tt_ld (M := MX6_nth) (pc := 56) dX6_nth_56 rfl rfl rfl rfl rfl ?_
      exact tt_iret (M := MX6_nth) (pc := 57) dX6_nth_57 rfl
    · refine tt_ld (M := MX6_nth) (pc := 43) dX6_nth_43 rfl rfl rfl rfl rfl ?_
      refine tt_getR (M := MX6_nth) (pc := 44) dX6_nth_44 rfl h0.1 rfl ?_
      refine tt_ld (M := MX6_nth) (pc := 47) dX6_nth_47 rfl rfl rfl rfl rfl ?_
      refine tt_iaload (M := MX6_nth) (pc := 48) dX6_nth_48 h0.2.2.1 rfl ?_
      refine tt_st (M := MX6_nth) (pc := 49) [some (.ref o0), some (.int (I l1)), some (.int (I l2)), some (.int (I (S n0 l3))), some (.int (I l4))] dX6_nth_49 rfl rfl rfl rfl rfl rfl ?_
      refine tt_iinc (M := MX6_nth) (pc := 50) [some (.ref o0), some (.int (I l1)), some (.int (I l2)), some (.int (I (S n0 l3))), some (.int (I (l4 + 1)))] dX6_nth_50 rfl rfl ?_
      refine tt_goto (M := MX6_nth) (pc := 53) 32 dX6_nth_53 rfl ?_
      exact id
