-- needs: 43.tshape
/-! ===== the program as conditions (gen_vc.py) ===== -/
theorem qX11_liftsOut_0 {sc : Nat × (Nat → Int32)} {SH : List mCell} {S : mStore} {r : mR × mW} (h0 : sMod SH) {l1 : Int} {l2 : Int} {u3 : Option Value} {u4 : Option Value} {u5 : Option Value} : ((∃ v101 S102, G sc MX11_begin 0 [some (.ref 90), some (.int (I l1)), some (.int (I l2)), none] [] SH S (rI v101 SH S102) ∧ (∃ v103 S104, G sc MX11_end 0 [some (.ref 90), some (.int (I l1)), some (.int (I l2)), none] [] SH S102 (rI v103 SH S104) ∧ G sc MX11_liftsOut 18 [some (.ref 90), some (.int (I l1)), some (.int (I l2)), some (.int (I v101)), some (.int (I v103)), some (.int (I v101))] [] SH S104 r))) → G sc MX11_liftsOut 0 [some (.ref 90), some (.int (I l1)), some (.int (I l2)), u3, u4, u5] [] SH S r := by
  refine tt_ld (M := MX11_liftsOut) (pc := 0) dX11_liftsOut_0 rfl rfl rfl rfl rfl ?_
  refine tt_ld (M := MX11_liftsOut) (pc := 1) dX11_liftsOut_1 rfl rfl rfl rfl rfl ?_
  refine tt_ld (M := MX11_liftsOut) (pc := 2) dX11_liftsOut_2 rfl rfl rfl rfl rfl ?_
  refine tt_vcIN (M := MX11_liftsOut) (pc := 3) dX11_liftsOut_3 rfl rfl [] rfl rfl ⟨rfl, by decide, Nat.le_of_ble_eq_true rfl⟩ h0.1 fun v101 S102 => ?_
  refine tt_st (M := MX11_liftsOut) (pc := 6) [some (.ref 90), some (.int (I l1)), some (.int (I l2)), some (.int (I v101)), u4, u5] dX11_liftsOut_6 rfl rfl rfl rfl rfl rfl ?_
  refine tt_ld (M := MX11_liftsOut) (pc := 7) dX11_liftsOut_7 rfl rfl rfl rfl rfl ?_
  refine tt_ld (M := MX11_liftsOut) (pc := 8) dX11_liftsOut_8 rfl rfl rfl rfl rfl ?_
  refine tt_ld (M := MX11_liftsOut) (pc := 9) dX11_liftsOut_9 rfl rfl rfl rfl rfl ?_
  refine tt_vcIN (M := MX11_liftsOut) (pc := 10) dX11_liftsOut_10 rfl rfl [] rfl rfl ⟨rfl, by decide, Nat.le_of_ble_eq_true rfl⟩ h0.1 fun v103 S104 => ?_
  refine tt_st (M := MX11_liftsOut) (pc := 13) [some (.ref 90), some (.int (I l1)), some (.int (I l2)), some (.int (I v101)), some (.int (I v103)), u5] dX11_liftsOut_13 rfl rfl rfl rfl rfl rfl ?_
  refine tt_ld (M := MX11_liftsOut) (pc := 15) dX11_liftsOut_15 rfl rfl rfl rfl rfl ?_
  refine tt_st (M := MX11_liftsOut) (pc := 16) [some (.ref 90), some (.int (I l1)), some (.int (I l2)), some (.int (I v101)), some (.int (I v103)), some (.int (I v101))] dX11_liftsOut_16 rfl rfl rfl rfl rfl rfl ?_
  exact id
theorem qX11_liftsOut_18 {sc : Nat × (Nat → Int32)} {SH : List mCell} {S : mStore} {r : mR × mW} (h0 : sMod SH) {l1 : Int} {l2 : Int} {l3 : Int} {l4 : Int} {l5 : Int} : ((if I l4 ≤ I l5 then (∃ S101, G sc MX11_cutsOut 0 [some (.ref 90), some (.int (I l1)), some (.int (I l2)), none] [] SH S (rV SH S101) ∧ r = rV SH S101) else (((0 : Int) ≤ (l1 + 49) + l5 ∧ (l1 + 49) + l5 < 137400) ∧ (((0 : Int) ≤ (l1 + 49) + l5 ∧ (l1 + 49) + l5 < 137400) ∧ G sc MX11_liftsOut 18 [some (.ref 90), some (.int (I l1)), some (.int (I l2)), some (.int (I l3)), some (.int (I l4)), some (.int (I (l5 + 1)))] [] SH (up S 91 ((l1 + 49) + l5) ((S 91 ((l1 + 49) + l5)) - 1)) r)))) → G sc MX11_liftsOut 18 [some (.ref 90), some (.int (I l1)), some (.int (I l2)), some (.int (I l3)), some (.int (I l4)), some (.int (I l5))] [] SH S r := by
  refine tt_ld (M := MX11_liftsOut) (pc := 18) dX11_liftsOut_18 rfl rfl rfl rfl rfl ?_
  refine tt_ld (M := MX11_liftsOut) (pc := 20) dX11_liftsOut_20 rfl rfl rfl rfl rfl ?_
  refine tt_ic_ge (M := MX11_liftsOut) (pc := 22) 47 dX11_liftsOut_22 rfl ?_ ?_
  · refine tt_ld (M := MX11_liftsOut) (pc := 47) dX11_liftsOut_47 rfl rfl rfl rfl rfl ?_
    refine tt_ld (M := MX11_liftsOut) (pc := 48) dX11_liftsOut_48 rfl rfl rfl rfl rfl ?_
    refine tt_ld (M := MX11_liftsOut) (pc := 49) dX11_liftsOut_49 rfl rfl rfl rfl rfl ?_
    refine tt_vcVN (M := MX11_liftsOut) (pc := 50) dX11_liftsOut_50 rfl rfl [] rfl rfl ⟨rfl, by decide, Nat.le_of_ble_eq_true rfl⟩ h0.1 fun S101 => ?_
    exact tt_ret (M := MX11_liftsOut) (pc := 53) dX11_liftsOut_53 rfl
  · refine tt_ld (M := MX11_liftsOut) (pc := 25) dX11_liftsOut_25 rfl rfl rfl rfl rfl ?_
    refine tt_getR (M := MX11_liftsOut) (pc := 26) dX11_liftsOut_26 rfl h0.1 rfl ?_
    refine tt_ld (M := MX11_liftsOut) (pc := 29) dX11_liftsOut_29 rfl rfl rfl rfl rfl ?_
    refine tt_bipush (M := MX11_liftsOut) (pc := 30) dX11_liftsOut_30 (by decide) ?_
    refine tt_iadd (M := MX11_liftsOut) (pc := 32) dX11_liftsOut_32 ?_
    refine tt_ld (M := MX11_liftsOut) (pc := 33) dX11_liftsOut_33 rfl rfl rfl rfl rfl ?_
    refine tt_iadd (M := MX11_liftsOut) (pc := 35) dX11_liftsOut_35 ?_
    refine tt_dup2 (M := MX11_liftsOut) (pc := 36) dX11_liftsOut_36 rfl rfl ?_
    refine tt_iaload (M := MX11_liftsOut) (pc := 37) dX11_liftsOut_37 h0.2.1 rfl ?_
    refine tt_iconst (M := MX11_liftsOut) (pc := 38) dX11_liftsOut_38 ?_
    refine tt_isub (M := MX11_liftsOut) (pc := 39) dX11_liftsOut_39 ?_
    refine tt_iastore (M := MX11_liftsOut) (pc := 40) dX11_liftsOut_40 h0.2.1 rfl ?_
    refine tt_iinc (M := MX11_liftsOut) (pc := 41) [some (.ref 90), some (.int (I l1)), some (.int (I l2)), some (.int (I l3)), some (.int (I l4)), some (.int (I (l5 + 1)))] dX11_liftsOut_41 rfl rfl ?_
    refine tt_goto (M := MX11_liftsOut) (pc := 44) 18 dX11_liftsOut_44 rfl ?_
    exact id
theorem qX11_takesOut_0 {sc : Nat × (Nat → Int32)} {SH : List mCell} {S : mStore} {r : mR × mW} (h0 : sMod SH) {l1 : Int} {l2 : Int} {u3 : Option Value} : ((∃ v101 S102, G sc MX11_begin 0 [some (.ref 90), some (.int (I l1)), some (.int (I l2)), none] [] SH S (rI v101 SH S102) ∧ (if I v101 = I l2 then (∃ S103, G sc MX11_liftsOut 0 [some (.ref 90), some (.int (I l1)), some (.int (I l2)), none, none, none] [] SH S102 (rV SH S103) ∧ r = rV SH S103) else (∃ v104 S105, G sc MX11_end 0 [some (.ref 90), some (.int (I l1)), some (.int (I l2)), none] [] SH S102 (rI v104 SH S105) ∧ (if I v104 = I (l2 + 1) then (∃ S107, G sc MX11_liftsOut 0 [some (.ref 90), some (.int (I l1)), some (.int (I l2)), none, none, none] [] SH S105 (rV SH S107) ∧ r = rV SH S107) else (((0 : Int) ≤ ((l1 + 1) + l2) + 1 ∧ ((l1 + 1) + l2) + 1 < 137400) ∧ (∃ S106, G sc MX11_liftsOut 0 [some (.ref 90), some (.int (I l1)), some (.int (I (l2 + 1))), none, none, none] [] SH S105 (rV SH S106) ∧ (((0 : Int) ≤ (l1 + 1) + l2 ∧ (l1 + 1) + l2 < 137400) ∧ r = rV SH (up S106 91 ((l1 + 1) + l2) (S105 91 (((l1 + 1) + l2) + 1))))))))))) → G sc MX11_takesOut 0 [some (.ref 90), some (.int (I l1)), some (.int (I l2)), u3] [] SH S r := by
  refine tt_ld (M := MX11_takesOut) (pc := 0) dX11_takesOut_0 rfl rfl rfl rfl rfl ?_
  refine tt_ld (M := MX11_takesOut) (pc := 1) dX11_takesOut_1 rfl rfl rfl rfl rfl ?_
  refine tt_ld (M := MX11_takesOut) (pc := 2) dX11_takesOut_2 rfl rfl rfl rfl rfl ?_
  refine tt_vcIN (M := MX11_takesOut) (pc := 3) dX11_takesOut_3 rfl rfl [] rfl rfl ⟨rfl, by decide, Nat.le_of_ble_eq_true rfl⟩ h0.1 fun v101 S102 => ?_
  refine tt_ld (M := MX11_takesOut) (pc := 6) dX11_takesOut_6 rfl rfl rfl rfl rfl ?_
  refine tt_ic_eq (M := MX11_takesOut) (pc := 7) 22 dX11_takesOut_7 rfl ?_ ?_
  · refine tt_ld (M := MX11_takesOut) (pc := 22) dX11_takesOut_22 rfl rfl rfl rfl rfl ?_
    refine tt_ld (M := MX11_takesOut) (pc := 23) dX11_takesOut_23 rfl rfl rfl rfl rfl ?_
    refine tt_ld (M := MX11_takesOut) (pc := 24) dX11_takesOut_24 rfl rfl rfl rfl rfl ?_
    refine tt_vcVN (M := MX11_takesOut) (pc := 25) dX11_takesOut_25 rfl rfl [] rfl rfl ⟨rfl, by decide, Nat.le_of_ble_eq_true rfl⟩ h0.1 fun S103 => ?_
    exact tt_ret (M := MX11_takesOut) (pc := 28) dX11_takesOut_28 rfl
  · refine tt_ld (M := MX11_takesOut) (pc := 10) dX11_takesOut_10 rfl rfl rfl rfl rfl ?_
    refine tt_ld (M := MX11_takesOut) (pc := 11) dX11_takesOut_11 rfl rfl rfl rfl rfl ?_
    refine tt_ld (M := MX11_takesOut) (pc := 12) dX11_takesOut_12 rfl rfl rfl rfl rfl ?_
    refine tt_vcIN (M := MX11_takesOut) (pc := 13) dX11_takesOut_13 rfl rfl [] rfl rfl ⟨rfl, by decide, Nat.le_of_ble_eq_true rfl⟩ h0.1 fun v104 S105 => ?_
    refine tt_ld (M := MX11_takesOut) (pc := 16) dX11_takesOut_16 rfl rfl rfl rfl rfl ?_
    refine tt_iconst (M := MX11_takesOut) (pc := 17) dX11_takesOut_17 ?_
    refine tt_iadd (M := MX11_takesOut) (pc := 18) dX11_takesOut_18 ?_
    refine tt_ic_ne (M := MX11_takesOut) (pc := 19) 29 dX11_takesOut_19 rfl ?_ ?_
    · refine tt_ld (M := MX11_takesOut) (pc := 29) dX11_takesOut_29 rfl rfl rfl rfl rfl ?_
      refine tt_getR (M := MX11_takesOut) (pc := 30) dX11_takesOut_30 rfl h0.1 rfl ?_
      refine tt_ld (M := MX11_takesOut) (pc := 33) dX11_takesOut_33 rfl rfl rfl rfl rfl ?_
      refine tt_iconst (M := MX11_takesOut) (pc := 34) dX11_takesOut_34 ?_
      refine tt_iadd (M := MX11_takesOut) (pc := 35) dX11_takesOut_35 ?_
      refine tt_ld (M := MX11_takesOut) (pc := 36) dX11_takesOut_36 rfl rfl rfl rfl rfl ?_
      refine tt_iadd (M := MX11_takesOut) (pc := 37) dX11_takesOut_37 ?_
      refine tt_iconst (M := MX11_takesOut) (pc := 38) dX11_takesOut_38 ?_
      refine tt_iadd (M := MX11_takesOut) (pc := 39) dX11_takesOut_39 ?_
      refine tt_iaload (M := MX11_takesOut) (pc := 40) dX11_takesOut_40 h0.2.1 rfl ?_
      refine tt_st (M := MX11_takesOut) (pc := 41) [some (.ref 90), some (.int (I l1)), some (.int (I l2)), some (.int (I (S105 91 (((l1 + 1) + l2) + 1))))] dX11_takesOut_41 rfl rfl rfl rfl rfl rfl ?_
      refine tt_ld (M := MX11_takesOut) (pc := 42) dX11_takesOut_42 rfl rfl rfl rfl rfl ?_
      refine tt_ld (M := MX11_takesOut) (pc := 43) dX11_takesOut_43 rfl rfl rfl rfl rfl ?_
      refine tt_ld (M := MX11_takesOut) (pc := 44) dX11_takesOut_44 rfl rfl rfl rfl rfl ?_
      refine tt_iconst (M := MX11_takesOut) (pc := 45) dX11_takesOut_45 ?_
      refine tt_iadd (M := MX11_takesOut) (pc := 46) dX11_takesOut_46 ?_
      refine tt_vcVN (M := MX11_takesOut) (pc := 47) dX11_takesOut_47 rfl rfl [] rfl rfl ⟨rfl, by decide, Nat.le_of_ble_eq_true rfl⟩ h0.1 fun S106 => ?_
      refine tt_ld (M := MX11_takesOut) (pc := 50) dX11_takesOut_50 rfl rfl rfl rfl rfl ?_
      refine tt_getR (M := MX11_takesOut) (pc := 51) dX11_takesOut_51 rfl h0.1 rfl ?_
      refine tt_ld (M := MX11_takesOut) (pc := 54) dX11_takesOut_54 rfl rfl rfl rfl rfl ?_
      refine tt_iconst (M := MX11_takesOut) (pc := 55) dX11_takesOut_55 ?_
      refine tt_iadd (M := MX11_takesOut) (pc := 56) dX11_takesOut_56 ?_
      refine tt_ld (M := MX11_takesOut) (pc := 57) dX11_takesOut_57 rfl rfl rfl rfl rfl ?_
      refine tt_iadd (M := MX11_takesOut) (pc := 58) dX11_takesOut_58 ?_
      refine tt_ld (M := MX11_takesOut) (pc := 59) dX11_takesOut_59 rfl rfl rfl rfl rfl ?_
      refine tt_iastore (M := MX11_takesOut) (pc := 60) dX11_takesOut_60 h0.2.1 rfl ?_
      exact tt_ret (M := MX11_takesOut) (pc := 61) dX11_takesOut_61 rfl
    · refine tt_ld (M := MX11_takesOut) (pc := 22) dX11_takesOut_22 rfl rfl rfl rfl rfl ?_
      refine tt_ld (M := MX11_takesOut) (pc := 23) dX11_takesOut_23 rfl rfl rfl rfl rfl ?_
      refine tt_ld (M := MX11_takesOut) (pc := 24) dX11_takesOut_24 rfl rfl rfl rfl rfl ?_
      refine tt_vcVN (M := MX11_takesOut) (pc := 25) dX11_takesOut_25 rfl rfl [] rfl rfl ⟨rfl, by decide, Nat.le_of_ble_eq_true rfl⟩ h0.1 fun S107 => ?_
      exact tt_ret (M := MX11_takesOut) (pc := 28) dX11_takesOut_28 rfl
theorem qX11_seeks_0 {sc : Nat × (Nat → Int32)} {SH : List mCell} {S : mStore} {r : mR × mW} (h0 : sMod SH) {l1 : Int} {l2 : Int} {u3 : Option Value} : (G sc MX11_seeks 2 [some (.ref 90), some (.int (I l1)), some (.int (I l2)), some (.int (I 0))] [] SH S r) → G sc MX11_seeks 0 [some (.ref 90), some (.int (I l1)), some (.int (I l2)), u3] [] SH S r := by
  refine tt_iconst (M := MX11_seeks) (pc := 0) dX11_seeks_0 ?_
  refine tt_st (M := MX11_seeks) (pc := 1) [some (.ref 90), some (.int (I l1)), some (.int (I l2)), some (.int (I 0))] dX11_seeks_1 rfl rfl rfl rfl rfl rfl ?_
  exact id
theorem qX11_seeks_2 {sc : Nat × (Nat → Int32)} {SH : List mCell} {S : mStore} {r : mR × mW} (h0 : sMod SH) {l1 : Int} {l2 : Int} {l3 : Int} : ((if I 4 ≤ I l3 then r = rV SH S else (∃ v101 S102, G sc MX11_cellOf 0 [some (.ref 90), some (.int (I l1)), some (.int (I l2)), some (.int (I l3)), none] [] SH S (rI v101 SH S102) ∧ (((0 : Int) ≤ l3 ∧ l3 < 4) ∧ G sc MX11_seeks 2 [some (.ref 90), some (.int (I l1)), some (.int (I l2)), some (.int (I (l3 + 1)))] [] SH (up S102 100 l3 v101) r)))) → G sc MX11_seeks 2 [some (.ref 90), some (.int (I l1)), some (.int (I l2)), some (.int (I l3))] [] SH S r := by
  refine tt_ld (M := MX11_seeks) (pc := 2) dX11_seeks_2 rfl rfl rfl rfl rfl ?_
  refine tt_iconst (M := MX11_seeks) (pc := 3) dX11_seeks_3 ?_
  refine tt_ic_ge (M := MX11_seeks) (pc := 4) 26 dX11_seeks_4 rfl ?_ ?_
  · exact tt_ret (M := MX11_seeks) (pc := 26) dX11_seeks_26 rfl
  · refine tt_ld (M := MX11_seeks) (pc := 7) dX11_seeks_7 rfl rfl rfl rfl rfl ?_
    refine tt_getR (M := MX11_seeks) (pc := 8) dX11_seeks_8 rfl h0.1 rfl ?_
    refine tt_ld (M := MX11_seeks) (pc := 11) dX11_seeks_11 rfl rfl rfl rfl rfl ?_
    refine tt_ld (M := MX11_seeks) (pc := 12) dX11_seeks_12 rfl rfl rfl rfl rfl ?_
    refine tt_ld (M := MX11_seeks) (pc := 13) dX11_seeks_13 rfl rfl rfl rfl rfl ?_
    refine tt_ld (M := MX11_seeks) (pc := 14) dX11_seeks_14 rfl rfl rfl rfl rfl ?_
    refine tt_ld (M := MX11_seeks) (pc := 15) dX11_seeks_15 rfl rfl rfl rfl rfl ?_
    refine tt_vcIN (M := MX11_seeks) (pc := 16) dX11_seeks_16 rfl rfl [.int (I l3), .ref 100] rfl rfl ⟨rfl, by decide, Nat.le_of_ble_eq_true rfl⟩ h0.1 fun v101 S102 => ?_
    refine tt_iastore (M := MX11_seeks) (pc := 19) dX11_seeks_19 h0.2.2.2.2.2.2.2.2.2.2.1 rfl ?_
    refine tt_iinc (M := MX11_seeks) (pc := 20) [some (.ref 90), some (.int (I l1)), some (.int (I l2)), some (.int (I (l3 + 1)))] dX11_seeks_20 rfl rfl ?_
    refine tt_goto (M := MX11_seeks) (pc := 23) 2 dX11_seeks_23 rfl ?_
    exact id
theorem qX11_top_0 {sc : Nat × (Nat → Int32)} {SH : List mCell} {S : mStore} {r : mR × mW} (h0 : sMod SH) {l1 : Int} {l2 : Int} {l3 : Int} {l4 : Int} {u5 : Option Value} : (G sc MX11_top 3 [some (.ref 90), some (.int (I l1)), some (.int (I l2)), some (.int (I l3)), some (.int (I l4)), some (.int (I l2))] [] SH S r) → G sc MX11_top 0 [some (.ref 90), some (.int (I l1)), some (.int (I l2)), some (.int (I l3)), some (.int (I l4)), u5] [] SH S r := by
  refine tt_ld (M := MX11_top) (pc := 0) dX11_top_0 rfl rfl rfl rfl rfl ?_
  refine tt_st (M := MX11_top) (pc := 1) [some (.ref 90), some (.int (I l1)), some (.int (I l2)), some (.int (I l3)), some (.int (I l4)), some (.int (I l2))] dX11_top_1 rfl rfl rfl rfl rfl rfl ?_
  exact id
theorem qX11_top_3 {sc : Nat × (Nat → Int32)} {SH : List mCell} {S : mStore} {r : mR × mW} (h0 : sMod SH) {l1 : Int} {l2 : Int} {l3 : Int} {l4 : Int} {l5 : Int} : ((if I l3 ≤ I l5 then r = rI l5 SH S else (((0 : Int) ≤ (l1 + 49) + l5 ∧ (l1 + 49) + l5 < 137400) ∧ (if I (S 91 ((l1 + 49) + l5)) = I l4 then r = rI l5 SH S else G sc MX11_top 3 [some (.ref 90), some (.int (I l1)), some (.int (I l2)), some (.int (I l3)), some (.int (I l4)), some (.int (I (l5 + 1)))] [] SH S r)))) → G sc MX11_top 3 [some (.ref 90), some (.int (I l1)), some (.int (I l2)), some (.int (I l3)), some (.int (I l4)), some (.int (I l5))] [] SH S r := by
  refine tt_ld (M := MX11_top) (pc := 3) dX11_top_3 rfl rfl rfl rfl rfl ?_
  refine tt_ld (M := MX11_top) (pc := 5) dX11_top_5 rfl rfl rfl rfl rfl ?_
  refine tt_ic_ge (M := MX11_top) (pc := 6) 32 dX11_top_6 rfl ?_ ?_
  · refine tt_ld (M := MX11_top) (pc := 32) dX11_top_32 rfl rfl rfl rfl rfl ?_
    exact tt_iret (M := MX11_top) (pc := 34) dX11_top_34 rfl
  · refine tt_ld (M := MX11_top) (pc := 9) dX11_top_9 rfl rfl rfl rfl rfl ?_
    refine tt_getR (M := MX11_top) (pc := 10) dX11_top_10 rfl h0.1 rfl ?_
    refine tt_ld (M := MX11_top) (pc := 13) dX11_top_13 rfl rfl rfl rfl rfl ?_
    refine tt_bipush (M := MX11_top) (pc := 14) dX11_top_14 (by decide) ?_
    refine tt_iadd (M := MX11_top) (pc := 16) dX11_top_16 ?_
    refine tt_ld (M := MX11_top) (pc := 17) dX11_top_17 rfl rfl rfl rfl rfl ?_
    refine tt_iadd (M := MX11_top) (pc := 19) dX11_top_19 ?_
    refine tt_iaload (M := MX11_top) (pc := 20) dX11_top_20 h0.2.1 rfl ?_
    refine tt_ld (M := MX11_top) (pc := 21) dX11_top_21 rfl rfl rfl rfl rfl ?_
    refine tt_ic_eq (M := MX11_top) (pc := 23) 32 dX11_top_23 rfl ?_ ?_
    · refine tt_ld (M := MX11_top) (pc := 32) dX11_top_32 rfl rfl rfl rfl rfl ?_
      exact tt_iret (M := MX11_top) (pc := 34) dX11_top_34 rfl
    · refine tt_iinc (M := MX11_top) (pc := 26) [some (.ref 90), some (.int (I l1)), some (.int (I l2)), some (.int (I l3)), some (.int (I l4)), some (.int (I (l5 + 1)))] dX11_top_26 rfl rfl ?_
      refine tt_goto (M := MX11_top) (pc := 29) 3 dX11_top_29 rfl ?_
      exact id
theorem qX11_compares_0 {sc : Nat × (Nat → Int32)} {SH : List mCell} {S : mStore} {r : mR × mW} (h0 : sMod SH) {l1 : Int} {l2 : Int} {u3 : Option Value} {u4 : Option Value} : (G sc MX11_compares 2 [some (.ref 90), some (.int (I l1)), some (.int (I l2)), some (.int (I 0)), u4] [] SH S r) → G sc MX11_compares 0 [some (.ref 90), some (.int (I l1)), some (.int (I l2)), u3, u4] [] SH S r := by
  refine tt_iconst (M := MX11_compares) (pc := 0) dX11_compares_0 ?_
  refine tt_st (M := MX11_compares) (pc := 1) [some (.ref 90), some (.int (I l1)), some (.int (I l2)), some (.int (I 0)), u4] dX11_compares_1 rfl rfl rfl rfl rfl rfl ?_
  exact id
theorem qX11_compares_2 {sc : Nat × (Nat → Int32)} {SH : List mCell} {S : mStore} {r : mR × mW} (h0 : sMod SH) {l1 : Int} {l2 : Int} {l3 : Int} {u4 : Option Value} : ((if I 4 ≤ I l3 then r = rI 0 SH S else (((0 : Int) ≤ l1 + 3 ∧ l1 + 3 < 137400) ∧ (((0 : Int) ≤ l1 + 3 ∧ l1 + 3 < 137400) ∧ (((0 : Int) ≤ l3 ∧ l3 < 4) ∧ (((0 : Int) ≤ (l1 + l2) + l3 ∧ (l1 + l2) + l3 < 137400) ∧ (if I (((up S 91 (l1 + 3) ((S 91 (l1 + 3)) + 1)) 100 l3) - ((up S 91 (l1 + 3) ((S 91 (l1 + 3)) + 1)) 91 ((l1 + l2) + l3))) = I 0 then G sc MX11_compares 2 [some (.ref 90), some (.int (I l1)), some (.int (I l2)), some (.int (I (l3 + 1))), some (.int (I (((up S 91 (l1 + 3) ((S 91 (l1 + 3)) + 1)) 100 l3) - ((up S 91 (l1 + 3) ((S 91 (l1 + 3)) + 1)) 91 ((l1 + l2) + l3)))))] [] SH (up S 91 (l1 + 3) ((S 91 (l1 + 3)) + 1)) r else r = rI (((up S 91 (l1 + 3) ((S 91 (l1 + 3)) + 1)) 100 l3) - ((up S 91 (l1 + 3) ((S 91 (l1 + 3)) + 1)) 91 ((l1 + l2) + l3))) SH (up S 91 (l1 + 3) ((S 91 (l1 + 3)) + 1))))))))) → G sc MX11_compares 2 [some (.ref 90), some (.int (I l1)), some (.int (I l2)), some (.int (I l3)), u4] [] SH S r := by
  refine tt_ld (M := MX11_compares) (pc := 2) dX11_compares_2 rfl rfl rfl rfl rfl ?_
  refine tt_iconst (M := MX11_compares) (pc := 3) dX11_compares_3 ?_
  refine tt_ic_ge (M := MX11_compares) (pc := 4) 52 dX11_compares_4 rfl ?_ ?_
  · refine tt_iconst (M := MX11_compares) (pc := 52) dX11_compares_52 ?_
    exact tt_iret (M := MX11_compares) (pc := 53) dX11_compares_53 rfl
  · refine tt_ld (M := MX11_compares) (pc := 7) dX11_compares_7 rfl rfl rfl rfl rfl ?_
    refine tt_getR (M := MX11_compares) (pc := 8) dX11_compares_8 rfl h0.1 rfl ?_
    refine tt_ld (M := MX11_compares) (pc := 11) dX11_compares_11 rfl rfl rfl rfl rfl ?_
    refine tt_iconst (M := MX11_compares) (pc := 12) dX11_compares_12 ?_
    refine tt_iadd (M := MX11_compares) (pc := 13) dX11_compares_13 ?_
    refine tt_dup2 (M := MX11_compares) (pc := 14) dX11_compares_14 rfl rfl ?_
    refine tt_iaload (M := MX11_compares) (pc := 15) dX11_compares_15 h0.2.1 rfl ?_
    refine tt_iconst (M := MX11_compares) (pc := 16) dX11_compares_16 ?_
    refine tt_iadd (M := MX11_compares) (pc := 17) dX11_compares_17 ?_
    refine tt_iastore (M := MX11_compares) (pc := 18) dX11_compares_18 h0.2.1 rfl ?_
    refine tt_ld (M := MX11_compares) (pc := 19) dX11_compares_19 rfl rfl rfl rfl rfl ?_
    refine tt_getR (M := MX11_compares) (pc := 20) dX11_compares_20 rfl h0.1 rfl ?_
    refine tt_ld (M := MX11_compares) (pc := 23) dX11_compares_23 rfl rfl rfl rfl rfl ?_
    refine tt_iaload (M := MX11_compares) (pc := 24) dX11_compares_24 h0.2.2.2.2.2.2.2.2.2.2.1 rfl ?_
    refine tt_ld (M := MX11_compares) (pc := 25) dX11_compares_25 rfl rfl rfl rfl rfl ?_
    refine tt_getR (M := MX11_compares) (pc := 26) dX11_compares_26 rfl h0.1 rfl ?_
    refine tt_ld (M := MX11_compares) (pc := 29) dX11_compares_29 rfl rfl rfl rfl rfl ?_
    refine tt_ld (M := MX11_compares) (pc := 30) dX11_compares_30 rfl rfl rfl rfl rfl ?_
    refine tt_iadd (M := MX11_compares) (pc := 31) dX11_compares_31 ?_
    refine tt_ld (M := MX11_compares) (pc := 32) dX11_compares_32 rfl rfl rfl rfl rfl ?_
    refine tt_iadd (M := MX11_compares) (pc := 33) dX11_compares_33 ?_
    refine tt_iaload (M := MX11_compares) (pc := 34) dX11_compares_34 h0.2.1 rfl ?_
    refine tt_isub (M := MX11_compares) (pc := 35) dX11_compares_35 ?_
    refine tt_st (M := MX11_compares) (pc := 36) [some (.ref 90), some (.int (I l1)), some (.int (I l2)), some (.int (I l3)), some (.int (I (((up S 91 (l1 + 3) ((S 91 (l1 + 3)) + 1)) 100 l3) - ((up S 91 (l1 + 3) ((S 91 (l1 + 3)) + 1)) 91 ((l1 + l2) + l3)))))] dX11_compares_36 rfl rfl rfl rfl rfl rfl ?_
    refine tt_ld (M := MX11_compares) (pc := 38) dX11_compares_38 rfl rfl rfl rfl rfl ?_
    refine tt_if_eq (M := MX11_compares) (pc := 40) 46 dX11_compares_40 rfl ?_ ?_
    · refine tt_iinc (M := MX11_compares) (pc := 46) [some (.ref 90), some (.int (I l1)), some (.int (I l2)), some (.int (I (l3 + 1))), some (.int (I (((up S 91 (l1 + 3) ((S 91 (l1 + 3)) + 1)) 100 l3) - ((up S 91 (l1 + 3) ((S 91 (l1 + 3)) + 1)) 91 ((l1 + l2) + l3)))))] dX11_compares_46 rfl rfl ?_
      refine tt_goto (M := MX11_compares) (pc := 49) 2 dX11_compares_49 rfl ?_
      exact id
    · refine tt_ld (M := MX11_compares) (pc := 43) dX11_compares_43 rfl rfl rfl rfl rfl ?_
      exact tt_iret (M := MX11_compares) (pc := 45) dX11_compares_45 rfl
theorem qX11_cellsOf_0 {sc : Nat × (Nat → Int32)} {SH : List mCell} {S : mStore} {r : mR × mW} (h0 : sMod SH) {l1 : Int} {l2 : Int} {l3 : Int} {u4 : Option Value} : ((if I l2 = I 0 then (((0 : Int) ≤ (l1 + 16) + l3 ∧ (l1 + 16) + l3 < 137400) ∧ (if I (S 91 ((l1 + 16) + l3)) = I (-1) then r = rI (-1) SH S else r = rI (352 + (4 * (S 91 ((l1 + 16) + l3)))) SH S)) else (∃ v101 S102, G sc MX11_frameAt 0 [some (.ref 90), some (.int (I l1)), some (.int (I l3)), some (.int (I 0)), none, none, none] [] SH S (rI v101 SH S102) ∧ (if I v101 = I (-1) then r = rI (-1) SH S102 else r = rI (352 + (4 * v101)) SH S102)))) → G sc MX11_cellsOf 0 [some (.ref 90), some (.int (I l1)), some (.int (I l2)), some (.int (I l3)), u4] [] SH S r := by
  refine tt_ld (M := MX11_cellsOf) (pc := 0) dX11_cellsOf_0 rfl rfl rfl rfl rfl ?_
  refine tt_if_eq (M := MX11_cellsOf) (pc := 1) 14 dX11_cellsOf_1 rfl ?_ ?_
  · refine tt_ld (M := MX11_cellsOf) (pc := 14) dX11_cellsOf_14 rfl rfl rfl rfl rfl ?_
    refine tt_getR (M := MX11_cellsOf) (pc := 15) dX11_cellsOf_15 rfl h0.1 rfl ?_
    refine tt_ld (M := MX11_cellsOf) (pc := 18) dX11_cellsOf_18 rfl rfl rfl rfl rfl ?_
    refine tt_bipush (M := MX11_cellsOf) (pc := 19) dX11_cellsOf_19 (by decide) ?_
    refine tt_iadd (M := MX11_cellsOf) (pc := 21) dX11_cellsOf_21 ?_
    refine tt_ld (M := MX11_cellsOf) (pc := 22) dX11_cellsOf_22 rfl rfl rfl rfl rfl ?_
    refine tt_iadd (M := MX11_cellsOf) (pc := 23) dX11_cellsOf_23 ?_
    refine tt_iaload (M := MX11_cellsOf) (pc := 24) dX11_cellsOf_24 h0.2.1 rfl ?_
    refine tt_st (M := MX11_cellsOf) (pc := 25) [some (.ref 90), some (.int (I l1)), some (.int (I l2)), some (.int (I l3)), some (.int (I (S 91 ((l1 + 16) + l3))))] dX11_cellsOf_25 rfl rfl rfl rfl rfl rfl ?_
    refine tt_ld (M := MX11_cellsOf) (pc := 27) dX11_cellsOf_27 rfl rfl rfl rfl rfl ?_
    refine tt_iconst (M := MX11_cellsOf) (pc := 29) dX11_cellsOf_29 ?_
    refine tt_ic_ne (M := MX11_cellsOf) (pc := 30) 37 dX11_cellsOf_30 rfl ?_ ?_
    · refine tt_sipush (M := MX11_cellsOf) (pc := 37) dX11_cellsOf_37 (by decide) ?_
      refine tt_iconst (M := MX11_cellsOf) (pc := 40) dX11_cellsOf_40 ?_
      refine tt_ld (M := MX11_cellsOf) (pc := 41) dX11_cellsOf_41 rfl rfl rfl rfl rfl ?_
      refine tt_imul (M := MX11_cellsOf) (pc := 43) dX11_cellsOf_43 ?_
      refine tt_iadd (M := MX11_cellsOf) (pc := 44) dX11_cellsOf_44 ?_
      exact tt_iret (M := MX11_cellsOf) (pc := 45) dX11_cellsOf_45 rfl
    · refine tt_iconst (M := MX11_cellsOf) (pc := 33) dX11_cellsOf_33 ?_
      refine tt_goto (M := MX11_cellsOf) (pc := 34) 45 dX11_cellsOf_34 rfl ?_
      exact tt_iret (M := MX11_cellsOf) (pc := 45) dX11_cellsOf_45 rfl
  · refine tt_ld (M := MX11_cellsOf) (pc := 4) dX11_cellsOf_4 rfl rfl rfl rfl rfl ?_
    refine tt_ld (M := MX11_cellsOf) (pc := 5) dX11_cellsOf_5 rfl rfl rfl rfl rfl ?_
    refine tt_ld (M := MX11_cellsOf) (pc := 6) dX11_cellsOf_6 rfl rfl rfl rfl rfl ?_
    refine tt_iconst (M := MX11_cellsOf) (pc := 7) dX11_cellsOf_7 ?_
    refine tt_vcIN (M := MX11_cellsOf) (pc := 8) dX11_cellsOf_8 rfl rfl [] rfl rfl ⟨rfl, by decide, Nat.le_of_ble_eq_true rfl⟩ h0.1 fun v101 S102 => ?_
    refine tt_goto (M := MX11_cellsOf) (pc := 11) 25 dX11_cellsOf_11 rfl ?_
    refine tt_st (M := MX11_cellsOf) (pc := 25) [some (.ref 90), some (.int (I l1)), some (.int (I l2)), some (.int (I l3)), some (.int (I v101))] dX11_cellsOf_25 rfl rfl rfl rfl rfl rfl ?_
    refine tt_ld (M := MX11_cellsOf) (pc := 27) dX11_cellsOf_27 rfl rfl rfl rfl rfl ?_
    refine tt_iconst (M := MX11_cellsOf) (pc := 29) dX11_cellsOf_29 ?_
    refine tt_ic_ne (M := MX11_cellsOf) (pc := 30) 37 dX11_cellsOf_30 rfl ?_ ?_
    · refine tt_sipush (M := MX11_cellsOf) (pc := 37) dX11_cellsOf_37 (by decide) ?_
      refine tt_iconst (M := MX11_cellsOf) (pc := 40) dX11_cellsOf_40 ?_
      refine tt_ld (M := MX11_cellsOf) (pc := 41) dX11_cellsOf_41 rfl rfl rfl rfl rfl ?_
      refine tt_imul (M := MX11_cellsOf) (pc := 43) dX11_cellsOf_43 ?_
      refine tt_iadd (M := MX11_cellsOf) (pc := 44) dX11_cellsOf_44 ?_
      exact tt_iret (M := MX11_cellsOf) (pc := 45) dX11_cellsOf_45 rfl
    · refine tt_iconst (M := MX11_cellsOf) (pc := 33) dX11_cellsOf_33 ?_
      refine tt_goto (M := MX11_cellsOf) (pc := 34) 45 dX11_cellsOf_34 rfl ?_
      exact tt_iret (M := MX11_cellsOf) (pc := 45) dX11_cellsOf_45 rfl
theorem qX11_searches_0 {sc : Nat × (Nat → Int32)} {SH : List mCell} {S : mStore} {r : mR × mW} (h0 : sMod SH) {l1 : Int} {l2 : Int} {l3 : Int} {u4 : Option Value} {u5 : Option Value} {u6 : Option Value} {u7 : Option Value} {u8 : Option Value} : ((((0 : Int) ≤ l2 ∧ l2 < 137400) ∧ ((I 0 = I 0 ∨ I 0 = I 1) ∧ G sc MX11_searches 26 [some (.ref 90), some (.int (I l1)), some (.int (I l2)), some (.int (I l3)), some (.int (I 0)), some (.int (I (S 91 l2))), u6, u7, u8] [] SH (up (up (up S 90 30 (-1)) 90 31 0) 90 29 0) r))) → G sc MX11_searches 0 [some (.ref 90), some (.int (I l1)), some (.int (I l2)), some (.int (I l3)), u4, u5, u6, u7, u8] [] SH S r := by
  refine tt_iconst (M := MX11_searches) (pc := 0) dX11_searches_0 ?_
  refine tt_st (M := MX11_searches) (pc := 1) [some (.ref 90), some (.int (I l1)), some (.int (I l2)), some (.int (I l3)), some (.int (I 0)), u5, u6, u7, u8] dX11_searches_1 rfl rfl rfl rfl rfl rfl ?_
  refine tt_ld (M := MX11_searches) (pc := 3) dX11_searches_3 rfl rfl rfl rfl rfl ?_
  refine tt_getR (M := MX11_searches) (pc := 4) dX11_searches_4 rfl h0.1 rfl ?_
  refine tt_ld (M := MX11_searches) (pc := 7) dX11_searches_7 rfl rfl rfl rfl rfl ?_
  refine tt_iaload (M := MX11_searches) (pc := 8) dX11_searches_8 h0.2.1 rfl ?_
  refine tt_st (M := MX11_searches) (pc := 9) [some (.ref 90), some (.int (I l1)), some (.int (I l2)), some (.int (I l3)), some (.int (I 0)), some (.int (I (S 91 l2))), u6, u7, u8] dX11_searches_9 rfl rfl rfl rfl rfl rfl ?_
  refine tt_ld (M := MX11_searches) (pc := 11) dX11_searches_11 rfl rfl rfl rfl rfl ?_
  refine tt_iconst (M := MX11_searches) (pc := 12) dX11_searches_12 ?_
  refine tt_putI (M := MX11_searches) (pc := 13) dX11_searches_13 rfl rfl (Or.inl rfl) h0.1 rfl ?_
  refine tt_ld (M := MX11_searches) (pc := 16) dX11_searches_16 rfl rfl rfl rfl rfl ?_
  refine tt_iconst (M := MX11_searches) (pc := 17) dX11_searches_17 ?_
  refine tt_putZ (M := MX11_searches) (pc := 18) dX11_searches_18 rfl rfl (Or.inl rfl) h0.1 rfl ?_
  refine tt_ld (M := MX11_searches) (pc := 21) dX11_searches_21 rfl rfl rfl rfl rfl ?_
  refine tt_iconst (M := MX11_searches) (pc := 22) dX11_searches_22 ?_
  refine tt_putI (M := MX11_searches) (pc := 23) dX11_searches_23 rfl rfl (Or.inl rfl) h0.1 rfl ?_
  exact id
theorem qX11_searches_26 {sc : Nat × (Nat → Int32)} {SH : List mCell} {S : mStore} {r : mR × mW} (h0 : sMod SH) {l1 : Int} {l2 : Int} {l3 : Int} {l4 : Int} {l5 : Int} {u6 : Option Value} {u7 : Option Value} {u8 : Option Value} : ((if I l5 ≤ I l4 then r = rV SH (up S 90 28 l4) else (∃ v101 S102, G sc MX11_top 0 [some (.ref 90), some (.int (I l2)), some (.int (I l4)), some (.int (I l5)), some (.int (I (S 90 29))), none] [] SH S (rI v101 SH S102) ∧ (((0 : Int) ≤ (l2 + 1) + v101 ∧ (l2 + 1) + v101 < 137400) ∧ (∃ v103 S104, G sc MX11_cellsOf 0 [some (.ref 90), some (.int (I l1)), some (.int (I l3)), some (.int (I (S102 91 ((l2 + 1) + v101)))), none] [] SH S102 (rI v103 SH S104) ∧ (if I v103 = I (-1) then ((I 1 = I 0 ∨ I 1 = I 1) ∧ (if I ((up S104 90 31 1) 90 31) = I 0 then (∃ v107 S108, G sc MX11_compares 0 [some (.ref 90), some (.int (I l1)), some (.int (I v103)), none, none] [] SH (up S104 90 31 1) (rI v107 SH S108) ∧ (if I v107 = I 0 then r = rV SH (up S108 90 30 v101) else (if I 0 ≤ I v107 then G sc MX11_searches 26 [some (.ref 90), some (.int (I l1)), some (.int (I l2)), some (.int (I l3)), some (.int (I (v101 + 1))), some (.int (I l5)), some (.int (I v101)), some (.int (I v103)), some (.int (I v107))] [] SH (up S108 90 29 ((S108 90 29) + 1)) r else G sc MX11_searches 26 [some (.ref 90), some (.int (I l1)), some (.int (I l2)), some (.int (I l3)), some (.int (I l4)), some (.int (I v101)), some (.int (I v101)), some (.int (I v103)), some (.int (I v107))] [] SH (up S108 90 29 ((S108 90 29) + 1)) r))) else r = rV SH (up S104 90 31 1))) else ((I 0 = I 0 ∨ I 0 = I 1) ∧ (if I ((up S104 90 31 0) 90 31) = I 0 then (∃ v105 S106, G sc MX11_compares 0 [some (.ref 90), some (.int (I l1)), some (.int (I v103)), none, none] [] SH (up S104 90 31 0) (rI v105 SH S106) ∧ (if I v105 = I 0 then r = rV SH (up S106 90 30 v101) else (if I 0 ≤ I v105 then G sc MX11_searches 26 [some (.ref 90), some (.int (I l1)), some (.int (I l2)), some (.int (I l3)), some (.int (I (v101 + 1))), some (.int (I l5)), some (.int (I v101)), some (.int (I v103)), some (.int (I v105))] [] SH (up S106 90 29 ((S106 90 29) + 1)) r else G sc MX11_searches 26 [some (.ref 90), some (.int (I l1)), some (.int (I l2)), some (.int (I l3)), some (.int (I l4)), some (.int (I v101)), some (.int (I v101)), some (.int (I v103)), some (.int (I v105))] [] SH (up S106 90 29 ((S106 90 29) + 1)) r))) else r = rV SH (up S104 90 31 0))))))))) → G sc MX11_searches 26 [some (.ref 90), some (.int (I l1)), some (.int (I l2)), some (.int (I l3)), some (.int (I l4)), some (.int (I l5)), u6, u7, u8] [] SH S r := by
  refine tt_ld (M := MX11_searches) (pc := 26) dX11_searches_26 rfl rfl rfl rfl rfl ?_
  refine tt_ld (M := MX11_searches) (pc := 28) dX11_searches_28 rfl rfl rfl rfl rfl ?_
  refine tt_ic_ge (M := MX11_searches) (pc := 30) 142 dX11_searches_30 rfl ?_ ?_
  · refine tt_ld (M := MX11_searches) (pc := 142) dX11_searches_142 rfl rfl rfl rfl rfl ?_
    refine tt_ld (M := MX11_searches) (pc := 143) dX11_searches_143 rfl rfl rfl rfl rfl ?_
    refine tt_putI (M := MX11_searches) (pc := 145) dX11_searches_145 rfl rfl (Or.inl rfl) h0.1 rfl ?_
    exact tt_ret (M := MX11_searches) (pc := 148) dX11_searches_148 rfl
  · refine tt_ld (M := MX11_searches) (pc := 33) dX11_searches_33 rfl rfl rfl rfl rfl ?_
    refine tt_ld (M := MX11_searches) (pc := 34) dX11_searches_34 rfl rfl rfl rfl rfl ?_
    refine tt_ld (M := MX11_searches) (pc := 35) dX11_searches_35 rfl rfl rfl rfl rfl ?_
    refine tt_ld (M := MX11_searches) (pc := 37) dX11_searches_37 rfl rfl rfl rfl rfl ?_
    refine tt_ld (M := MX11_searches) (pc := 39) dX11_searches_39 rfl rfl rfl rfl rfl ?_
    refine tt_getI (M := MX11_searches) (pc := 40) dX11_searches_40 rfl h0.1 rfl ?_
    refine tt_vcIN (M := MX11_searches) (pc := 43) dX11_searches_43 rfl rfl [] rfl rfl ⟨rfl, by decide, Nat.le_of_ble_eq_true rfl⟩ h0.1 fun v101 S102 => ?_
    refine tt_st (M := MX11_searches) (pc := 46) [some (.ref 90), some (.int (I l1)), some (.int (I l2)), some (.int (I l3)), some (.int (I l4)), some (.int (I l5)), some (.int (I v101)), u7, u8] dX11_searches_46 rfl rfl rfl rfl rfl rfl ?_
    refine tt_ld (M := MX11_searches) (pc := 48) dX11_searches_48 rfl rfl rfl rfl rfl ?_
    refine tt_ld (M := MX11_searches) (pc := 49) dX11_searches_49 rfl rfl rfl rfl rfl ?_
    refine tt_ld (M := MX11_searches) (pc := 50) dX11_searches_50 rfl rfl rfl rfl rfl ?_
    refine tt_ld (M := MX11_searches) (pc := 51) dX11_searches_51 rfl rfl rfl rfl rfl ?_
    refine tt_getR (M := MX11_searches) (pc := 52) dX11_searches_52 rfl h0.1 rfl ?_
    refine tt_ld (M := MX11_searches) (pc := 55) dX11_searches_55 rfl rfl rfl rfl rfl ?_
    refine tt_iconst (M := MX11_searches) (pc := 56) dX11_searches_56 ?_
    refine tt_iadd (M := MX11_searches) (pc := 57) dX11_searches_57 ?_
    refine tt_ld (M := MX11_searches) (pc := 58) dX11_searches_58 rfl rfl rfl rfl rfl ?_
    refine tt_iadd (M := MX11_searches) (pc := 60) dX11_searches_60 ?_
    refine tt_iaload (M := MX11_searches) (pc := 61) dX11_searches_61 h0.2.1 rfl ?_
    refine tt_vcIN (M := MX11_searches) (pc := 62) dX11_searches_62 rfl rfl [] rfl rfl ⟨rfl, by decide, Nat.le_of_ble_eq_true rfl⟩ h0.1 fun v103 S104 => ?_
    refine tt_st (M := MX11_searches) (pc := 65) [some (.ref 90), some (.int (I l1)), some (.int (I l2)), some (.int (I l3)), some (.int (I l4)), some (.int (I l5)), some (.int (I v101)), some (.int (I v103)), u8] dX11_searches_65 rfl rfl rfl rfl rfl rfl ?_
    refine tt_ld (M := MX11_searches) (pc := 67) dX11_searches_67 rfl rfl rfl rfl rfl ?_
    refine tt_ld (M := MX11_searches) (pc := 68) dX11_searches_68 rfl rfl rfl rfl rfl ?_
    refine tt_iconst (M := MX11_searches) (pc := 70) dX11_searches_70 ?_
    refine tt_ic_ne (M := MX11_searches) (pc := 71) 78 dX11_searches_71 rfl ?_ ?_
    · refine tt_iconst (M := MX11_searches) (pc := 78) dX11_searches_78 ?_
      refine tt_putZ (M := MX11_searches) (pc := 79) dX11_searches_79 rfl rfl (Or.inl rfl) h0.1 rfl ?_
      refine tt_ld (M := MX11_searches) (pc := 82) dX11_searches_82 rfl rfl rfl rfl rfl ?_
      refine tt_getI (M := MX11_searches) (pc := 83) dX11_searches_83 rfl h0.1 rfl ?_
      refine tt_if_eq (M := MX11_searches) (pc := 86) 90 dX11_searches_86 rfl ?_ ?_
      · refine tt_ld (M := MX11_searches) (pc := 90) dX11_searches_90 rfl rfl rfl rfl rfl ?_
        refine tt_ld (M := MX11_searches) (pc := 91) dX11_searches_91 rfl rfl rfl rfl rfl ?_
        refine tt_ld (M := MX11_searches) (pc := 92) dX11_searches_92 rfl rfl rfl rfl rfl ?_
        refine tt_vcIN (M := MX11_searches) (pc := 94) dX11_searches_94 rfl rfl [] rfl rfl ⟨rfl, by decide, Nat.le_of_ble_eq_true rfl⟩ h0.1 fun v105 S106 => ?_
        refine tt_st (M := MX11_searches) (pc := 97) [some (.ref 90), some (.int (I l1)), some (.int (I l2)), some (.int (I l3)), some (.int (I l4)), some (.int (I l5)), some (.int (I v101)), some (.int (I v103)), some (.int (I v105))] dX11_searches_97 rfl rfl rfl rfl rfl rfl ?_
        refine tt_ld (M := MX11_searches) (pc := 99) dX11_searches_99 rfl rfl rfl rfl rfl ?_
        refine tt_if_ne (M := MX11_searches) (pc := 101) 111 dX11_searches_101 rfl ?_ ?_
        · refine tt_ld (M := MX11_searches) (pc := 111) dX11_searches_111 rfl rfl rfl rfl rfl ?_
          refine tt_if_ge (M := MX11_searches) (pc := 113) 123 dX11_searches_113 rfl ?_ ?_
          · refine tt_ld (M := MX11_searches) (pc := 123) dX11_searches_123 rfl rfl rfl rfl rfl ?_
            refine tt_iconst (M := MX11_searches) (pc := 125) dX11_searches_125 ?_
            refine tt_iadd (M := MX11_searches) (pc := 126) dX11_searches_126 ?_
            refine tt_st (M := MX11_searches) (pc := 127) [some (.ref 90), some (.int (I l1)), some (.int (I l2)), some (.int (I l3)), some (.int (I (v101 + 1))), some (.int (I l5)), some (.int (I v101)), some (.int (I v103)), some (.int (I v105))] dX11_searches_127 rfl rfl rfl rfl rfl rfl ?_
            refine tt_ld (M := MX11_searches) (pc := 129) dX11_searches_129 rfl rfl rfl rfl rfl ?_
            refine tt_dup (M := MX11_searches) (pc := 130) dX11_searches_130 rfl ?_
            refine tt_getI (M := MX11_searches) (pc := 131) dX11_searches_131 rfl h0.1 rfl ?_
            refine tt_iconst (M := MX11_searches) (pc := 134) dX11_searches_134 ?_
            refine tt_iadd (M := MX11_searches) (pc := 135) dX11_searches_135 ?_
            refine tt_putI (M := MX11_searches) (pc := 136) dX11_searches_136 rfl rfl (Or.inl rfl) h0.1 rfl ?_
            refine tt_goto (M := MX11_searches) (pc := 139) 26 dX11_searches_139 rfl ?_
            exact id
          · refine tt_ld (M := MX11_searches) (pc := 116) dX11_searches_116 rfl rfl rfl rfl rfl ?_
            refine tt_st (M := MX11_searches) (pc := 118) [some (.ref 90), some (.int (I l1)), some (.int (I l2)), some (.int (I l3)), some (.int (I l4)), some (.int (I v101)), some (.int (I v101)), some (.int (I v103)), some (.int (I v105))] dX11_searches_118 rfl rfl rfl rfl rfl rfl ?_
            refine tt_goto (M := MX11_searches) (pc := 120) 129 dX11_searches_120 rfl ?_
            refine tt_ld (M := MX11_searches) (pc := 129) dX11_searches_129 rfl rfl rfl rfl rfl ?_
            refine tt_dup (M := MX11_searches) (pc := 130) dX11_searches_130 rfl ?_
            refine tt_getI (M := MX11_searches) (pc := 131) dX11_searches_131 rfl h0.1 rfl ?_
            refine tt_iconst (M := MX11_searches) (pc := 134) dX11_searches_134 ?_
            refine tt_iadd (M := MX11_searches) (pc := 135) dX11_searches_135 ?_
            refine tt_putI (M := MX11_searches) (pc := 136) dX11_searches_136 rfl rfl (Or.inl rfl) h0.1 rfl ?_
            refine tt_goto (M := MX11_searches) (pc := 139) 26 dX11_searches_139 rfl ?_
            exact id
        · refine tt_ld (M := MX11_searches) (pc := 104) dX11_searches_104 rfl rfl rfl rfl rfl ?_
          refine tt_ld (M := MX11_searches) (pc := 105) dX11_searches_105 rfl rfl rfl rfl rfl ?_
          refine tt_putI (M := MX11_searches) (pc := 107) dX11_searches_107 rfl rfl (Or.inl rfl) h0.1 rfl ?_
          exact tt_ret (M := MX11_searches) (pc := 110) dX11_searches_110 rfl
      · exact tt_ret (M := MX11_searches) (pc := 89) dX11_searches_89 rfl
    · refine tt_iconst (M := MX11_searches) (pc := 74) dX11_searches_74 ?_
      refine tt_goto (M := MX11_searches) (pc := 75) 79 dX11_searches_75 rfl ?_
      refine tt_putZ (M := MX11_searches) (pc := 79) dX11_searches_79 rfl rfl (Or.inl rfl) h0.1 rfl ?_
      refine tt_ld (M := MX11_searches) (pc := 82) dX11_searches_82 rfl rfl rfl rfl rfl ?_
      refine tt_getI (M := MX11_searches) (pc := 83) dX11_searches_83 rfl h0.1 rfl ?_
      refine tt_if_eq (M := MX11_searches) (pc := 86) 90 dX11_searches_86 rfl ?_ ?_
      · refine tt_ld (M := MX11_searches) (pc := 90) dX11_searches_90 rfl rfl rfl rfl rfl ?_
        refine tt_ld (M := MX11_searches) (pc := 91) dX11_searches_91 rfl rfl rfl rfl rfl ?_
        refine tt_ld (M := MX11_searches) (pc := 92) dX11_searches_92 rfl rfl rfl rfl rfl ?_
        refine tt_vcIN (M := MX11_searches) (pc := 94) dX11_searches_94 rfl rfl [] rfl rfl ⟨rfl, by decide, Nat.le_of_ble_eq_true rfl⟩ h0.1 fun v107 S108 => ?_
        refine tt_st (M := MX11_searches) (pc := 97) [some (.ref 90), some (.int (I l1)), some (.int (I l2)), some (.int (I l3)), some (.int (I l4)), some (.int (I l5)), some (.int (I v101)), some (.int (I v103)), some (.int (I v107))] dX11_searches_97 rfl rfl rfl rfl rfl rfl ?_
        refine tt_ld (M := MX11_searches) (pc := 99) dX11_searches_99 rfl rfl rfl rfl rfl ?_
        refine tt_if_ne (M := MX11_searches) (pc := 101) 111 dX11_searches_101 rfl ?_ ?_
        · refine tt_ld (M := MX11_searches) (pc := 111) dX11_searches_111 rfl rfl rfl rfl rfl ?_
          refine tt_if_ge (M := MX11_searches) (pc := 113) 123 dX11_searches_113 rfl ?_ ?_
          · refine tt_ld (M := MX11_searches) (pc := 123) dX11_searches_123 rfl rfl rfl rfl rfl ?_
            refine tt_iconst (M := MX11_searches) (pc := 125) dX11_searches_125 ?_
            refine tt_iadd (M := MX11_searches) (pc := 126) dX11_searches_126 ?_
            refine tt_st (M := MX11_searches) (pc := 127) [some (.ref 90), some (.int (I l1)), some (.int (I l2)), some (.int (I l3)), some (.int (I (v101 + 1))), some (.int (I l5)), some (.int (I v101)), some (.int (I v103)), some (.int (I v107))] dX11_searches_127 rfl rfl rfl rfl rfl rfl ?_
            refine tt_ld (M := MX11_searches) (pc := 129) dX11_searches_129 rfl rfl rfl rfl rfl ?_
            refine tt_dup (M := MX11_searches) (pc := 130) dX11_searches_130 rfl ?_
            refine tt_getI (M := MX11_searches) (pc := 131) dX11_searches_131 rfl h0.1 rfl ?_
            refine tt_iconst (M := MX11_searches) (pc := 134) dX11_searches_134 ?_
            refine tt_iadd (M := MX11_searches) (pc := 135) dX11_searches_135 ?_
            refine tt_putI (M := MX11_searches) (pc := 136) dX11_searches_136 rfl rfl (Or.inl rfl) h0.1 rfl ?_
            refine tt_goto (M := MX11_searches) (pc := 139) 26 dX11_searches_139 rfl ?_
            exact id
          · refine tt_ld (M := MX11_searches) (pc := 116) dX11_searches_116 rfl rfl rfl rfl rfl ?_
            refine tt_st (M := MX11_searches) (pc := 118) [some (.ref 90), some (.int (I l1)), some (.int (I l2)), some (.int (I l3)), some (.int (I l4)), some (.int (I v101)), some (.int (I v101)), some (.int (I v103)), some (.int (I v107))] dX11_searches_118 rfl rfl rfl rfl rfl rfl ?_
            refine tt_goto (M := MX11_searches) (pc := 120) 129 dX11_searches_120 rfl ?_
            refine tt_ld (M := MX11_searches) (pc := 129) dX11_searches_129 rfl rfl rfl rfl rfl ?_
            refine tt_dup (M := MX11_searches) (pc := 130) dX11_searches_130 rfl ?_
            refine tt_getI (M := MX11_searches) (pc := 131) dX11_searches_131 rfl h0.1 rfl ?_
            refine tt_iconst (M := MX11_searches) (pc := 134) dX11_searches_134 ?_
            refine tt_iadd (M := MX11_searches) (pc := 135) dX11_searches_135 ?_
            refine tt_putI (M := MX11_searches) (pc := 136) dX11_searches_136 rfl rfl (Or.inl rfl) h0.1 rfl ?_
            refine tt_goto (M := MX11_searches) (pc := 139) 26 dX11_searches_139 rfl ?_
            exact id
        · refine tt_ld (M := MX11_searches) (pc := 104) dX11_searches_104 rfl rfl rfl rfl rfl ?_
          refine tt_ld (M := MX11_searches) (pc := 105) dX11_searches_105 rfl rfl rfl rfl rfl ?_
          refine tt_putI (M := MX11_searches) (pc := 107) dX11_searches_107 rfl rfl (Or.inl rfl) h0.1 rfl ?_
          exact tt_ret (M := MX11_searches) (pc := 110) dX11_searches_110 rfl
      · exact tt_ret (M := MX11_searches) (pc := 89) dX11_searches_89 rfl
theorem qX11_laysCells_0 {sc : Nat × (Nat → Int32)} {SH : List mCell} {S : mStore} {r : mR × mW} (h0 : sMod SH) {l1 : Int} {l2 : Int} {u3 : Option Value} : (G sc MX11_laysCells 2 [some (.ref 90), some (.int (I l1)), some (.int (I l2)), some (.int (I 0))] [] SH S r) → G sc MX11_laysCells 0 [some (.ref 90), some (.int (I l1)), some (.int (I l2)), u3] [] SH S r := by
  refine tt_iconst (M := MX11_laysCells) (pc := 0) dX11_laysCells_0 ?_
  refine tt_st (M := MX11_laysCells) (pc := 1) [some (.ref 90), some (.int (I l1)), some (.int (I l2)), some (.int (I 0))] dX11_laysCells_1 rfl rfl rfl rfl rfl rfl ?_
  exact id
theorem qX11_laysCells_2 {sc : Nat × (Nat → Int32)} {SH : List mCell} {S : mStore} {r : mR × mW} (h0 : sMod SH) {l1 : Int} {l2 : Int} {l3 : Int} : ((if I 4 ≤ I l3 then r = rV SH S else (((0 : Int) ≤ l3 ∧ l3 < 4) ∧ (((0 : Int) ≤ ((l1 + 352) + (4 * l2)) + l3 ∧ ((l1 + 352) + (4 * l2)) + l3 < 137400) ∧ G sc MX11_laysCells 2 [some (.ref 90), some (.int (I l1)), some (.int (I l2)), some (.int (I (l3 + 1)))] [] SH (up S 91 (((l1 + 352) + (4 * l2)) + l3) (S 101 l3)) r)))) → G sc MX11_laysCells 2 [some (.ref 90), some (.int (I l1)), some (.int (I l2)), some (.int (I l3))] [] SH S r := by
  refine tt_ld (M := MX11_laysCells) (pc := 2) dX11_laysCells_2 rfl rfl rfl rfl rfl ?_
  refine tt_iconst (M := MX11_laysCells) (pc := 3) dX11_laysCells_3 ?_
  refine tt_ic_ge (M := MX11_laysCells) (pc := 4) 35 dX11_laysCells_4 rfl ?_ ?_
  · exact tt_ret (M := MX11_laysCells) (pc := 35) dX11_laysCells_35 rfl
  · refine tt_ld (M := MX11_laysCells) (pc := 7) dX11_laysCells_7 rfl rfl rfl rfl rfl ?_
    refine tt_getR (M := MX11_laysCells) (pc := 8) dX11_laysCells_8 rfl h0.1 rfl ?_
    refine tt_ld (M := MX11_laysCells) (pc := 11) dX11_laysCells_11 rfl rfl rfl rfl rfl ?_
    refine tt_sipush (M := MX11_laysCells) (pc := 12) dX11_laysCells_12 (by decide) ?_
    refine tt_iadd (M := MX11_laysCells) (pc := 15) dX11_laysCells_15 ?_
    refine tt_iconst (M := MX11_laysCells) (pc := 16) dX11_laysCells_16 ?_
    refine tt_ld (M := MX11_laysCells) (pc := 17) dX11_laysCells_17 rfl rfl rfl rfl rfl ?_
    refine tt_imul (M := MX11_laysCells) (pc := 18) dX11_laysCells_18 ?_
    refine tt_iadd (M := MX11_laysCells) (pc := 19) dX11_laysCells_19 ?_
    refine tt_ld (M := MX11_laysCells) (pc := 20) dX11_laysCells_20 rfl rfl rfl rfl rfl ?_
    refine tt_iadd (M := MX11_laysCells) (pc := 21) dX11_laysCells_21 ?_
    refine tt_ld (M := MX11_laysCells) (pc := 22) dX11_laysCells_22 rfl rfl rfl rfl rfl ?_
    refine tt_getR (M := MX11_laysCells) (pc := 23) dX11_laysCells_23 rfl h0.1 rfl ?_
    refine tt_ld (M := MX11_laysCells) (pc := 26) dX11_laysCells_26 rfl rfl rfl rfl rfl ?_
    refine tt_iaload (M := MX11_laysCells) (pc := 27) dX11_laysCells_27 h0.2.2.2.2.2.2.2.2.2.2.2.1 rfl ?_
    refine tt_iastore (M := MX11_laysCells) (pc := 28) dX11_laysCells_28 h0.2.1 rfl ?_
    refine tt_iinc (M := MX11_laysCells) (pc := 29) [some (.ref 90), some (.int (I l1)), some (.int (I l2)), some (.int (I (l3 + 1)))] dX11_laysCells_29 rfl rfl ?_
    refine tt_goto (M := MX11_laysCells) (pc := 32) 2 dX11_laysCells_32 rfl ?_
    exact id
theorem qX11_writes_0 {sc : Nat × (Nat → Int32)} {SH : List mCell} {S : mStore} {r : mR × mW} (h0 : sMod SH) {l1 : Int} {l2 : Int} {u3 : Option Value} {u4 : Option Value} {u5 : Option Value} {u6 : Option Value} : ((((0 : Int) ≤ (l1 + 16) + l2 ∧ (l1 + 16) + l2 < 137400) ∧ (if I (S 91 ((l1 + 16) + l2)) = I (-1) then (if I (S 91 ((l1 + 16) + l2)) = I (-1) then G sc MX11_writes 95 [some (.ref 90), some (.int (I l1)), some (.int (I l2)), some (.int (I (S 91 ((l1 + 16) + l2)))), some (.int (I 0)), u5, u6] [.int (I 1)] SH S r else (if I 0 = I 0 then (((0 : Int) ≤ (l1 + 976) + (S 91 ((l1 + 16) + l2)) ∧ (l1 + 976) + (S 91 ((l1 + 16) + l2)) < 137400) ∧ (if I (S 91 ((l1 + 976) + (S 91 ((l1 + 16) + l2)))) = I (-1) then G sc MX11_writes 95 [some (.ref 90), some (.int (I l1)), some (.int (I l2)), some (.int (I (S 91 ((l1 + 16) + l2)))), some (.int (I 0)), u5, u6] [.int (I 0)] SH S r else G sc MX11_writes 95 [some (.ref 90), some (.int (I l1)), some (.int (I l2)), some (.int (I (S 91 ((l1 + 16) + l2)))), some (.int (I 0)), u5, u6] [.int (I 3)] SH S r)) else G sc MX11_writes 95 [some (.ref 90), some (.int (I l1)), some (.int (I l2)), some (.int (I (S 91 ((l1 + 16) + l2)))), some (.int (I 0)), u5, u6] [.int (I 2)] SH S r)) else (((0 : Int) ≤ (l1 + 976) + (S 91 ((l1 + 16) + l2)) ∧ (l1 + 976) + (S 91 ((l1 + 16) + l2)) < 137400) ∧ (if I (S 91 ((l1 + 976) + (S 91 ((l1 + 16) + l2)))) = I (-1) then (if I (S 91 ((l1 + 16) + l2)) = I (-1) then G sc MX11_writes 95 [some (.ref 90), some (.int (I l1)), some (.int (I l2)), some (.int (I (S 91 ((l1 + 16) + l2)))), some (.int (I 0)), u5, u6] [.int (I 1)] SH S r else (if I 0 = I 0 then (((0 : Int) ≤ (l1 + 976) + (S 91 ((l1 + 16) + l2)) ∧ (l1 + 976) + (S 91 ((l1 + 16) + l2)) < 137400) ∧ (if I (S 91 ((l1 + 976) + (S 91 ((l1 + 16) + l2)))) = I (-1) then G sc MX11_writes 95 [some (.ref 90), some (.int (I l1)), some (.int (I l2)), some (.int (I (S 91 ((l1 + 16) + l2)))), some (.int (I 0)), u5, u6] [.int (I 0)] SH S r else G sc MX11_writes 95 [some (.ref 90), some (.int (I l1)), some (.int (I l2)), some (.int (I (S 91 ((l1 + 16) + l2)))), some (.int (I 0)), u5, u6] [.int (I 3)] SH S r)) else G sc MX11_writes 95 [some (.ref 90), some (.int (I l1)), some (.int (I l2)), some (.int (I (S 91 ((l1 + 16) + l2)))), some (.int (I 0)), u5, u6] [.int (I 2)] SH S r)) else (((0 : Int) ≤ (l1 + 544) + (S 91 ((l1 + 16) + l2)) ∧ (l1 + 544) + (S 91 ((l1 + 16) + l2)) < 137400) ∧ (if I (S 91 ((l1 + 544) + (S 91 ((l1 + 16) + l2)))) ≤ I 1 then (if I (S 91 ((l1 + 16) + l2)) = I (-1) then G sc MX11_writes 95 [some (.ref 90), some (.int (I l1)), some (.int (I l2)), some (.int (I (S 91 ((l1 + 16) + l2)))), some (.int (I 0)), u5, u6] [.int (I 1)] SH S r else (if I 0 = I 0 then (((0 : Int) ≤ (l1 + 976) + (S 91 ((l1 + 16) + l2)) ∧ (l1 + 976) + (S 91 ((l1 + 16) + l2)) < 137400) ∧ (if I (S 91 ((l1 + 976) + (S 91 ((l1 + 16) + l2)))) = I (-1) then G sc MX11_writes 95 [some (.ref 90), some (.int (I l1)), some (.int (I l2)), some (.int (I (S 91 ((l1 + 16) + l2)))), some (.int (I 0)), u5, u6] [.int (I 0)] SH S r else G sc MX11_writes 95 [some (.ref 90), some (.int (I l1)), some (.int (I l2)), some (.int (I (S 91 ((l1 + 16) + l2)))), some (.int (I 0)), u5, u6] [.int (I 3)] SH S r)) else G sc MX11_writes 95 [some (.ref 90), some (.int (I l1)), some (.int (I l2)), some (.int (I (S 91 ((l1 + 16) + l2)))), some (.int (I 0)), u5, u6] [.int (I 2)] SH S r)) else (if I (S 91 ((l1 + 16) + l2)) = I (-1) then G sc MX11_writes 95 [some (.ref 90), some (.int (I l1)), some (.int (I l2)), some (.int (I (S 91 ((l1 + 16) + l2)))), some (.int (I 1)), u5, u6] [.int (I 1)] SH S r else (if I 1 = I 0 then (((0 : Int) ≤ (l1 + 976) + (S 91 ((l1 + 16) + l2)) ∧ (l1 + 976) + (S 91 ((l1 + 16) + l2)) < 137400) ∧ (if I (S 91 ((l1 + 976) + (S 91 ((l1 + 16) + l2)))) = I (-1) then G sc MX11_writes 95 [some (.ref 90), some (.int (I l1)), some (.int (I l2)), some (.int (I (S 91 ((l1 + 16) + l2)))), some (.int (I 1)), u5, u6] [.int (I 0)] SH S r else G sc MX11_writes 95 [some (.ref 90), some (.int (I l1)), some (.int (I l2)), some (.int (I (S 91 ((l1 + 16) + l2)))), some (.int (I 1)), u5, u6] [.int (I 3)] SH S r)) else G sc MX11_writes 95 [some (.ref 90), some (.int (I l1)), some (.int (I l2)), some (.int (I (S 91 ((l1 + 16) + l2)))), some (.int (I 1)), u5, u6] [.int (I 2)] SH S r))))))))) → G sc MX11_writes 0 [some (.ref 90), some (.int (I l1)), some (.int (I l2)), u3, u4, u5, u6] [] SH S r := by
  refine tt_ld (M := MX11_writes) (pc := 0) dX11_writes_0 rfl rfl rfl rfl rfl ?_
  refine tt_getR (M := MX11_writes) (pc := 1) dX11_writes_1 rfl h0.1 rfl ?_
  refine tt_ld (M := MX11_writes) (pc := 4) dX11_writes_4 rfl rfl rfl rfl rfl ?_
  refine tt_bipush (M := MX11_writes) (pc := 5) dX11_writes_5 (by decide) ?_
  refine tt_iadd (M := MX11_writes) (pc := 7) dX11_writes_7 ?_
  refine tt_ld (M := MX11_writes) (pc := 8) dX11_writes_8 rfl rfl rfl rfl rfl ?_
  refine tt_iadd (M := MX11_writes) (pc := 9) dX11_writes_9 ?_
  refine tt_iaload (M := MX11_writes) (pc := 10) dX11_writes_10 h0.2.1 rfl ?_
  refine tt_st (M := MX11_writes) (pc := 11) [some (.ref 90), some (.int (I l1)), some (.int (I l2)), some (.int (I (S 91 ((l1 + 16) + l2)))), u4, u5, u6] dX11_writes_11 rfl rfl rfl rfl rfl rfl ?_
  refine tt_ld (M := MX11_writes) (pc := 12) dX11_writes_12 rfl rfl rfl rfl rfl ?_
  refine tt_iconst (M := MX11_writes) (pc := 13) dX11_writes_13 ?_
  refine tt_ic_eq (M := MX11_writes) (pc := 14) 53 dX11_writes_14 rfl ?_ ?_
  · refine tt_iconst (M := MX11_writes) (pc := 53) dX11_writes_53 ?_
    refine tt_st (M := MX11_writes) (pc := 54) [some (.ref 90), some (.int (I l1)), some (.int (I l2)), some (.int (I (S 91 ((l1 + 16) + l2)))), some (.int (I 0)), u5, u6] dX11_writes_54 rfl rfl rfl rfl rfl rfl ?_
    refine tt_ld (M := MX11_writes) (pc := 56) dX11_writes_56 rfl rfl rfl rfl rfl ?_
    refine tt_iconst (M := MX11_writes) (pc := 57) dX11_writes_57 ?_
    refine tt_ic_ne (M := MX11_writes) (pc := 58) 65 dX11_writes_58 rfl ?_ ?_
    · refine tt_ld (M := MX11_writes) (pc := 65) dX11_writes_65 rfl rfl rfl rfl rfl ?_
      refine tt_if_eq (M := MX11_writes) (pc := 67) 74 dX11_writes_67 rfl ?_ ?_
      · refine tt_ld (M := MX11_writes) (pc := 74) dX11_writes_74 rfl rfl rfl rfl rfl ?_
        refine tt_getR (M := MX11_writes) (pc := 75) dX11_writes_75 rfl h0.1 rfl ?_
        refine tt_ld (M := MX11_writes) (pc := 78) dX11_writes_78 rfl rfl rfl rfl rfl ?_
        refine tt_sipush (M := MX11_writes) (pc := 79) dX11_writes_79 (by decide) ?_
        refine tt_iadd (M := MX11_writes) (pc := 82) dX11_writes_82 ?_
        refine tt_ld (M := MX11_writes) (pc := 83) dX11_writes_83 rfl rfl rfl rfl rfl ?_
        refine tt_iadd (M := MX11_writes) (pc := 84) dX11_writes_84 ?_
        refine tt_iaload (M := MX11_writes) (pc := 85) dX11_writes_85 h0.2.1 rfl ?_
        refine tt_iconst (M := MX11_writes) (pc := 86) dX11_writes_86 ?_
        refine tt_ic_eq (M := MX11_writes) (pc := 87) 94 dX11_writes_87 rfl ?_ ?_
        · refine tt_iconst (M := MX11_writes) (pc := 94) dX11_writes_94 ?_
          exact id
        · refine tt_iconst (M := MX11_writes) (pc := 90) dX11_writes_90 ?_
          refine tt_goto (M := MX11_writes) (pc := 91) 95 dX11_writes_91 rfl ?_
          exact id
      · refine tt_iconst (M := MX11_writes) (pc := 70) dX11_writes_70 ?_
        refine tt_goto (M := MX11_writes) (pc := 71) 95 dX11_writes_71 rfl ?_
        exact id
    · refine tt_iconst (M := MX11_writes) (pc := 61) dX11_writes_61 ?_
      refine tt_goto (M := MX11_writes) (pc := 62) 95 dX11_writes_62 rfl ?_
      exact id
  · refine tt_ld (M := MX11_writes) (pc := 17) dX11_writes_17 rfl rfl rfl rfl rfl ?_
    refine tt_getR (M := MX11_writes) (pc := 18) dX11_writes_18 rfl h0.1 rfl ?_
    refine tt_ld (M := MX11_writes) (pc := 21) dX11_writes_21 rfl rfl rfl rfl rfl ?_
    refine tt_sipush (M := MX11_writes) (pc := 22) dX11_writes_22 (by decide) ?_
    refine tt_iadd (M := MX11_writes) (pc := 25) dX11_writes_25 ?_
    refine tt_ld (M := MX11_writes) (pc := 26) dX11_writes_26 rfl rfl rfl rfl rfl ?_
    refine tt_iadd (M := MX11_writes) (pc := 27) dX11_writes_27 ?_
    refine tt_iaload (M := MX11_writes) (pc := 28) dX11_writes_28 h0.2.1 rfl ?_
    refine tt_iconst (M := MX11_writes) (pc := 29) dX11_writes_29 ?_
    refine tt_ic_eq (M := MX11_writes) (pc := 30) 53 dX11_writes_30 rfl ?_ ?_
    · refine tt_iconst (M := MX11_writes) (pc := 53) dX11_writes_53 ?_
      refine tt_st (M := MX11_writes) (pc := 54) [some (.ref 90), some (.int (I l1)), some (.int (I l2)), some (.int (I (S 91 ((l1 + 16) + l2)))), some (.int (I 0)), u5, u6] dX11_writes_54 rfl rfl rfl rfl rfl rfl ?_
      refine tt_ld (M := MX11_writes) (pc := 56) dX11_writes_56 rfl rfl rfl rfl rfl ?_
      refine tt_iconst (M := MX11_writes) (pc := 57) dX11_writes_57 ?_
      refine tt_ic_ne (M := MX11_writes) (pc := 58) 65 dX11_writes_58 rfl ?_ ?_
      · refine tt_ld (M := MX11_writes) (pc := 65) dX11_writes_65 rfl rfl rfl rfl rfl ?_
        refine tt_if_eq (M := MX11_writes) (pc := 67) 74 dX11_writes_67 rfl ?_ ?_
        · refine tt_ld (M := MX11_writes) (pc := 74) dX11_writes_74 rfl rfl rfl rfl rfl ?_
          refine tt_getR (M := MX11_writes) (pc := 75) dX11_writes_75 rfl h0.1 rfl ?_
          refine tt_ld (M := MX11_writes) (pc := 78) dX11_writes_78 rfl rfl rfl rfl rfl ?_
          refine tt_sipush (M := MX11_writes) (pc := 79) dX11_writes_79 (by decide) ?_
          refine tt_iadd (M := MX11_writes) (pc := 82) dX11_writes_82 ?_
          refine tt_ld (M := MX11_writes) (pc := 83) dX11_writes_83 rfl rfl rfl rfl rfl ?_
          refine tt_iadd (M := MX11_writes) (pc := 84) dX11_writes_84 ?_
          refine tt_iaload (M := MX11_writes) (pc := 85) dX11_writes_85 h0.2.1 rfl ?_
          refine tt_iconst (M := MX11_writes) (pc := 86) dX11_writes_86 ?_
          refine tt_ic_eq (M := MX11_writes) (pc := 87) 94 dX11_writes_87 rfl ?_ ?_
          · refine tt_iconst (M := MX11_writes) (pc := 94) dX11_writes_94 ?_
            exact id
          · refine tt_iconst (M := MX11_writes) (pc := 90) dX11_writes_90 ?_
            refine tt_goto (M := MX11_writes) (pc := 91) 95 dX11_writes_91 rfl ?_
            exact id
        · refine tt_iconst (M := MX11_writes) (pc := 70) dX11_writes_70 ?_
          refine tt_goto (M := MX11_writes) (pc := 71) 95 dX11_writes_71 rfl ?_
          exact id
      · refine tt_iconst (M := MX11_writes) (pc := 61) dX11_writes_61 ?_
        refine tt_goto (M := MX11_writes) (pc := 62) 95 dX11_writes_62 rfl ?_
        exact id
    · refine tt_ld (M := MX11_writes) (pc := 33) dX11_writes_33 rfl rfl rfl rfl rfl ?_
      refine tt_getR (M := MX11_writes) (pc := 34) dX11_writes_34 rfl h0.1 rfl ?_
      refine tt_ld (M := MX11_writes) (pc := 37) dX11_writes_37 rfl rfl rfl rfl rfl ?_
      refine tt_sipush (M := MX11_writes) (pc := 38) dX11_writes_38 (by decide) ?_
      refine tt_iadd (M := MX11_writes) (pc := 41) dX11_writes_41 ?_
      refine tt_ld (M := MX11_writes) (pc := 42) dX11_writes_42 rfl rfl rfl rfl rfl ?_
      refine tt_iadd (M := MX11_writes) (pc := 43) dX11_writes_43 ?_
      refine tt_iaload (M := MX11_writes) (pc := 44) dX11_writes_44 h0.2.1 rfl ?_
      refine tt_iconst (M := MX11_writes) (pc := 45) dX11_writes_45 ?_
      refine tt_ic_le (M := MX11_writes) (pc := 46) 53 dX11_writes_46 rfl ?_ ?_
      · refine tt_iconst (M := MX11_writes) (pc := 53) dX11_writes_53 ?_
        refine tt_st (M := MX11_writes) (pc := 54) [some (.ref 90), some (.int (I l1)), some (.int (I l2)), some (.int (I (S 91 ((l1 + 16) + l2)))), some (.int (I 0)), u5, u6] dX11_writes_54 rfl rfl rfl rfl rfl rfl ?_
        refine tt_ld (M := MX11_writes) (pc := 56) dX11_writes_56 rfl rfl rfl rfl rfl ?_
        refine tt_iconst (M := MX11_writes) (pc := 57) dX11_writes_57 ?_
        refine tt_ic_ne (M := MX11_writes) (pc := 58) 65 dX11_writes_58 rfl ?_ ?_
        · refine tt_ld (M := MX11_writes) (pc := 65) dX11_writes_65 rfl rfl rfl rfl rfl ?_
          refine tt_if_eq (M := MX11_writes) (pc := 67) 74 dX11_writes_67 rfl ?_ ?_
          · refine tt_ld (M := MX11_writes) (pc := 74) dX11_writes_74 rfl rfl rfl rfl rfl ?_
            refine tt_getR (M := MX11_writes) (pc := 75) dX11_writes_75 rfl h0.1 rfl ?_
            refine tt_ld (M := MX11_writes) (pc := 78) dX11_writes_78 rfl rfl rfl rfl rfl ?_
            refine tt_sipush (M := MX11_writes) (pc := 79) dX11_writes_79 (by decide) ?_
            refine tt_iadd (M := MX11_writes) (pc := 82) dX11_writes_82 ?_
            refine tt_ld (M := MX11_writes) (pc := 83) dX11_writes_83 rfl rfl rfl rfl rfl ?_
            refine tt_iadd (M := MX11_writes) (pc := 84) dX11_writes_84 ?_
            refine tt_iaload (M := MX11_writes) (pc := 85) dX11_writes_85 h0.2.1 rfl ?_
            refine tt_iconst (M := MX11_writes) (pc := 86) dX11_writes_86 ?_
            refine tt_ic_eq (M := MX11_writes) (pc := 87) 94 dX11_writes_87 rfl ?_ ?_
            · refine tt_iconst (M := MX11_writes) (pc := 94) dX11_writes_94 ?_
              exact id
            · refine tt_iconst (M := MX11_writes) (pc := 90) dX11_writes_90 ?_
              refine tt_goto (M := MX11_writes) (pc := 91) 95 dX11_writes_91 rfl ?_
              exact id
          · refine tt_iconst (M := MX11_writes) (pc := 70) dX11_writes_70 ?_
            refine tt_goto (M := MX11_writes) (pc := 71) 95 dX11_writes_71 rfl ?_
            exact id
        · refine tt_iconst (M := MX11_writes) (pc := 61) dX11_writes_61 ?_
          refine tt_goto (M := MX11_writes) (pc := 62) 95 dX11_writes_62 rfl ?_
          exact id
      · refine tt_iconst (M := MX11_writes) (pc := 49) dX11_writes_49 ?_
        refine tt_goto (M := MX11_writes) (pc := 50) 54 dX11_writes_50 rfl ?_
        refine tt_st (M := MX11_writes) (pc := 54) [some (.ref 90), some (.int (I l1)), some (.int (I l2)), some (.int (I (S 91 ((l1 + 16) + l2)))), some (.int (I 1)), u5, u6] dX11_writes_54 rfl rfl rfl rfl rfl rfl ?_
        refine tt_ld (M := MX11_writes) (pc := 56) dX11_writes_56 rfl rfl rfl rfl rfl ?_
        refine tt_iconst (M := MX11_writes) (pc := 57) dX11_writes_57 ?_
        refine tt_ic_ne (M := MX11_writes) (pc := 58) 65 dX11_writes_58 rfl ?_ ?_
        · refine tt_ld (M := MX11_writes) (pc := 65) dX11_writes_65 rfl rfl rfl rfl rfl ?_
          refine tt_if_eq (M := MX11_writes) (pc := 67) 74 dX11_writes_67 rfl ?_ ?_
          · refine tt_ld (M := MX11_writes) (pc := 74) dX11_writes_74 rfl rfl rfl rfl rfl ?_
            refine tt_getR (M := MX11_writes) (pc := 75) dX11_writes_75 rfl h0.1 rfl ?_
            refine tt_ld (M := MX11_writes) (pc := 78) dX11_writes_78 rfl rfl rfl rfl rfl ?_
            refine tt_sipush (M := MX11_writes) (pc := 79) dX11_writes_79 (by decide) ?_
            refine tt_iadd (M := MX11_writes) (pc := 82) dX11_writes_82 ?_
            refine tt_ld (M := MX11_writes) (pc := 83) dX11_writes_83 rfl rfl rfl rfl rfl ?_
            refine tt_iadd (M := MX11_writes) (pc := 84) dX11_writes_84 ?_
            refine tt_iaload (M := MX11_writes) (pc := 85) dX11_writes_85 h0.2.1 rfl ?_
            refine tt_iconst (M := MX11_writes) (pc := 86) dX11_writes_86 ?_
            refine tt_ic_eq (M := MX11_writes) (pc := 87) 94 dX11_writes_87 rfl ?_ ?_
            · refine tt_iconst (M := MX11_writes) (pc := 94) dX11_writes_94 ?_
              exact id
            · refine tt_iconst (M := MX11_writes) (pc := 90) dX11_writes_90 ?_
              refine tt_goto (M := MX11_writes) (pc := 91) 95 dX11_writes_91 rfl ?_
              exact id
          · refine tt_iconst (M := MX11_writes) (pc := 70) dX11_writes_70 ?_
            refine tt_goto (M := MX11_writes) (pc := 71) 95 dX11_writes_71 rfl ?_
            exact id
        · refine tt_iconst (M := MX11_writes) (pc := 61) dX11_writes_61 ?_
          refine tt_goto (M := MX11_writes) (pc := 62) 95 dX11_writes_62 rfl ?_
          exact id
theorem qX11_writes_95 {sc : Nat × (Nat → Int32)} {SH : List mCell} {S : mStore} {r : mR × mW} (h0 : sMod SH) {l1 : Int} {l2 : Int} {l3 : Int} {l4 : Int} {u5 : Option Value} {u6 : Option Value} {s0 : Int} : ((if I l3 = I (-1) then G sc MX11_writes 107 [some (.ref 90), some (.int (I l1)), some (.int (I l2)), some (.int (I l3)), some (.int (I l4)), some (.int (I s0)), u6] [] SH S r else (if I l4 = I 0 then G sc MX11_writes 154 [some (.ref 90), some (.int (I l1)), some (.int (I l2)), some (.int (I l3)), some (.int (I l4)), some (.int (I s0)), u6] [] SH S r else G sc MX11_writes 107 [some (.ref 90), some (.int (I l1)), some (.int (I l2)), some (.int (I l3)), some (.int (I l4)), some (.int (I s0)), u6] [] SH S r))) → G sc MX11_writes 95 [some (.ref 90), some (.int (I l1)), some (.int (I l2)), some (.int (I l3)), some (.int (I l4)), u5, u6] [.int (I s0)] SH S r := by
  refine tt_st (M := MX11_writes) (pc := 95) [some (.ref 90), some (.int (I l1)), some (.int (I l2)), some (.int (I l3)), some (.int (I l4)), some (.int (I s0)), u6] dX11_writes_95 rfl rfl rfl rfl rfl rfl ?_
  refine tt_ld (M := MX11_writes) (pc := 97) dX11_writes_97 rfl rfl rfl rfl rfl ?_
  refine tt_iconst (M := MX11_writes) (pc := 98) dX11_writes_98 ?_
  refine tt_ic_eq (M := MX11_writes) (pc := 99) 107 dX11_writes_99 rfl ?_ ?_
  · exact id
  · refine tt_ld (M := MX11_writes) (pc := 102) dX11_writes_102 rfl rfl rfl rfl rfl ?_
    refine tt_if_eq (M := MX11_writes) (pc := 104) 154 dX11_writes_104 rfl ?_ ?_
    · exact id
    · exact id
theorem qX11_writes_107 {sc : Nat × (Nat → Int32)} {SH : List mCell} {S : mStore} {r : mR × mW} (h0 : sMod SH) {l1 : Int} {l2 : Int} {l3 : Int} {l4 : Int} {l5 : Int} {u6 : Option Value} : ((∃ v101 S102, G sc MX11_free 0 [some (.ref 90), some (.int (I l1)), none] [] SH S (rI v101 SH S102) ∧ (if I v101 = I (-1) then r = rI (-1) SH S102 else (if I l4 = I 0 then G sc MX11_writes 146 [some (.ref 90), some (.int (I l1)), some (.int (I l2)), some (.int (I l3)), some (.int (I l4)), some (.int (I l5)), some (.int (I v101))] [] SH S102 r else (((0 : Int) ≤ l1 + 8 ∧ l1 + 8 < 137400) ∧ (((0 : Int) ≤ l1 + 8 ∧ l1 + 8 < 137400) ∧ (∃ S103, G sc MX11_leavesFrame 0 [some (.ref 90), some (.int (I l1)), some (.int (I l2)), none, none, none, none] [] SH (up S102 91 (l1 + 8) ((S102 91 (l1 + 8)) + 1)) (rV SH S103) ∧ G sc MX11_writes 146 [some (.ref 90), some (.int (I l1)), some (.int (I l2)), some (.int (I l3)), some (.int (I l4)), some (.int (I l5)), some (.int (I v101))] [] SH S103 r))))))) → G sc MX11_writes 107 [some (.ref 90), some (.int (I l1)), some (.int (I l2)), some (.int (I l3)), some (.int (I l4)), some (.int (I l5)), u6] [] SH S r := by
  refine tt_ld (M := MX11_writes) (pc := 107) dX11_writes_107 rfl rfl rfl rfl rfl ?_
  refine tt_ld (M := MX11_writes) (pc := 108) dX11_writes_108 rfl rfl rfl rfl rfl ?_
  refine tt_vcIN (M := MX11_writes) (pc := 109) dX11_writes_109 rfl rfl [] rfl rfl ⟨rfl, by decide, Nat.le_of_ble_eq_true rfl⟩ h0.1 fun v101 S102 => ?_
  refine tt_st (M := MX11_writes) (pc := 112) [some (.ref 90), some (.int (I l1)), some (.int (I l2)), some (.int (I l3)), some (.int (I l4)), some (.int (I l5)), some (.int (I v101))] dX11_writes_112 rfl rfl rfl rfl rfl rfl ?_
  refine tt_ld (M := MX11_writes) (pc := 114) dX11_writes_114 rfl rfl rfl rfl rfl ?_
  refine tt_iconst (M := MX11_writes) (pc := 116) dX11_writes_116 ?_
  refine tt_ic_ne (M := MX11_writes) (pc := 117) 122 dX11_writes_117 rfl ?_ ?_
  · refine tt_ld (M := MX11_writes) (pc := 122) dX11_writes_122 rfl rfl rfl rfl rfl ?_
    refine tt_if_eq (M := MX11_writes) (pc := 124) 146 dX11_writes_124 rfl ?_ ?_
    · exact id
    · refine tt_ld (M := MX11_writes) (pc := 127) dX11_writes_127 rfl rfl rfl rfl rfl ?_
      refine tt_getR (M := MX11_writes) (pc := 128) dX11_writes_128 rfl h0.1 rfl ?_
      refine tt_ld (M := MX11_writes) (pc := 131) dX11_writes_131 rfl rfl rfl rfl rfl ?_
      refine tt_bipush (M := MX11_writes) (pc := 132) dX11_writes_132 (by decide) ?_
      refine tt_iadd (M := MX11_writes) (pc := 134) dX11_writes_134 ?_
      refine tt_dup2 (M := MX11_writes) (pc := 135) dX11_writes_135 rfl rfl ?_
      refine tt_iaload (M := MX11_writes) (pc := 136) dX11_writes_136 h0.2.1 rfl ?_
      refine tt_iconst (M := MX11_writes) (pc := 137) dX11_writes_137 ?_
      refine tt_iadd (M := MX11_writes) (pc := 138) dX11_writes_138 ?_
      refine tt_iastore (M := MX11_writes) (pc := 139) dX11_writes_139 h0.2.1 rfl ?_
      refine tt_ld (M := MX11_writes) (pc := 140) dX11_writes_140 rfl rfl rfl rfl rfl ?_
      refine tt_ld (M := MX11_writes) (pc := 141) dX11_writes_141 rfl rfl rfl rfl rfl ?_
      refine tt_ld (M := MX11_writes) (pc := 142) dX11_writes_142 rfl rfl rfl rfl rfl ?_
      refine tt_vcVN (M := MX11_writes) (pc := 143) dX11_writes_143 rfl rfl [] rfl rfl ⟨rfl, by decide, Nat.le_of_ble_eq_true rfl⟩ h0.1 fun S103 => ?_
      exact id
  · refine tt_iconst (M := MX11_writes) (pc := 120) dX11_writes_120 ?_
    exact tt_iret (M := MX11_writes) (pc := 121) dX11_writes_121 rfl
theorem qX11_writes_146 {sc : Nat × (Nat → Int32)} {SH : List mCell} {S : mStore} {r : mR × mW} (h0 : sMod SH) {l1 : Int} {l2 : Int} {l3 : Int} {l4 : Int} {l5 : Int} {l6 : Int} : ((∃ S101, G sc MX11_liesIn 0 [some (.ref 90), some (.int (I l1)), some (.int (I l2)), some (.int (I l6))] [] SH S (rV SH S101) ∧ G sc MX11_writes 154 [some (.ref 90), some (.int (I l1)), some (.int (I l2)), some (.int (I l3)), some (.int (I l4)), some (.int (I l5)), some (.int (I l6))] [] SH S101 r)) → G sc MX11_writes 146 [some (.ref 90), some (.int (I l1)), some (.int (I l2)), some (.int (I l3)), some (.int (I l4)), some (.int (I l5)), some (.int (I l6))] [] SH S r := by
  refine tt_ld (M := MX11_writes) (pc := 146) dX11_writes_146 rfl rfl rfl rfl rfl ?_
  refine tt_ld (M := MX11_writes) (pc := 147) dX11_writes_147 rfl rfl rfl rfl rfl ?_
  refine tt_ld (M := MX11_writes) (pc := 148) dX11_writes_148 rfl rfl rfl rfl rfl ?_
  refine tt_ld (M := MX11_writes) (pc := 149) dX11_writes_149 rfl rfl rfl rfl rfl ?_
  refine tt_vcVN (M := MX11_writes) (pc := 151) dX11_writes_151 rfl rfl [] rfl rfl ⟨rfl, by decide, Nat.le_of_ble_eq_true rfl⟩ h0.1 fun S101 => ?_
  exact id
theorem qX11_writes_154 {sc : Nat × (Nat → Int32)} {SH : List mCell} {S : mStore} {r : mR × mW} (h0 : sMod SH) {l1 : Int} {l2 : Int} {l3 : Int} {l4 : Int} {l5 : Int} {u6 : Option Value} : ((if I l5 = I 3 then (∃ S101, G sc MX11_leavesKnot 0 [some (.ref 90), some (.int (I l1)), some (.int (I l3)), none, none, none, none] [] SH S (rV SH S101) ∧ G sc MX11_writes 166 [some (.ref 90), some (.int (I l1)), some (.int (I l2)), some (.int (I l3)), some (.int (I l4)), some (.int (I l5)), u6] [] SH S101 r) else G sc MX11_writes 166 [some (.ref 90), some (.int (I l1)), some (.int (I l2)), some (.int (I l3)), some (.int (I l4)), some (.int (I l5)), u6] [] SH S r)) → G sc MX11_writes 154 [some (.ref 90), some (.int (I l1)), some (.int (I l2)), some (.int (I l3)), some (.int (I l4)), some (.int (I l5)), u6] [] SH S r := by
  refine tt_ld (M := MX11_writes) (pc := 154) dX11_writes_154 rfl rfl rfl rfl rfl ?_
  refine tt_iconst (M := MX11_writes) (pc := 156) dX11_writes_156 ?_
  refine tt_ic_ne (M := MX11_writes) (pc := 157) 166 dX11_writes_157 rfl ?_ ?_
  · exact id
  · refine tt_ld (M := MX11_writes) (pc := 160) dX11_writes_160 rfl rfl rfl rfl rfl ?_
    refine tt_ld (M := MX11_writes) (pc := 161) dX11_writes_161 rfl rfl rfl rfl rfl ?_
    refine tt_ld (M := MX11_writes) (pc := 162) dX11_writes_162 rfl rfl rfl rfl rfl ?_
    refine tt_vcVN (M := MX11_writes) (pc := 163) dX11_writes_163 rfl rfl [] rfl rfl ⟨rfl, by decide, Nat.le_of_ble_eq_true rfl⟩ h0.1 fun S101 => ?_
    exact id
theorem qX11_writes_166 {sc : Nat × (Nat → Int32)} {SH : List mCell} {S : mStore} {r : mR × mW} (h0 : sMod SH) {l1 : Int} {l2 : Int} {l3 : Int} {l4 : Int} {l5 : Int} {u6 : Option Value} : ((((0 : Int) ≤ (l1 + 16) + l2 ∧ (l1 + 16) + l2 < 137400) ∧ (∃ S101, G sc MX11_laysCells 0 [some (.ref 90), some (.int (I l1)), some (.int (I (S 91 ((l1 + 16) + l2)))), none] [] SH S (rV SH S101) ∧ r = rI l5 SH S101))) → G sc MX11_writes 166 [some (.ref 90), some (.int (I l1)), some (.int (I l2)), some (.int (I l3)), some (.int (I l4)), some (.int (I l5)), u6] [] SH S r := by
  refine tt_ld (M := MX11_writes) (pc := 166) dX11_writes_166 rfl rfl rfl rfl rfl ?_
  refine tt_ld (M := MX11_writes) (pc := 167) dX11_writes_167 rfl rfl rfl rfl rfl ?_
  refine tt_ld (M := MX11_writes) (pc := 168) dX11_writes_168 rfl rfl rfl rfl rfl ?_
  refine tt_getR (M := MX11_writes) (pc := 169) dX11_writes_169 rfl h0.1 rfl ?_
  refine tt_ld (M := MX11_writes) (pc := 172) dX11_writes_172 rfl rfl rfl rfl rfl ?_
  refine tt_bipush (M := MX11_writes) (pc := 173) dX11_writes_173 (by decide) ?_
  refine tt_iadd (M := MX11_writes) (pc := 175) dX11_writes_175 ?_
  refine tt_ld (M := MX11_writes) (pc := 176) dX11_writes_176 rfl rfl rfl rfl rfl ?_
  refine tt_iadd (M := MX11_writes) (pc := 177) dX11_writes_177 ?_
  refine tt_iaload (M := MX11_writes) (pc := 178) dX11_writes_178 h0.2.1 rfl ?_
  refine tt_vcVN (M := MX11_writes) (pc := 179) dX11_writes_179 rfl rfl [] rfl rfl ⟨rfl, by decide, Nat.le_of_ble_eq_true rfl⟩ h0.1 fun S101 => ?_
  refine tt_ld (M := MX11_writes) (pc := 182) dX11_writes_182 rfl rfl rfl rfl rfl ?_
  exact tt_iret (M := MX11_writes) (pc := 184) dX11_writes_184 rfl
theorem qX11_saysAs_0 {sc : Nat × (Nat → Int32)} {SH : List mCell} {S : mStore} {r : mR × mW} (h0 : sMod SH) {l1 : Int} {l2 : Int} {u3 : Option Value} : (G sc MX11_saysAs 2 [some (.ref 90), some (.int (I l1)), some (.int (I l2)), some (.int (I 0))] [] SH S r) → G sc MX11_saysAs 0 [some (.ref 90), some (.int (I l1)), some (.int (I l2)), u3] [] SH S r := by
  refine tt_iconst (M := MX11_saysAs) (pc := 0) dX11_saysAs_0 ?_
  refine tt_st (M := MX11_saysAs) (pc := 1) [some (.ref 90), some (.int (I l1)), some (.int (I l2)), some (.int (I 0))] dX11_saysAs_1 rfl rfl rfl rfl rfl rfl ?_
  exact id
theorem qX11_saysAs_2 {sc : Nat × (Nat → Int32)} {SH : List mCell} {S : mStore} {r : mR × mW} (h0 : sMod SH) {l1 : Int} {l2 : Int} {l3 : Int} : ((if I 4 ≤ I l3 then r = rV SH S else (∃ v101 S102, G sc MX11_cellOf 0 [some (.ref 90), some (.int (I l1)), some (.int (I l2)), some (.int (I l3)), none] [] SH S (rI v101 SH S102) ∧ (((0 : Int) ≤ l3 ∧ l3 < 4) ∧ G sc MX11_saysAs 2 [some (.ref 90), some (.int (I l1)), some (.int (I l2)), some (.int (I (l3 + 1)))] [] SH (up S102 101 l3 v101) r)))) → G sc MX11_saysAs 2 [some (.ref 90), some (.int (I l1)), some (.int (I l2)), some (.int (I l3))] [] SH S r := by
  refine tt_ld (M := MX11_saysAs) (pc := 2) dX11_saysAs_2 rfl rfl rfl rfl rfl ?_
  refine tt_iconst (M := MX11_saysAs) (pc := 3) dX11_saysAs_3 ?_
  refine tt_ic_ge (M := MX11_saysAs) (pc := 4) 26 dX11_saysAs_4 rfl ?_ ?_
  · exact tt_ret (M := MX11_saysAs) (pc := 26) dX11_saysAs_26 rfl
  · refine tt_ld (M := MX11_saysAs) (pc := 7) dX11_saysAs_7 rfl rfl rfl rfl rfl ?_
    refine tt_getR (M := MX11_saysAs) (pc := 8) dX11_saysAs_8 rfl h0.1 rfl ?_
    refine tt_ld (M := MX11_saysAs) (pc := 11) dX11_saysAs_11 rfl rfl rfl rfl rfl ?_
    refine tt_ld (M := MX11_saysAs) (pc := 12) dX11_saysAs_12 rfl rfl rfl rfl rfl ?_
    refine tt_ld (M := MX11_saysAs) (pc := 13) dX11_saysAs_13 rfl rfl rfl rfl rfl ?_
    refine tt_ld (M := MX11_saysAs) (pc := 14) dX11_saysAs_14 rfl rfl rfl rfl rfl ?_
    refine tt_ld (M := MX11_saysAs) (pc := 15) dX11_saysAs_15 rfl rfl rfl rfl rfl ?_
    refine tt_vcIN (M := MX11_saysAs) (pc := 16) dX11_saysAs_16 rfl rfl [.int (I l3), .ref 101] rfl rfl ⟨rfl, by decide, Nat.le_of_ble_eq_true rfl⟩ h0.1 fun v101 S102 => ?_
    refine tt_iastore (M := MX11_saysAs) (pc := 19) dX11_saysAs_19 h0.2.2.2.2.2.2.2.2.2.2.2.1 rfl ?_
    refine tt_iinc (M := MX11_saysAs) (pc := 20) [some (.ref 90), some (.int (I l1)), some (.int (I l2)), some (.int (I (l3 + 1)))] dX11_saysAs_20 rfl rfl ?_
    refine tt_goto (M := MX11_saysAs) (pc := 23) 2 dX11_saysAs_23 rfl ?_
    exact id
theorem qX11_writesCell_0 {sc : Nat × (Nat → Int32)} {SH : List mCell} {S : mStore} {r : mR × mW} (h0 : sMod SH) {l1 : Int} {l2 : Int} {l3 : Int} {l4 : Int} : ((∃ S101, G sc MX11_saysAs 0 [some (.ref 90), some (.int (I l1)), some (.int (I l2)), none] [] SH S (rV SH S101) ∧ (((0 : Int) ≤ l3 ∧ l3 < 4) ∧ (∃ v102 S103, G sc MX11_writes 0 [some (.ref 90), some (.int (I l1)), some (.int (I l2)), none, none, none, none] [] SH (up S101 101 l3 l4) (rI v102 SH S103) ∧ r = rI v102 SH S103)))) → G sc MX11_writesCell 0 [some (.ref 90), some (.int (I l1)), some (.int (I l2)), some (.int (I l3)), some (.int (I l4))] [] SH S r := by
  refine tt_ld (M := MX11_writesCell) (pc := 0) dX11_writesCell_0 rfl rfl rfl rfl rfl ?_
  refine tt_ld (M := MX11_writesCell) (pc := 1) dX11_writesCell_1 rfl rfl rfl rfl rfl ?_
  refine tt_ld (M := MX11_writesCell) (pc := 2) dX11_writesCell_2 rfl rfl rfl rfl rfl ?_
  refine tt_vcVN (M := MX11_writesCell) (pc := 3) dX11_writesCell_3 rfl rfl [] rfl rfl ⟨rfl, by decide, Nat.le_of_ble_eq_true rfl⟩ h0.1 fun S101 => ?_
  refine tt_ld (M := MX11_writesCell) (pc := 6) dX11_writesCell_6 rfl rfl rfl rfl rfl ?_
  refine tt_getR (M := MX11_writesCell) (pc := 7) dX11_writesCell_7 rfl h0.1 rfl ?_
  refine tt_ld (M := MX11_writesCell) (pc := 10) dX11_writesCell_10 rfl rfl rfl rfl rfl ?_
  refine tt_ld (M := MX11_writesCell) (pc := 11) dX11_writesCell_11 rfl rfl rfl rfl rfl ?_
  refine tt_iastore (M := MX11_writesCell) (pc := 13) dX11_writesCell_13 h0.2.2.2.2.2.2.2.2.2.2.2.1 rfl ?_
  refine tt_ld (M := MX11_writesCell) (pc := 14) dX11_writesCell_14 rfl rfl rfl rfl rfl ?_
  refine tt_ld (M := MX11_writesCell) (pc := 15) dX11_writesCell_15 rfl rfl rfl rfl rfl ?_
  refine tt_ld (M := MX11_writesCell) (pc := 16) dX11_writesCell_16 rfl rfl rfl rfl rfl ?_
  refine tt_vcIN (M := MX11_writesCell) (pc := 17) dX11_writesCell_17 rfl rfl [] rfl rfl ⟨rfl, by decide, Nat.le_of_ble_eq_true rfl⟩ h0.1 fun v102 S103 => ?_
  exact tt_iret (M := MX11_writesCell) (pc := 20) dX11_writesCell_20 rfl
theorem qX11_drops_0 {sc : Nat × (Nat → Int32)} {SH : List mCell} {S : mStore} {r : mR × mW} (h0 : sMod SH) {l1 : Int} {l2 : Int} {u3 : Option Value} : ((((0 : Int) ≤ (l1 + 16) + l2 ∧ (l1 + 16) + l2 < 137400) ∧ (if I (S 91 ((l1 + 16) + l2)) = I (-1) then r = rI (-1) SH S else (∃ S101, G sc MX11_leavesFrame 0 [some (.ref 90), some (.int (I l1)), some (.int (I l2)), none, none, none, none] [] SH S (rV SH S101) ∧ (((0 : Int) ≤ (l1 + 544) + (S 91 ((l1 + 16) + l2)) ∧ (l1 + 544) + (S 91 ((l1 + 16) + l2)) < 137400) ∧ (if I (S101 91 ((l1 + 544) + (S 91 ((l1 + 16) + l2)))) = I 0 then r = rI 1 SH S101 else r = rI 0 SH S101)))))) → G sc MX11_drops 0 [some (.ref 90), some (.int (I l1)), some (.int (I l2)), u3] [] SH S r := by
  refine tt_ld (M := MX11_drops) (pc := 0) dX11_drops_0 rfl rfl rfl rfl rfl ?_
  refine tt_getR (M := MX11_drops) (pc := 1) dX11_drops_1 rfl h0.1 rfl ?_
  refine tt_ld (M := MX11_drops) (pc := 4) dX11_drops_4 rfl rfl rfl rfl rfl ?_
  refine tt_bipush (M := MX11_drops) (pc := 5) dX11_drops_5 (by decide) ?_
  refine tt_iadd (M := MX11_drops) (pc := 7) dX11_drops_7 ?_
  refine tt_ld (M := MX11_drops) (pc := 8) dX11_drops_8 rfl rfl rfl rfl rfl ?_
  refine tt_iadd (M := MX11_drops) (pc := 9) dX11_drops_9 ?_
  refine tt_iaload (M := MX11_drops) (pc := 10) dX11_drops_10 h0.2.1 rfl ?_
  refine tt_st (M := MX11_drops) (pc := 11) [some (.ref 90), some (.int (I l1)), some (.int (I l2)), some (.int (I (S 91 ((l1 + 16) + l2))))] dX11_drops_11 rfl rfl rfl rfl rfl rfl ?_
  refine tt_ld (M := MX11_drops) (pc := 12) dX11_drops_12 rfl rfl rfl rfl rfl ?_
  refine tt_iconst (M := MX11_drops) (pc := 13) dX11_drops_13 ?_
  refine tt_ic_ne (M := MX11_drops) (pc := 14) 19 dX11_drops_14 rfl ?_ ?_
  · refine tt_ld (M := MX11_drops) (pc := 19) dX11_drops_19 rfl rfl rfl rfl rfl ?_
    refine tt_ld (M := MX11_drops) (pc := 20) dX11_drops_20 rfl rfl rfl rfl rfl ?_
    refine tt_ld (M := MX11_drops) (pc := 21) dX11_drops_21 rfl rfl rfl rfl rfl ?_
    refine tt_vcVN (M := MX11_drops) (pc := 22) dX11_drops_22 rfl rfl [] rfl rfl ⟨rfl, by decide, Nat.le_of_ble_eq_true rfl⟩ h0.1 fun S101 => ?_
    refine tt_ld (M := MX11_drops) (pc := 25) dX11_drops_25 rfl rfl rfl rfl rfl ?_
    refine tt_getR (M := MX11_drops) (pc := 26) dX11_drops_26 rfl h0.1 rfl ?_
    refine tt_ld (M := MX11_drops) (pc := 29) dX11_drops_29 rfl rfl rfl rfl rfl ?_
    refine tt_sipush (M := MX11_drops) (pc := 30) dX11_drops_30 (by decide) ?_
    refine tt_iadd (M := MX11_drops) (pc := 33) dX11_drops_33 ?_
    refine tt_ld (M := MX11_drops) (pc := 34) dX11_drops_34 rfl rfl rfl rfl rfl ?_
    refine tt_iadd (M := MX11_drops) (pc := 35) dX11_drops_35 ?_
    refine tt_iaload (M := MX11_drops) (pc := 36) dX11_drops_36 h0.2.1 rfl ?_
    refine tt_if_ne (M := MX11_drops) (pc := 37) 44 dX11_drops_37 rfl ?_ ?_
    · refine tt_iconst (M := MX11_drops) (pc := 44) dX11_drops_44 ?_
      exact tt_iret (M := MX11_drops) (pc := 45) dX11_drops_45 rfl
    · refine tt_iconst (M := MX11_drops) (pc := 40) dX11_drops_40 ?_
      refine tt_goto (M := MX11_drops) (pc := 41) 45 dX11_drops_41 rfl ?_
      exact tt_iret (M := MX11_drops) (pc := 45) dX11_drops_45 rfl
  · refine tt_iconst (M := MX11_drops) (pc := 17) dX11_drops_17 ?_
    exact tt_iret (M := MX11_drops) (pc := 18) dX11_drops_18 rfl
theorem qX11_waitsNoMore_0 {sc : Nat × (Nat → Int32)} {SH : List mCell} {S : mStore} {r : mR × mW} (h0 : sMod SH) {l1 : Int} {l2 : Int} {u3 : Option Value} {u4 : Option Value} : ((∃ v101 S102, G sc MX11_realm 0 [some (.ref 90), some (.int (I l2))] [] SH S (rI v101 SH S102) ∧ (∃ v103 S104, G sc MX11_placeIn 0 [some (.ref 90), some (.int (I ((l1 + 1363) + (97 * v101)))), some (.int (I l2)), none] [] SH S102 (rI v103 SH S104) ∧ (if I v103 = I (-1) then (((0 : Int) ≤ (l1 + 304) + l2 ∧ (l1 + 304) + l2 < 137400) ∧ r = rV SH (up S104 91 ((l1 + 304) + l2) 0)) else (∃ S105, G sc MX11_takesOut 0 [some (.ref 90), some (.int (I ((l1 + 1363) + (97 * v101)))), some (.int (I v103)), none] [] SH S104 (rV SH S105) ∧ (((0 : Int) ≤ (l1 + 304) + l2 ∧ (l1 + 304) + l2 < 137400) ∧ r = rV SH (up S105 91 ((l1 + 304) + l2) 0))))))) → G sc MX11_waitsNoMore 0 [some (.ref 90), some (.int (I l1)), some (.int (I l2)), u3, u4] [] SH S r := by
  refine tt_ld (M := MX11_waitsNoMore) (pc := 0) dX11_waitsNoMore_0 rfl rfl rfl rfl rfl ?_
  refine tt_sipush (M := MX11_waitsNoMore) (pc := 1) dX11_waitsNoMore_1 (by decide) ?_
  refine tt_iadd (M := MX11_waitsNoMore) (pc := 4) dX11_waitsNoMore_4 ?_
  refine tt_bipush (M := MX11_waitsNoMore) (pc := 5) dX11_waitsNoMore_5 (by decide) ?_
  refine tt_ld (M := MX11_waitsNoMore) (pc := 7) dX11_waitsNoMore_7 rfl rfl rfl rfl rfl ?_
  refine tt_ld (M := MX11_waitsNoMore) (pc := 8) dX11_waitsNoMore_8 rfl rfl rfl rfl rfl ?_
  refine tt_vcIN (M := MX11_waitsNoMore) (pc := 9) dX11_waitsNoMore_9 rfl rfl [.int (I 97), .int (I (l1 + 1363))] rfl rfl ⟨rfl, by decide, Nat.le_of_ble_eq_true rfl⟩ h0.1 fun v101 S102 => ?_
  refine tt_imul (M := MX11_waitsNoMore) (pc := 12) dX11_waitsNoMore_12 ?_
  refine tt_iadd (M := MX11_waitsNoMore) (pc := 13) dX11_waitsNoMore_13 ?_
  refine tt_st (M := MX11_waitsNoMore) (pc := 14) [some (.ref 90), some (.int (I l1)), some (.int (I l2)), some (.int (I ((l1 + 1363) + (97 * v101)))), u4] dX11_waitsNoMore_14 rfl rfl rfl rfl rfl rfl ?_
  refine tt_ld (M := MX11_waitsNoMore) (pc := 15) dX11_waitsNoMore_15 rfl rfl rfl rfl rfl ?_
  refine tt_ld (M := MX11_waitsNoMore) (pc := 16) dX11_waitsNoMore_16 rfl rfl rfl rfl rfl ?_
  refine tt_ld (M := MX11_waitsNoMore) (pc := 17) dX11_waitsNoMore_17 rfl rfl rfl rfl rfl ?_
  refine tt_vcIN (M := MX11_waitsNoMore) (pc := 18) dX11_waitsNoMore_18 rfl rfl [] rfl rfl ⟨rfl, by decide, Nat.le_of_ble_eq_true rfl⟩ h0.1 fun v103 S104 => ?_
  refine tt_st (M := MX11_waitsNoMore) (pc := 21) [some (.ref 90), some (.int (I l1)), some (.int (I l2)), some (.int (I ((l1 + 1363) + (97 * v101)))), some (.int (I v103))] dX11_waitsNoMore_21 rfl rfl rfl rfl rfl rfl ?_
  refine tt_ld (M := MX11_waitsNoMore) (pc := 23) dX11_waitsNoMore_23 rfl rfl rfl rfl rfl ?_
  refine tt_iconst (M := MX11_waitsNoMore) (pc := 25) dX11_waitsNoMore_25 ?_
  refine tt_ic_eq (M := MX11_waitsNoMore) (pc := 26) 36 dX11_waitsNoMore_26 rfl ?_ ?_
  · refine tt_ld (M := MX11_waitsNoMore) (pc := 36) dX11_waitsNoMore_36 rfl rfl rfl rfl rfl ?_
    refine tt_getR (M := MX11_waitsNoMore) (pc := 37) dX11_waitsNoMore_37 rfl h0.1 rfl ?_
    refine tt_ld (M := MX11_waitsNoMore) (pc := 40) dX11_waitsNoMore_40 rfl rfl rfl rfl rfl ?_
    refine tt_sipush (M := MX11_waitsNoMore) (pc := 41) dX11_waitsNoMore_41 (by decide) ?_
    refine tt_iadd (M := MX11_waitsNoMore) (pc := 44) dX11_waitsNoMore_44 ?_
    refine tt_ld (M := MX11_waitsNoMore) (pc := 45) dX11_waitsNoMore_45 rfl rfl rfl rfl rfl ?_
    refine tt_iadd (M := MX11_waitsNoMore) (pc := 46) dX11_waitsNoMore_46 ?_
    refine tt_iconst (M := MX11_waitsNoMore) (pc := 47) dX11_waitsNoMore_47 ?_
    refine tt_iastore (M := MX11_waitsNoMore) (pc := 48) dX11_waitsNoMore_48 h0.2.1 rfl ?_
    exact tt_ret (M := MX11_waitsNoMore) (pc := 49) dX11_waitsNoMore_49 rfl
  · refine tt_ld (M := MX11_waitsNoMore) (pc := 29) dX11_waitsNoMore_29 rfl rfl rfl rfl rfl ?_
    refine tt_ld (M := MX11_waitsNoMore) (pc := 30) dX11_waitsNoMore_30 rfl rfl rfl rfl rfl ?_
    refine tt_ld (M := MX11_waitsNoMore) (pc := 31) dX11_waitsNoMore_31 rfl rfl rfl rfl rfl ?_
    refine tt_vcVN (M := MX11_waitsNoMore) (pc := 33) dX11_waitsNoMore_33 rfl rfl [] rfl rfl ⟨rfl, by decide, Nat.le_of_ble_eq_true rfl⟩ h0.1 fun S105 => ?_
    refine tt_ld (M := MX11_waitsNoMore) (pc := 36) dX11_waitsNoMore_36 rfl rfl rfl rfl rfl ?_
    refine tt_getR (M := MX11_waitsNoMore) (pc := 37) dX11_waitsNoMore_37 rfl h0.1 rfl ?_
    refine tt_ld (M := MX11_waitsNoMore) (pc := 40) dX11_waitsNoMore_40 rfl rfl rfl rfl rfl ?_
    refine tt_sipush (M := MX11_waitsNoMore) (pc := 41) dX11_waitsNoMore_41 (by decide) ?_
    refine tt_iadd (M := MX11_waitsNoMore) (pc := 44) dX11_waitsNoMore_44 ?_
    refine tt_ld (M := MX11_waitsNoMore) (pc := 45) dX11_waitsNoMore_45 rfl rfl rfl rfl rfl ?_
    refine tt_iadd (M := MX11_waitsNoMore) (pc := 46) dX11_waitsNoMore_46 ?_
    refine tt_iconst (M := MX11_waitsNoMore) (pc := 47) dX11_waitsNoMore_47 ?_
    refine tt_iastore (M := MX11_waitsNoMore) (pc := 48) dX11_waitsNoMore_48 h0.2.1 rfl ?_
    exact tt_ret (M := MX11_waitsNoMore) (pc := 49) dX11_waitsNoMore_49 rfl
theorem qX11_advises_0 {sc : Nat × (Nat → Int32)} {SH : List mCell} {S : mStore} {r : mR × mW} (h0 : sMod SH) {l1 : Int} {l2 : Int} {l3 : Int} {l4 : Int} {u5 : Option Value} {u6 : Option Value} : (G sc MX11_advises 6 [some (.ref 90), some (.int (I l1)), some (.int (I l2)), some (.int (I l3)), some (.int (I l4)), some (.int (I 0)), some (.int (I l2))] [] SH S r) → G sc MX11_advises 0 [some (.ref 90), some (.int (I l1)), some (.int (I l2)), some (.int (I l3)), some (.int (I l4)), u5, u6] [] SH S r := by
  refine tt_iconst (M := MX11_advises) (pc := 0) dX11_advises_0 ?_
  refine tt_st (M := MX11_advises) (pc := 1) [some (.ref 90), some (.int (I l1)), some (.int (I l2)), some (.int (I l3)), some (.int (I l4)), some (.int (I 0)), u6] dX11_advises_1 rfl rfl rfl rfl rfl rfl ?_
  refine tt_ld (M := MX11_advises) (pc := 3) dX11_advises_3 rfl rfl rfl rfl rfl ?_
  refine tt_st (M := MX11_advises) (pc := 4) [some (.ref 90), some (.int (I l1)), some (.int (I l2)), some (.int (I l3)), some (.int (I l4)), some (.int (I 0)), some (.int (I l2))] dX11_advises_4 rfl rfl rfl rfl rfl rfl ?_
  exact id
theorem qX11_advises_6 {sc : Nat × (Nat → Int32)} {SH : List mCell} {S : mStore} {r : mR × mW} (h0 : sMod SH) {l1 : Int} {l2 : Int} {l3 : Int} {l4 : Int} {l5 : Int} {l6 : Int} : ((if I l3 < I l6 then r = rI l5 SH S else (((0 : Int) ≤ (l1 + 64) + l6 ∧ (l1 + 64) + l6 < 137400) ∧ (if I (S 91 ((l1 + 64) + l6)) = I l4 then G sc MX11_advises 114 [some (.ref 90), some (.int (I l1)), some (.int (I l2)), some (.int (I l3)), some (.int (I l4)), some (.int (I l5)), some (.int (I l6))] [] SH S r else (if I l4 = I 0 then (∃ v102 S103, G sc MX11_isMerged 0 [some (.ref 90), some (.int (I l1)), some (.int (I l6))] [] SH S (rI v102 SH S103) ∧ (if I v102 = I 0 then (if I l4 = I 0 then (((0 : Int) ≤ (l1 + 304) + l6 ∧ (l1 + 304) + l6 < 137400) ∧ (if I (S103 91 ((l1 + 304) + l6)) = I 1 then (∃ S104, G sc MX11_waitsNoMore 0 [some (.ref 90), some (.int (I l1)), some (.int (I l6)), none, none] [] SH S103 (rV SH S104) ∧ G sc MX11_advises 97 [some (.ref 90), some (.int (I l1)), some (.int (I l2)), some (.int (I l3)), some (.int (I l4)), some (.int (I l5)), some (.int (I l6))] [] SH S104 r) else G sc MX11_advises 97 [some (.ref 90), some (.int (I l1)), some (.int (I l2)), some (.int (I l3)), some (.int (I l4)), some (.int (I l5)), some (.int (I l6))] [] SH S103 r)) else G sc MX11_advises 97 [some (.ref 90), some (.int (I l1)), some (.int (I l2)), some (.int (I l3)), some (.int (I l4)), some (.int (I l5)), some (.int (I l6))] [] SH S103 r) else (∃ S105, G sc MX11_saysAs 0 [some (.ref 90), some (.int (I l1)), some (.int (I l6)), none] [] SH S103 (rV SH S105) ∧ (∃ v106 S107, G sc MX11_writes 0 [some (.ref 90), some (.int (I l1)), some (.int (I l6)), none, none, none, none] [] SH S105 (rI v106 SH S107) ∧ (if I v106 = I (-1) then r = rI l5 SH S107 else (if I l4 = I 0 then (((0 : Int) ≤ (l1 + 304) + l6 ∧ (l1 + 304) + l6 < 137400) ∧ (if I (S107 91 ((l1 + 304) + l6)) = I 1 then (∃ S108, G sc MX11_waitsNoMore 0 [some (.ref 90), some (.int (I l1)), some (.int (I l6)), none, none] [] SH S107 (rV SH S108) ∧ G sc MX11_advises 97 [some (.ref 90), some (.int (I l1)), some (.int (I l2)), some (.int (I l3)), some (.int (I l4)), some (.int (I l5)), some (.int (I l6))] [] SH S108 r) else G sc MX11_advises 97 [some (.ref 90), some (.int (I l1)), some (.int (I l2)), some (.int (I l3)), some (.int (I l4)), some (.int (I l5)), some (.int (I l6))] [] SH S107 r)) else G sc MX11_advises 97 [some (.ref 90), some (.int (I l1)), some (.int (I l2)), some (.int (I l3)), some (.int (I l4)), some (.int (I l5)), some (.int (I l6))] [] SH S107 r)))))) else (if I l4 = I 0 then (((0 : Int) ≤ (l1 + 304) + l6 ∧ (l1 + 304) + l6 < 137400) ∧ (if I (S 91 ((l1 + 304) + l6)) = I 1 then (∃ S101, G sc MX11_waitsNoMore 0 [some (.ref 90), some (.int (I l1)), some (.int (I l6)), none, none] [] SH S (rV SH S101) ∧ G sc MX11_advises 97 [some (.ref 90), some (.int (I l1)), some (.int (I l2)), some (.int (I l3)), some (.int (I l4)), some (.int (I l5)), some (.int (I l6))] [] SH S101 r) else G sc MX11_advises 97 [some (.ref 90), some (.int (I l1)), some (.int (I l2)), some (.int (I l3)), some (.int (I l4)), some (.int (I l5)), some (.int (I l6))] [] SH S r)) else G sc MX11_advises 97 [some (.ref 90), some (.int (I l1)), some (.int (I l2)), some (.int (I l3)), some (.int (I l4)), some (.int (I l5)), some (.int (I l6))] [] SH S r)))))) → G sc MX11_advises 6 [some (.ref 90), some (.int (I l1)), some (.int (I l2)), some (.int (I l3)), some (.int (I l4)), some (.int (I l5)), some (.int (I l6))] [] SH S r := by
  refine tt_ld (M := MX11_advises) (pc := 6) dX11_advises_6 rfl rfl rfl rfl rfl ?_
  refine tt_ld (M := MX11_advises) (pc := 8) dX11_advises_8 rfl rfl rfl rfl rfl ?_
  refine tt_ic_gt (M := MX11_advises) (pc := 9) 120 dX11_advises_9 rfl ?_ ?_
  · refine tt_ld (M := MX11_advises) (pc := 120) dX11_advises_120 rfl rfl rfl rfl rfl ?_
    exact tt_iret (M := MX11_advises) (pc := 122) dX11_advises_122 rfl
  · refine tt_ld (M := MX11_advises) (pc := 12) dX11_advises_12 rfl rfl rfl rfl rfl ?_
    refine tt_getR (M := MX11_advises) (pc := 13) dX11_advises_13 rfl h0.1 rfl ?_
    refine tt_ld (M := MX11_advises) (pc := 16) dX11_advises_16 rfl rfl rfl rfl rfl ?_
    refine tt_bipush (M := MX11_advises) (pc := 17) dX11_advises_17 (by decide) ?_
    refine tt_iadd (M := MX11_advises) (pc := 19) dX11_advises_19 ?_
    refine tt_ld (M := MX11_advises) (pc := 20) dX11_advises_20 rfl rfl rfl rfl rfl ?_
    refine tt_iadd (M := MX11_advises) (pc := 22) dX11_advises_22 ?_
    refine tt_iaload (M := MX11_advises) (pc := 23) dX11_advises_23 h0.2.1 rfl ?_
    refine tt_ld (M := MX11_advises) (pc := 24) dX11_advises_24 rfl rfl rfl rfl rfl ?_
    refine tt_ic_ne (M := MX11_advises) (pc := 26) 32 dX11_advises_26 rfl ?_ ?_
    · refine tt_ld (M := MX11_advises) (pc := 32) dX11_advises_32 rfl rfl rfl rfl rfl ?_
      refine tt_if_ne (M := MX11_advises) (pc := 34) 68 dX11_advises_34 rfl ?_ ?_
      · refine tt_ld (M := MX11_advises) (pc := 68) dX11_advises_68 rfl rfl rfl rfl rfl ?_
        refine tt_if_ne (M := MX11_advises) (pc := 70) 97 dX11_advises_70 rfl ?_ ?_
        · exact id
        · refine tt_ld (M := MX11_advises) (pc := 73) dX11_advises_73 rfl rfl rfl rfl rfl ?_
          refine tt_getR (M := MX11_advises) (pc := 74) dX11_advises_74 rfl h0.1 rfl ?_
          refine tt_ld (M := MX11_advises) (pc := 77) dX11_advises_77 rfl rfl rfl rfl rfl ?_
          refine tt_sipush (M := MX11_advises) (pc := 78) dX11_advises_78 (by decide) ?_
          refine tt_iadd (M := MX11_advises) (pc := 81) dX11_advises_81 ?_
          refine tt_ld (M := MX11_advises) (pc := 82) dX11_advises_82 rfl rfl rfl rfl rfl ?_
          refine tt_iadd (M := MX11_advises) (pc := 84) dX11_advises_84 ?_
          refine tt_iaload (M := MX11_advises) (pc := 85) dX11_advises_85 h0.2.1 rfl ?_
          refine tt_iconst (M := MX11_advises) (pc := 86) dX11_advises_86 ?_
          refine tt_ic_ne (M := MX11_advises) (pc := 87) 97 dX11_advises_87 rfl ?_ ?_
          · exact id
          · refine tt_ld (M := MX11_advises) (pc := 90) dX11_advises_90 rfl rfl rfl rfl rfl ?_
            refine tt_ld (M := MX11_advises) (pc := 91) dX11_advises_91 rfl rfl rfl rfl rfl ?_
            refine tt_ld (M := MX11_advises) (pc := 92) dX11_advises_92 rfl rfl rfl rfl rfl ?_
            refine tt_vcVN (M := MX11_advises) (pc := 94) dX11_advises_94 rfl rfl [] rfl rfl ⟨rfl, by decide, Nat.le_of_ble_eq_true rfl⟩ h0.1 fun S101 => ?_
            exact id
      · refine tt_ld (M := MX11_advises) (pc := 37) dX11_advises_37 rfl rfl rfl rfl rfl ?_
        refine tt_ld (M := MX11_advises) (pc := 38) dX11_advises_38 rfl rfl rfl rfl rfl ?_
        refine tt_ld (M := MX11_advises) (pc := 39) dX11_advises_39 rfl rfl rfl rfl rfl ?_
        refine tt_vcIN (M := MX11_advises) (pc := 41) dX11_advises_41 rfl rfl [] rfl rfl ⟨rfl, by decide, Nat.le_of_ble_eq_true rfl⟩ h0.1 fun v102 S103 => ?_
        refine tt_if_eq (M := MX11_advises) (pc := 44) 68 dX11_advises_44 rfl ?_ ?_
        · refine tt_ld (M := MX11_advises) (pc := 68) dX11_advises_68 rfl rfl rfl rfl rfl ?_
          refine tt_if_ne (M := MX11_advises) (pc := 70) 97 dX11_advises_70 rfl ?_ ?_
          · exact id
          · refine tt_ld (M := MX11_advises) (pc := 73) dX11_advises_73 rfl rfl rfl rfl rfl ?_
            refine tt_getR (M := MX11_advises) (pc := 74) dX11_advises_74 rfl h0.1 rfl ?_
            refine tt_ld (M := MX11_advises) (pc := 77) dX11_advises_77 rfl rfl rfl rfl rfl ?_
            refine tt_sipush (M := MX11_advises) (pc := 78) dX11_advises_78 (by decide) ?_
            refine tt_iadd (M := MX11_advises) (pc := 81) dX11_advises_81 ?_
            refine tt_ld (M := MX11_advises) (pc := 82) dX11_advises_82 rfl rfl rfl rfl rfl ?_
            refine tt_iadd (M := MX11_advises) (pc := 84) dX11_advises_84 ?_
            refine tt_iaload (M := MX11_advises) (pc := 85) dX11_advises_85 h0.2.1 rfl ?_
            refine tt_iconst (M := MX11_advises) (pc := 86) dX11_advises_86 ?_
            refine tt_ic_ne (M := MX11_advises) (pc := 87) 97 dX11_advises_87 rfl ?_ ?_
            · exact id
            · refine tt_ld (M := MX11_advises) (pc := 90) dX11_advises_90 rfl rfl rfl rfl rfl ?_
              refine tt_ld (M := MX11_advises) (pc := 91) dX11_advises_91 rfl rfl rfl rfl rfl ?_
              refine tt_ld (M := MX11_advises) (pc := 92) dX11_advises_92 rfl rfl rfl rfl rfl ?_
              refine tt_vcVN (M := MX11_advises) (pc := 94) dX11_advises_94 rfl rfl [] rfl rfl ⟨rfl, by decide, Nat.le_of_ble_eq_true rfl⟩ h0.1 fun S104 => ?_
              exact id
        · refine tt_ld (M := MX11_advises) (pc := 47) dX11_advises_47 rfl rfl rfl rfl rfl ?_
          refine tt_ld (M := MX11_advises) (pc := 48) dX11_advises_48 rfl rfl rfl rfl rfl ?_
          refine tt_ld (M := MX11_advises) (pc := 49) dX11_advises_49 rfl rfl rfl rfl rfl ?_
          refine tt_vcVN (M := MX11_advises) (pc := 51) dX11_advises_51 rfl rfl [] rfl rfl ⟨rfl, by decide, Nat.le_of_ble_eq_true rfl⟩ h0.1 fun S105 => ?_
          refine tt_ld (M := MX11_advises) (pc := 54) dX11_advises_54 rfl rfl rfl rfl rfl ?_
          refine tt_ld (M := MX11_advises) (pc := 55) dX11_advises_55 rfl rfl rfl rfl rfl ?_
          refine tt_ld (M := MX11_advises) (pc := 56) dX11_advises_56 rfl rfl rfl rfl rfl ?_
          refine tt_vcIN (M := MX11_advises) (pc := 58) dX11_advises_58 rfl rfl [] rfl rfl ⟨rfl, by decide, Nat.le_of_ble_eq_true rfl⟩ h0.1 fun v106 S107 => ?_
          refine tt_iconst (M := MX11_advises) (pc := 61) dX11_advises_61 ?_
          refine tt_ic_ne (M := MX11_advises) (pc := 62) 68 dX11_advises_62 rfl ?_ ?_
          · refine tt_ld (M := MX11_advises) (pc := 68) dX11_advises_68 rfl rfl rfl rfl rfl ?_
            refine tt_if_ne (M := MX11_advises) (pc := 70) 97 dX11_advises_70 rfl ?_ ?_
            · exact id
            · refine tt_ld (M := MX11_advises) (pc := 73) dX11_advises_73 rfl rfl rfl rfl rfl ?_
              refine tt_getR (M := MX11_advises) (pc := 74) dX11_advises_74 rfl h0.1 rfl ?_
              refine tt_ld (M := MX11_advises) (pc := 77) dX11_advises_77 rfl rfl rfl rfl rfl ?_
              refine tt_sipush (M := MX11_advises) (pc := 78) dX11_advises_78 (by decide) ?_
              refine tt_iadd (M := MX11_advises) (pc := 81) dX11_advises_81 ?_
              refine tt_ld (M := MX11_advises) (pc := 82) dX11_advises_82 rfl rfl rfl rfl rfl ?_
              refine tt_iadd (M := MX11_advises) (pc := 84) dX11_advises_84 ?_
              refine tt_iaload (M := MX11_advises) (pc := 85) dX11_advises_85 h0.2.1 rfl ?_
              refine tt_iconst (M := MX11_advises) (pc := 86) dX11_advises_86 ?_
              refine tt_ic_ne (M := MX11_advises) (pc := 87) 97 dX11_advises_87 rfl ?_ ?_
              · exact id
              · refine tt_ld (M := MX11_advises) (pc := 90) dX11_advises_90 rfl rfl rfl rfl rfl ?_
                refine tt_ld (M := MX11_advises) (pc := 91) dX11_advises_91 rfl rfl rfl rfl rfl ?_
                refine tt_ld (M := MX11_advises) (pc := 92) dX11_advises_92 rfl rfl rfl rfl rfl ?_
                refine tt_vcVN (M := MX11_advises) (pc := 94) dX11_advises_94 rfl rfl [] rfl rfl ⟨rfl, by decide, Nat.le_of_ble_eq_true rfl⟩ h0.1 fun S108 => ?_
                exact id
          · refine tt_ld (M := MX11_advises) (pc := 65) dX11_advises_65 rfl rfl rfl rfl rfl ?_
            exact tt_iret (M := MX11_advises) (pc := 67) dX11_advises_67 rfl
    · refine tt_goto (M := MX11_advises) (pc := 29) 114 dX11_advises_29 rfl ?_
      exact id
theorem qX11_advises_97 {sc : Nat × (Nat → Int32)} {SH : List mCell} {S : mStore} {r : mR × mW} (h0 : sMod SH) {l1 : Int} {l2 : Int} {l3 : Int} {l4 : Int} {l5 : Int} {l6 : Int} : ((((0 : Int) ≤ (l1 + 64) + l6 ∧ (l1 + 64) + l6 < 137400) ∧ G sc MX11_advises 114 [some (.ref 90), some (.int (I l1)), some (.int (I l2)), some (.int (I l3)), some (.int (I l4)), some (.int (I (l5 + 1))), some (.int (I l6))] [] SH (up S 91 ((l1 + 64) + l6) l4) r)) → G sc MX11_advises 97 [some (.ref 90), some (.int (I l1)), some (.int (I l2)), some (.int (I l3)), some (.int (I l4)), some (.int (I l5)), some (.int (I l6))] [] SH S r := by
  refine tt_ld (M := MX11_advises) (pc := 97) dX11_advises_97 rfl rfl rfl rfl rfl ?_
  refine tt_getR (M := MX11_advises) (pc := 98) dX11_advises_98 rfl h0.1 rfl ?_
  refine tt_ld (M := MX11_advises) (pc := 101) dX11_advises_101 rfl rfl rfl rfl rfl ?_
  refine tt_bipush (M := MX11_advises) (pc := 102) dX11_advises_102 (by decide) ?_
  refine tt_iadd (M := MX11_advises) (pc := 104) dX11_advises_104 ?_
  refine tt_ld (M := MX11_advises) (pc := 105) dX11_advises_105 rfl rfl rfl rfl rfl ?_
  refine tt_iadd (M := MX11_advises) (pc := 107) dX11_advises_107 ?_
  refine tt_ld (M := MX11_advises) (pc := 108) dX11_advises_108 rfl rfl rfl rfl rfl ?_
  refine tt_iastore (M := MX11_advises) (pc := 110) dX11_advises_110 h0.2.1 rfl ?_
  refine tt_iinc (M := MX11_advises) (pc := 111) [some (.ref 90), some (.int (I l1)), some (.int (I l2)), some (.int (I l3)), some (.int (I l4)), some (.int (I (l5 + 1))), some (.int (I l6))] dX11_advises_111 rfl rfl ?_
  exact id
theorem qX11_advises_114 {sc : Nat × (Nat → Int32)} {SH : List mCell} {S : mStore} {r : mR × mW} (h0 : sMod SH) {l1 : Int} {l2 : Int} {l3 : Int} {l4 : Int} {l5 : Int} {l6 : Int} : (G sc MX11_advises 6 [some (.ref 90), some (.int (I l1)), some (.int (I l2)), some (.int (I l3)), some (.int (I l4)), some (.int (I l5)), some (.int (I (l6 + 1)))] [] SH S r) → G sc MX11_advises 114 [some (.ref 90), some (.int (I l1)), some (.int (I l2)), some (.int (I l3)), some (.int (I l4)), some (.int (I l5)), some (.int (I l6))] [] SH S r := by
  refine tt_iinc (M := MX11_advises) (pc := 114) [some (.ref 90), some (.int (I l1)), some (.int (I l2)), some (.int (I l3)), some (.int (I l4)), some (.int (I l5)), some (.int (I (l6 + 1)))] dX11_advises_114 rfl rfl ?_
  refine tt_goto (M := MX11_advises) (pc := 117) 6 dX11_advises_117 rfl ?_
  exact id
