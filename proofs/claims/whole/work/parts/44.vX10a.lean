-- needs: 43.tshape
/-! ===== the program as conditions (gen_vc.py) ===== -/
theorem qX10_feed_0 {sc : Nat × (Nat → Int32)} {SH : List mCell} {S : mStore} {r : mR × mW} (h0 : sGP SH) {l1 : Int} {l2 : Int} {l3 : Int} {l4 : Int} {l5 : Int} : ((if I ((S 11 1) + 20) ≤ I 700 then (∃ S101, G sc MX8_append 0 [some (.ref 11), some (.int (I l1)), none] [] SH S (rV SH S101) ∧ (∃ S102, G sc MX8_append 0 [some (.ref 11), some (.int (I l2)), none] [] SH S101 (rV SH S102) ∧ (∃ S103, G sc MX8_append 0 [some (.ref 11), some (.int (I l3)), none] [] SH S102 (rV SH S103) ∧ (∃ S104, G sc MX8_append 0 [some (.ref 11), some (.int (I l4)), none] [] SH S103 (rV SH S104) ∧ (∃ S105, G sc MX8_append 0 [some (.ref 11), some (.int (I l5)), none] [] SH S104 (rV SH S105) ∧ r = rI (S105 11 1) SH S105))))) else r = rI (-1) SH S)) → G sc MX10_feed 0 [some (.ref 0), some (.int (I l1)), some (.int (I l2)), some (.int (I l3)), some (.int (I l4)), some (.int (I l5))] [] SH S r := by
  refine tt_ld (M := MX10_feed) (pc := 0) dX10_feed_0 rfl rfl rfl rfl rfl ?_
  refine tt_getR (M := MX10_feed) (pc := 1) dX10_feed_1 rfl h0.1 rfl ?_
  refine tt_getI (M := MX10_feed) (pc := 4) dX10_feed_4 rfl h0.2.2.1.1 rfl ?_
  refine tt_bipush (M := MX10_feed) (pc := 7) dX10_feed_7 (by decide) ?_
  refine tt_iadd (M := MX10_feed) (pc := 9) dX10_feed_9 ?_
  refine tt_sipush (M := MX10_feed) (pc := 10) dX10_feed_10 (by decide) ?_
  refine tt_ic_le (M := MX10_feed) (pc := 13) 18 dX10_feed_13 rfl ?_ ?_
  · refine tt_ld (M := MX10_feed) (pc := 18) dX10_feed_18 rfl rfl rfl rfl rfl ?_
    refine tt_getR (M := MX10_feed) (pc := 19) dX10_feed_19 rfl h0.1 rfl ?_
    refine tt_ld (M := MX10_feed) (pc := 22) dX10_feed_22 rfl rfl rfl rfl rfl ?_
    refine tt_vcVN (M := MX10_feed) (pc := 23) dX10_feed_23 rfl rfl [] rfl rfl ⟨rfl, by decide, Nat.le_of_ble_eq_true rfl⟩ h0.2.2.1.1 fun S101 => ?_
    refine tt_ld (M := MX10_feed) (pc := 26) dX10_feed_26 rfl rfl rfl rfl rfl ?_
    refine tt_getR (M := MX10_feed) (pc := 27) dX10_feed_27 rfl h0.1 rfl ?_
    refine tt_ld (M := MX10_feed) (pc := 30) dX10_feed_30 rfl rfl rfl rfl rfl ?_
    refine tt_vcVN (M := MX10_feed) (pc := 31) dX10_feed_31 rfl rfl [] rfl rfl ⟨rfl, by decide, Nat.le_of_ble_eq_true rfl⟩ h0.2.2.1.1 fun S102 => ?_
    refine tt_ld (M := MX10_feed) (pc := 34) dX10_feed_34 rfl rfl rfl rfl rfl ?_
    refine tt_getR (M := MX10_feed) (pc := 35) dX10_feed_35 rfl h0.1 rfl ?_
    refine tt_ld (M := MX10_feed) (pc := 38) dX10_feed_38 rfl rfl rfl rfl rfl ?_
    refine tt_vcVN (M := MX10_feed) (pc := 39) dX10_feed_39 rfl rfl [] rfl rfl ⟨rfl, by decide, Nat.le_of_ble_eq_true rfl⟩ h0.2.2.1.1 fun S103 => ?_
    refine tt_ld (M := MX10_feed) (pc := 42) dX10_feed_42 rfl rfl rfl rfl rfl ?_
    refine tt_getR (M := MX10_feed) (pc := 43) dX10_feed_43 rfl h0.1 rfl ?_
    refine tt_ld (M := MX10_feed) (pc := 46) dX10_feed_46 rfl rfl rfl rfl rfl ?_
    refine tt_vcVN (M := MX10_feed) (pc := 48) dX10_feed_48 rfl rfl [] rfl rfl ⟨rfl, by decide, Nat.le_of_ble_eq_true rfl⟩ h0.2.2.1.1 fun S104 => ?_
    refine tt_ld (M := MX10_feed) (pc := 51) dX10_feed_51 rfl rfl rfl rfl rfl ?_
    refine tt_getR (M := MX10_feed) (pc := 52) dX10_feed_52 rfl h0.1 rfl ?_
    refine tt_ld (M := MX10_feed) (pc := 55) dX10_feed_55 rfl rfl rfl rfl rfl ?_
    refine tt_vcVN (M := MX10_feed) (pc := 57) dX10_feed_57 rfl rfl [] rfl rfl ⟨rfl, by decide, Nat.le_of_ble_eq_true rfl⟩ h0.2.2.1.1 fun S105 => ?_
    refine tt_ld (M := MX10_feed) (pc := 60) dX10_feed_60 rfl rfl rfl rfl rfl ?_
    refine tt_getR (M := MX10_feed) (pc := 61) dX10_feed_61 rfl h0.1 rfl ?_
    refine tt_getI (M := MX10_feed) (pc := 64) dX10_feed_64 rfl h0.2.2.1.1 rfl ?_
    exact tt_iret (M := MX10_feed) (pc := 67) dX10_feed_67 rfl
  · refine tt_iconst (M := MX10_feed) (pc := 16) dX10_feed_16 ?_
    exact tt_iret (M := MX10_feed) (pc := 17) dX10_feed_17 rfl
theorem qX10_machine_0 {sc : Nat × (Nat → Int32)} {SH : List mCell} {S : mStore} {r : mR × mW} (h0 : sGP SH) {l1 : Int} : (((∃ S101, G sc MX10_openText 0 [some (.ref 0), some (.int (I l1))] [] SH S (rV SH S101) ∧ (∃ S102, G sc MX3_makeAll 0 [some (.ref 85), none] [] SH S101 (rV SH S102) ∧ (∃ S103, G sc MX10_closeText 0 [some (.ref 0)] [] SH S102 (rV SH S103) ∧ (if I (S103 11 6) = I 0 then (∃ S104, G sc MX5_become 0 [some (.ref 1), some (.ref 6)] [] SH S103 (rV SH S104) ∧ (((0 : Int) ≤ 0 ∧ (0 : Int) < 12) ∧ (∃ S105, G sc MX7_become 0 [some (.ref 17), some (.ref 65)] [] SH (up S104 (65 + 19) 0 (S104 1 2)) (rV SH S105) ∧ (∃ S106, G sc MX0_clear 0 [some (.ref 37)] [] SH S105 (rV SH S106) ∧ ((I 0 = I 0 ∨ I 0 = I 1) ∧ r = rI 0 SH (up (up S106 13 5 0) 0 11 0)))))) else r = rI (S103 11 6) SH S103)))) ∨ (∃ e SH1 S1, G sc MX10_openText 0 [some (.ref 0), some (.int (I l1))] [] SH S (rX e SH1 S1) ∧ r = rX e SH1 S1))) → G sc MX10_machine 0 [some (.ref 0), some (.int (I l1))] [] SH S r := by
  refine tt_ld (M := MX10_machine) (pc := 0) dX10_machine_0 rfl rfl rfl rfl rfl ?_
  refine tt_ld (M := MX10_machine) (pc := 1) dX10_machine_1 rfl rfl rfl rfl rfl ?_
  refine tt_vcV (M := MX10_machine) (pc := 2) dX10_machine_2 rfl rfl [] rfl rfl ⟨rfl, by decide, Nat.le_of_ble_eq_true rfl⟩ h0.1 rfl fun S101 => ?_
  refine tt_ld (M := MX10_machine) (pc := 5) dX10_machine_5 rfl rfl rfl rfl rfl ?_
  refine tt_getR (M := MX10_machine) (pc := 6) dX10_machine_6 rfl h0.1 rfl ?_
  refine tt_vcVN (M := MX10_machine) (pc := 9) dX10_machine_9 rfl rfl [] rfl rfl ⟨rfl, by decide, Nat.le_of_ble_eq_true rfl⟩ h0.2.2.2.2.2.2.1 fun S102 => ?_
  refine tt_ld (M := MX10_machine) (pc := 12) dX10_machine_12 rfl rfl rfl rfl rfl ?_
  refine tt_vcVN (M := MX10_machine) (pc := 13) dX10_machine_13 rfl rfl [] rfl rfl ⟨rfl, by decide, Nat.le_of_ble_eq_true rfl⟩ h0.1 fun S103 => ?_
  refine tt_ld (M := MX10_machine) (pc := 16) dX10_machine_16 rfl rfl rfl rfl rfl ?_
  refine tt_getR (M := MX10_machine) (pc := 17) dX10_machine_17 rfl h0.1 rfl ?_
  refine tt_getI (M := MX10_machine) (pc := 20) dX10_machine_20 rfl h0.2.2.1.1 rfl ?_
  refine tt_if_eq (M := MX10_machine) (pc := 23) 34 dX10_machine_23 rfl ?_ ?_
  · refine tt_ld (M := MX10_machine) (pc := 34) dX10_machine_34 rfl rfl rfl rfl rfl ?_
    refine tt_getR (M := MX10_machine) (pc := 35) dX10_machine_35 rfl h0.1 rfl ?_
    refine tt_ld (M := MX10_machine) (pc := 38) dX10_machine_38 rfl rfl rfl rfl rfl ?_
    refine tt_getR (M := MX10_machine) (pc := 39) dX10_machine_39 rfl h0.1 rfl ?_
    refine tt_vcVN (M := MX10_machine) (pc := 42) dX10_machine_42 rfl rfl [] rfl rfl ⟨rfl, by decide, Nat.le_of_ble_eq_true rfl⟩ h0.2.2.2.1.2.2.2.2.1.2.2.2.2.2.2.2.2.2.2.2.2.1 fun S104 => ?_
    refine tt_ld (M := MX10_machine) (pc := 45) dX10_machine_45 rfl rfl rfl rfl rfl ?_
    refine tt_getR (M := MX10_machine) (pc := 46) dX10_machine_46 rfl h0.1 rfl ?_
    refine tt_getR (M := MX10_machine) (pc := 49) dX10_machine_49 rfl h0.2.2.2.2.2.1.1 rfl ?_
    refine tt_iconst (M := MX10_machine) (pc := 52) dX10_machine_52 ?_
    refine tt_ld (M := MX10_machine) (pc := 53) dX10_machine_53 rfl rfl rfl rfl rfl ?_
    refine tt_getR (M := MX10_machine) (pc := 54) dX10_machine_54 rfl h0.1 rfl ?_
    refine tt_getI (M := MX10_machine) (pc := 57) dX10_machine_57 rfl h0.2.2.2.1.2.2.2.2.1.2.2.2.2.2.2.2.2.2.2.2.2.1 rfl ?_
    refine tt_iastore (M := MX10_machine) (pc := 60) dX10_machine_60 h0.2.2.2.2.2.1.2.2.2.2.2.2.2.2.2.2.2.1 rfl ?_
    refine tt_ld (M := MX10_machine) (pc := 61) dX10_machine_61 rfl rfl rfl rfl rfl ?_
    refine tt_getR (M := MX10_machine) (pc := 62) dX10_machine_62 rfl h0.1 rfl ?_
    refine tt_getR (M := MX10_machine) (pc := 65) dX10_machine_65 rfl h0.2.2.2.1.1 rfl ?_
    refine tt_ld (M := MX10_machine) (pc := 68) dX10_machine_68 rfl rfl rfl rfl rfl ?_
    refine tt_getR (M := MX10_machine) (pc := 69) dX10_machine_69 rfl h0.1 rfl ?_
    refine tt_vcVN (M := MX10_machine) (pc := 72) dX10_machine_72 rfl rfl [] rfl rfl ⟨rfl, by decide, Nat.le_of_ble_eq_true rfl⟩ h0.2.2.2.1.2.2.2.2.1.1 fun S105 => ?_
    refine tt_ld (M := MX10_machine) (pc := 75) dX10_machine_75 rfl rfl rfl rfl rfl ?_
    refine tt_getR (M := MX10_machine) (pc := 76) dX10_machine_76 rfl h0.1 rfl ?_
    refine tt_getR (M := MX10_machine) (pc := 79) dX10_machine_79 rfl h0.2.2.2.1.1 rfl ?_
    refine tt_vcVN (M := MX10_machine) (pc := 82) dX10_machine_82 rfl rfl [] rfl rfl ⟨rfl, by decide, Nat.le_of_ble_eq_true rfl⟩ h0.2.2.2.1.2.2.2.2.2 fun S106 => ?_
    refine tt_ld (M := MX10_machine) (pc := 85) dX10_machine_85 rfl rfl rfl rfl rfl ?_
    refine tt_getR (M := MX10_machine) (pc := 86) dX10_machine_86 rfl h0.1 rfl ?_
    refine tt_iconst (M := MX10_machine) (pc := 89) dX10_machine_89 ?_
    refine tt_putI (M := MX10_machine) (pc := 90) dX10_machine_90 rfl rfl (Or.inl rfl) h0.2.2.2.1.1 rfl ?_
    refine tt_ld (M := MX10_machine) (pc := 93) dX10_machine_93 rfl rfl rfl rfl rfl ?_
    refine tt_iconst (M := MX10_machine) (pc := 94) dX10_machine_94 ?_
    refine tt_putZ (M := MX10_machine) (pc := 95) dX10_machine_95 rfl rfl (Or.inl rfl) h0.1 rfl ?_
    refine tt_iconst (M := MX10_machine) (pc := 98) dX10_machine_98 ?_
    exact tt_iret (M := MX10_machine) (pc := 99) dX10_machine_99 rfl
  · refine tt_ld (M := MX10_machine) (pc := 26) dX10_machine_26 rfl rfl rfl rfl rfl ?_
    refine tt_getR (M := MX10_machine) (pc := 27) dX10_machine_27 rfl h0.1 rfl ?_
    refine tt_getI (M := MX10_machine) (pc := 30) dX10_machine_30 rfl h0.2.2.1.1 rfl ?_
    exact tt_iret (M := MX10_machine) (pc := 33) dX10_machine_33 rfl
theorem qX10_orders_0 {sc : Nat × (Nat → Int32)} {SH : List mCell} {S : mStore} {r : mR × mW} (h0 : sGP SH) {l1 : Int} {u2 : Option Value} {u3 : Option Value} : (((∃ S101, G sc MX10_openText 0 [some (.ref 0), some (.int (I l1))] [] SH S (rV SH S101) ∧ (∃ v102 S103, G sc MX4_countAll 0 [some (.ref 86), none] [] SH S101 (rI v102 SH S103) ∧ (∃ S104, G sc MX10_closeText 0 [some (.ref 0)] [] SH S103 (rV SH S104) ∧ (if I (S104 11 6) = I 0 then (∃ SH106 S105, sGP SH106 ∧ G sc MX0_ahead 0 [some (.ref 37), some (.ref 17)] [] SH S104 (rV SH106 S105) ∧ (∃ S107, G sc MX8_begin 0 [some (.ref 11), some (.int (I l1))] [] SH106 S105 (rV SH106 S107) ∧ G sc MX10_orders 65 [some (.ref 0), some (.int (I l1)), some (.int (I v102)), some (.int (I 0))] [] SH106 S107 r)) else r = rI ((-10) - (S104 11 6)) SH S104)))) ∨ (∃ e SH1 S1, G sc MX10_openText 0 [some (.ref 0), some (.int (I l1))] [] SH S (rX e SH1 S1) ∧ r = rX e SH1 S1))) → G sc MX10_orders 0 [some (.ref 0), some (.int (I l1)), u2, u3] [] SH S r := by
  refine tt_ld (M := MX10_orders) (pc := 0) dX10_orders_0 rfl rfl rfl rfl rfl ?_
  refine tt_ld (M := MX10_orders) (pc := 1) dX10_orders_1 rfl rfl rfl rfl rfl ?_
  refine tt_vcV (M := MX10_orders) (pc := 2) dX10_orders_2 rfl rfl [] rfl rfl ⟨rfl, by decide, Nat.le_of_ble_eq_true rfl⟩ h0.1 rfl fun S101 => ?_
  refine tt_ld (M := MX10_orders) (pc := 5) dX10_orders_5 rfl rfl rfl rfl rfl ?_
  refine tt_getR (M := MX10_orders) (pc := 6) dX10_orders_6 rfl h0.1 rfl ?_
  refine tt_vcIN (M := MX10_orders) (pc := 9) dX10_orders_9 rfl rfl [] rfl rfl ⟨rfl, by decide, Nat.le_of_ble_eq_true rfl⟩ h0.2.2.2.2.2.2.2.1 fun v102 S103 => ?_
  refine tt_st (M := MX10_orders) (pc := 12) [some (.ref 0), some (.int (I l1)), some (.int (I v102)), u3] dX10_orders_12 rfl rfl rfl rfl rfl rfl ?_
  refine tt_ld (M := MX10_orders) (pc := 13) dX10_orders_13 rfl rfl rfl rfl rfl ?_
  refine tt_vcVN (M := MX10_orders) (pc := 14) dX10_orders_14 rfl rfl [] rfl rfl ⟨rfl, by decide, Nat.le_of_ble_eq_true rfl⟩ h0.1 fun S104 => ?_
  refine tt_ld (M := MX10_orders) (pc := 17) dX10_orders_17 rfl rfl rfl rfl rfl ?_
  refine tt_getR (M := MX10_orders) (pc := 18) dX10_orders_18 rfl h0.1 rfl ?_
  refine tt_getI (M := MX10_orders) (pc := 21) dX10_orders_21 rfl h0.2.2.1.1 rfl ?_
  refine tt_if_eq (M := MX10_orders) (pc := 24) 38 dX10_orders_24 rfl ?_ ?_
  · refine tt_ld (M := MX10_orders) (pc := 38) dX10_orders_38 rfl rfl rfl rfl rfl ?_
    refine tt_getR (M := MX10_orders) (pc := 39) dX10_orders_39 rfl h0.1 rfl ?_
    refine tt_getR (M := MX10_orders) (pc := 42) dX10_orders_42 rfl h0.2.2.2.1.1 rfl ?_
    refine tt_ld (M := MX10_orders) (pc := 45) dX10_orders_45 rfl rfl rfl rfl rfl ?_
    refine tt_getR (M := MX10_orders) (pc := 46) dX10_orders_46 rfl h0.1 rfl ?_
    refine tt_getR (M := MX10_orders) (pc := 49) dX10_orders_49 rfl h0.2.2.2.1.1 rfl ?_
    refine tt_vcVA (Q := (fun SH => sGP SH)) (M := MX10_orders) (pc := 52) dX10_orders_52 rfl rfl [] rfl rfl ⟨rfl, by decide, Nat.le_of_ble_eq_true rfl⟩ h0.2.2.2.1.2.2.2.2.2 fun SH106 S105 hSH106 => ?_
    refine tt_ld (M := MX10_orders) (pc := 55) dX10_orders_55 rfl rfl rfl rfl rfl ?_
    refine tt_getR (M := MX10_orders) (pc := 56) dX10_orders_56 rfl hSH106.1 rfl ?_
    refine tt_ld (M := MX10_orders) (pc := 59) dX10_orders_59 rfl rfl rfl rfl rfl ?_
    refine tt_vcVN (M := MX10_orders) (pc := 60) dX10_orders_60 rfl rfl [] rfl rfl ⟨rfl, by decide, Nat.le_of_ble_eq_true rfl⟩ hSH106.2.2.1.1 fun S107 => ?_
    refine tt_iconst (M := MX10_orders) (pc := 63) dX10_orders_63 ?_
    refine tt_st (M := MX10_orders) (pc := 64) [some (.ref 0), some (.int (I l1)), some (.int (I v102)), some (.int (I 0))] dX10_orders_64 rfl rfl rfl rfl rfl rfl ?_
    exact id
  · refine tt_bipush (M := MX10_orders) (pc := 27) dX10_orders_27 (by decide) ?_
    refine tt_ld (M := MX10_orders) (pc := 29) dX10_orders_29 rfl rfl rfl rfl rfl ?_
    refine tt_getR (M := MX10_orders) (pc := 30) dX10_orders_30 rfl h0.1 rfl ?_
    refine tt_getI (M := MX10_orders) (pc := 33) dX10_orders_33 rfl h0.2.2.1.1 rfl ?_
    refine tt_isub (M := MX10_orders) (pc := 36) dX10_orders_36 ?_
    exact tt_iret (M := MX10_orders) (pc := 37) dX10_orders_37 rfl
theorem qX10_orders_65 {sc : Nat × (Nat → Int32)} {SH : List mCell} {S : mStore} {r : mR × mW} (h0 : sGP SH) {l1 : Int} {l2 : Int} {l3 : Int} : ((if I l2 ≤ I l3 then G sc MX10_orders 129 [some (.ref 0), some (.int (I l1)), some (.int (I l2)), some (.int (I l3))] [] SH S r else (∃ v101 S102, G sc MX4_isNext 0 [some (.ref 86)] [] SH S (rI v101 SH S102) ∧ (if I v101 = I 0 then G sc MX10_orders 129 [some (.ref 0), some (.int (I l1)), some (.int (I l2)), some (.int (I l3))] [] SH S102 r else (∃ v103 S104, G sc MX10_obey 0 [some (.ref 0), none] [] SH S102 (rI v103 SH S104) ∧ (if I v103 = I (-1) then (∃ SH106 S105, sGP SH106 ∧ G sc MX0_giveUp 0 [some (.ref 37), some (.ref 17)] [] SH S104 (rV SH106 S105) ∧ (((0 : Int) ≤ 1 ∧ (1 : Int) < 3) ∧ (((0 : Int) ≤ 1 ∧ (1 : Int) < 3) ∧ r = rI ((-100) - l3) SH106 (up S105 16 1 ((S105 16 1) + 1))))) else G sc MX10_orders 65 [some (.ref 0), some (.int (I l1)), some (.int (I l2)), some (.int (I (l3 + 1)))] [] SH S104 r)))))) → G sc MX10_orders 65 [some (.ref 0), some (.int (I l1)), some (.int (I l2)), some (.int (I l3))] [] SH S r := by
  refine tt_ld (M := MX10_orders) (pc := 65) dX10_orders_65 rfl rfl rfl rfl rfl ?_
  refine tt_ld (M := MX10_orders) (pc := 66) dX10_orders_66 rfl rfl rfl rfl rfl ?_
  refine tt_ic_ge (M := MX10_orders) (pc := 67) 129 dX10_orders_67 rfl ?_ ?_
  · exact id
  · refine tt_ld (M := MX10_orders) (pc := 70) dX10_orders_70 rfl rfl rfl rfl rfl ?_
    refine tt_getR (M := MX10_orders) (pc := 71) dX10_orders_71 rfl h0.1 rfl ?_
    refine tt_vcIN (M := MX10_orders) (pc := 74) dX10_orders_74 rfl rfl [] rfl rfl ⟨rfl, by decide, Nat.le_of_ble_eq_true rfl⟩ h0.2.2.2.2.2.2.2.1 fun v101 S102 => ?_
    refine tt_if_eq (M := MX10_orders) (pc := 77) 129 dX10_orders_77 rfl ?_ ?_
    · exact id
    · refine tt_ld (M := MX10_orders) (pc := 80) dX10_orders_80 rfl rfl rfl rfl rfl ?_
      refine tt_vcIN (M := MX10_orders) (pc := 81) dX10_orders_81 rfl rfl [] rfl rfl ⟨rfl, by decide, Nat.le_of_ble_eq_true rfl⟩ h0.1 fun v103 S104 => ?_
      refine tt_iconst (M := MX10_orders) (pc := 84) dX10_orders_84 ?_
      refine tt_ic_ne (M := MX10_orders) (pc := 85) 123 dX10_orders_85 rfl ?_ ?_
      · refine tt_iinc (M := MX10_orders) (pc := 123) [some (.ref 0), some (.int (I l1)), some (.int (I l2)), some (.int (I (l3 + 1)))] dX10_orders_123 rfl rfl ?_
        refine tt_goto (M := MX10_orders) (pc := 126) 65 dX10_orders_126 rfl ?_
        exact id
      · refine tt_ld (M := MX10_orders) (pc := 88) dX10_orders_88 rfl rfl rfl rfl rfl ?_
        refine tt_getR (M := MX10_orders) (pc := 89) dX10_orders_89 rfl h0.1 rfl ?_
        refine tt_getR (M := MX10_orders) (pc := 92) dX10_orders_92 rfl h0.2.2.2.1.1 rfl ?_
        refine tt_ld (M := MX10_orders) (pc := 95) dX10_orders_95 rfl rfl rfl rfl rfl ?_
        refine tt_getR (M := MX10_orders) (pc := 96) dX10_orders_96 rfl h0.1 rfl ?_
        refine tt_getR (M := MX10_orders) (pc := 99) dX10_orders_99 rfl h0.2.2.2.1.1 rfl ?_
        refine tt_vcVA (Q := (fun SH => sGP SH)) (M := MX10_orders) (pc := 102) dX10_orders_102 rfl rfl [] rfl rfl ⟨rfl, by decide, Nat.le_of_ble_eq_true rfl⟩ h0.2.2.2.1.2.2.2.2.2 fun SH106 S105 hSH106 => ?_
        refine tt_ld (M := MX10_orders) (pc := 105) dX10_orders_105 rfl rfl rfl rfl rfl ?_
        refine tt_getR (M := MX10_orders) (pc := 106) dX10_orders_106 rfl hSH106.1 rfl ?_
        refine tt_getR (M := MX10_orders) (pc := 109) dX10_orders_109 rfl hSH106.2.2.2.1.1 rfl ?_
        refine tt_iconst (M := MX10_orders) (pc := 112) dX10_orders_112 ?_
        refine tt_dup2 (M := MX10_orders) (pc := 113) dX10_orders_113 rfl rfl ?_
        refine tt_iaload (M := MX10_orders) (pc := 114) dX10_orders_114 hSH106.2.2.2.1.2.2.2.1 rfl ?_
        refine tt_iconst (M := MX10_orders) (pc := 115) dX10_orders_115 ?_
        refine tt_iadd (M := MX10_orders) (pc := 116) dX10_orders_116 ?_
        refine tt_iastore (M := MX10_orders) (pc := 117) dX10_orders_117 hSH106.2.2.2.1.2.2.2.1 rfl ?_
        refine tt_bipush (M := MX10_orders) (pc := 118) dX10_orders_118 (by decide) ?_
        refine tt_ld (M := MX10_orders) (pc := 120) dX10_orders_120 rfl rfl rfl rfl rfl ?_
        refine tt_isub (M := MX10_orders) (pc := 121) dX10_orders_121 ?_
        exact tt_iret (M := MX10_orders) (pc := 122) dX10_orders_122 rfl
theorem qX10_orders_129 {sc : Nat × (Nat → Int32)} {SH : List mCell} {S : mStore} {r : mR × mW} (h0 : sGP SH) {l1 : Int} {l2 : Int} {l3 : Int} : ((if I l2 ≤ I 0 then r = rI l2 SH S else (∃ S101, G sc MX0_stand 0 [some (.ref 37)] [] SH S (rV SH S101) ∧ r = rI l2 SH S101))) → G sc MX10_orders 129 [some (.ref 0), some (.int (I l1)), some (.int (I l2)), some (.int (I l3))] [] SH S r := by
  refine tt_ld (M := MX10_orders) (pc := 129) dX10_orders_129 rfl rfl rfl rfl rfl ?_
  refine tt_if_le (M := MX10_orders) (pc := 130) 143 dX10_orders_130 rfl ?_ ?_
  · refine tt_ld (M := MX10_orders) (pc := 143) dX10_orders_143 rfl rfl rfl rfl rfl ?_
    exact tt_iret (M := MX10_orders) (pc := 144) dX10_orders_144 rfl
  · refine tt_ld (M := MX10_orders) (pc := 133) dX10_orders_133 rfl rfl rfl rfl rfl ?_
    refine tt_getR (M := MX10_orders) (pc := 134) dX10_orders_134 rfl h0.1 rfl ?_
    refine tt_getR (M := MX10_orders) (pc := 137) dX10_orders_137 rfl h0.2.2.2.1.1 rfl ?_
    refine tt_vcVN (M := MX10_orders) (pc := 140) dX10_orders_140 rfl rfl [] rfl rfl ⟨rfl, by decide, Nat.le_of_ble_eq_true rfl⟩ h0.2.2.2.1.2.2.2.2.2 fun S101 => ?_
    refine tt_ld (M := MX10_orders) (pc := 143) dX10_orders_143 rfl rfl rfl rfl rfl ?_
    exact tt_iret (M := MX10_orders) (pc := 144) dX10_orders_144 rfl
theorem qX10_fault_0 {sc : Nat × (Nat → Int32)} {SH : List mCell} {S : mStore} {r : mR × mW} (h0 : sGP SH) : (r = rI (S 0 12) SH S) → G sc MX10_fault 0 [some (.ref 0)] [] SH S r := by
  refine tt_ld (M := MX10_fault) (pc := 0) dX10_fault_0 rfl rfl rfl rfl rfl ?_
  refine tt_getI (M := MX10_fault) (pc := 1) dX10_fault_1 rfl h0.1 rfl ?_
  exact tt_iret (M := MX10_fault) (pc := 4) dX10_fault_4 rfl
theorem qX10_count_0 {sc : Nat × (Nat → Int32)} {SH : List mCell} {S : mStore} {r : mR × mW} (h0 : sGP SH) {l1 : Int} : ((if I l1 < I 10 then (if I l1 < I 25 then G sc MX10_count 53 [some (.ref 0), some (.int (I l1))] [] SH S r else (if I 27 < I l1 then G sc MX10_count 53 [some (.ref 0), some (.int (I l1))] [] SH S r else (((0 : Int) ≤ l1 - 25 ∧ l1 - 25 < 3) ∧ r = rI (S 16 (l1 - 25)) SH S))) else (if I 20 < I l1 then (if I l1 < I 25 then G sc MX10_count 53 [some (.ref 0), some (.int (I l1))] [] SH S r else (if I 27 < I l1 then G sc MX10_count 53 [some (.ref 0), some (.int (I l1))] [] SH S r else (((0 : Int) ≤ l1 - 25 ∧ l1 - 25 < 3) ∧ r = rI (S 16 (l1 - 25)) SH S))) else (((0 : Int) ≤ l1 - 10 ∧ l1 - 10 < 12) ∧ r = rI (S (17 + 19) (l1 - 10)) SH S)))) → G sc MX10_count 0 [some (.ref 0), some (.int (I l1))] [] SH S r := by
  refine tt_ld (M := MX10_count) (pc := 0) dX10_count_0 rfl rfl rfl rfl rfl ?_
  refine tt_bipush (M := MX10_count) (pc := 1) dX10_count_1 (by decide) ?_
  refine tt_ic_lt (M := MX10_count) (pc := 3) 28 dX10_count_3 rfl ?_ ?_
  · refine tt_ld (M := MX10_count) (pc := 28) dX10_count_28 rfl rfl rfl rfl rfl ?_
    refine tt_bipush (M := MX10_count) (pc := 29) dX10_count_29 (by decide) ?_
    refine tt_ic_lt (M := MX10_count) (pc := 31) 53 dX10_count_31 rfl ?_ ?_
    · exact id
    · refine tt_ld (M := MX10_count) (pc := 34) dX10_count_34 rfl rfl rfl rfl rfl ?_
      refine tt_bipush (M := MX10_count) (pc := 35) dX10_count_35 (by decide) ?_
      refine tt_ic_gt (M := MX10_count) (pc := 37) 53 dX10_count_37 rfl ?_ ?_
      · exact id
      · refine tt_ld (M := MX10_count) (pc := 40) dX10_count_40 rfl rfl rfl rfl rfl ?_
        refine tt_getR (M := MX10_count) (pc := 41) dX10_count_41 rfl h0.1 rfl ?_
        refine tt_getR (M := MX10_count) (pc := 44) dX10_count_44 rfl h0.2.2.2.1.1 rfl ?_
        refine tt_ld (M := MX10_count) (pc := 47) dX10_count_47 rfl rfl rfl rfl rfl ?_
        refine tt_bipush (M := MX10_count) (pc := 48) dX10_count_48 (by decide) ?_
        refine tt_isub (M := MX10_count) (pc := 50) dX10_count_50 ?_
        refine tt_iaload (M := MX10_count) (pc := 51) dX10_count_51 h0.2.2.2.1.2.2.2.1 rfl ?_
        exact tt_iret (M := MX10_count) (pc := 52) dX10_count_52 rfl
  · refine tt_ld (M := MX10_count) (pc := 6) dX10_count_6 rfl rfl rfl rfl rfl ?_
    refine tt_bipush (M := MX10_count) (pc := 7) dX10_count_7 (by decide) ?_
    refine tt_ic_gt (M := MX10_count) (pc := 9) 28 dX10_count_9 rfl ?_ ?_
    · refine tt_ld (M := MX10_count) (pc := 28) dX10_count_28 rfl rfl rfl rfl rfl ?_
      refine tt_bipush (M := MX10_count) (pc := 29) dX10_count_29 (by decide) ?_
      refine tt_ic_lt (M := MX10_count) (pc := 31) 53 dX10_count_31 rfl ?_ ?_
      · exact id
      · refine tt_ld (M := MX10_count) (pc := 34) dX10_count_34 rfl rfl rfl rfl rfl ?_
        refine tt_bipush (M := MX10_count) (pc := 35) dX10_count_35 (by decide) ?_
        refine tt_ic_gt (M := MX10_count) (pc := 37) 53 dX10_count_37 rfl ?_ ?_
        · exact id
        · refine tt_ld (M := MX10_count) (pc := 40) dX10_count_40 rfl rfl rfl rfl rfl ?_
          refine tt_getR (M := MX10_count) (pc := 41) dX10_count_41 rfl h0.1 rfl ?_
          refine tt_getR (M := MX10_count) (pc := 44) dX10_count_44 rfl h0.2.2.2.1.1 rfl ?_
          refine tt_ld (M := MX10_count) (pc := 47) dX10_count_47 rfl rfl rfl rfl rfl ?_
          refine tt_bipush (M := MX10_count) (pc := 48) dX10_count_48 (by decide) ?_
          refine tt_isub (M := MX10_count) (pc := 50) dX10_count_50 ?_
          refine tt_iaload (M := MX10_count) (pc := 51) dX10_count_51 h0.2.2.2.1.2.2.2.1 rfl ?_
          exact tt_iret (M := MX10_count) (pc := 52) dX10_count_52 rfl
    · refine tt_ld (M := MX10_count) (pc := 12) dX10_count_12 rfl rfl rfl rfl rfl ?_
      refine tt_getR (M := MX10_count) (pc := 13) dX10_count_13 rfl h0.1 rfl ?_
      refine tt_getR (M := MX10_count) (pc := 16) dX10_count_16 rfl h0.2.2.2.1.1 rfl ?_
      refine tt_getR (M := MX10_count) (pc := 19) dX10_count_19 rfl h0.2.2.2.1.2.2.2.2.1.1 rfl ?_
      refine tt_ld (M := MX10_count) (pc := 22) dX10_count_22 rfl rfl rfl rfl rfl ?_
      refine tt_bipush (M := MX10_count) (pc := 23) dX10_count_23 (by decide) ?_
      refine tt_isub (M := MX10_count) (pc := 25) dX10_count_25 ?_
      refine tt_iaload (M := MX10_count) (pc := 26) dX10_count_26 h0.2.2.2.1.2.2.2.2.1.2.2.2.2.2.2.2.2.2.2.2.1 rfl ?_
      exact tt_iret (M := MX10_count) (pc := 27) dX10_count_27 rfl
theorem qX10_count_53 {sc : Nat × (Nat → Int32)} {SH : List mCell} {S : mStore} {r : mR × mW} (h0 : sGP SH) {l1 : Int} : ((swp l1 0 (r = rX 0 (SH ++ [mO (12 + 0) []]) S) [r = rI (S 1 0) SH S, (∃ v101 S102, G sc MX7_used 0 [some (.ref 17), none, none] [] SH S (rI v101 SH S102) ∧ r = rI v101 SH S102), (∃ v103 S104, G sc MX7_mergedFrames 0 [some (.ref 17), none, none] [] SH S (rI v103 SH S104) ∧ r = rI v103 SH S104), r = rI (S 1 6) SH S, r = rI (S 1 7) SH S, (∃ v105 S106, G sc MX7_mergedPages 0 [some (.ref 17), some (.int (I 0)), some (.int (I (S 1 7))), none, none] [] SH S (rI v105 SH S106) ∧ r = rI v105 SH S106), (∃ v107 S108, G sc MX7_absentPages 0 [some (.ref 17), some (.int (I 0)), some (.int (I (S 1 7))), none, none] [] SH S (rI v107 SH S108) ∧ r = rI v107 SH S108), (∃ v109 S110, G sc MX7_advisedPages 0 [some (.ref 17), some (.int (I 0)), some (.int (I (S 1 7))), none, none] [] SH S (rI v109 SH S110) ∧ r = rI v109 SH S110), (∃ v111 S112, G sc MX9_size 0 [some (.ref (17 + 11)), none, none] [] SH S (rI v111 SH S112) ∧ r = rI v111 SH S112), (∃ v113 S114, G sc MX9_size 0 [some (.ref (17 + 9)), none, none] [] SH S (rI v113 SH S114) ∧ r = rI v113 SH S114), r = rX 0 (SH ++ [mO (12 + 0) []]) S, r = rX 0 (SH ++ [mO (12 + 0) []]) S, r = rX 0 (SH ++ [mO (12 + 0) []]) S, r = rX 0 (SH ++ [mO (12 + 0) []]) S, r = rX 0 (SH ++ [mO (12 + 0) []]) S, r = rX 0 (SH ++ [mO (12 + 0) []]) S, r = rX 0 (SH ++ [mO (12 + 0) []]) S, r = rX 0 (SH ++ [mO (12 + 0) []]) S, r = rX 0 (SH ++ [mO (12 + 0) []]) S, r = rX 0 (SH ++ [mO (12 + 0) []]) S, r = rX 0 (SH ++ [mO (12 + 0) []]) S, r = rI (S 1 1) SH S, r = rI (S 37 3) SH S, r = rI (S 13 5) SH S, r = rI (S 11 1) SH S])) → G sc MX10_count 53 [some (.ref 0), some (.int (I l1))] [] SH S r := by
  refine tt_ld (M := MX10_count) (pc := 53) dX10_count_53 rfl rfl rfl rfl rfl ?_
  refine tt_switch (M := MX10_count) (pc := 54) 334 dX10_count_54 ⟨by decide, by simp only [List.length_cons, List.length_nil]; omega⟩ rfl rfl ?_ ?_
  · exact tt_throw (M := MX10_count) (pc := 334) 0 dX10_count_334 rfl rfl dX10_count_337 dX10_count_338 dX10_count_341 ⟨rfl, rfl, by decide, rfl⟩
  · refine ⟨⟨168, rfl, ?_⟩, ⟨⟨176, rfl, ?_⟩, ⟨⟨187, rfl, ?_⟩, ⟨⟨198, rfl, ?_⟩, ⟨⟨206, rfl, ?_⟩, ⟨⟨214, rfl, ?_⟩, ⟨⟨233, rfl, ?_⟩, ⟨⟨252, rfl, ?_⟩, ⟨⟨271, rfl, ?_⟩, ⟨⟨285, rfl, ?_⟩, ⟨⟨334, rfl, ?_⟩, ⟨⟨334, rfl, ?_⟩, ⟨⟨334, rfl, ?_⟩, ⟨⟨334, rfl, ?_⟩, ⟨⟨334, rfl, ?_⟩, ⟨⟨334, rfl, ?_⟩, ⟨⟨334, rfl, ?_⟩, ⟨⟨334, rfl, ?_⟩, ⟨⟨334, rfl, ?_⟩, ⟨⟨334, rfl, ?_⟩, ⟨⟨334, rfl, ?_⟩, ⟨⟨299, rfl, ?_⟩, ⟨⟨307, rfl, ?_⟩, ⟨⟨318, rfl, ?_⟩, ⟨⟨326, rfl, ?_⟩, trivial⟩⟩⟩⟩⟩⟩⟩⟩⟩⟩⟩⟩⟩⟩⟩⟩⟩⟩⟩⟩⟩⟩⟩⟩⟩
    · refine tt_ld (M := MX10_count) (pc := 168) dX10_count_168 rfl rfl rfl rfl rfl ?_
      refine tt_getR (M := MX10_count) (pc := 169) dX10_count_169 rfl h0.1 rfl ?_
      refine tt_getI (M := MX10_count) (pc := 172) dX10_count_172 rfl h0.2.2.2.1.2.2.2.2.1.2.2.2.2.2.2.2.2.2.2.2.2.1 rfl ?_
      exact tt_iret (M := MX10_count) (pc := 175) dX10_count_175 rfl
    · refine tt_ld (M := MX10_count) (pc := 176) dX10_count_176 rfl rfl rfl rfl rfl ?_
      refine tt_getR (M := MX10_count) (pc := 177) dX10_count_177 rfl h0.1 rfl ?_
      refine tt_getR (M := MX10_count) (pc := 180) dX10_count_180 rfl h0.2.2.2.1.1 rfl ?_
      refine tt_vcIN (M := MX10_count) (pc := 183) dX10_count_183 rfl rfl [] rfl rfl ⟨rfl, by decide, Nat.le_of_ble_eq_true rfl⟩ h0.2.2.2.1.2.2.2.2.1.1 fun v101 S102 => ?_
      exact tt_iret (M := MX10_count) (pc := 186) dX10_count_186 rfl
    · refine tt_ld (M := MX10_count) (pc := 187) dX10_count_187 rfl rfl rfl rfl rfl ?_
      refine tt_getR (M := MX10_count) (pc := 188) dX10_count_188 rfl h0.1 rfl ?_
      refine tt_getR (M := MX10_count) (pc := 191) dX10_count_191 rfl h0.2.2.2.1.1 rfl ?_
      refine tt_vcIN (M := MX10_count) (pc := 194) dX10_count_194 rfl rfl [] rfl rfl ⟨rfl, by decide, Nat.le_of_ble_eq_true rfl⟩ h0.2.2.2.1.2.2.2.2.1.1 fun v103 S104 => ?_
      exact tt_iret (M := MX10_count) (pc := 197) dX10_count_197 rfl
    · refine tt_ld (M := MX10_count) (pc := 198) dX10_count_198 rfl rfl rfl rfl rfl ?_
      refine tt_getR (M := MX10_count) (pc := 199) dX10_count_199 rfl h0.1 rfl ?_
      refine tt_getI (M := MX10_count) (pc := 202) dX10_count_202 rfl h0.2.2.2.1.2.2.2.2.1.2.2.2.2.2.2.2.2.2.2.2.2.1 rfl ?_
      exact tt_iret (M := MX10_count) (pc := 205) dX10_count_205 rfl
    · refine tt_ld (M := MX10_count) (pc := 206) dX10_count_206 rfl rfl rfl rfl rfl ?_
      refine tt_getR (M := MX10_count) (pc := 207) dX10_count_207 rfl h0.1 rfl ?_
      refine tt_getI (M := MX10_count) (pc := 210) dX10_count_210 rfl h0.2.2.2.1.2.2.2.2.1.2.2.2.2.2.2.2.2.2.2.2.2.1 rfl ?_
      exact tt_iret (M := MX10_count) (pc := 213) dX10_count_213 rfl
    · refine tt_ld (M := MX10_count) (pc := 214) dX10_count_214 rfl rfl rfl rfl rfl ?_
      refine tt_getR (M := MX10_count) (pc := 215) dX10_count_215 rfl h0.1 rfl ?_
      refine tt_getR (M := MX10_count) (pc := 218) dX10_count_218 rfl h0.2.2.2.1.1 rfl ?_
      refine tt_iconst (M := MX10_count) (pc := 221) dX10_count_221 ?_
      refine tt_ld (M := MX10_count) (pc := 222) dX10_count_222 rfl rfl rfl rfl rfl ?_
      refine tt_getR (M := MX10_count) (pc := 223) dX10_count_223 rfl h0.1 rfl ?_
      refine tt_getI (M := MX10_count) (pc := 226) dX10_count_226 rfl h0.2.2.2.1.2.2.2.2.1.2.2.2.2.2.2.2.2.2.2.2.2.1 rfl ?_
      refine tt_vcIN (M := MX10_count) (pc := 229) dX10_count_229 rfl rfl [] rfl rfl ⟨rfl, by decide, Nat.le_of_ble_eq_true rfl⟩ h0.2.2.2.1.2.2.2.2.1.1 fun v105 S106 => ?_
      exact tt_iret (M := MX10_count) (pc := 232) dX10_count_232 rfl
    · refine tt_ld (M := MX10_count) (pc := 233) dX10_count_233 rfl rfl rfl rfl rfl ?_
      refine tt_getR (M := MX10_count) (pc := 234) dX10_count_234 rfl h0.1 rfl ?_
      refine tt_getR (M := MX10_count) (pc := 237) dX10_count_237 rfl h0.2.2.2.1.1 rfl ?_
      refine tt_iconst (M := MX10_count) (pc := 240) dX10_count_240 ?_
      refine tt_ld (M := MX10_count) (pc := 241) dX10_count_241 rfl rfl rfl rfl rfl ?_
      refine tt_getR (M := MX10_count) (pc := 242) dX10_count_242 rfl h0.1 rfl ?_
      refine tt_getI (M := MX10_count) (pc := 245) dX10_count_245 rfl h0.2.2.2.1.2.2.2.2.1.2.2.2.2.2.2.2.2.2.2.2.2.1 rfl ?_
      refine tt_vcIN (M := MX10_count) (pc := 248) dX10_count_248 rfl rfl [] rfl rfl ⟨rfl, by decide, Nat.le_of_ble_eq_true rfl⟩ h0.2.2.2.1.2.2.2.2.1.1 fun v107 S108 => ?_
      exact tt_iret (M := MX10_count) (pc := 251) dX10_count_251 rfl
    · refine tt_ld (M := MX10_count) (pc := 252) dX10_count_252 rfl rfl rfl rfl rfl ?_
      refine tt_getR (M := MX10_count) (pc := 253) dX10_count_253 rfl h0.1 rfl ?_
      refine tt_getR (M := MX10_count) (pc := 256) dX10_count_256 rfl h0.2.2.2.1.1 rfl ?_
      refine tt_iconst (M := MX10_count) (pc := 259) dX10_count_259 ?_
      refine tt_ld (M := MX10_count) (pc := 260) dX10_count_260 rfl rfl rfl rfl rfl ?_
      refine tt_getR (M := MX10_count) (pc := 261) dX10_count_261 rfl h0.1 rfl ?_
      refine tt_getI (M := MX10_count) (pc := 264) dX10_count_264 rfl h0.2.2.2.1.2.2.2.2.1.2.2.2.2.2.2.2.2.2.2.2.2.1 rfl ?_
      refine tt_vcIN (M := MX10_count) (pc := 267) dX10_count_267 rfl rfl [] rfl rfl ⟨rfl, by decide, Nat.le_of_ble_eq_true rfl⟩ h0.2.2.2.1.2.2.2.2.1.1 fun v109 S110 => ?_
      exact tt_iret (M := MX10_count) (pc := 270) dX10_count_270 rfl
    · refine tt_ld (M := MX10_count) (pc := 271) dX10_count_271 rfl rfl rfl rfl rfl ?_
      refine tt_getR (M := MX10_count) (pc := 272) dX10_count_272 rfl h0.1 rfl ?_
      refine tt_getR (M := MX10_count) (pc := 275) dX10_count_275 rfl h0.2.2.2.1.1 rfl ?_
      refine tt_getR (M := MX10_count) (pc := 278) dX10_count_278 rfl h0.2.2.2.1.2.2.2.2.1.1 rfl ?_
      refine tt_vcIN (M := MX10_count) (pc := 281) dX10_count_281 rfl rfl [] rfl rfl ⟨rfl, by decide, Nat.le_of_ble_eq_true rfl⟩ h0.2.2.2.1.2.2.2.2.1.2.2.2.2.1.1 fun v111 S112 => ?_
      exact tt_iret (M := MX10_count) (pc := 284) dX10_count_284 rfl
    · refine tt_ld (M := MX10_count) (pc := 285) dX10_count_285 rfl rfl rfl rfl rfl ?_
      refine tt_getR (M := MX10_count) (pc := 286) dX10_count_286 rfl h0.1 rfl ?_
      refine tt_getR (M := MX10_count) (pc := 289) dX10_count_289 rfl h0.2.2.2.1.1 rfl ?_
      refine tt_getR (M := MX10_count) (pc := 292) dX10_count_292 rfl h0.2.2.2.1.2.2.2.2.1.1 rfl ?_
      refine tt_vcIN (M := MX10_count) (pc := 295) dX10_count_295 rfl rfl [] rfl rfl ⟨rfl, by decide, Nat.le_of_ble_eq_true rfl⟩ h0.2.2.2.1.2.2.2.2.1.2.2.2.1.1 fun v113 S114 => ?_
      exact tt_iret (M := MX10_count) (pc := 298) dX10_count_298 rfl
    · exact tt_throw (M := MX10_count) (pc := 334) 0 dX10_count_334 rfl rfl dX10_count_337 dX10_count_338 dX10_count_341 ⟨rfl, rfl, by decide, rfl⟩
    · exact tt_throw (M := MX10_count) (pc := 334) 0 dX10_count_334 rfl rfl dX10_count_337 dX10_count_338 dX10_count_341 ⟨rfl, rfl, by decide, rfl⟩
    · exact tt_throw (M := MX10_count) (pc := 334) 0 dX10_count_334 rfl rfl dX10_count_337 dX10_count_338 dX10_count_341 ⟨rfl, rfl, by decide, rfl⟩
    · exact tt_throw (M := MX10_count) (pc := 334) 0 dX10_count_334 rfl rfl dX10_count_337 dX10_count_338 dX10_count_341 ⟨rfl, rfl, by decide, rfl⟩
    · exact tt_throw (M := MX10_count) (pc := 334) 0 dX10_count_334 rfl rfl dX10_count_337 dX10_count_338 dX10_count_341 ⟨rfl, rfl, by decide, rfl⟩
    · exact tt_throw (M := MX10_count) (pc := 334) 0 dX10_count_334 rfl rfl dX10_count_337 dX10_count_338 dX10_count_341 ⟨rfl, rfl, by decide, rfl⟩
    · exact tt_throw (M := MX10_count) (pc := 334) 0 dX10_count_334 rfl rfl dX10_count_337 dX10_count_338 dX10_count_341 ⟨rfl, rfl, by decide, rfl⟩
    · exact tt_throw (M := MX10_count) (pc := 334) 0 dX10_count_334 rfl rfl dX10_count_337 dX10_count_338 dX10_count_341 ⟨rfl, rfl, by decide, rfl⟩
    · exact tt_throw (M := MX10_count) (pc := 334) 0 dX10_count_334 rfl rfl dX10_count_337 dX10_count_338 dX10_count_341 ⟨rfl, rfl, by decide, rfl⟩
    · exact tt_throw (M := MX10_count) (pc := 334) 0 dX10_count_334 rfl rfl dX10_count_337 dX10_count_338 dX10_count_341 ⟨rfl, rfl, by decide, rfl⟩
    · exact tt_throw (M := MX10_count) (pc := 334) 0 dX10_count_334 rfl rfl dX10_count_337 dX10_count_338 dX10_count_341 ⟨rfl, rfl, by decide, rfl⟩
    · refine tt_ld (M := MX10_count) (pc := 299) dX10_count_299 rfl rfl rfl rfl rfl ?_
      refine tt_getR (M := MX10_count) (pc := 300) dX10_count_300 rfl h0.1 rfl ?_
      refine tt_getI (M := MX10_count) (pc := 303) dX10_count_303 rfl h0.2.2.2.1.2.2.2.2.1.2.2.2.2.2.2.2.2.2.2.2.2.1 rfl ?_
      exact tt_iret (M := MX10_count) (pc := 306) dX10_count_306 rfl
    · refine tt_ld (M := MX10_count) (pc := 307) dX10_count_307 rfl rfl rfl rfl rfl ?_
      refine tt_getR (M := MX10_count) (pc := 308) dX10_count_308 rfl h0.1 rfl ?_
      refine tt_getR (M := MX10_count) (pc := 311) dX10_count_311 rfl h0.2.2.2.1.1 rfl ?_
      refine tt_getI (M := MX10_count) (pc := 314) dX10_count_314 rfl h0.2.2.2.1.2.2.2.2.2 rfl ?_
      exact tt_iret (M := MX10_count) (pc := 317) dX10_count_317 rfl
    · refine tt_ld (M := MX10_count) (pc := 318) dX10_count_318 rfl rfl rfl rfl rfl ?_
      refine tt_getR (M := MX10_count) (pc := 319) dX10_count_319 rfl h0.1 rfl ?_
      refine tt_getI (M := MX10_count) (pc := 322) dX10_count_322 rfl h0.2.2.2.1.1 rfl ?_
      exact tt_iret (M := MX10_count) (pc := 325) dX10_count_325 rfl
    · refine tt_ld (M := MX10_count) (pc := 326) dX10_count_326 rfl rfl rfl rfl rfl ?_
      refine tt_getR (M := MX10_count) (pc := 327) dX10_count_327 rfl h0.1 rfl ?_
      refine tt_getI (M := MX10_count) (pc := 330) dX10_count_330 rfl h0.2.2.1.1 rfl ?_
      exact tt_iret (M := MX10_count) (pc := 333) dX10_count_333 rfl
theorem qX10_guest_0 {sc : Nat × (Nat → Int32)} {SH : List mCell} {S : mStore} {r : mR × mW} (h0 : sGP SH) {l1 : Int} {l2 : Int} {u3 : Option Value} {u4 : Option Value} : ((if I l1 < I 0 then G sc MX10_guest 20 [some (.ref 0), some (.int (I l1)), some (.int (I l2)), u3, u4] [.int (I 0)] SH S r else (if I (S 1 6) ≤ I l1 then G sc MX10_guest 20 [some (.ref 0), some (.int (I l1)), some (.int (I l2)), u3, u4] [.int (I 0)] SH S r else G sc MX10_guest 20 [some (.ref 0), some (.int (I l1)), some (.int (I l2)), u3, u4] [.int (I 1)] SH S r))) → G sc MX10_guest 0 [some (.ref 0), some (.int (I l1)), some (.int (I l2)), u3, u4] [] SH S r := by
  refine tt_ld (M := MX10_guest) (pc := 0) dX10_guest_0 rfl rfl rfl rfl rfl ?_
  refine tt_if_lt (M := MX10_guest) (pc := 1) 19 dX10_guest_1 rfl ?_ ?_
  · refine tt_iconst (M := MX10_guest) (pc := 19) dX10_guest_19 ?_
    exact id
  · refine tt_ld (M := MX10_guest) (pc := 4) dX10_guest_4 rfl rfl rfl rfl rfl ?_
    refine tt_ld (M := MX10_guest) (pc := 5) dX10_guest_5 rfl rfl rfl rfl rfl ?_
    refine tt_getR (M := MX10_guest) (pc := 6) dX10_guest_6 rfl h0.1 rfl ?_
    refine tt_getI (M := MX10_guest) (pc := 9) dX10_guest_9 rfl h0.2.2.2.1.2.2.2.2.1.2.2.2.2.2.2.2.2.2.2.2.2.1 rfl ?_
    refine tt_ic_ge (M := MX10_guest) (pc := 12) 19 dX10_guest_12 rfl ?_ ?_
    · refine tt_iconst (M := MX10_guest) (pc := 19) dX10_guest_19 ?_
      exact id
    · refine tt_iconst (M := MX10_guest) (pc := 15) dX10_guest_15 ?_
      refine tt_goto (M := MX10_guest) (pc := 16) 20 dX10_guest_16 rfl ?_
      exact id
theorem qX10_guest_20 {sc : Nat × (Nat → Int32)} {SH : List mCell} {S : mStore} {r : mR × mW} (h0 : sGP SH) {l1 : Int} {l2 : Int} {u3 : Option Value} {u4 : Option Value} {s0 : Int} : (((∃ S101, G sc MX10_mustBe 0 [some (.int (I s0))] [] SH S (rV SH S101) ∧ (((0 : Int) ≤ l1 ∧ l1 < 4) ∧ (((0 : Int) ≤ l1 ∧ l1 < 4) ∧ (swp l2 0 (r = rX 0 (SH ++ [mO (12 + 0) []]) S101) [(((0 : Int) ≤ l1 ∧ l1 < 4) ∧ r = rI (S101 (1 + 1) l1) SH S101), (((0 : Int) ≤ l1 ∧ l1 < 4) ∧ r = rI (S101 (1 + 2) l1) SH S101), (∃ v102 S103, G sc MX7_absentPages 0 [some (.ref 17), some (.int (I (S101 (1 + 3) l1))), some (.int (I ((S101 (1 + 3) l1) + (S101 (1 + 1) l1)))), none, none] [] SH S101 (rI v102 SH S103) ∧ r = rI v102 SH S103), (∃ v104 S105, G sc MX7_mergedPages 0 [some (.ref 17), some (.int (I (S101 (1 + 3) l1))), some (.int (I ((S101 (1 + 3) l1) + (S101 (1 + 1) l1)))), none, none] [] SH S101 (rI v104 SH S105) ∧ r = rI v104 SH S105), (∃ v106 S107, G sc MX7_advisedPages 0 [some (.ref 17), some (.int (I (S101 (1 + 3) l1))), some (.int (I ((S101 (1 + 3) l1) + (S101 (1 + 1) l1)))), none, none] [] SH S101 (rI v106 SH S107) ∧ r = rI v106 SH S107), (∃ v108 S109, G sc MX7_framesOf 0 [some (.ref 17), some (.int (I (S101 (1 + 3) l1))), some (.int (I ((S101 (1 + 3) l1) + (S101 (1 + 1) l1)))), none, none, none] [] SH S101 (rI v108 SH S109) ∧ r = rI v108 SH S109)])))) ∨ (∃ e SH1 S1, G sc MX10_mustBe 0 [some (.int (I s0))] [] SH S (rX e SH1 S1) ∧ r = rX e SH1 S1))) → G sc MX10_guest 20 [some (.ref 0), some (.int (I l1)), some (.int (I l2)), u3, u4] [.int (I s0)] SH S r := by
  refine tt_scV (M := MX10_guest) (pc := 20) dX10_guest_20 rfl [] rfl rfl ⟨rfl, by decide, Nat.le_of_ble_eq_true rfl⟩ rfl fun S101 => ?_
  refine tt_ld (M := MX10_guest) (pc := 23) dX10_guest_23 rfl rfl rfl rfl rfl ?_
  refine tt_getR (M := MX10_guest) (pc := 24) dX10_guest_24 rfl h0.1 rfl ?_
  refine tt_getR (M := MX10_guest) (pc := 27) dX10_guest_27 rfl h0.2.2.2.1.2.2.2.2.1.2.2.2.2.2.2.2.2.2.2.2.2.1 rfl ?_
  refine tt_ld (M := MX10_guest) (pc := 30) dX10_guest_30 rfl rfl rfl rfl rfl ?_
  refine tt_iaload (M := MX10_guest) (pc := 31) dX10_guest_31 h0.2.2.2.1.2.2.2.2.1.2.2.2.2.2.2.2.2.2.2.2.2.2.2.2.1 rfl ?_
  refine tt_st (M := MX10_guest) (pc := 32) [some (.ref 0), some (.int (I l1)), some (.int (I l2)), some (.int (I (S101 (1 + 3) l1))), u4] dX10_guest_32 rfl rfl rfl rfl rfl rfl ?_
  refine tt_ld (M := MX10_guest) (pc := 33) dX10_guest_33 rfl rfl rfl rfl rfl ?_
  refine tt_ld (M := MX10_guest) (pc := 34) dX10_guest_34 rfl rfl rfl rfl rfl ?_
  refine tt_getR (M := MX10_guest) (pc := 35) dX10_guest_35 rfl h0.1 rfl ?_
  refine tt_getR (M := MX10_guest) (pc := 38) dX10_guest_38 rfl h0.2.2.2.1.2.2.2.2.1.2.2.2.2.2.2.2.2.2.2.2.2.1 rfl ?_
  refine tt_ld (M := MX10_guest) (pc := 41) dX10_guest_41 rfl rfl rfl rfl rfl ?_
  refine tt_iaload (M := MX10_guest) (pc := 42) dX10_guest_42 h0.2.2.2.1.2.2.2.2.1.2.2.2.2.2.2.2.2.2.2.2.2.2.1 rfl ?_
  refine tt_iadd (M := MX10_guest) (pc := 43) dX10_guest_43 ?_
  refine tt_st (M := MX10_guest) (pc := 44) [some (.ref 0), some (.int (I l1)), some (.int (I l2)), some (.int (I (S101 (1 + 3) l1))), some (.int (I ((S101 (1 + 3) l1) + (S101 (1 + 1) l1))))] dX10_guest_44 rfl rfl rfl rfl rfl rfl ?_
  refine tt_ld (M := MX10_guest) (pc := 46) dX10_guest_46 rfl rfl rfl rfl rfl ?_
  refine tt_switch (M := MX10_guest) (pc := 47) 160 dX10_guest_47 ⟨by decide, by simp only [List.length_cons, List.length_nil]; omega⟩ rfl rfl ?_ ?_
  · exact tt_throw (M := MX10_guest) (pc := 160) 0 dX10_guest_160 rfl rfl dX10_guest_163 dX10_guest_164 dX10_guest_167 ⟨rfl, rfl, by decide, rfl⟩
  · refine ⟨⟨84, rfl, ?_⟩, ⟨⟨94, rfl, ?_⟩, ⟨⟨104, rfl, ?_⟩, ⟨⟨118, rfl, ?_⟩, ⟨⟨132, rfl, ?_⟩, ⟨⟨146, rfl, ?_⟩, trivial⟩⟩⟩⟩⟩⟩
    · refine tt_ld (M := MX10_guest) (pc := 84) dX10_guest_84 rfl rfl rfl rfl rfl ?_
      refine tt_getR (M := MX10_guest) (pc := 85) dX10_guest_85 rfl h0.1 rfl ?_
      refine tt_getR (M := MX10_guest) (pc := 88) dX10_guest_88 rfl h0.2.2.2.1.2.2.2.2.1.2.2.2.2.2.2.2.2.2.2.2.2.1 rfl ?_
      refine tt_ld (M := MX10_guest) (pc := 91) dX10_guest_91 rfl rfl rfl rfl rfl ?_
      refine tt_iaload (M := MX10_guest) (pc := 92) dX10_guest_92 h0.2.2.2.1.2.2.2.2.1.2.2.2.2.2.2.2.2.2.2.2.2.2.1 rfl ?_
      exact tt_iret (M := MX10_guest) (pc := 93) dX10_guest_93 rfl
    · refine tt_ld (M := MX10_guest) (pc := 94) dX10_guest_94 rfl rfl rfl rfl rfl ?_
      refine tt_getR (M := MX10_guest) (pc := 95) dX10_guest_95 rfl h0.1 rfl ?_
      refine tt_getR (M := MX10_guest) (pc := 98) dX10_guest_98 rfl h0.2.2.2.1.2.2.2.2.1.2.2.2.2.2.2.2.2.2.2.2.2.1 rfl ?_
      refine tt_ld (M := MX10_guest) (pc := 101) dX10_guest_101 rfl rfl rfl rfl rfl ?_
      refine tt_iaload (M := MX10_guest) (pc := 102) dX10_guest_102 h0.2.2.2.1.2.2.2.2.1.2.2.2.2.2.2.2.2.2.2.2.2.2.2.1 rfl ?_
      exact tt_iret (M := MX10_guest) (pc := 103) dX10_guest_103 rfl
    · refine tt_ld (M := MX10_guest) (pc := 104) dX10_guest_104 rfl rfl rfl rfl rfl ?_
      refine tt_getR (M := MX10_guest) (pc := 105) dX10_guest_105 rfl h0.1 rfl ?_
      refine tt_getR (M := MX10_guest) (pc := 108) dX10_guest_108 rfl h0.2.2.2.1.1 rfl ?_
      refine tt_ld (M := MX10_guest) (pc := 111) dX10_guest_111 rfl rfl rfl rfl rfl ?_
      refine tt_ld (M := MX10_guest) (pc := 112) dX10_guest_112 rfl rfl rfl rfl rfl ?_
      refine tt_vcIN (M := MX10_guest) (pc := 114) dX10_guest_114 rfl rfl [] rfl rfl ⟨rfl, by decide, Nat.le_of_ble_eq_true rfl⟩ h0.2.2.2.1.2.2.2.2.1.1 fun v102 S103 => ?_
      exact tt_iret (M := MX10_guest) (pc := 117) dX10_guest_117 rfl
    · refine tt_ld (M := MX10_guest) (pc := 118) dX10_guest_118 rfl rfl rfl rfl rfl ?_
      refine tt_getR (M := MX10_guest) (pc := 119) dX10_guest_119 rfl h0.1 rfl ?_
      refine tt_getR (M := MX10_guest) (pc := 122) dX10_guest_122 rfl h0.2.2.2.1.1 rfl ?_
      refine tt_ld (M := MX10_guest) (pc := 125) dX10_guest_125 rfl rfl rfl rfl rfl ?_
      refine tt_ld (M := MX10_guest) (pc := 126) dX10_guest_126 rfl rfl rfl rfl rfl ?_
      refine tt_vcIN (M := MX10_guest) (pc := 128) dX10_guest_128 rfl rfl [] rfl rfl ⟨rfl, by decide, Nat.le_of_ble_eq_true rfl⟩ h0.2.2.2.1.2.2.2.2.1.1 fun v104 S105 => ?_
      exact tt_iret (M := MX10_guest) (pc := 131) dX10_guest_131 rfl
    · refine tt_ld (M := MX10_guest) (pc := 132) dX10_guest_132 rfl rfl rfl rfl rfl ?_
      refine tt_getR (M := MX10_guest) (pc := 133) dX10_guest_133 rfl h0.1 rfl ?_
      refine tt_getR (M := MX10_guest) (pc := 136) dX10_guest_136 rfl h0.2.2.2.1.1 rfl ?_
      refine tt_ld (M := MX10_guest) (pc := 139) dX10_guest_139 rfl rfl rfl rfl rfl ?_
      refine tt_ld (M := MX10_guest) (pc := 140) dX10_guest_140 rfl rfl rfl rfl rfl ?_
      refine tt_vcIN (M := MX10_guest) (pc := 142) dX10_guest_142 rfl rfl [] rfl rfl ⟨rfl, by decide, Nat.le_of_ble_eq_true rfl⟩ h0.2.2.2.1.2.2.2.2.1.1 fun v106 S107 => ?_
      exact tt_iret (M := MX10_guest) (pc := 145) dX10_guest_145 rfl
    · refine tt_ld (M := MX10_guest) (pc := 146) dX10_guest_146 rfl rfl rfl rfl rfl ?_
      refine tt_getR (M := MX10_guest) (pc := 147) dX10_guest_147 rfl h0.1 rfl ?_
      refine tt_getR (M := MX10_guest) (pc := 150) dX10_guest_150 rfl h0.2.2.2.1.1 rfl ?_
      refine tt_ld (M := MX10_guest) (pc := 153) dX10_guest_153 rfl rfl rfl rfl rfl ?_
      refine tt_ld (M := MX10_guest) (pc := 154) dX10_guest_154 rfl rfl rfl rfl rfl ?_
      refine tt_vcIN (M := MX10_guest) (pc := 156) dX10_guest_156 rfl rfl [] rfl rfl ⟨rfl, by decide, Nat.le_of_ble_eq_true rfl⟩ h0.2.2.2.1.2.2.2.2.1.1 fun v108 S109 => ?_
      exact tt_iret (M := MX10_guest) (pc := 159) dX10_guest_159 rfl
theorem qX10_read_0 {sc : Nat × (Nat → Int32)} {SH : List mCell} {S : mStore} {r : mR × mW} (h0 : sGP SH) {l1 : Int} {l2 : Int} {l3 : Int} {u4 : Option Value} : (((∃ v101 S102, G sc MX10_placeOf 0 [some (.ref 0), some (.int (I l1)), some (.int (I l2)), none] [] SH S (rI v101 SH S102) ∧ ((∃ S103, G sc MX10_mustBeCell 0 [some (.int (I l3))] [] SH S102 (rV SH S103) ∧ (∃ v104 S105, G sc MX7_cellsAt 0 [some (.ref 17), some (.int (I v101)), none] [] SH S103 (rI v104 SH S105) ∧ (∃ v106 S107, G sc MX10_cellOf 0 [some (.int (I v104)), some (.int (I l3))] [] SH S105 (rI v106 SH S107) ∧ r = rI v106 SH S107))) ∨ (∃ e SH1 S1, G sc MX10_mustBeCell 0 [some (.int (I l3))] [] SH S102 (rX e SH1 S1) ∧ r = rX e SH1 S1))) ∨ (∃ e SH1 S1, G sc MX10_placeOf 0 [some (.ref 0), some (.int (I l1)), some (.int (I l2)), none] [] SH S (rX e SH1 S1) ∧ r = rX e SH1 S1))) → G sc MX10_read 0 [some (.ref 0), some (.int (I l1)), some (.int (I l2)), some (.int (I l3)), u4] [] SH S r := by
  refine tt_ld (M := MX10_read) (pc := 0) dX10_read_0 rfl rfl rfl rfl rfl ?_
  refine tt_ld (M := MX10_read) (pc := 1) dX10_read_1 rfl rfl rfl rfl rfl ?_
  refine tt_ld (M := MX10_read) (pc := 2) dX10_read_2 rfl rfl rfl rfl rfl ?_
  refine tt_vcI (M := MX10_read) (pc := 3) dX10_read_3 rfl rfl [] rfl rfl ⟨rfl, by decide, Nat.le_of_ble_eq_true rfl⟩ h0.1 rfl fun v101 S102 => ?_
  refine tt_st (M := MX10_read) (pc := 6) [some (.ref 0), some (.int (I l1)), some (.int (I l2)), some (.int (I l3)), some (.int (I v101))] dX10_read_6 rfl rfl rfl rfl rfl rfl ?_
  refine tt_ld (M := MX10_read) (pc := 8) dX10_read_8 rfl rfl rfl rfl rfl ?_
  refine tt_scV (M := MX10_read) (pc := 9) dX10_read_9 rfl [] rfl rfl ⟨rfl, by decide, Nat.le_of_ble_eq_true rfl⟩ rfl fun S103 => ?_
  refine tt_ld (M := MX10_read) (pc := 12) dX10_read_12 rfl rfl rfl rfl rfl ?_
  refine tt_getR (M := MX10_read) (pc := 13) dX10_read_13 rfl h0.1 rfl ?_
  refine tt_getR (M := MX10_read) (pc := 16) dX10_read_16 rfl h0.2.2.2.1.1 rfl ?_
  refine tt_ld (M := MX10_read) (pc := 19) dX10_read_19 rfl rfl rfl rfl rfl ?_
  refine tt_vcIN (M := MX10_read) (pc := 21) dX10_read_21 rfl rfl [] rfl rfl ⟨rfl, by decide, Nat.le_of_ble_eq_true rfl⟩ h0.2.2.2.1.2.2.2.2.1.1 fun v104 S105 => ?_
  refine tt_ld (M := MX10_read) (pc := 24) dX10_read_24 rfl rfl rfl rfl rfl ?_
  refine tt_scIN (M := MX10_read) (pc := 25) dX10_read_25 rfl [] rfl rfl ⟨rfl, by decide, Nat.le_of_ble_eq_true rfl⟩ fun v106 S107 => ?_
  exact tt_iret (M := MX10_read) (pc := 28) dX10_read_28 rfl
theorem qX10_page_0 {sc : Nat × (Nat → Int32)} {SH : List mCell} {S : mStore} {r : mR × mW} (h0 : sGP SH) {l1 : Int} {l2 : Int} {l3 : Int} {u4 : Option Value} {u5 : Option Value} : (((∃ v101 S102, G sc MX10_placeOf 0 [some (.ref 0), some (.int (I l1)), some (.int (I l2)), none] [] SH S (rI v101 SH S102) ∧ (swp l3 0 (r = rX 0 (SH ++ [mO (12 + 0) []]) S102) [(((0 : Int) ≤ v101 ∧ v101 < 48) ∧ r = rI (S102 (17 + 2) v101) SH S102), (∃ v103 S104, G sc MX7_isMerged 0 [some (.ref 17), some (.int (I v101)), none] [] SH S102 (rI v103 SH S104) ∧ (if I v103 = I 0 then r = rI 0 SH S104 else r = rI 1 SH S104)), (((0 : Int) ≤ v101 ∧ v101 < 48) ∧ r = rI (S102 (17 + 14) v101) SH S102), (((0 : Int) ≤ v101 ∧ v101 < 48) ∧ r = rI (S102 (17 + 15) v101) SH S102), (((0 : Int) ≤ v101 ∧ v101 < 48) ∧ r = rI (S102 (17 + 16) v101) SH S102), (((0 : Int) ≤ v101 ∧ v101 < 48) ∧ r = rI (S102 (17 + 17) v101) SH S102), (((0 : Int) ≤ v101 ∧ v101 < 48) ∧ r = rI (S102 (17 + 18) v101) SH S102), (∃ v105 S106, G sc MX9_slotOf 0 [some (.ref (17 + 11)), some (.int (I v101)), none] [] SH S102 (rI v105 SH S106) ∧ (if I v105 = I (-1) then r = rI 0 SH S106 else r = rI 1 SH S106))])) ∨ (∃ e SH1 S1, G sc MX10_placeOf 0 [some (.ref 0), some (.int (I l1)), some (.int (I l2)), none] [] SH S (rX e SH1 S1) ∧ r = rX e SH1 S1))) → G sc MX10_page 0 [some (.ref 0), some (.int (I l1)), some (.int (I l2)), some (.int (I l3)), u4, u5] [] SH S r := by
  refine tt_ld (M := MX10_page) (pc := 0) dX10_page_0 rfl rfl rfl rfl rfl ?_
  refine tt_ld (M := MX10_page) (pc := 1) dX10_page_1 rfl rfl rfl rfl rfl ?_
  refine tt_ld (M := MX10_page) (pc := 2) dX10_page_2 rfl rfl rfl rfl rfl ?_
  refine tt_vcI (M := MX10_page) (pc := 3) dX10_page_3 rfl rfl [] rfl rfl ⟨rfl, by decide, Nat.le_of_ble_eq_true rfl⟩ h0.1 rfl fun v101 S102 => ?_
  refine tt_st (M := MX10_page) (pc := 6) [some (.ref 0), some (.int (I l1)), some (.int (I l2)), some (.int (I l3)), some (.int (I v101)), u5] dX10_page_6 rfl rfl rfl rfl rfl rfl ?_
  refine tt_ld (M := MX10_page) (pc := 8) dX10_page_8 rfl rfl rfl rfl rfl ?_
  refine tt_getR (M := MX10_page) (pc := 9) dX10_page_9 rfl h0.1 rfl ?_
  refine tt_getR (M := MX10_page) (pc := 12) dX10_page_12 rfl h0.2.2.2.1.1 rfl ?_
  refine tt_st (M := MX10_page) (pc := 15) [some (.ref 0), some (.int (I l1)), some (.int (I l2)), some (.int (I l3)), some (.int (I v101)), some (.ref 17)] dX10_page_15 rfl rfl rfl rfl rfl rfl ?_
  refine tt_ld (M := MX10_page) (pc := 17) dX10_page_17 rfl rfl rfl rfl rfl ?_
  refine tt_switch (M := MX10_page) (pc := 18) 157 dX10_page_18 ⟨by decide, by simp only [List.length_cons, List.length_nil]; omega⟩ rfl rfl ?_ ?_
  · exact tt_throw (M := MX10_page) (pc := 157) 0 dX10_page_157 rfl rfl dX10_page_160 dX10_page_161 dX10_page_164 ⟨rfl, rfl, by decide, rfl⟩
  · refine ⟨⟨64, rfl, ?_⟩, ⟨⟨76, rfl, ?_⟩, ⟨⟨92, rfl, ?_⟩, ⟨⟨101, rfl, ?_⟩, ⟨⟨110, rfl, ?_⟩, ⟨⟨119, rfl, ?_⟩, ⟨⟨128, rfl, ?_⟩, ⟨⟨137, rfl, ?_⟩, trivial⟩⟩⟩⟩⟩⟩⟩⟩
    · refine tt_ld (M := MX10_page) (pc := 64) dX10_page_64 rfl rfl rfl rfl rfl ?_
      refine tt_getR (M := MX10_page) (pc := 66) dX10_page_66 rfl h0.2.2.2.1.2.2.2.2.1.1 rfl ?_
      refine tt_getR (M := MX10_page) (pc := 69) dX10_page_69 rfl h0.2.2.2.1.2.2.2.2.1.2.1.1 rfl ?_
      refine tt_ld (M := MX10_page) (pc := 72) dX10_page_72 rfl rfl rfl rfl rfl ?_
      refine tt_iaload (M := MX10_page) (pc := 74) dX10_page_74 h0.2.2.2.1.2.2.2.2.1.2.1.2.1 rfl ?_
      exact tt_iret (M := MX10_page) (pc := 75) dX10_page_75 rfl
    · refine tt_ld (M := MX10_page) (pc := 76) dX10_page_76 rfl rfl rfl rfl rfl ?_
      refine tt_ld (M := MX10_page) (pc := 78) dX10_page_78 rfl rfl rfl rfl rfl ?_
      refine tt_vcIN (M := MX10_page) (pc := 80) dX10_page_80 rfl rfl [] rfl rfl ⟨rfl, by decide, Nat.le_of_ble_eq_true rfl⟩ h0.2.2.2.1.2.2.2.2.1.1 fun v103 S104 => ?_
      refine tt_if_eq (M := MX10_page) (pc := 83) 90 dX10_page_83 rfl ?_ ?_
      · refine tt_iconst (M := MX10_page) (pc := 90) dX10_page_90 ?_
        exact tt_iret (M := MX10_page) (pc := 91) dX10_page_91 rfl
      · refine tt_iconst (M := MX10_page) (pc := 86) dX10_page_86 ?_
        refine tt_goto (M := MX10_page) (pc := 87) 91 dX10_page_87 rfl ?_
        exact tt_iret (M := MX10_page) (pc := 91) dX10_page_91 rfl
    · refine tt_ld (M := MX10_page) (pc := 92) dX10_page_92 rfl rfl rfl rfl rfl ?_
      refine tt_getR (M := MX10_page) (pc := 94) dX10_page_94 rfl h0.2.2.2.1.2.2.2.2.1.1 rfl ?_
      refine tt_ld (M := MX10_page) (pc := 97) dX10_page_97 rfl rfl rfl rfl rfl ?_
      refine tt_iaload (M := MX10_page) (pc := 99) dX10_page_99 h0.2.2.2.1.2.2.2.2.1.2.2.2.2.2.2.1 rfl ?_
      exact tt_iret (M := MX10_page) (pc := 100) dX10_page_100 rfl
    · refine tt_ld (M := MX10_page) (pc := 101) dX10_page_101 rfl rfl rfl rfl rfl ?_
      refine tt_getR (M := MX10_page) (pc := 103) dX10_page_103 rfl h0.2.2.2.1.2.2.2.2.1.1 rfl ?_
      refine tt_ld (M := MX10_page) (pc := 106) dX10_page_106 rfl rfl rfl rfl rfl ?_
      refine tt_iaload (M := MX10_page) (pc := 108) dX10_page_108 h0.2.2.2.1.2.2.2.2.1.2.2.2.2.2.2.2.1 rfl ?_
      exact tt_iret (M := MX10_page) (pc := 109) dX10_page_109 rfl
    · refine tt_ld (M := MX10_page) (pc := 110) dX10_page_110 rfl rfl rfl rfl rfl ?_
      refine tt_getR (M := MX10_page) (pc := 112) dX10_page_112 rfl h0.2.2.2.1.2.2.2.2.1.1 rfl ?_
      refine tt_ld (M := MX10_page) (pc := 115) dX10_page_115 rfl rfl rfl rfl rfl ?_
      refine tt_iaload (M := MX10_page) (pc := 117) dX10_page_117 h0.2.2.2.1.2.2.2.2.1.2.2.2.2.2.2.2.2.1 rfl ?_
      exact tt_iret (M := MX10_page) (pc := 118) dX10_page_118 rfl
    · refine tt_ld (M := MX10_page) (pc := 119) dX10_page_119 rfl rfl rfl rfl rfl ?_
      refine tt_getR (M := MX10_page) (pc := 121) dX10_page_121 rfl h0.2.2.2.1.2.2.2.2.1.1 rfl ?_
      refine tt_ld (M := MX10_page) (pc := 124) dX10_page_124 rfl rfl rfl rfl rfl ?_
      refine tt_iaload (M := MX10_page) (pc := 126) dX10_page_126 h0.2.2.2.1.2.2.2.2.1.2.2.2.2.2.2.2.2.2.1 rfl ?_
      exact tt_iret (M := MX10_page) (pc := 127) dX10_page_127 rfl
    · refine tt_ld (M := MX10_page) (pc := 128) dX10_page_128 rfl rfl rfl rfl rfl ?_
      refine tt_getR (M := MX10_page) (pc := 130) dX10_page_130 rfl h0.2.2.2.1.2.2.2.2.1.1 rfl ?_
      refine tt_ld (M := MX10_page) (pc := 133) dX10_page_133 rfl rfl rfl rfl rfl ?_
      refine tt_iaload (M := MX10_page) (pc := 135) dX10_page_135 h0.2.2.2.1.2.2.2.2.1.2.2.2.2.2.2.2.2.2.2.1 rfl ?_
      exact tt_iret (M := MX10_page) (pc := 136) dX10_page_136 rfl
    · refine tt_ld (M := MX10_page) (pc := 137) dX10_page_137 rfl rfl rfl rfl rfl ?_
      refine tt_getR (M := MX10_page) (pc := 139) dX10_page_139 rfl h0.2.2.2.1.2.2.2.2.1.1 rfl ?_
      refine tt_ld (M := MX10_page) (pc := 142) dX10_page_142 rfl rfl rfl rfl rfl ?_
      refine tt_vcIN (M := MX10_page) (pc := 144) dX10_page_144 rfl rfl [] rfl rfl ⟨rfl, by decide, Nat.le_of_ble_eq_true rfl⟩ h0.2.2.2.1.2.2.2.2.1.2.2.2.2.1.1 fun v105 S106 => ?_
      refine tt_iconst (M := MX10_page) (pc := 147) dX10_page_147 ?_
      refine tt_ic_ne (M := MX10_page) (pc := 148) 155 dX10_page_148 rfl ?_ ?_
      · refine tt_iconst (M := MX10_page) (pc := 155) dX10_page_155 ?_
        exact tt_iret (M := MX10_page) (pc := 156) dX10_page_156 rfl
      · refine tt_iconst (M := MX10_page) (pc := 151) dX10_page_151 ?_
        refine tt_goto (M := MX10_page) (pc := 152) 156 dX10_page_152 rfl ?_
        exact tt_iret (M := MX10_page) (pc := 156) dX10_page_156 rfl
theorem qX10_frame_0 {sc : Nat × (Nat → Int32)} {SH : List mCell} {S : mStore} {r : mR × mW} (h0 : sGP SH) {l1 : Int} {l2 : Int} {u3 : Option Value} : ((if I l1 < I 0 then ((∃ S101, G sc MX10_mustBe 0 [some (.int (I 0))] [] SH S (rV SH S101) ∧ (if I l2 = I (-1) then (∃ v110 S111, G sc MX6_sizeOf 0 [some (.ref (17 + 1)), some (.int (I l1)), none, none] [] SH S101 (rI v110 SH S111) ∧ r = rI v110 SH S111) else (∃ v102 S103, G sc MX6_nth 0 [some (.ref (17 + 1)), some (.int (I l1)), some (.int (I l2)), none, none] [] SH S101 (rI v102 SH S103) ∧ (if I v102 = I (-1) then ((∃ S104, G sc MX10_mustBe 0 [some (.int (I 0))] [] SH S103 (rV SH S104) ∧ (∃ v105 S106, G sc MX5_labelOf 0 [some (.ref 1), some (.int (I v102)), none] [] SH S104 (rI v105 SH S106) ∧ r = rI v105 SH S106)) ∨ (∃ e SH1 S1, G sc MX10_mustBe 0 [some (.int (I 0))] [] SH S103 (rX e SH1 S1) ∧ r = rX e SH1 S1)) else ((∃ S107, G sc MX10_mustBe 0 [some (.int (I 1))] [] SH S103 (rV SH S107) ∧ (∃ v108 S109, G sc MX5_labelOf 0 [some (.ref 1), some (.int (I v102)), none] [] SH S107 (rI v108 SH S109) ∧ r = rI v108 SH S109)) ∨ (∃ e SH1 S1, G sc MX10_mustBe 0 [some (.int (I 1))] [] SH S103 (rX e SH1 S1) ∧ r = rX e SH1 S1)))))) ∨ (∃ e SH1 S1, G sc MX10_mustBe 0 [some (.int (I 0))] [] SH S (rX e SH1 S1) ∧ r = rX e SH1 S1)) else (if I (S 1 0) ≤ I l1 then ((∃ S112, G sc MX10_mustBe 0 [some (.int (I 0))] [] SH S (rV SH S112) ∧ (if I l2 = I (-1) then (∃ v121 S122, G sc MX6_sizeOf 0 [some (.ref (17 + 1)), some (.int (I l1)), none, none] [] SH S112 (rI v121 SH S122) ∧ r = rI v121 SH S122) else (∃ v113 S114, G sc MX6_nth 0 [some (.ref (17 + 1)), some (.int (I l1)), some (.int (I l2)), none, none] [] SH S112 (rI v113 SH S114) ∧ (if I v113 = I (-1) then ((∃ S115, G sc MX10_mustBe 0 [some (.int (I 0))] [] SH S114 (rV SH S115) ∧ (∃ v116 S117, G sc MX5_labelOf 0 [some (.ref 1), some (.int (I v113)), none] [] SH S115 (rI v116 SH S117) ∧ r = rI v116 SH S117)) ∨ (∃ e SH1 S1, G sc MX10_mustBe 0 [some (.int (I 0))] [] SH S114 (rX e SH1 S1) ∧ r = rX e SH1 S1)) else ((∃ S118, G sc MX10_mustBe 0 [some (.int (I 1))] [] SH S114 (rV SH S118) ∧ (∃ v119 S120, G sc MX5_labelOf 0 [some (.ref 1), some (.int (I v113)), none] [] SH S118 (rI v119 SH S120) ∧ r = rI v119 SH S120)) ∨ (∃ e SH1 S1, G sc MX10_mustBe 0 [some (.int (I 1))] [] SH S114 (rX e SH1 S1) ∧ r = rX e SH1 S1)))))) ∨ (∃ e SH1 S1, G sc MX10_mustBe 0 [some (.int (I 0))] [] SH S (rX e SH1 S1) ∧ r = rX e SH1 S1)) else ((∃ S123, G sc MX10_mustBe 0 [some (.int (I 1))] [] SH S (rV SH S123) ∧ (if I l2 = I (-1) then (∃ v132 S133, G sc MX6_sizeOf 0 [some (.ref (17 + 1)), some (.int (I l1)), none, none] [] SH S123 (rI v132 SH S133) ∧ r = rI v132 SH S133) else (∃ v124 S125, G sc MX6_nth 0 [some (.ref (17 + 1)), some (.int (I l1)), some (.int (I l2)), none, none] [] SH S123 (rI v124 SH S125) ∧ (if I v124 = I (-1) then ((∃ S126, G sc MX10_mustBe 0 [some (.int (I 0))] [] SH S125 (rV SH S126) ∧ (∃ v127 S128, G sc MX5_labelOf 0 [some (.ref 1), some (.int (I v124)), none] [] SH S126 (rI v127 SH S128) ∧ r = rI v127 SH S128)) ∨ (∃ e SH1 S1, G sc MX10_mustBe 0 [some (.int (I 0))] [] SH S125 (rX e SH1 S1) ∧ r = rX e SH1 S1)) else ((∃ S129, G sc MX10_mustBe 0 [some (.int (I 1))] [] SH S125 (rV SH S129) ∧ (∃ v130 S131, G sc MX5_labelOf 0 [some (.ref 1), some (.int (I v124)), none] [] SH S129 (rI v130 SH S131) ∧ r = rI v130 SH S131)) ∨ (∃ e SH1 S1, G sc MX10_mustBe 0 [some (.int (I 1))] [] SH S125 (rX e SH1 S1) ∧ r = rX e SH1 S1)))))) ∨ (∃ e SH1 S1, G sc MX10_mustBe 0 [some (.int (I 1))] [] SH S (rX e SH1 S1) ∧ r = rX e SH1 S1))))) → G sc MX10_frame 0 [some (.ref 0), some (.int (I l1)), some (.int (I l2)), u3] [] SH S r := by
  refine tt_ld (M := MX10_frame) (pc := 0) dX10_frame_0 rfl rfl rfl rfl rfl ?_
  refine tt_if_lt (M := MX10_frame) (pc := 1) 19 dX10_frame_1 rfl ?_ ?_
  · refine tt_iconst (M := MX10_frame) (pc := 19) dX10_frame_19 ?_
    refine tt_scV (M := MX10_frame) (pc := 20) dX10_frame_20 rfl [] rfl rfl ⟨rfl, by decide, Nat.le_of_ble_eq_true rfl⟩ rfl fun S101 => ?_
    refine tt_ld (M := MX10_frame) (pc := 23) dX10_frame_23 rfl rfl rfl rfl rfl ?_
    refine tt_iconst (M := MX10_frame) (pc := 24) dX10_frame_24 ?_
    refine tt_ic_ne (M := MX10_frame) (pc := 25) 43 dX10_frame_25 rfl ?_ ?_
    · refine tt_ld (M := MX10_frame) (pc := 43) dX10_frame_43 rfl rfl rfl rfl rfl ?_
      refine tt_getR (M := MX10_frame) (pc := 44) dX10_frame_44 rfl h0.1 rfl ?_
      refine tt_getR (M := MX10_frame) (pc := 47) dX10_frame_47 rfl h0.2.2.2.1.1 rfl ?_
      refine tt_getR (M := MX10_frame) (pc := 50) dX10_frame_50 rfl h0.2.2.2.1.2.2.2.2.1.1 rfl ?_
      refine tt_ld (M := MX10_frame) (pc := 53) dX10_frame_53 rfl rfl rfl rfl rfl ?_
      refine tt_ld (M := MX10_frame) (pc := 54) dX10_frame_54 rfl rfl rfl rfl rfl ?_
      refine tt_vcIN (M := MX10_frame) (pc := 55) dX10_frame_55 rfl rfl [] rfl rfl ⟨rfl, by decide, Nat.le_of_ble_eq_true rfl⟩ h0.2.2.2.1.2.2.2.2.1.2.1.1 fun v102 S103 => ?_
      refine tt_st (M := MX10_frame) (pc := 58) [some (.ref 0), some (.int (I l1)), some (.int (I l2)), some (.int (I v102))] dX10_frame_58 rfl rfl rfl rfl rfl rfl ?_
      refine tt_ld (M := MX10_frame) (pc := 59) dX10_frame_59 rfl rfl rfl rfl rfl ?_
      refine tt_iconst (M := MX10_frame) (pc := 60) dX10_frame_60 ?_
      refine tt_ic_eq (M := MX10_frame) (pc := 61) 68 dX10_frame_61 rfl ?_ ?_
      · refine tt_iconst (M := MX10_frame) (pc := 68) dX10_frame_68 ?_
        refine tt_scV (M := MX10_frame) (pc := 69) dX10_frame_69 rfl [] rfl rfl ⟨rfl, by decide, Nat.le_of_ble_eq_true rfl⟩ rfl fun S104 => ?_
        refine tt_ld (M := MX10_frame) (pc := 72) dX10_frame_72 rfl rfl rfl rfl rfl ?_
        refine tt_getR (M := MX10_frame) (pc := 73) dX10_frame_73 rfl h0.1 rfl ?_
        refine tt_ld (M := MX10_frame) (pc := 76) dX10_frame_76 rfl rfl rfl rfl rfl ?_
        refine tt_vcIN (M := MX10_frame) (pc := 77) dX10_frame_77 rfl rfl [] rfl rfl ⟨rfl, by decide, Nat.le_of_ble_eq_true rfl⟩ h0.2.2.2.1.2.2.2.2.1.2.2.2.2.2.2.2.2.2.2.2.2.1 fun v105 S106 => ?_
        exact tt_iret (M := MX10_frame) (pc := 80) dX10_frame_80 rfl
      · refine tt_iconst (M := MX10_frame) (pc := 64) dX10_frame_64 ?_
        refine tt_goto (M := MX10_frame) (pc := 65) 69 dX10_frame_65 rfl ?_
        refine tt_scV (M := MX10_frame) (pc := 69) dX10_frame_69 rfl [] rfl rfl ⟨rfl, by decide, Nat.le_of_ble_eq_true rfl⟩ rfl fun S107 => ?_
        refine tt_ld (M := MX10_frame) (pc := 72) dX10_frame_72 rfl rfl rfl rfl rfl ?_
        refine tt_getR (M := MX10_frame) (pc := 73) dX10_frame_73 rfl h0.1 rfl ?_
        refine tt_ld (M := MX10_frame) (pc := 76) dX10_frame_76 rfl rfl rfl rfl rfl ?_
        refine tt_vcIN (M := MX10_frame) (pc := 77) dX10_frame_77 rfl rfl [] rfl rfl ⟨rfl, by decide, Nat.le_of_ble_eq_true rfl⟩ h0.2.2.2.1.2.2.2.2.1.2.2.2.2.2.2.2.2.2.2.2.2.1 fun v108 S109 => ?_
        exact tt_iret (M := MX10_frame) (pc := 80) dX10_frame_80 rfl
    · refine tt_ld (M := MX10_frame) (pc := 28) dX10_frame_28 rfl rfl rfl rfl rfl ?_
      refine tt_getR (M := MX10_frame) (pc := 29) dX10_frame_29 rfl h0.1 rfl ?_
      refine tt_getR (M := MX10_frame) (pc := 32) dX10_frame_32 rfl h0.2.2.2.1.1 rfl ?_
      refine tt_getR (M := MX10_frame) (pc := 35) dX10_frame_35 rfl h0.2.2.2.1.2.2.2.2.1.1 rfl ?_
      refine tt_ld (M := MX10_frame) (pc := 38) dX10_frame_38 rfl rfl rfl rfl rfl ?_
      refine tt_vcIN (M := MX10_frame) (pc := 39) dX10_frame_39 rfl rfl [] rfl rfl ⟨rfl, by decide, Nat.le_of_ble_eq_true rfl⟩ h0.2.2.2.1.2.2.2.2.1.2.1.1 fun v110 S111 => ?_
      exact tt_iret (M := MX10_frame) (pc := 42) dX10_frame_42 rfl
  · refine tt_ld (M := MX10_frame) (pc := 4) dX10_frame_4 rfl rfl rfl rfl rfl ?_
    refine tt_ld (M := MX10_frame) (pc := 5) dX10_frame_5 rfl rfl rfl rfl rfl ?_
    refine tt_getR (M := MX10_frame) (pc := 6) dX10_frame_6 rfl h0.1 rfl ?_
    refine tt_getI (M := MX10_frame) (pc := 9) dX10_frame_9 rfl h0.2.2.2.1.2.2.2.2.1.2.2.2.2.2.2.2.2.2.2.2.2.1 rfl ?_
    refine tt_ic_ge (M := MX10_frame) (pc := 12) 19 dX10_frame_12 rfl ?_ ?_
    · refine tt_iconst (M := MX10_frame) (pc := 19) dX10_frame_19 ?_
      refine tt_scV (M := MX10_frame) (pc := 20) dX10_frame_20 rfl [] rfl rfl ⟨rfl, by decide, Nat.le_of_ble_eq_true rfl⟩ rfl fun S112 => ?_
      refine tt_ld (M := MX10_frame) (pc := 23) dX10_frame_23 rfl rfl rfl rfl rfl ?_
      refine tt_iconst (M := MX10_frame) (pc := 24) dX10_frame_24 ?_
      refine tt_ic_ne (M := MX10_frame) (pc := 25) 43 dX10_frame_25 rfl ?_ ?_
      · refine tt_ld (M := MX10_frame) (pc := 43) dX10_frame_43 rfl rfl rfl rfl rfl ?_
        refine tt_getR (M := MX10_frame) (pc := 44) dX10_frame_44 rfl h0.1 rfl ?_
        refine tt_getR (M := MX10_frame) (pc := 47) dX10_frame_47 rfl h0.2.2.2.1.1 rfl ?_
        refine tt_getR (M := MX10_frame) (pc := 50) dX10_frame_50 rfl h0.2.2.2.1.2.2.2.2.1.1 rfl ?_
        refine tt_ld (M := MX10_frame) (pc := 53) dX10_frame_53 rfl rfl rfl rfl rfl ?_
        refine tt_ld (M := MX10_frame) (pc := 54) dX10_frame_54 rfl rfl rfl rfl rfl ?_
        refine tt_vcIN (M := MX10_frame) (pc := 55) dX10_frame_55 rfl rfl [] rfl rfl ⟨rfl, by decide, Nat.le_of_ble_eq_true rfl⟩ h0.2.2.2.1.2.2.2.2.1.2.1.1 fun v113 S114 => ?_
        refine tt_st (M := MX10_frame) (pc := 58) [some (.ref 0), some (.int (I l1)), some (.int (I l2)), some (.int (I v113))] dX10_frame_58 rfl rfl rfl rfl rfl rfl ?_
        refine tt_ld (M := MX10_frame) (pc := 59) dX10_frame_59 rfl rfl rfl rfl rfl ?_
        refine tt_iconst (M := MX10_frame) (pc := 60) dX10_frame_60 ?_
        refine tt_ic_eq (M := MX10_frame) (pc := 61) 68 dX10_frame_61 rfl ?_ ?_
        · refine tt_iconst (M := MX10_frame) (pc := 68) dX10_frame_68 ?_
          refine tt_scV (M := MX10_frame) (pc := 69) dX10_frame_69 rfl [] rfl rfl ⟨rfl, by decide, Nat.le_of_ble_eq_true rfl⟩ rfl fun S115 => ?_
          refine tt_ld (M := MX10_frame) (pc := 72) dX10_frame_72 rfl rfl rfl rfl rfl ?_
          refine tt_getR (M := MX10_frame) (pc := 73) dX10_frame_73 rfl h0.1 rfl ?_
          refine tt_ld (M := MX10_frame) (pc := 76) dX10_frame_76 rfl rfl rfl rfl rfl ?_
          refine tt_vcIN (M := MX10_frame) (pc := 77) dX10_frame_77 rfl rfl [] rfl rfl ⟨rfl, by decide, Nat.le_of_ble_eq_true rfl⟩ h0.2.2.2.1.2.2.2.2.1.2.2.2.2.2.2.2.2.2.2.2.2.1 fun v116 S117 => ?_
          exact tt_iret (M := MX10_frame) (pc := 80) dX10_frame_80 rfl
        · refine tt_iconst (M := MX10_frame) (pc := 64) dX10_frame_64 ?_
          refine tt_goto (M := MX10_frame) (pc := 65) 69 dX10_frame_65 rfl ?_
          refine tt_scV (M := MX10_frame) (pc := 69) dX10_frame_69 rfl [] rfl rfl ⟨rfl, by decide, Nat.le_of_ble_eq_true rfl⟩ rfl fun S118 => ?_
          refine tt_ld (M := MX10_frame) (pc := 72) dX10_frame_72 rfl rfl rfl rfl rfl ?_
          refine tt_getR (M := MX10_frame) (pc := 73) dX10_frame_73 rfl h0.1 rfl ?_
          refine tt_ld (M := MX10_frame) (pc := 76) dX10_frame_76 rfl rfl rfl rfl rfl ?_
          refine tt_vcIN (M := MX10_frame) (pc := 77) dX10_frame_77 rfl rfl [] rfl rfl ⟨rfl, by decide, Nat.le_of_ble_eq_true rfl⟩ h0.2.2.2.1.2.2.2.2.1.2.2.2.2.2.2.2.2.2.2.2.2.1 fun v119 S120 => ?_
          exact tt_iret (M := MX10_frame) (pc := 80) dX10_frame_80 rfl
      · refine tt_ld (M := MX10_frame) (pc := 28) dX10_frame_28 rfl rfl rfl rfl rfl ?_
        refine tt_getR (M := MX10_frame) (pc := 29) dX10_frame_29 rfl h0.1 rfl ?_
        refine tt_getR (M := MX10_frame) (pc := 32) dX10_frame_32 rfl h0.2.2.2.1.1 rfl ?_
        refine tt_getR (M := MX10_frame) (pc := 35) dX10_frame_35 rfl h0.2.2.2.1.2.2.2.2.1.1 rfl ?_
        refine tt_ld (M := MX10_frame) (pc := 38) dX10_frame_38 rfl rfl rfl rfl rfl ?_
        refine tt_vcIN (M := MX10_frame) (pc := 39) dX10_frame_39 rfl rfl [] rfl rfl ⟨rfl, by decide, Nat.le_of_ble_eq_true rfl⟩ h0.2.2.2.1.2.2.2.2.1.2.1.1 fun v121 S122 => ?_
        exact tt_iret (M := MX10_frame) (pc := 42) dX10_frame_42 rfl
    · refine tt_iconst (M := MX10_frame) (pc := 15) dX10_frame_15 ?_
      refine tt_goto (M := MX10_frame) (pc := 16) 20 dX10_frame_16 rfl ?_
      refine tt_scV (M := MX10_frame) (pc := 20) dX10_frame_20 rfl [] rfl rfl ⟨rfl, by decide, Nat.le_of_ble_eq_true rfl⟩ rfl fun S123 => ?_
      refine tt_ld (M := MX10_frame) (pc := 23) dX10_frame_23 rfl rfl rfl rfl rfl ?_
      refine tt_iconst (M := MX10_frame) (pc := 24) dX10_frame_24 ?_
      refine tt_ic_ne (M := MX10_frame) (pc := 25) 43 dX10_frame_25 rfl ?_ ?_
      · refine tt_ld (M := MX10_frame) (pc := 43) dX10_frame_43 rfl rfl rfl rfl rfl ?_
        refine tt_getR (M := MX10_frame) (pc := 44) dX10_frame_44 rfl h0.1 rfl ?_
        refine tt_getR (M := MX10_frame) (pc := 47) dX10_frame_47 rfl h0.2.2.2.1.1 rfl ?_
        refine tt_getR (M := MX10_frame) (pc := 50) dX10_frame_50 rfl h0.2.2.2.1.2.2.2.2.1.1 rfl ?_
        refine tt_ld (M := MX10_frame) (pc := 53) dX10_frame_53 rfl rfl rfl rfl rfl ?_
        refine tt_ld (M := MX10_frame) (pc := 54) dX10_frame_54 rfl rfl rfl rfl rfl ?_
        refine tt_vcIN (M := MX10_frame) (pc := 55) dX10_frame_55 rfl rfl [] rfl rfl ⟨rfl, by decide, Nat.le_of_ble_eq_true rfl⟩ h0.2.2.2.1.2.2.2.2.1.2.1.1 fun v124 S125 => ?_
        refine tt_st (M := MX10_frame) (pc := 58) [some (.ref 0), some (.int (I l1)), some (.int (I l2)), some (.int (I v124))] dX10_frame_58 rfl rfl rfl rfl rfl rfl ?_
        refine tt_ld (M := MX10_frame) (pc := 59) dX10_frame_59 rfl rfl rfl rfl rfl ?_
        refine tt_iconst (M := MX10_frame) (pc := 60) dX10_frame_60 ?_
        refine tt_ic_eq (M := MX10_frame) (pc := 61) 68 dX10_frame_61 rfl ?_ ?_
        · refine tt_iconst (M := MX10_frame) (pc := 68) dX10_frame_68 ?_
          refine tt_scV (M := MX10_frame) (pc := 69) dX10_frame_69 rfl [] rfl rfl ⟨rfl, by decide, Nat.le_of_ble_eq_true rfl⟩ rfl fun S126 => ?_
          refine tt_ld (M := MX10_frame) (pc := 72) dX10_frame_72 rfl rfl rfl rfl rfl ?_
          refine tt_getR (M := MX10_frame) (pc := 73) dX10_frame_73 rfl h0.1 rfl ?_
          refine tt_ld (M := MX10_frame) (pc := 76) dX10_frame_76 rfl rfl rfl rfl rfl ?_
          refine tt_vcIN (M := MX10_frame) (pc := 77) dX10_frame_77 rfl rfl [] rfl rfl ⟨rfl, by decide, Nat.le_of_ble_eq_true rfl⟩ h0.2.2.2.1.2.2.2.2.1.2.2.2.2.2.2.2.2.2.2.2.2.1 fun v127 S128 => ?_
          exact tt_iret (M := MX10_frame) (pc := 80) dX10_frame_80 rfl
        · refine tt_iconst (M := MX10_frame) (pc := 64) dX10_frame_64 ?_
          refine tt_goto (M := MX10_frame) (pc := 65) 69 dX10_frame_65 rfl ?_
          refine tt_scV (M := MX10_frame) (pc := 69) dX10_frame_69 rfl [] rfl rfl ⟨rfl, by decide, Nat.le_of_ble_eq_true rfl⟩ rfl fun S129 => ?_
          refine tt_ld (M := MX10_frame) (pc := 72) dX10_frame_72 rfl rfl rfl rfl rfl ?_
          refine tt_getR (M := MX10_frame) (pc := 73) dX10_frame_73 rfl h0.1 rfl ?_
          refine tt_ld (M := MX10_frame) (pc := 76) dX10_frame_76 rfl rfl rfl rfl rfl ?_
          refine tt_vcIN (M := MX10_frame) (pc := 77) dX10_frame_77 rfl rfl [] rfl rfl ⟨rfl, by decide, Nat.le_of_ble_eq_true rfl⟩ h0.2.2.2.1.2.2.2.2.1.2.2.2.2.2.2.2.2.2.2.2.2.1 fun v130 S131 => ?_
          exact tt_iret (M := MX10_frame) (pc := 80) dX10_frame_80 rfl
      · refine tt_ld (M := MX10_frame) (pc := 28) dX10_frame_28 rfl rfl rfl rfl rfl ?_
        refine tt_getR (M := MX10_frame) (pc := 29) dX10_frame_29 rfl h0.1 rfl ?_
        refine tt_getR (M := MX10_frame) (pc := 32) dX10_frame_32 rfl h0.2.2.2.1.1 rfl ?_
        refine tt_getR (M := MX10_frame) (pc := 35) dX10_frame_35 rfl h0.2.2.2.1.2.2.2.2.1.1 rfl ?_
        refine tt_ld (M := MX10_frame) (pc := 38) dX10_frame_38 rfl rfl rfl rfl rfl ?_
        refine tt_vcIN (M := MX10_frame) (pc := 39) dX10_frame_39 rfl rfl [] rfl rfl ⟨rfl, by decide, Nat.le_of_ble_eq_true rfl⟩ h0.2.2.2.1.2.2.2.2.1.2.1.1 fun v132 S133 => ?_
        exact tt_iret (M := MX10_frame) (pc := 42) dX10_frame_42 rfl
theorem qX10_chain_0 {sc : Nat × (Nat → Int32)} {SH : List mCell} {S : mStore} {r : mR × mW} (h0 : sGP SH) {l1 : Int} {l2 : Int} {u3 : Option Value} {u4 : Option Value} : ((if I l1 < I 0 then ((∃ S101, G sc MX10_mustBe 0 [some (.int (I 0))] [] SH S (rV SH S101) ∧ (((0 : Int) ≤ l1 ∧ l1 < 48) ∧ (if I (S101 (17 + 6) l1) = I (-1) then G sc MX10_chain 49 [some (.ref 0), some (.int (I l1)), some (.int (I l2)), some (.int (I (S101 (17 + 6) l1))), u4] [.int (I 0)] SH S101 r else G sc MX10_chain 49 [some (.ref 0), some (.int (I l1)), some (.int (I l2)), some (.int (I (S101 (17 + 6) l1))), u4] [.int (I 1)] SH S101 r))) ∨ (∃ e SH1 S1, G sc MX10_mustBe 0 [some (.int (I 0))] [] SH S (rX e SH1 S1) ∧ r = rX e SH1 S1)) else (if I (S 1 0) ≤ I l1 then ((∃ S102, G sc MX10_mustBe 0 [some (.int (I 0))] [] SH S (rV SH S102) ∧ (((0 : Int) ≤ l1 ∧ l1 < 48) ∧ (if I (S102 (17 + 6) l1) = I (-1) then G sc MX10_chain 49 [some (.ref 0), some (.int (I l1)), some (.int (I l2)), some (.int (I (S102 (17 + 6) l1))), u4] [.int (I 0)] SH S102 r else G sc MX10_chain 49 [some (.ref 0), some (.int (I l1)), some (.int (I l2)), some (.int (I (S102 (17 + 6) l1))), u4] [.int (I 1)] SH S102 r))) ∨ (∃ e SH1 S1, G sc MX10_mustBe 0 [some (.int (I 0))] [] SH S (rX e SH1 S1) ∧ r = rX e SH1 S1)) else ((∃ S103, G sc MX10_mustBe 0 [some (.int (I 1))] [] SH S (rV SH S103) ∧ (((0 : Int) ≤ l1 ∧ l1 < 48) ∧ (if I (S103 (17 + 6) l1) = I (-1) then G sc MX10_chain 49 [some (.ref 0), some (.int (I l1)), some (.int (I l2)), some (.int (I (S103 (17 + 6) l1))), u4] [.int (I 0)] SH S103 r else G sc MX10_chain 49 [some (.ref 0), some (.int (I l1)), some (.int (I l2)), some (.int (I (S103 (17 + 6) l1))), u4] [.int (I 1)] SH S103 r))) ∨ (∃ e SH1 S1, G sc MX10_mustBe 0 [some (.int (I 1))] [] SH S (rX e SH1 S1) ∧ r = rX e SH1 S1))))) → G sc MX10_chain 0 [some (.ref 0), some (.int (I l1)), some (.int (I l2)), u3, u4] [] SH S r := by
  refine tt_ld (M := MX10_chain) (pc := 0) dX10_chain_0 rfl rfl rfl rfl rfl ?_
  refine tt_if_lt (M := MX10_chain) (pc := 1) 19 dX10_chain_1 rfl ?_ ?_
  · refine tt_iconst (M := MX10_chain) (pc := 19) dX10_chain_19 ?_
    refine tt_scV (M := MX10_chain) (pc := 20) dX10_chain_20 rfl [] rfl rfl ⟨rfl, by decide, Nat.le_of_ble_eq_true rfl⟩ rfl fun S101 => ?_
    refine tt_ld (M := MX10_chain) (pc := 23) dX10_chain_23 rfl rfl rfl rfl rfl ?_
    refine tt_getR (M := MX10_chain) (pc := 24) dX10_chain_24 rfl h0.1 rfl ?_
    refine tt_getR (M := MX10_chain) (pc := 27) dX10_chain_27 rfl h0.2.2.2.1.1 rfl ?_
    refine tt_getR (M := MX10_chain) (pc := 30) dX10_chain_30 rfl h0.2.2.2.1.2.2.2.2.1.1 rfl ?_
    refine tt_getR (M := MX10_chain) (pc := 33) dX10_chain_33 rfl h0.2.2.2.1.2.2.2.2.1.2.2.1.1 rfl ?_
    refine tt_ld (M := MX10_chain) (pc := 36) dX10_chain_36 rfl rfl rfl rfl rfl ?_
    refine tt_iaload (M := MX10_chain) (pc := 37) dX10_chain_37 h0.2.2.2.1.2.2.2.2.1.2.2.1.2.1 rfl ?_
    refine tt_st (M := MX10_chain) (pc := 38) [some (.ref 0), some (.int (I l1)), some (.int (I l2)), some (.int (I (S101 (17 + 6) l1))), u4] dX10_chain_38 rfl rfl rfl rfl rfl rfl ?_
    refine tt_ld (M := MX10_chain) (pc := 39) dX10_chain_39 rfl rfl rfl rfl rfl ?_
    refine tt_iconst (M := MX10_chain) (pc := 40) dX10_chain_40 ?_
    refine tt_ic_eq (M := MX10_chain) (pc := 41) 48 dX10_chain_41 rfl ?_ ?_
    · refine tt_iconst (M := MX10_chain) (pc := 48) dX10_chain_48 ?_
      exact id
    · refine tt_iconst (M := MX10_chain) (pc := 44) dX10_chain_44 ?_
      refine tt_goto (M := MX10_chain) (pc := 45) 49 dX10_chain_45 rfl ?_
      exact id
  · refine tt_ld (M := MX10_chain) (pc := 4) dX10_chain_4 rfl rfl rfl rfl rfl ?_
    refine tt_ld (M := MX10_chain) (pc := 5) dX10_chain_5 rfl rfl rfl rfl rfl ?_
    refine tt_getR (M := MX10_chain) (pc := 6) dX10_chain_6 rfl h0.1 rfl ?_
    refine tt_getI (M := MX10_chain) (pc := 9) dX10_chain_9 rfl h0.2.2.2.1.2.2.2.2.1.2.2.2.2.2.2.2.2.2.2.2.2.1 rfl ?_
    refine tt_ic_ge (M := MX10_chain) (pc := 12) 19 dX10_chain_12 rfl ?_ ?_
    · refine tt_iconst (M := MX10_chain) (pc := 19) dX10_chain_19 ?_
      refine tt_scV (M := MX10_chain) (pc := 20) dX10_chain_20 rfl [] rfl rfl ⟨rfl, by decide, Nat.le_of_ble_eq_true rfl⟩ rfl fun S102 => ?_
      refine tt_ld (M := MX10_chain) (pc := 23) dX10_chain_23 rfl rfl rfl rfl rfl ?_
      refine tt_getR (M := MX10_chain) (pc := 24) dX10_chain_24 rfl h0.1 rfl ?_
      refine tt_getR (M := MX10_chain) (pc := 27) dX10_chain_27 rfl h0.2.2.2.1.1 rfl ?_
      refine tt_getR (M := MX10_chain) (pc := 30) dX10_chain_30 rfl h0.2.2.2.1.2.2.2.2.1.1 rfl ?_
      refine tt_getR (M := MX10_chain) (pc := 33) dX10_chain_33 rfl h0.2.2.2.1.2.2.2.2.1.2.2.1.1 rfl ?_
      refine tt_ld (M := MX10_chain) (pc := 36) dX10_chain_36 rfl rfl rfl rfl rfl ?_
      refine tt_iaload (M := MX10_chain) (pc := 37) dX10_chain_37 h0.2.2.2.1.2.2.2.2.1.2.2.1.2.1 rfl ?_
      refine tt_st (M := MX10_chain) (pc := 38) [some (.ref 0), some (.int (I l1)), some (.int (I l2)), some (.int (I (S102 (17 + 6) l1))), u4] dX10_chain_38 rfl rfl rfl rfl rfl rfl ?_
      refine tt_ld (M := MX10_chain) (pc := 39) dX10_chain_39 rfl rfl rfl rfl rfl ?_
      refine tt_iconst (M := MX10_chain) (pc := 40) dX10_chain_40 ?_
      refine tt_ic_eq (M := MX10_chain) (pc := 41) 48 dX10_chain_41 rfl ?_ ?_
      · refine tt_iconst (M := MX10_chain) (pc := 48) dX10_chain_48 ?_
        exact id
      · refine tt_iconst (M := MX10_chain) (pc := 44) dX10_chain_44 ?_
        refine tt_goto (M := MX10_chain) (pc := 45) 49 dX10_chain_45 rfl ?_
        exact id
    · refine tt_iconst (M := MX10_chain) (pc := 15) dX10_chain_15 ?_
      refine tt_goto (M := MX10_chain) (pc := 16) 20 dX10_chain_16 rfl ?_
      refine tt_scV (M := MX10_chain) (pc := 20) dX10_chain_20 rfl [] rfl rfl ⟨rfl, by decide, Nat.le_of_ble_eq_true rfl⟩ rfl fun S103 => ?_
      refine tt_ld (M := MX10_chain) (pc := 23) dX10_chain_23 rfl rfl rfl rfl rfl ?_
      refine tt_getR (M := MX10_chain) (pc := 24) dX10_chain_24 rfl h0.1 rfl ?_
      refine tt_getR (M := MX10_chain) (pc := 27) dX10_chain_27 rfl h0.2.2.2.1.1 rfl ?_
      refine tt_getR (M := MX10_chain) (pc := 30) dX10_chain_30 rfl h0.2.2.2.1.2.2.2.2.1.1 rfl ?_
      refine tt_getR (M := MX10_chain) (pc := 33) dX10_chain_33 rfl h0.2.2.2.1.2.2.2.2.1.2.2.1.1 rfl ?_
      refine tt_ld (M := MX10_chain) (pc := 36) dX10_chain_36 rfl rfl rfl rfl rfl ?_
      refine tt_iaload (M := MX10_chain) (pc := 37) dX10_chain_37 h0.2.2.2.1.2.2.2.2.1.2.2.1.2.1 rfl ?_
      refine tt_st (M := MX10_chain) (pc := 38) [some (.ref 0), some (.int (I l1)), some (.int (I l2)), some (.int (I (S103 (17 + 6) l1))), u4] dX10_chain_38 rfl rfl rfl rfl rfl rfl ?_
      refine tt_ld (M := MX10_chain) (pc := 39) dX10_chain_39 rfl rfl rfl rfl rfl ?_
      refine tt_iconst (M := MX10_chain) (pc := 40) dX10_chain_40 ?_
      refine tt_ic_eq (M := MX10_chain) (pc := 41) 48 dX10_chain_41 rfl ?_ ?_
      · refine tt_iconst (M := MX10_chain) (pc := 48) dX10_chain_48 ?_
        exact id
      · refine tt_iconst (M := MX10_chain) (pc := 44) dX10_chain_44 ?_
        refine tt_goto (M := MX10_chain) (pc := 45) 49 dX10_chain_45 rfl ?_
        exact id
theorem qX10_chain_49 {sc : Nat × (Nat → Int32)} {SH : List mCell} {S : mStore} {r : mR × mW} (h0 : sGP SH) {l1 : Int} {l2 : Int} {l3 : Int} {u4 : Option Value} {s0 : Int} : (((∃ S101, G sc MX10_mustBe 0 [some (.int (I s0))] [] SH S (rV SH S101) ∧ (if I l2 = I (-1) then (∃ v104 S105, G sc MX6_sizeOf 0 [some (.ref (17 + 5)), some (.int (I l3)), none, none] [] SH S101 (rI v104 SH S105) ∧ r = rI v104 SH S105) else (∃ v102 S103, G sc MX6_nth 0 [some (.ref (17 + 5)), some (.int (I l3)), some (.int (I l2)), none, none] [] SH S101 (rI v102 SH S103) ∧ (if I v102 = I (-1) then G sc MX10_chain 100 [some (.ref 0), some (.int (I l1)), some (.int (I l2)), some (.int (I l3)), some (.int (I v102))] [.int (I 0)] SH S103 r else G sc MX10_chain 100 [some (.ref 0), some (.int (I l1)), some (.int (I l2)), some (.int (I l3)), some (.int (I v102))] [.int (I 1)] SH S103 r)))) ∨ (∃ e SH1 S1, G sc MX10_mustBe 0 [some (.int (I s0))] [] SH S (rX e SH1 S1) ∧ r = rX e SH1 S1))) → G sc MX10_chain 49 [some (.ref 0), some (.int (I l1)), some (.int (I l2)), some (.int (I l3)), u4] [.int (I s0)] SH S r := by
  refine tt_scV (M := MX10_chain) (pc := 49) dX10_chain_49 rfl [] rfl rfl ⟨rfl, by decide, Nat.le_of_ble_eq_true rfl⟩ rfl fun S101 => ?_
  refine tt_ld (M := MX10_chain) (pc := 52) dX10_chain_52 rfl rfl rfl rfl rfl ?_
  refine tt_iconst (M := MX10_chain) (pc := 53) dX10_chain_53 ?_
  refine tt_ic_ne (M := MX10_chain) (pc := 54) 72 dX10_chain_54 rfl ?_ ?_
  · refine tt_ld (M := MX10_chain) (pc := 72) dX10_chain_72 rfl rfl rfl rfl rfl ?_
    refine tt_getR (M := MX10_chain) (pc := 73) dX10_chain_73 rfl h0.1 rfl ?_
    refine tt_getR (M := MX10_chain) (pc := 76) dX10_chain_76 rfl h0.2.2.2.1.1 rfl ?_
    refine tt_getR (M := MX10_chain) (pc := 79) dX10_chain_79 rfl h0.2.2.2.1.2.2.2.2.1.1 rfl ?_
    refine tt_ld (M := MX10_chain) (pc := 82) dX10_chain_82 rfl rfl rfl rfl rfl ?_
    refine tt_ld (M := MX10_chain) (pc := 83) dX10_chain_83 rfl rfl rfl rfl rfl ?_
    refine tt_vcIN (M := MX10_chain) (pc := 84) dX10_chain_84 rfl rfl [] rfl rfl ⟨rfl, by decide, Nat.le_of_ble_eq_true rfl⟩ h0.2.2.2.1.2.2.2.2.1.2.2.1.1 fun v102 S103 => ?_
    refine tt_st (M := MX10_chain) (pc := 87) [some (.ref 0), some (.int (I l1)), some (.int (I l2)), some (.int (I l3)), some (.int (I v102))] dX10_chain_87 rfl rfl rfl rfl rfl rfl ?_
    refine tt_ld (M := MX10_chain) (pc := 89) dX10_chain_89 rfl rfl rfl rfl rfl ?_
    refine tt_iconst (M := MX10_chain) (pc := 91) dX10_chain_91 ?_
    refine tt_ic_eq (M := MX10_chain) (pc := 92) 99 dX10_chain_92 rfl ?_ ?_
    · refine tt_iconst (M := MX10_chain) (pc := 99) dX10_chain_99 ?_
      exact id
    · refine tt_iconst (M := MX10_chain) (pc := 95) dX10_chain_95 ?_
      refine tt_goto (M := MX10_chain) (pc := 96) 100 dX10_chain_96 rfl ?_
      exact id
  · refine tt_ld (M := MX10_chain) (pc := 57) dX10_chain_57 rfl rfl rfl rfl rfl ?_
    refine tt_getR (M := MX10_chain) (pc := 58) dX10_chain_58 rfl h0.1 rfl ?_
    refine tt_getR (M := MX10_chain) (pc := 61) dX10_chain_61 rfl h0.2.2.2.1.1 rfl ?_
    refine tt_getR (M := MX10_chain) (pc := 64) dX10_chain_64 rfl h0.2.2.2.1.2.2.2.2.1.1 rfl ?_
    refine tt_ld (M := MX10_chain) (pc := 67) dX10_chain_67 rfl rfl rfl rfl rfl ?_
    refine tt_vcIN (M := MX10_chain) (pc := 68) dX10_chain_68 rfl rfl [] rfl rfl ⟨rfl, by decide, Nat.le_of_ble_eq_true rfl⟩ h0.2.2.2.1.2.2.2.2.1.2.2.1.1 fun v104 S105 => ?_
    exact tt_iret (M := MX10_chain) (pc := 71) dX10_chain_71 rfl
theorem qX10_chain_100 {sc : Nat × (Nat → Int32)} {SH : List mCell} {S : mStore} {r : mR × mW} (h0 : sGP SH) {l1 : Int} {l2 : Int} {l3 : Int} {l4 : Int} {s0 : Int} : (((∃ S101, G sc MX10_mustBe 0 [some (.int (I s0))] [] SH S (rV SH S101) ∧ r = rI l4 SH S101) ∨ (∃ e SH1 S1, G sc MX10_mustBe 0 [some (.int (I s0))] [] SH S (rX e SH1 S1) ∧ r = rX e SH1 S1))) → G sc MX10_chain 100 [some (.ref 0), some (.int (I l1)), some (.int (I l2)), some (.int (I l3)), some (.int (I l4))] [.int (I s0)] SH S r := by
  refine tt_scV (M := MX10_chain) (pc := 100) dX10_chain_100 rfl [] rfl rfl ⟨rfl, by decide, Nat.le_of_ble_eq_true rfl⟩ rfl fun S101 => ?_
  refine tt_ld (M := MX10_chain) (pc := 103) dX10_chain_103 rfl rfl rfl rfl rfl ?_
  exact tt_iret (M := MX10_chain) (pc := 105) dX10_chain_105 rfl
theorem qX10_knot_0 {sc : Nat × (Nat → Int32)} {SH : List mCell} {S : mStore} {r : mR × mW} (h0 : sGP SH) {l1 : Int} {l2 : Int} {l3 : Int} {l4 : Int} {u5 : Option Value} {u6 : Option Value} : ((if I l1 < I 0 then ((∃ S101, G sc MX10_mustBe 0 [some (.int (I 0))] [] SH S (rV SH S101) ∧ (if I l2 = I 0 then G sc MX10_knot 44 [some (.ref 0), some (.int (I l1)), some (.int (I l2)), some (.int (I l3)), some (.int (I l4)), u5, u6] [.ref (17 + 11)] SH S101 r else G sc MX10_knot 44 [some (.ref 0), some (.int (I l1)), some (.int (I l2)), some (.int (I l3)), some (.int (I l4)), u5, u6] [.ref (17 + 9)] SH S101 r)) ∨ (∃ e SH1 S1, G sc MX10_mustBe 0 [some (.int (I 0))] [] SH S (rX e SH1 S1) ∧ r = rX e SH1 S1)) else (if I 3 ≤ I l1 then ((∃ S102, G sc MX10_mustBe 0 [some (.int (I 0))] [] SH S (rV SH S102) ∧ (if I l2 = I 0 then G sc MX10_knot 44 [some (.ref 0), some (.int (I l1)), some (.int (I l2)), some (.int (I l3)), some (.int (I l4)), u5, u6] [.ref (17 + 11)] SH S102 r else G sc MX10_knot 44 [some (.ref 0), some (.int (I l1)), some (.int (I l2)), some (.int (I l3)), some (.int (I l4)), u5, u6] [.ref (17 + 9)] SH S102 r)) ∨ (∃ e SH1 S1, G sc MX10_mustBe 0 [some (.int (I 0))] [] SH S (rX e SH1 S1) ∧ r = rX e SH1 S1)) else ((∃ S103, G sc MX10_mustBe 0 [some (.int (I 1))] [] SH S (rV SH S103) ∧ (if I l2 = I 0 then G sc MX10_knot 44 [some (.ref 0), some (.int (I l1)), some (.int (I l2)), some (.int (I l3)), some (.int (I l4)), u5, u6] [.ref (17 + 11)] SH S103 r else G sc MX10_knot 44 [some (.ref 0), some (.int (I l1)), some (.int (I l2)), some (.int (I l3)), some (.int (I l4)), u5, u6] [.ref (17 + 9)] SH S103 r)) ∨ (∃ e SH1 S1, G sc MX10_mustBe 0 [some (.int (I 1))] [] SH S (rX e SH1 S1) ∧ r = rX e SH1 S1))))) → G sc MX10_knot 0 [some (.ref 0), some (.int (I l1)), some (.int (I l2)), some (.int (I l3)), some (.int (I l4)), u5, u6] [] SH S r := by
  refine tt_ld (M := MX10_knot) (pc := 0) dX10_knot_0 rfl rfl rfl rfl rfl ?_
  refine tt_if_lt (M := MX10_knot) (pc := 1) 13 dX10_knot_1 rfl ?_ ?_
  · refine tt_iconst (M := MX10_knot) (pc := 13) dX10_knot_13 ?_
    refine tt_scV (M := MX10_knot) (pc := 14) dX10_knot_14 rfl [] rfl rfl ⟨rfl, by decide, Nat.le_of_ble_eq_true rfl⟩ rfl fun S101 => ?_
    refine tt_ld (M := MX10_knot) (pc := 17) dX10_knot_17 rfl rfl rfl rfl rfl ?_
    refine tt_if_eq (M := MX10_knot) (pc := 18) 34 dX10_knot_18 rfl ?_ ?_
    · refine tt_ld (M := MX10_knot) (pc := 34) dX10_knot_34 rfl rfl rfl rfl rfl ?_
      refine tt_getR (M := MX10_knot) (pc := 35) dX10_knot_35 rfl h0.1 rfl ?_
      refine tt_getR (M := MX10_knot) (pc := 38) dX10_knot_38 rfl h0.2.2.2.1.1 rfl ?_
      refine tt_getR (M := MX10_knot) (pc := 41) dX10_knot_41 rfl h0.2.2.2.1.2.2.2.2.1.1 rfl ?_
      exact id
    · refine tt_ld (M := MX10_knot) (pc := 21) dX10_knot_21 rfl rfl rfl rfl rfl ?_
      refine tt_getR (M := MX10_knot) (pc := 22) dX10_knot_22 rfl h0.1 rfl ?_
      refine tt_getR (M := MX10_knot) (pc := 25) dX10_knot_25 rfl h0.2.2.2.1.1 rfl ?_
      refine tt_getR (M := MX10_knot) (pc := 28) dX10_knot_28 rfl h0.2.2.2.1.2.2.2.2.1.1 rfl ?_
      refine tt_goto (M := MX10_knot) (pc := 31) 44 dX10_knot_31 rfl ?_
      exact id
  · refine tt_ld (M := MX10_knot) (pc := 4) dX10_knot_4 rfl rfl rfl rfl rfl ?_
    refine tt_iconst (M := MX10_knot) (pc := 5) dX10_knot_5 ?_
    refine tt_ic_ge (M := MX10_knot) (pc := 6) 13 dX10_knot_6 rfl ?_ ?_
    · refine tt_iconst (M := MX10_knot) (pc := 13) dX10_knot_13 ?_
      refine tt_scV (M := MX10_knot) (pc := 14) dX10_knot_14 rfl [] rfl rfl ⟨rfl, by decide, Nat.le_of_ble_eq_true rfl⟩ rfl fun S102 => ?_
      refine tt_ld (M := MX10_knot) (pc := 17) dX10_knot_17 rfl rfl rfl rfl rfl ?_
      refine tt_if_eq (M := MX10_knot) (pc := 18) 34 dX10_knot_18 rfl ?_ ?_
      · refine tt_ld (M := MX10_knot) (pc := 34) dX10_knot_34 rfl rfl rfl rfl rfl ?_
        refine tt_getR (M := MX10_knot) (pc := 35) dX10_knot_35 rfl h0.1 rfl ?_
        refine tt_getR (M := MX10_knot) (pc := 38) dX10_knot_38 rfl h0.2.2.2.1.1 rfl ?_
        refine tt_getR (M := MX10_knot) (pc := 41) dX10_knot_41 rfl h0.2.2.2.1.2.2.2.2.1.1 rfl ?_
        exact id
      · refine tt_ld (M := MX10_knot) (pc := 21) dX10_knot_21 rfl rfl rfl rfl rfl ?_
        refine tt_getR (M := MX10_knot) (pc := 22) dX10_knot_22 rfl h0.1 rfl ?_
        refine tt_getR (M := MX10_knot) (pc := 25) dX10_knot_25 rfl h0.2.2.2.1.1 rfl ?_
        refine tt_getR (M := MX10_knot) (pc := 28) dX10_knot_28 rfl h0.2.2.2.1.2.2.2.2.1.1 rfl ?_
        refine tt_goto (M := MX10_knot) (pc := 31) 44 dX10_knot_31 rfl ?_
        exact id
    · refine tt_iconst (M := MX10_knot) (pc := 9) dX10_knot_9 ?_
      refine tt_goto (M := MX10_knot) (pc := 10) 14 dX10_knot_10 rfl ?_
      refine tt_scV (M := MX10_knot) (pc := 14) dX10_knot_14 rfl [] rfl rfl ⟨rfl, by decide, Nat.le_of_ble_eq_true rfl⟩ rfl fun S103 => ?_
      refine tt_ld (M := MX10_knot) (pc := 17) dX10_knot_17 rfl rfl rfl rfl rfl ?_
      refine tt_if_eq (M := MX10_knot) (pc := 18) 34 dX10_knot_18 rfl ?_ ?_
      · refine tt_ld (M := MX10_knot) (pc := 34) dX10_knot_34 rfl rfl rfl rfl rfl ?_
        refine tt_getR (M := MX10_knot) (pc := 35) dX10_knot_35 rfl h0.1 rfl ?_
        refine tt_getR (M := MX10_knot) (pc := 38) dX10_knot_38 rfl h0.2.2.2.1.1 rfl ?_
        refine tt_getR (M := MX10_knot) (pc := 41) dX10_knot_41 rfl h0.2.2.2.1.2.2.2.2.1.1 rfl ?_
        exact id
      · refine tt_ld (M := MX10_knot) (pc := 21) dX10_knot_21 rfl rfl rfl rfl rfl ?_
        refine tt_getR (M := MX10_knot) (pc := 22) dX10_knot_22 rfl h0.1 rfl ?_
        refine tt_getR (M := MX10_knot) (pc := 25) dX10_knot_25 rfl h0.2.2.2.1.1 rfl ?_
        refine tt_getR (M := MX10_knot) (pc := 28) dX10_knot_28 rfl h0.2.2.2.1.2.2.2.2.1.1 rfl ?_
        refine tt_goto (M := MX10_knot) (pc := 31) 44 dX10_knot_31 rfl ?_
        exact id
theorem qX10_knot_44 {sc : Nat × (Nat → Int32)} {SH : List mCell} {S : mStore} {r : mR × mW} {ys044 ys044h : Nat} (h0 : sGP SH) (hys044 : sTree SH ys044 ys044h) {l1 : Int} {l2 : Int} {l3 : Int} {l4 : Int} {u5 : Option Value} {u6 : Option Value} : ((if I l3 = I (-1) then (∃ v103 S104, G sc MX9_sizeOf 0 [some (.ref ys044), some (.int (I l1)), none, none] [] SH S (rI v103 SH S104) ∧ r = rI v103 SH S104) else (∃ v101 S102, G sc MX9_nth 0 [some (.ref ys044), some (.int (I l1)), some (.int (I l3)), none, none] [] SH S (rI v101 SH S102) ∧ (if I v101 = I (-1) then G sc MX10_knot 88 [some (.ref 0), some (.int (I l1)), some (.int (I l2)), some (.int (I l3)), some (.int (I l4)), some (.ref ys044), some (.int (I v101))] [] SH S102 r else (if I l4 = I 0 then G sc MX10_knot 84 [some (.ref 0), some (.int (I l1)), some (.int (I l2)), some (.int (I l3)), some (.int (I l4)), some (.ref ys044), some (.int (I v101))] [] SH S102 r else (if I l4 = I 1 then G sc MX10_knot 84 [some (.ref 0), some (.int (I l1)), some (.int (I l2)), some (.int (I l3)), some (.int (I l4)), some (.ref ys044), some (.int (I v101))] [] SH S102 r else G sc MX10_knot 88 [some (.ref 0), some (.int (I l1)), some (.int (I l2)), some (.int (I l3)), some (.int (I l4)), some (.ref ys044), some (.int (I v101))] [] SH S102 r)))))) → G sc MX10_knot 44 [some (.ref 0), some (.int (I l1)), some (.int (I l2)), some (.int (I l3)), some (.int (I l4)), u5, u6] [.ref ys044] SH S r := by
  refine tt_st (M := MX10_knot) (pc := 44) [some (.ref 0), some (.int (I l1)), some (.int (I l2)), some (.int (I l3)), some (.int (I l4)), some (.ref ys044), u6] dX10_knot_44 rfl rfl rfl rfl rfl rfl ?_
  refine tt_ld (M := MX10_knot) (pc := 46) dX10_knot_46 rfl rfl rfl rfl rfl ?_
  refine tt_iconst (M := MX10_knot) (pc := 47) dX10_knot_47 ?_
  refine tt_ic_ne (M := MX10_knot) (pc := 48) 58 dX10_knot_48 rfl ?_ ?_
  · refine tt_ld (M := MX10_knot) (pc := 58) dX10_knot_58 rfl rfl rfl rfl rfl ?_
    refine tt_ld (M := MX10_knot) (pc := 60) dX10_knot_60 rfl rfl rfl rfl rfl ?_
    refine tt_ld (M := MX10_knot) (pc := 61) dX10_knot_61 rfl rfl rfl rfl rfl ?_
    refine tt_vcIN (M := MX10_knot) (pc := 62) dX10_knot_62 rfl rfl [] rfl rfl ⟨rfl, by decide, Nat.le_of_ble_eq_true rfl⟩ hys044.1 fun v101 S102 => ?_
    refine tt_st (M := MX10_knot) (pc := 65) [some (.ref 0), some (.int (I l1)), some (.int (I l2)), some (.int (I l3)), some (.int (I l4)), some (.ref ys044), some (.int (I v101))] dX10_knot_65 rfl rfl rfl rfl rfl rfl ?_
    refine tt_ld (M := MX10_knot) (pc := 67) dX10_knot_67 rfl rfl rfl rfl rfl ?_
    refine tt_iconst (M := MX10_knot) (pc := 69) dX10_knot_69 ?_
    refine tt_ic_eq (M := MX10_knot) (pc := 70) 88 dX10_knot_70 rfl ?_ ?_
    · exact id
    · refine tt_ld (M := MX10_knot) (pc := 73) dX10_knot_73 rfl rfl rfl rfl rfl ?_
      refine tt_if_eq (M := MX10_knot) (pc := 75) 84 dX10_knot_75 rfl ?_ ?_
      · exact id
      · refine tt_ld (M := MX10_knot) (pc := 78) dX10_knot_78 rfl rfl rfl rfl rfl ?_
        refine tt_iconst (M := MX10_knot) (pc := 80) dX10_knot_80 ?_
        refine tt_ic_ne (M := MX10_knot) (pc := 81) 88 dX10_knot_81 rfl ?_ ?_
        · exact id
        · exact id
  · refine tt_ld (M := MX10_knot) (pc := 51) dX10_knot_51 rfl rfl rfl rfl rfl ?_
    refine tt_ld (M := MX10_knot) (pc := 53) dX10_knot_53 rfl rfl rfl rfl rfl ?_
    refine tt_vcIN (M := MX10_knot) (pc := 54) dX10_knot_54 rfl rfl [] rfl rfl ⟨rfl, by decide, Nat.le_of_ble_eq_true rfl⟩ hys044.1 fun v103 S104 => ?_
    exact tt_iret (M := MX10_knot) (pc := 57) dX10_knot_57 rfl
theorem qX10_knot_84 {sc : Nat × (Nat → Int32)} {SH : List mCell} {S : mStore} {r : mR × mW} {ys044 ys044h : Nat} (h0 : sGP SH) (hys044 : sTree SH ys044 ys044h) {l1 : Int} {l2 : Int} {l3 : Int} {l4 : Int} {l6 : Int} : (G sc MX10_knot 89 [some (.ref 0), some (.int (I l1)), some (.int (I l2)), some (.int (I l3)), some (.int (I l4)), some (.ref ys044), some (.int (I l6))] [.int (I 1)] SH S r) → G sc MX10_knot 84 [some (.ref 0), some (.int (I l1)), some (.int (I l2)), some (.int (I l3)), some (.int (I l4)), some (.ref ys044), some (.int (I l6))] [] SH S r := by
  refine tt_iconst (M := MX10_knot) (pc := 84) dX10_knot_84 ?_
  refine tt_goto (M := MX10_knot) (pc := 85) 89 dX10_knot_85 rfl ?_
  exact id
theorem qX10_knot_88 {sc : Nat × (Nat → Int32)} {SH : List mCell} {S : mStore} {r : mR × mW} {ys044 ys044h : Nat} (h0 : sGP SH) (hys044 : sTree SH ys044 ys044h) {l1 : Int} {l2 : Int} {l3 : Int} {l4 : Int} {l6 : Int} : (G sc MX10_knot 89 [some (.ref 0), some (.int (I l1)), some (.int (I l2)), some (.int (I l3)), some (.int (I l4)), some (.ref ys044), some (.int (I l6))] [.int (I 0)] SH S r) → G sc MX10_knot 88 [some (.ref 0), some (.int (I l1)), some (.int (I l2)), some (.int (I l3)), some (.int (I l4)), some (.ref ys044), some (.int (I l6))] [] SH S r := by
  refine tt_iconst (M := MX10_knot) (pc := 88) dX10_knot_88 ?_
  exact id
theorem qX10_knot_89 {sc : Nat × (Nat → Int32)} {SH : List mCell} {S : mStore} {r : mR × mW} {ys044 ys044h : Nat} (h0 : sGP SH) (hys044 : sTree SH ys044 ys044h) {l1 : Int} {l2 : Int} {l3 : Int} {l4 : Int} {l6 : Int} {s0 : Int} : (((∃ S101, G sc MX10_mustBe 0 [some (.int (I s0))] [] SH S (rV SH S101) ∧ (if I l4 = I 1 then (∃ v104 S105, G sc MX9_above 0 [some (.ref ys044), some (.int (I l6)), none, none] [] SH S101 (rI v104 SH S105) ∧ r = rI v104 SH S105) else (if I l2 = I 0 then (∃ v102 S103, G sc MX5_labelOf 0 [some (.ref 1), some (.int (I l6)), none] [] SH S101 (rI v102 SH S103) ∧ G sc MX10_knot 138 [some (.ref 0), some (.int (I l1)), some (.int (I l2)), some (.int (I l3)), some (.int (I l4)), some (.ref ys044), some (.int (I l6))] [.int (I v102)] SH S103 r) else (((0 : Int) ≤ l6 ∧ l6 < 48) ∧ G sc MX10_knot 138 [some (.ref 0), some (.int (I l1)), some (.int (I l2)), some (.int (I l3)), some (.int (I l4)), some (.ref ys044), some (.int (I l6))] [.int (I (S101 (17 + 8) l6))] SH S101 r)))) ∨ (∃ e SH1 S1, G sc MX10_mustBe 0 [some (.int (I s0))] [] SH S (rX e SH1 S1) ∧ r = rX e SH1 S1))) → G sc MX10_knot 89 [some (.ref 0), some (.int (I l1)), some (.int (I l2)), some (.int (I l3)), some (.int (I l4)), some (.ref ys044), some (.int (I l6))] [.int (I s0)] SH S r := by
  refine tt_scV (M := MX10_knot) (pc := 89) dX10_knot_89 rfl [] rfl rfl ⟨rfl, by decide, Nat.le_of_ble_eq_true rfl⟩ rfl fun S101 => ?_
  refine tt_ld (M := MX10_knot) (pc := 92) dX10_knot_92 rfl rfl rfl rfl rfl ?_
  refine tt_iconst (M := MX10_knot) (pc := 94) dX10_knot_94 ?_
  refine tt_ic_ne (M := MX10_knot) (pc := 95) 106 dX10_knot_95 rfl ?_ ?_
  · refine tt_ld (M := MX10_knot) (pc := 106) dX10_knot_106 rfl rfl rfl rfl rfl ?_
    refine tt_if_eq (M := MX10_knot) (pc := 107) 129 dX10_knot_107 rfl ?_ ?_
    · refine tt_ld (M := MX10_knot) (pc := 129) dX10_knot_129 rfl rfl rfl rfl rfl ?_
      refine tt_getR (M := MX10_knot) (pc := 130) dX10_knot_130 rfl h0.1 rfl ?_
      refine tt_ld (M := MX10_knot) (pc := 133) dX10_knot_133 rfl rfl rfl rfl rfl ?_
      refine tt_vcIN (M := MX10_knot) (pc := 135) dX10_knot_135 rfl rfl [] rfl rfl ⟨rfl, by decide, Nat.le_of_ble_eq_true rfl⟩ h0.2.2.2.1.2.2.2.2.1.2.2.2.2.2.2.2.2.2.2.2.2.1 fun v102 S103 => ?_
      exact id
    · refine tt_ld (M := MX10_knot) (pc := 110) dX10_knot_110 rfl rfl rfl rfl rfl ?_
      refine tt_getR (M := MX10_knot) (pc := 111) dX10_knot_111 rfl h0.1 rfl ?_
      refine tt_getR (M := MX10_knot) (pc := 114) dX10_knot_114 rfl h0.2.2.2.1.1 rfl ?_
      refine tt_getR (M := MX10_knot) (pc := 117) dX10_knot_117 rfl h0.2.2.2.1.2.2.2.2.1.1 rfl ?_
      refine tt_getR (M := MX10_knot) (pc := 120) dX10_knot_120 rfl h0.2.2.2.1.2.2.2.2.1.2.2.1.1 rfl ?_
      refine tt_ld (M := MX10_knot) (pc := 123) dX10_knot_123 rfl rfl rfl rfl rfl ?_
      refine tt_iaload (M := MX10_knot) (pc := 125) dX10_knot_125 h0.2.2.2.1.2.2.2.2.1.2.2.1.2.2.2 rfl ?_
      refine tt_goto (M := MX10_knot) (pc := 126) 138 dX10_knot_126 rfl ?_
      exact id
  · refine tt_ld (M := MX10_knot) (pc := 98) dX10_knot_98 rfl rfl rfl rfl rfl ?_
    refine tt_ld (M := MX10_knot) (pc := 100) dX10_knot_100 rfl rfl rfl rfl rfl ?_
    refine tt_vcIN (M := MX10_knot) (pc := 102) dX10_knot_102 rfl rfl [] rfl rfl ⟨rfl, by decide, Nat.le_of_ble_eq_true rfl⟩ hys044.1 fun v104 S105 => ?_
    exact tt_iret (M := MX10_knot) (pc := 105) dX10_knot_105 rfl
theorem qX10_knot_138 {sc : Nat × (Nat → Int32)} {SH : List mCell} {S : mStore} {r : mR × mW} {ys044 ys044h : Nat} (h0 : sGP SH) (hys044 : sTree SH ys044 ys044h) {l1 : Int} {l2 : Int} {l3 : Int} {l4 : Int} {l6 : Int} {s0 : Int} : (r = rI s0 SH S) → G sc MX10_knot 138 [some (.ref 0), some (.int (I l1)), some (.int (I l2)), some (.int (I l3)), some (.int (I l4)), some (.ref ys044), some (.int (I l6))] [.int (I s0)] SH S r := by
  exact tt_iret (M := MX10_knot) (pc := 138) dX10_knot_138 rfl
