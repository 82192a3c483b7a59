-- needs: 43.tshape
/-! ===== the program as conditions (gen_vc.py) ===== -/
theorem qX11_keeps_0 {sc : Nat × (Nat → Int32)} {SH : List mCell} {S : mStore} {r : mR × mW} (h0 : sMod SH) {l1 : Int} : ((if I (S 90 5) = I 40 then (∃ v104 S105, G sc MX11_keptAt 0 [some (.int (I ((up (up S 90 6 (((S 90 6) + 1) - idv ((S 90 6) + 1) 40 * 40)) 90 5 (((up S 90 6 (((S 90 6) + 1) - idv ((S 90 6) + 1) 40 * 40)) 90 5) - 1)) 90 6))), some (.int (I ((up (up S 90 6 (((S 90 6) + 1) - idv ((S 90 6) + 1) 40 * 40)) 90 5 (((up S 90 6 (((S 90 6) + 1) - idv ((S 90 6) + 1) 40 * 40)) 90 5) - 1)) 90 5)))] [] SH (up (up S 90 6 (((S 90 6) + 1) - idv ((S 90 6) + 1) 40 * 40)) 90 5 (((up S 90 6 (((S 90 6) + 1) - idv ((S 90 6) + 1) 40 * 40)) 90 5) - 1)) (rI v104 SH S105) ∧ (∃ S106, G sc MX11_copies 0 [some (.ref 90), some (.int (I l1)), some (.int (I v104)), some (.int (I 1654)), none] [] SH S105 (rV SH S106) ∧ r = rV SH (up S106 90 5 ((S106 90 5) + 1)))) else (∃ v101 S102, G sc MX11_keptAt 0 [some (.int (I (S 90 6))), some (.int (I (S 90 5)))] [] SH S (rI v101 SH S102) ∧ (∃ S103, G sc MX11_copies 0 [some (.ref 90), some (.int (I l1)), some (.int (I v101)), some (.int (I 1654)), none] [] SH S102 (rV SH S103) ∧ r = rV SH (up S103 90 5 ((S103 90 5) + 1)))))) → G sc MX11_keeps 0 [some (.ref 90), some (.int (I l1))] [] SH S r := by
  refine t_ld (pc := 0) dX11_keeps_0 rfl rfl rfl rfl rfl ?_
  refine t_getI (pc := 1) dX11_keeps_1 rfl h0.1 rfl ?_
  refine t_bipush (pc := 4) dX11_keeps_4 (by decide) ?_
  refine t_ic_ne (pc := 6) 32 dX11_keeps_6 rfl ?_ ?_
  · refine t_ld (pc := 32) dX11_keeps_32 rfl rfl rfl rfl rfl ?_
    refine t_ld (pc := 33) dX11_keeps_33 rfl rfl rfl rfl rfl ?_
    refine t_ld (pc := 34) dX11_keeps_34 rfl rfl rfl rfl rfl ?_
    refine t_getI (pc := 35) dX11_keeps_35 rfl h0.1 rfl ?_
    refine t_ld (pc := 38) dX11_keeps_38 rfl rfl rfl rfl rfl ?_
    refine t_getI (pc := 39) dX11_keeps_39 rfl h0.1 rfl ?_
    refine t_scIN (pc := 42) dX11_keeps_42 rfl [.int (I l1), .ref 90] rfl rfl ⟨rfl, by decide, Nat.le_of_ble_eq_true rfl⟩ fun v101 S102 => ?_
    refine t_sipush (pc := 45) dX11_keeps_45 (by decide) ?_
    refine t_vcVN (pc := 48) dX11_keeps_48 rfl rfl [] rfl rfl ⟨rfl, by decide, Nat.le_of_ble_eq_true rfl⟩ h0.1 fun S103 => ?_
    refine t_ld (pc := 51) dX11_keeps_51 rfl rfl rfl rfl rfl ?_
    refine t_dup (pc := 52) dX11_keeps_52 rfl ?_
    refine t_getI (pc := 53) dX11_keeps_53 rfl h0.1 rfl ?_
    refine t_iconst (pc := 56) dX11_keeps_56 ?_
    refine t_iadd (pc := 57) dX11_keeps_57 ?_
    refine t_putI (pc := 58) dX11_keeps_58 rfl rfl (Or.inl rfl) h0.1 rfl ?_
    exact t_ret (pc := 61) dX11_keeps_61 rfl
  · refine t_ld (pc := 9) dX11_keeps_9 rfl rfl rfl rfl rfl ?_
    refine t_ld (pc := 10) dX11_keeps_10 rfl rfl rfl rfl rfl ?_
    refine t_getI (pc := 11) dX11_keeps_11 rfl h0.1 rfl ?_
    refine t_iconst (pc := 14) dX11_keeps_14 ?_
    refine t_iadd (pc := 15) dX11_keeps_15 ?_
    refine t_bipush (pc := 16) dX11_keeps_16 (by decide) ?_
    refine t_irem (pc := 18) dX11_keeps_18 (by decide) ?_
    refine t_putI (pc := 19) dX11_keeps_19 rfl rfl (Or.inl rfl) h0.1 rfl ?_
    refine t_ld (pc := 22) dX11_keeps_22 rfl rfl rfl rfl rfl ?_
    refine t_dup (pc := 23) dX11_keeps_23 rfl ?_
    refine t_getI (pc := 24) dX11_keeps_24 rfl h0.1 rfl ?_
    refine t_iconst (pc := 27) dX11_keeps_27 ?_
    refine t_isub (pc := 28) dX11_keeps_28 ?_
    refine t_putI (pc := 29) dX11_keeps_29 rfl rfl (Or.inl rfl) h0.1 rfl ?_
    refine t_ld (pc := 32) dX11_keeps_32 rfl rfl rfl rfl rfl ?_
    refine t_ld (pc := 33) dX11_keeps_33 rfl rfl rfl rfl rfl ?_
    refine t_ld (pc := 34) dX11_keeps_34 rfl rfl rfl rfl rfl ?_
    refine t_getI (pc := 35) dX11_keeps_35 rfl h0.1 rfl ?_
    refine t_ld (pc := 38) dX11_keeps_38 rfl rfl rfl rfl rfl ?_
    refine t_getI (pc := 39) dX11_keeps_39 rfl h0.1 rfl ?_
    refine t_scIN (pc := 42) dX11_keeps_42 rfl [.int (I l1), .ref 90] rfl rfl ⟨rfl, by decide, Nat.le_of_ble_eq_true rfl⟩ fun v104 S105 => ?_
    refine t_sipush (pc := 45) dX11_keeps_45 (by decide) ?_
    refine t_vcVN (pc := 48) dX11_keeps_48 rfl rfl [] rfl rfl ⟨rfl, by decide, Nat.le_of_ble_eq_true rfl⟩ h0.1 fun S106 => ?_
    refine t_ld (pc := 51) dX11_keeps_51 rfl rfl rfl rfl rfl ?_
    refine t_dup (pc := 52) dX11_keeps_52 rfl ?_
    refine t_getI (pc := 53) dX11_keeps_53 rfl h0.1 rfl ?_
    refine t_iconst (pc := 56) dX11_keeps_56 ?_
    refine t_iadd (pc := 57) dX11_keeps_57 ?_
    refine t_putI (pc := 58) dX11_keeps_58 rfl rfl (Or.inl rfl) h0.1 rfl ?_
    exact t_ret (pc := 61) dX11_keeps_61 rfl
theorem qX11_refuses_0 {sc : Nat × (Nat → Int32)} {SH : List mCell} {S : mStore} {r : mR × mW} (h0 : sMod SH) {l1 : Int} : (((0 ≤ l1 ∧ l1 < 6) ∧ ((0 ≤ l1 ∧ l1 < 6) ∧ r = rI (-1) SH (up S 94 l1 ((S 94 l1) + 1))))) → G sc MX11_refuses 0 [some (.ref 90), some (.int (I l1))] [] SH S r := by
  refine t_ld (pc := 0) dX11_refuses_0 rfl rfl rfl rfl rfl ?_
  refine t_getR (pc := 1) dX11_refuses_1 rfl h0.1 rfl ?_
  refine t_ld (pc := 4) dX11_refuses_4 rfl rfl rfl rfl rfl ?_
  refine t_dup2 (pc := 5) dX11_refuses_5 rfl rfl ?_
  refine t_iaload (pc := 6) dX11_refuses_6 h0.2.2.2.2.1 ?_
  refine t_iconst (pc := 7) dX11_refuses_7 ?_
  refine t_iadd (pc := 8) dX11_refuses_8 ?_
  refine t_iastore (pc := 9) dX11_refuses_9 h0.2.2.2.2.1 ?_
  refine t_iconst (pc := 10) dX11_refuses_10 ?_
  exact t_iret (pc := 11) dX11_refuses_11 rfl
theorem qX11_does_0 {sc : Nat × (Nat → Int32)} {SH : List mCell} {S : mStore} {r : mR × mW} (h0 : sMod SH) {l1 : Int} : ((if I l1 = I (-1) then (∃ v103 S104, G sc MX11_refuses 0 [some (.ref 90), some (.int (I 1))] [] SH S (rI v103 SH S104) ∧ r = rI v103 SH S104) else (∃ S101, G sc MX11_keeps 0 [some (.ref 90), some (.int (I 0))] [] SH S (rV SH S101) ∧ (∃ S102, G sc MX11_copies 0 [some (.ref 90), some (.int (I 1654)), some (.int (I 0)), some (.int (I 1654)), none] [] SH S101 (rV SH S102) ∧ r = rI l1 SH S102)))) → G sc MX11_does 0 [some (.ref 90), some (.int (I l1))] [] SH S r := by
  refine t_ld (pc := 0) dX11_does_0 rfl rfl rfl rfl rfl ?_
  refine t_iconst (pc := 1) dX11_does_1 ?_
  refine t_ic_ne (pc := 2) 11 dX11_does_2 rfl ?_ ?_
  · refine t_ld (pc := 11) dX11_does_11 rfl rfl rfl rfl rfl ?_
    refine t_iconst (pc := 12) dX11_does_12 ?_
    refine t_vcVN (pc := 13) dX11_does_13 rfl rfl [] rfl rfl ⟨rfl, by decide, Nat.le_of_ble_eq_true rfl⟩ h0.1 fun S101 => ?_
    refine t_ld (pc := 16) dX11_does_16 rfl rfl rfl rfl rfl ?_
    refine t_sipush (pc := 17) dX11_does_17 (by decide) ?_
    refine t_iconst (pc := 20) dX11_does_20 ?_
    refine t_sipush (pc := 21) dX11_does_21 (by decide) ?_
    refine t_vcVN (pc := 24) dX11_does_24 rfl rfl [] rfl rfl ⟨rfl, by decide, Nat.le_of_ble_eq_true rfl⟩ h0.1 fun S102 => ?_
    refine t_ld (pc := 27) dX11_does_27 rfl rfl rfl rfl rfl ?_
    exact t_iret (pc := 28) dX11_does_28 rfl
  · refine t_ld (pc := 5) dX11_does_5 rfl rfl rfl rfl rfl ?_
    refine t_iconst (pc := 6) dX11_does_6 ?_
    refine t_vcIN (pc := 7) dX11_does_7 rfl rfl [] rfl rfl ⟨rfl, by decide, Nat.le_of_ble_eq_true rfl⟩ h0.1 fun v103 S104 => ?_
    exact t_iret (pc := 10) dX11_does_10 rfl
theorem qX11_tries_0 {sc : Nat × (Nat → Int32)} {SH : List mCell} {S : mStore} {r : mR × mW} (h0 : sMod SH) : ((∃ S101, G sc MX11_copies 0 [some (.ref 90), some (.int (I 0)), some (.int (I 1654)), some (.int (I 1654)), none] [] SH S (rV SH S101) ∧ r = rV SH S101)) → G sc MX11_tries 0 [some (.ref 90)] [] SH S r := by
  refine t_ld (pc := 0) dX11_tries_0 rfl rfl rfl rfl rfl ?_
  refine t_iconst (pc := 1) dX11_tries_1 ?_
  refine t_sipush (pc := 2) dX11_tries_2 (by decide) ?_
  refine t_sipush (pc := 5) dX11_tries_5 (by decide) ?_
  refine t_vcVN (pc := 8) dX11_tries_8 rfl rfl [] rfl rfl ⟨rfl, by decide, Nat.le_of_ble_eq_true rfl⟩ h0.1 fun S101 => ?_
  exact t_ret (pc := 11) dX11_tries_11 rfl
theorem qX11_write_0 {sc : Nat × (Nat → Int32)} {SH : List mCell} {S : mStore} {r : mR × mW} (h0 : sMod SH) {l1 : Int} {l2 : Int} {l3 : Int} {l4 : Int} : ((∃ v101 S102, G sc MX11_isPage 0 [some (.ref 90), some (.int (I l1)), some (.int (I l2))] [] SH (up S 90 4 0) (rI v101 SH S102) ∧ (if I v101 = I 0 then r = rI 0 SH S102 else (∃ v103 S104, G sc MX11_within 0 [some (.int (I l3)), some (.int (I 0)), some (.int (I 3))] [] SH S102 (rI v103 SH S104) ∧ (∃ v105 S106, G sc MX11_right 0 [some (.ref 90), some (.int (I v103)), some (.int (I 1))] [] SH S104 (rI v105 SH S106) ∧ (if I v105 = I 0 then r = rI 0 SH S106 else (∃ S107, G sc MX11_tries 0 [some (.ref 90)] [] SH S106 (rV SH S107) ∧ (∃ v108 S109, G sc MX11_within 0 [some (.int (I l4)), some (.int (I 0)), some (.int (I 15))] [] SH S107 (rI v108 SH S109) ∧ (if I v108 = I 0 then (∃ v110 S111, G sc MX11_does 0 [some (.ref 90), some (.int (I (-1)))] [] SH S109 (rI v110 SH S111) ∧ r = rI v110 SH S111) else ((0 ≤ l1 ∧ l1 < 5) ∧ (∃ v112 S113, G sc MX11_writesCell 0 [some (.ref 90), some (.int (I 1654)), some (.int (I ((S109 97 l1) + l2))), some (.int (I l3)), some (.int (I l4))] [] SH S109 (rI v112 SH S113) ∧ (∃ v114 S115, G sc MX11_does 0 [some (.ref 90), some (.int (I v112))] [] SH S113 (rI v114 SH S115) ∧ r = rI v114 SH S115)))))))))))) → G sc MX11_write 0 [some (.ref 90), some (.int (I l1)), some (.int (I l2)), some (.int (I l3)), some (.int (I l4))] [] SH S r := by
  refine t_ld (pc := 0) dX11_write_0 rfl rfl rfl rfl rfl ?_
  refine t_iconst (pc := 1) dX11_write_1 ?_
  refine t_putI (pc := 2) dX11_write_2 rfl rfl (Or.inl rfl) h0.1 rfl ?_
  refine t_ld (pc := 5) dX11_write_5 rfl rfl rfl rfl rfl ?_
  refine t_ld (pc := 6) dX11_write_6 rfl rfl rfl rfl rfl ?_
  refine t_ld (pc := 7) dX11_write_7 rfl rfl rfl rfl rfl ?_
  refine t_vcIN (pc := 8) dX11_write_8 rfl rfl [] rfl rfl ⟨rfl, by decide, Nat.le_of_ble_eq_true rfl⟩ h0.1 fun v101 S102 => ?_
  refine t_if_eq (pc := 11) 28 dX11_write_11 rfl ?_ ?_
  · refine t_iconst (pc := 28) dX11_write_28 ?_
    exact t_iret (pc := 29) dX11_write_29 rfl
  · refine t_ld (pc := 14) dX11_write_14 rfl rfl rfl rfl rfl ?_
    refine t_ld (pc := 15) dX11_write_15 rfl rfl rfl rfl rfl ?_
    refine t_iconst (pc := 16) dX11_write_16 ?_
    refine t_iconst (pc := 17) dX11_write_17 ?_
    refine t_scIN (pc := 18) dX11_write_18 rfl [.ref 90] rfl rfl ⟨rfl, by decide, Nat.le_of_ble_eq_true rfl⟩ fun v103 S104 => ?_
    refine t_iconst (pc := 21) dX11_write_21 ?_
    refine t_vcIN (pc := 22) dX11_write_22 rfl rfl [] rfl rfl ⟨rfl, by decide, Nat.le_of_ble_eq_true rfl⟩ h0.1 fun v105 S106 => ?_
    refine t_if_ne (pc := 25) 30 dX11_write_25 rfl ?_ ?_
    · refine t_ld (pc := 30) dX11_write_30 rfl rfl rfl rfl rfl ?_
      refine t_vcVN (pc := 31) dX11_write_31 rfl rfl [] rfl rfl ⟨rfl, by decide, Nat.le_of_ble_eq_true rfl⟩ h0.1 fun S107 => ?_
      refine t_ld (pc := 34) dX11_write_34 rfl rfl rfl rfl rfl ?_
      refine t_ld (pc := 35) dX11_write_35 rfl rfl rfl rfl rfl ?_
      refine t_iconst (pc := 37) dX11_write_37 ?_
      refine t_bipush (pc := 38) dX11_write_38 (by decide) ?_
      refine t_scIN (pc := 40) dX11_write_40 rfl [.ref 90] rfl rfl ⟨rfl, by decide, Nat.le_of_ble_eq_true rfl⟩ fun v108 S109 => ?_
      refine t_if_eq (pc := 43) 67 dX11_write_43 rfl ?_ ?_
      · refine t_iconst (pc := 67) dX11_write_67 ?_
        refine t_vcIN (pc := 68) dX11_write_68 rfl rfl [] rfl rfl ⟨rfl, by decide, Nat.le_of_ble_eq_true rfl⟩ h0.1 fun v110 S111 => ?_
        exact t_iret (pc := 71) dX11_write_71 rfl
      · refine t_ld (pc := 46) dX11_write_46 rfl rfl rfl rfl rfl ?_
        refine t_sipush (pc := 47) dX11_write_47 (by decide) ?_
        refine t_ld (pc := 50) dX11_write_50 rfl rfl rfl rfl rfl ?_
        refine t_getR (pc := 51) dX11_write_51 rfl h0.1 rfl ?_
        refine t_ld (pc := 54) dX11_write_54 rfl rfl rfl rfl rfl ?_
        refine t_iaload (pc := 55) dX11_write_55 h0.2.2.2.2.2.2.2.1 ?_
        refine t_ld (pc := 56) dX11_write_56 rfl rfl rfl rfl rfl ?_
        refine t_iadd (pc := 57) dX11_write_57 ?_
        refine t_ld (pc := 58) dX11_write_58 rfl rfl rfl rfl rfl ?_
        refine t_ld (pc := 59) dX11_write_59 rfl rfl rfl rfl rfl ?_
        refine t_vcIN (pc := 61) dX11_write_61 rfl rfl [.ref 90] rfl rfl ⟨rfl, by decide, Nat.le_of_ble_eq_true rfl⟩ h0.1 fun v112 S113 => ?_
        refine t_goto (pc := 64) 68 dX11_write_64 rfl ?_
        refine t_vcIN (pc := 68) dX11_write_68 rfl rfl [] rfl rfl ⟨rfl, by decide, Nat.le_of_ble_eq_true rfl⟩ h0.1 fun v114 S115 => ?_
        exact t_iret (pc := 71) dX11_write_71 rfl
    · refine t_iconst (pc := 28) dX11_write_28 ?_
      exact t_iret (pc := 29) dX11_write_29 rfl
theorem qX11_copy_0 {sc : Nat × (Nat → Int32)} {SH : List mCell} {S : mStore} {r : mR × mW} (h0 : sMod SH) {l1 : Int} {l2 : Int} {l3 : Int} {l4 : Int} : ((∃ v101 S102, G sc MX11_isPage 0 [some (.ref 90), some (.int (I l1)), some (.int (I l2))] [] SH (up S 90 4 0) (rI v101 SH S102) ∧ (if I v101 = I 0 then r = rI 0 SH S102 else (∃ v103 S104, G sc MX11_isPage 0 [some (.ref 90), some (.int (I l3)), some (.int (I l4))] [] SH S102 (rI v103 SH S104) ∧ (if I v103 = I 0 then r = rI 0 SH S104 else (∃ S105, G sc MX11_tries 0 [some (.ref 90)] [] SH S104 (rV SH S105) ∧ ((0 ≤ l3 ∧ l3 < 5) ∧ (∃ S106, G sc MX11_saysAs 0 [some (.ref 90), some (.int (I 1654)), some (.int (I ((S105 97 l3) + l4))), none] [] SH S105 (rV SH S106) ∧ ((0 ≤ l1 ∧ l1 < 5) ∧ (∃ v107 S108, G sc MX11_writes 0 [some (.ref 90), some (.int (I 1654)), some (.int (I ((S106 97 l1) + l2))), none, none, none, none] [] SH S106 (rI v107 SH S108) ∧ (∃ v109 S110, G sc MX11_does 0 [some (.ref 90), some (.int (I v107))] [] SH S108 (rI v109 SH S110) ∧ r = rI v109 SH S110))))))))))) → G sc MX11_copy 0 [some (.ref 90), some (.int (I l1)), some (.int (I l2)), some (.int (I l3)), some (.int (I l4))] [] SH S r := by
  refine t_ld (pc := 0) dX11_copy_0 rfl rfl rfl rfl rfl ?_
  refine t_iconst (pc := 1) dX11_copy_1 ?_
  refine t_putI (pc := 2) dX11_copy_2 rfl rfl (Or.inl rfl) h0.1 rfl ?_
  refine t_ld (pc := 5) dX11_copy_5 rfl rfl rfl rfl rfl ?_
  refine t_ld (pc := 6) dX11_copy_6 rfl rfl rfl rfl rfl ?_
  refine t_ld (pc := 7) dX11_copy_7 rfl rfl rfl rfl rfl ?_
  refine t_vcIN (pc := 8) dX11_copy_8 rfl rfl [] rfl rfl ⟨rfl, by decide, Nat.le_of_ble_eq_true rfl⟩ h0.1 fun v101 S102 => ?_
  refine t_if_eq (pc := 11) 24 dX11_copy_11 rfl ?_ ?_
  · refine t_iconst (pc := 24) dX11_copy_24 ?_
    exact t_iret (pc := 25) dX11_copy_25 rfl
  · refine t_ld (pc := 14) dX11_copy_14 rfl rfl rfl rfl rfl ?_
    refine t_ld (pc := 15) dX11_copy_15 rfl rfl rfl rfl rfl ?_
    refine t_ld (pc := 16) dX11_copy_16 rfl rfl rfl rfl rfl ?_
    refine t_vcIN (pc := 18) dX11_copy_18 rfl rfl [] rfl rfl ⟨rfl, by decide, Nat.le_of_ble_eq_true rfl⟩ h0.1 fun v103 S104 => ?_
    refine t_if_ne (pc := 21) 26 dX11_copy_21 rfl ?_ ?_
    · refine t_ld (pc := 26) dX11_copy_26 rfl rfl rfl rfl rfl ?_
      refine t_vcVN (pc := 27) dX11_copy_27 rfl rfl [] rfl rfl ⟨rfl, by decide, Nat.le_of_ble_eq_true rfl⟩ h0.1 fun S105 => ?_
      refine t_ld (pc := 30) dX11_copy_30 rfl rfl rfl rfl rfl ?_
      refine t_sipush (pc := 31) dX11_copy_31 (by decide) ?_
      refine t_ld (pc := 34) dX11_copy_34 rfl rfl rfl rfl rfl ?_
      refine t_getR (pc := 35) dX11_copy_35 rfl h0.1 rfl ?_
      refine t_ld (pc := 38) dX11_copy_38 rfl rfl rfl rfl rfl ?_
      refine t_iaload (pc := 39) dX11_copy_39 h0.2.2.2.2.2.2.2.1 ?_
      refine t_ld (pc := 40) dX11_copy_40 rfl rfl rfl rfl rfl ?_
      refine t_iadd (pc := 42) dX11_copy_42 ?_
      refine t_vcVN (pc := 43) dX11_copy_43 rfl rfl [] rfl rfl ⟨rfl, by decide, Nat.le_of_ble_eq_true rfl⟩ h0.1 fun S106 => ?_
      refine t_ld (pc := 46) dX11_copy_46 rfl rfl rfl rfl rfl ?_
      refine t_ld (pc := 47) dX11_copy_47 rfl rfl rfl rfl rfl ?_
      refine t_sipush (pc := 48) dX11_copy_48 (by decide) ?_
      refine t_ld (pc := 51) dX11_copy_51 rfl rfl rfl rfl rfl ?_
      refine t_getR (pc := 52) dX11_copy_52 rfl h0.1 rfl ?_
      refine t_ld (pc := 55) dX11_copy_55 rfl rfl rfl rfl rfl ?_
      refine t_iaload (pc := 56) dX11_copy_56 h0.2.2.2.2.2.2.2.1 ?_
      refine t_ld (pc := 57) dX11_copy_57 rfl rfl rfl rfl rfl ?_
      refine t_iadd (pc := 58) dX11_copy_58 ?_
      refine t_vcIN (pc := 59) dX11_copy_59 rfl rfl [.ref 90] rfl rfl ⟨rfl, by decide, Nat.le_of_ble_eq_true rfl⟩ h0.1 fun v107 S108 => ?_
      refine t_vcIN (pc := 62) dX11_copy_62 rfl rfl [] rfl rfl ⟨rfl, by decide, Nat.le_of_ble_eq_true rfl⟩ h0.1 fun v109 S110 => ?_
      exact t_iret (pc := 65) dX11_copy_65 rfl
    · refine t_iconst (pc := 24) dX11_copy_24 ?_
      exact t_iret (pc := 25) dX11_copy_25 rfl
theorem qX11_drop_0 {sc : Nat × (Nat → Int32)} {SH : List mCell} {S : mStore} {r : mR × mW} (h0 : sMod SH) {l1 : Int} {l2 : Int} : ((∃ v101 S102, G sc MX11_isPage 0 [some (.ref 90), some (.int (I l1)), some (.int (I l2))] [] SH (up S 90 4 0) (rI v101 SH S102) ∧ (if I v101 = I 0 then r = rI 0 SH S102 else (∃ S103, G sc MX11_tries 0 [some (.ref 90)] [] SH S102 (rV SH S103) ∧ ((0 ≤ l1 ∧ l1 < 5) ∧ (∃ v104 S105, G sc MX11_drops 0 [some (.ref 90), some (.int (I 1654)), some (.int (I ((S103 97 l1) + l2))), none] [] SH S103 (rI v104 SH S105) ∧ (∃ v106 S107, G sc MX11_does 0 [some (.ref 90), some (.int (I v104))] [] SH S105 (rI v106 SH S107) ∧ r = rI v106 SH S107))))))) → G sc MX11_drop 0 [some (.ref 90), some (.int (I l1)), some (.int (I l2))] [] SH S r := by
  refine t_ld (pc := 0) dX11_drop_0 rfl rfl rfl rfl rfl ?_
  refine t_iconst (pc := 1) dX11_drop_1 ?_
  refine t_putI (pc := 2) dX11_drop_2 rfl rfl (Or.inl rfl) h0.1 rfl ?_
  refine t_ld (pc := 5) dX11_drop_5 rfl rfl rfl rfl rfl ?_
  refine t_ld (pc := 6) dX11_drop_6 rfl rfl rfl rfl rfl ?_
  refine t_ld (pc := 7) dX11_drop_7 rfl rfl rfl rfl rfl ?_
  refine t_vcIN (pc := 8) dX11_drop_8 rfl rfl [] rfl rfl ⟨rfl, by decide, Nat.le_of_ble_eq_true rfl⟩ h0.1 fun v101 S102 => ?_
  refine t_if_ne (pc := 11) 16 dX11_drop_11 rfl ?_ ?_
  · refine t_ld (pc := 16) dX11_drop_16 rfl rfl rfl rfl rfl ?_
    refine t_vcVN (pc := 17) dX11_drop_17 rfl rfl [] rfl rfl ⟨rfl, by decide, Nat.le_of_ble_eq_true rfl⟩ h0.1 fun S103 => ?_
    refine t_ld (pc := 20) dX11_drop_20 rfl rfl rfl rfl rfl ?_
    refine t_ld (pc := 21) dX11_drop_21 rfl rfl rfl rfl rfl ?_
    refine t_sipush (pc := 22) dX11_drop_22 (by decide) ?_
    refine t_ld (pc := 25) dX11_drop_25 rfl rfl rfl rfl rfl ?_
    refine t_getR (pc := 26) dX11_drop_26 rfl h0.1 rfl ?_
    refine t_ld (pc := 29) dX11_drop_29 rfl rfl rfl rfl rfl ?_
    refine t_iaload (pc := 30) dX11_drop_30 h0.2.2.2.2.2.2.2.1 ?_
    refine t_ld (pc := 31) dX11_drop_31 rfl rfl rfl rfl rfl ?_
    refine t_iadd (pc := 32) dX11_drop_32 ?_
    refine t_vcIN (pc := 33) dX11_drop_33 rfl rfl [.ref 90] rfl rfl ⟨rfl, by decide, Nat.le_of_ble_eq_true rfl⟩ h0.1 fun v104 S105 => ?_
    refine t_vcIN (pc := 36) dX11_drop_36 rfl rfl [] rfl rfl ⟨rfl, by decide, Nat.le_of_ble_eq_true rfl⟩ h0.1 fun v106 S107 => ?_
    exact t_iret (pc := 39) dX11_drop_39 rfl
  · refine t_iconst (pc := 14) dX11_drop_14 ?_
    exact t_iret (pc := 15) dX11_drop_15 rfl
theorem qX11_advise_0 {sc : Nat × (Nat → Int32)} {SH : List mCell} {S : mStore} {r : mR × mW} (h0 : sMod SH) {l1 : Int} {l2 : Int} {l3 : Int} {l4 : Int} {u5 : Option Value} : ((∃ v101 S102, G sc MX11_isPage 0 [some (.ref 90), some (.int (I l1)), some (.int (I l2))] [] SH (up S 90 4 0) (rI v101 SH S102) ∧ (if I v101 = I 0 then r = rI 0 SH S102 else (∃ v103 S104, G sc MX11_isPage 0 [some (.ref 90), some (.int (I l1)), some (.int (I l3))] [] SH S102 (rI v103 SH S104) ∧ (if I v103 = I 0 then r = rI 0 SH S104 else (∃ S105, G sc MX11_tries 0 [some (.ref 90)] [] SH S104 (rV SH S105) ∧ ((0 ≤ l1 ∧ l1 < 5) ∧ ((0 ≤ l1 ∧ l1 < 5) ∧ (if I l4 = I 0 then (∃ v106 S107, G sc MX11_advises 0 [some (.ref 90), some (.int (I 1654)), some (.int (I ((S105 97 l1) + l2))), some (.int (I ((S105 97 l1) + l3))), some (.int (I 0)), none, none] [] SH S105 (rI v106 SH S107) ∧ (if I v106 = I 0 then (∃ v110 S111, G sc MX11_does 0 [some (.ref 90), some (.int (I (-1)))] [] SH S107 (rI v110 SH S111) ∧ r = rI v110 SH S111) else (∃ v108 S109, G sc MX11_does 0 [some (.ref 90), some (.int (I v106))] [] SH S107 (rI v108 SH S109) ∧ r = rI v108 SH S109))) else (∃ v112 S113, G sc MX11_advises 0 [some (.ref 90), some (.int (I 1654)), some (.int (I ((S105 97 l1) + l2))), some (.int (I ((S105 97 l1) + l3))), some (.int (I 1)), none, none] [] SH S105 (rI v112 SH S113) ∧ (if I v112 = I 0 then (∃ v116 S117, G sc MX11_does 0 [some (.ref 90), some (.int (I (-1)))] [] SH S113 (rI v116 SH S117) ∧ r = rI v116 SH S117) else (∃ v114 S115, G sc MX11_does 0 [some (.ref 90), some (.int (I v112))] [] SH S113 (rI v114 SH S115) ∧ r = rI v114 SH S115)))))))))))) → G sc MX11_advise 0 [some (.ref 90), some (.int (I l1)), some (.int (I l2)), some (.int (I l3)), some (.int (I l4)), u5] [] SH S r := by
  refine t_ld (pc := 0) dX11_advise_0 rfl rfl rfl rfl rfl ?_
  refine t_iconst (pc := 1) dX11_advise_1 ?_
  refine t_putI (pc := 2) dX11_advise_2 rfl rfl (Or.inl rfl) h0.1 rfl ?_
  refine t_ld (pc := 5) dX11_advise_5 rfl rfl rfl rfl rfl ?_
  refine t_ld (pc := 6) dX11_advise_6 rfl rfl rfl rfl rfl ?_
  refine t_ld (pc := 7) dX11_advise_7 rfl rfl rfl rfl rfl ?_
  refine t_vcIN (pc := 8) dX11_advise_8 rfl rfl [] rfl rfl ⟨rfl, by decide, Nat.le_of_ble_eq_true rfl⟩ h0.1 fun v101 S102 => ?_
  refine t_if_eq (pc := 11) 23 dX11_advise_11 rfl ?_ ?_
  · refine t_iconst (pc := 23) dX11_advise_23 ?_
    exact t_iret (pc := 24) dX11_advise_24 rfl
  · refine t_ld (pc := 14) dX11_advise_14 rfl rfl rfl rfl rfl ?_
    refine t_ld (pc := 15) dX11_advise_15 rfl rfl rfl rfl rfl ?_
    refine t_ld (pc := 16) dX11_advise_16 rfl rfl rfl rfl rfl ?_
    refine t_vcIN (pc := 17) dX11_advise_17 rfl rfl [] rfl rfl ⟨rfl, by decide, Nat.le_of_ble_eq_true rfl⟩ h0.1 fun v103 S104 => ?_
    refine t_if_ne (pc := 20) 25 dX11_advise_20 rfl ?_ ?_
    · refine t_ld (pc := 25) dX11_advise_25 rfl rfl rfl rfl rfl ?_
      refine t_vcVN (pc := 26) dX11_advise_26 rfl rfl [] rfl rfl ⟨rfl, by decide, Nat.le_of_ble_eq_true rfl⟩ h0.1 fun S105 => ?_
      refine t_ld (pc := 29) dX11_advise_29 rfl rfl rfl rfl rfl ?_
      refine t_sipush (pc := 30) dX11_advise_30 (by decide) ?_
      refine t_ld (pc := 33) dX11_advise_33 rfl rfl rfl rfl rfl ?_
      refine t_getR (pc := 34) dX11_advise_34 rfl h0.1 rfl ?_
      refine t_ld (pc := 37) dX11_advise_37 rfl rfl rfl rfl rfl ?_
      refine t_iaload (pc := 38) dX11_advise_38 h0.2.2.2.2.2.2.2.1 ?_
      refine t_ld (pc := 39) dX11_advise_39 rfl rfl rfl rfl rfl ?_
      refine t_iadd (pc := 40) dX11_advise_40 ?_
      refine t_ld (pc := 41) dX11_advise_41 rfl rfl rfl rfl rfl ?_
      refine t_getR (pc := 42) dX11_advise_42 rfl h0.1 rfl ?_
      refine t_ld (pc := 45) dX11_advise_45 rfl rfl rfl rfl rfl ?_
      refine t_iaload (pc := 46) dX11_advise_46 h0.2.2.2.2.2.2.2.1 ?_
      refine t_ld (pc := 47) dX11_advise_47 rfl rfl rfl rfl rfl ?_
      refine t_iadd (pc := 48) dX11_advise_48 ?_
      refine t_ld (pc := 49) dX11_advise_49 rfl rfl rfl rfl rfl ?_
      refine t_if_eq (pc := 51) 58 dX11_advise_51 rfl ?_ ?_
      · refine t_iconst (pc := 58) dX11_advise_58 ?_
        refine t_vcIN (pc := 59) dX11_advise_59 rfl rfl [] rfl rfl ⟨rfl, by decide, Nat.le_of_ble_eq_true rfl⟩ h0.1 fun v106 S107 => ?_
        refine t_st (pc := 62) [some (.ref 90), some (.int (I l1)), some (.int (I l2)), some (.int (I l3)), some (.int (I l4)), some (.int (I v106))] dX11_advise_62 rfl rfl rfl rfl rfl rfl ?_
        refine t_ld (pc := 64) dX11_advise_64 rfl rfl rfl rfl rfl ?_
        refine t_ld (pc := 65) dX11_advise_65 rfl rfl rfl rfl rfl ?_
        refine t_if_ne (pc := 67) 74 dX11_advise_67 rfl ?_ ?_
        · refine t_ld (pc := 74) dX11_advise_74 rfl rfl rfl rfl rfl ?_
          refine t_vcIN (pc := 76) dX11_advise_76 rfl rfl [] rfl rfl ⟨rfl, by decide, Nat.le_of_ble_eq_true rfl⟩ h0.1 fun v108 S109 => ?_
          exact t_iret (pc := 79) dX11_advise_79 rfl
        · refine t_iconst (pc := 70) dX11_advise_70 ?_
          refine t_goto (pc := 71) 76 dX11_advise_71 rfl ?_
          refine t_vcIN (pc := 76) dX11_advise_76 rfl rfl [] rfl rfl ⟨rfl, by decide, Nat.le_of_ble_eq_true rfl⟩ h0.1 fun v110 S111 => ?_
          exact t_iret (pc := 79) dX11_advise_79 rfl
      · refine t_iconst (pc := 54) dX11_advise_54 ?_
        refine t_goto (pc := 55) 59 dX11_advise_55 rfl ?_
        refine t_vcIN (pc := 59) dX11_advise_59 rfl rfl [] rfl rfl ⟨rfl, by decide, Nat.le_of_ble_eq_true rfl⟩ h0.1 fun v112 S113 => ?_
        refine t_st (pc := 62) [some (.ref 90), some (.int (I l1)), some (.int (I l2)), some (.int (I l3)), some (.int (I l4)), some (.int (I v112))] dX11_advise_62 rfl rfl rfl rfl rfl rfl ?_
        refine t_ld (pc := 64) dX11_advise_64 rfl rfl rfl rfl rfl ?_
        refine t_ld (pc := 65) dX11_advise_65 rfl rfl rfl rfl rfl ?_
        refine t_if_ne (pc := 67) 74 dX11_advise_67 rfl ?_ ?_
        · refine t_ld (pc := 74) dX11_advise_74 rfl rfl rfl rfl rfl ?_
          refine t_vcIN (pc := 76) dX11_advise_76 rfl rfl [] rfl rfl ⟨rfl, by decide, Nat.le_of_ble_eq_true rfl⟩ h0.1 fun v114 S115 => ?_
          exact t_iret (pc := 79) dX11_advise_79 rfl
        · refine t_iconst (pc := 70) dX11_advise_70 ?_
          refine t_goto (pc := 71) 76 dX11_advise_71 rfl ?_
          refine t_vcIN (pc := 76) dX11_advise_76 rfl rfl [] rfl rfl ⟨rfl, by decide, Nat.le_of_ble_eq_true rfl⟩ h0.1 fun v116 S117 => ?_
          exact t_iret (pc := 79) dX11_advise_79 rfl
    · refine t_iconst (pc := 23) dX11_advise_23 ?_
      exact t_iret (pc := 24) dX11_advise_24 rfl
theorem qX11_scan_0 {sc : Nat × (Nat → Int32)} {SH : List mCell} {S : mStore} {r : mR × mW} (h0 : sMod SH) {l1 : Int} : ((∃ v101 S102, G sc MX11_within 0 [some (.int (I l1)), some (.int (I 1)), some (.int (I 100))] [] SH (up S 90 4 0) (rI v101 SH S102) ∧ (if I v101 = I 0 then (∃ v108 S109, G sc MX11_refuses 0 [some (.ref 90), some (.int (I 1))] [] SH S102 (rI v108 SH S109) ∧ r = rI v108 SH S109) else (∃ S103, G sc MX11_tries 0 [some (.ref 90)] [] SH S102 (rV SH S103) ∧ (∃ v104 S105, G sc MX11_scans 0 [some (.ref 90), some (.int (I 1654)), some (.int (I l1)), none, none, none] [] SH S103 (rI v104 SH S105) ∧ (∃ v106 S107, G sc MX11_does 0 [some (.ref 90), some (.int (I v104))] [] SH S105 (rI v106 SH S107) ∧ r = rI v106 SH S107)))))) → G sc MX11_scan 0 [some (.ref 90), some (.int (I l1))] [] SH S r := by
  refine t_ld (pc := 0) dX11_scan_0 rfl rfl rfl rfl rfl ?_
  refine t_iconst (pc := 1) dX11_scan_1 ?_
  refine t_putI (pc := 2) dX11_scan_2 rfl rfl (Or.inl rfl) h0.1 rfl ?_
  refine t_ld (pc := 5) dX11_scan_5 rfl rfl rfl rfl rfl ?_
  refine t_iconst (pc := 6) dX11_scan_6 ?_
  refine t_bipush (pc := 7) dX11_scan_7 (by decide) ?_
  refine t_scIN (pc := 9) dX11_scan_9 rfl [] rfl rfl ⟨rfl, by decide, Nat.le_of_ble_eq_true rfl⟩ fun v101 S102 => ?_
  refine t_if_ne (pc := 12) 21 dX11_scan_12 rfl ?_ ?_
  · refine t_ld (pc := 21) dX11_scan_21 rfl rfl rfl rfl rfl ?_
    refine t_vcVN (pc := 22) dX11_scan_22 rfl rfl [] rfl rfl ⟨rfl, by decide, Nat.le_of_ble_eq_true rfl⟩ h0.1 fun S103 => ?_
    refine t_ld (pc := 25) dX11_scan_25 rfl rfl rfl rfl rfl ?_
    refine t_ld (pc := 26) dX11_scan_26 rfl rfl rfl rfl rfl ?_
    refine t_sipush (pc := 27) dX11_scan_27 (by decide) ?_
    refine t_ld (pc := 30) dX11_scan_30 rfl rfl rfl rfl rfl ?_
    refine t_vcIN (pc := 31) dX11_scan_31 rfl rfl [.ref 90] rfl rfl ⟨rfl, by decide, Nat.le_of_ble_eq_true rfl⟩ h0.1 fun v104 S105 => ?_
    refine t_vcIN (pc := 34) dX11_scan_34 rfl rfl [] rfl rfl ⟨rfl, by decide, Nat.le_of_ble_eq_true rfl⟩ h0.1 fun v106 S107 => ?_
    exact t_iret (pc := 37) dX11_scan_37 rfl
  · refine t_ld (pc := 15) dX11_scan_15 rfl rfl rfl rfl rfl ?_
    refine t_iconst (pc := 16) dX11_scan_16 ?_
    refine t_vcIN (pc := 17) dX11_scan_17 rfl rfl [] rfl rfl ⟨rfl, by decide, Nat.le_of_ble_eq_true rfl⟩ h0.1 fun v108 S109 => ?_
    exact t_iret (pc := 20) dX11_scan_20 rfl
theorem qX11_ticks_0 {sc : Nat × (Nat → Int32)} {SH : List mCell} {S : mStore} {r : mR × mW} (h0 : sMod SH) {l1 : Int} : ((∃ v101 S102, G sc MX11_within 0 [some (.int (I l1)), some (.int (I 1)), some (.int (I 20))] [] SH (up S 90 4 0) (rI v101 SH S102) ∧ (if I v101 = I 0 then (∃ v103 S104, G sc MX11_refuses 0 [some (.ref 90), some (.int (I 1))] [] SH S102 (rI v103 SH S104) ∧ r = rI v103 SH S104) else ((0 ≤ 2 ∧ 2 < 137400) ∧ (if I ((S102 91 2) + l1) ≤ I 9999 then (∃ S105, G sc MX11_tries 0 [some (.ref 90)] [] SH S102 (rV SH S105) ∧ (∃ v106 S107, G sc MX11_ticksOf 0 [some (.ref 90), some (.int (I 1654)), some (.int (I l1)), none, none] [] SH S105 (rI v106 SH S107) ∧ (∃ v108 S109, G sc MX11_does 0 [some (.ref 90), some (.int (I 0))] [] SH S107 (rI v108 SH S109) ∧ ((0 ≤ 2 ∧ 2 < 137400) ∧ r = rI (S109 91 2) SH S109)))) else (∃ v110 S111, G sc MX11_refuses 0 [some (.ref 90), some (.int (I 1))] [] SH S102 (rI v110 SH S111) ∧ r = rI v110 SH S111)))))) → G sc MX11_ticks 0 [some (.ref 90), some (.int (I l1))] [] SH S r := by
  refine t_ld (pc := 0) dX11_ticks_0 rfl rfl rfl rfl rfl ?_
  refine t_iconst (pc := 1) dX11_ticks_1 ?_
  refine t_putI (pc := 2) dX11_ticks_2 rfl rfl (Or.inl rfl) h0.1 rfl ?_
  refine t_ld (pc := 5) dX11_ticks_5 rfl rfl rfl rfl rfl ?_
  refine t_iconst (pc := 6) dX11_ticks_6 ?_
  refine t_bipush (pc := 7) dX11_ticks_7 (by decide) ?_
  refine t_scIN (pc := 9) dX11_ticks_9 rfl [] rfl rfl ⟨rfl, by decide, Nat.le_of_ble_eq_true rfl⟩ fun v101 S102 => ?_
  refine t_if_eq (pc := 12) 29 dX11_ticks_12 rfl ?_ ?_
  · refine t_ld (pc := 29) dX11_ticks_29 rfl rfl rfl rfl rfl ?_
    refine t_iconst (pc := 30) dX11_ticks_30 ?_
    refine t_vcIN (pc := 31) dX11_ticks_31 rfl rfl [] rfl rfl ⟨rfl, by decide, Nat.le_of_ble_eq_true rfl⟩ h0.1 fun v103 S104 => ?_
    exact t_iret (pc := 34) dX11_ticks_34 rfl
  · refine t_ld (pc := 15) dX11_ticks_15 rfl rfl rfl rfl rfl ?_
    refine t_getR (pc := 16) dX11_ticks_16 rfl h0.1 rfl ?_
    refine t_iconst (pc := 19) dX11_ticks_19 ?_
    refine t_iaload (pc := 20) dX11_ticks_20 h0.2.1 ?_
    refine t_ld (pc := 21) dX11_ticks_21 rfl rfl rfl rfl rfl ?_
    refine t_iadd (pc := 22) dX11_ticks_22 ?_
    refine t_sipush (pc := 23) dX11_ticks_23 (by decide) ?_
    refine t_ic_le (pc := 26) 35 dX11_ticks_26 rfl ?_ ?_
    · refine t_ld (pc := 35) dX11_ticks_35 rfl rfl rfl rfl rfl ?_
      refine t_vcVN (pc := 36) dX11_ticks_36 rfl rfl [] rfl rfl ⟨rfl, by decide, Nat.le_of_ble_eq_true rfl⟩ h0.1 fun S105 => ?_
      refine t_ld (pc := 39) dX11_ticks_39 rfl rfl rfl rfl rfl ?_
      refine t_sipush (pc := 40) dX11_ticks_40 (by decide) ?_
      refine t_ld (pc := 43) dX11_ticks_43 rfl rfl rfl rfl rfl ?_
      refine t_vcIN (pc := 44) dX11_ticks_44 rfl rfl [] rfl rfl ⟨rfl, by decide, Nat.le_of_ble_eq_true rfl⟩ h0.1 fun v106 S107 => ?_
      refine t_pop (pc := 47) dX11_ticks_47 rfl ?_
      refine t_ld (pc := 48) dX11_ticks_48 rfl rfl rfl rfl rfl ?_
      refine t_iconst (pc := 49) dX11_ticks_49 ?_
      refine t_vcIN (pc := 50) dX11_ticks_50 rfl rfl [] rfl rfl ⟨rfl, by decide, Nat.le_of_ble_eq_true rfl⟩ h0.1 fun v108 S109 => ?_
      refine t_pop (pc := 53) dX11_ticks_53 rfl ?_
      refine t_ld (pc := 54) dX11_ticks_54 rfl rfl rfl rfl rfl ?_
      refine t_getR (pc := 55) dX11_ticks_55 rfl h0.1 rfl ?_
      refine t_iconst (pc := 58) dX11_ticks_58 ?_
      refine t_iaload (pc := 59) dX11_ticks_59 h0.2.1 ?_
      exact t_iret (pc := 60) dX11_ticks_60 rfl
    · refine t_ld (pc := 29) dX11_ticks_29 rfl rfl rfl rfl rfl ?_
      refine t_iconst (pc := 30) dX11_ticks_30 ?_
      refine t_vcIN (pc := 31) dX11_ticks_31 rfl rfl [] rfl rfl ⟨rfl, by decide, Nat.le_of_ble_eq_true rfl⟩ h0.1 fun v110 S111 => ?_
      exact t_iret (pc := 34) dX11_ticks_34 rfl
theorem qX11_rate_0 {sc : Nat × (Nat → Int32)} {SH : List mCell} {S : mStore} {r : mR × mW} (h0 : sMod SH) {l1 : Int} {u2 : Option Value} : (((0 ≤ 0 ∧ 0 < 137400) ∧ (∃ v101 S102, G sc MX11_within 0 [some (.int (I l1)), some (.int (I ((up S 90 4 0) 90 14))), some (.int (I ((up S 90 4 0) 90 15)))] [] SH (up S 90 4 0) (rI v101 SH S102) ∧ (if I v101 = I 0 then (∃ v103 S104, G sc MX11_refuses 0 [some (.ref 90), some (.int (I 1))] [] SH S102 (rI v103 SH S104) ∧ r = rI v103 SH S104) else (if I l1 = I ((up S 90 4 0) 91 0) then (∃ v108 S109, G sc MX11_refuses 0 [some (.ref 90), some (.int (I 1))] [] SH S102 (rI v108 SH S109) ∧ r = rI v108 SH S109) else (∃ S105, G sc MX11_tries 0 [some (.ref 90)] [] SH S102 (rV SH S105) ∧ ((0 ≤ 1654 ∧ 1654 < 137400) ∧ (∃ v106 S107, G sc MX11_does 0 [some (.ref 90), some (.int (I ((up S 90 4 0) 91 0)))] [] SH (up S105 91 1654 l1) (rI v106 SH S107) ∧ r = rI v106 SH S107)))))))) → G sc MX11_rate 0 [some (.ref 90), some (.int (I l1)), u2] [] SH S r := by
  refine t_ld (pc := 0) dX11_rate_0 rfl rfl rfl rfl rfl ?_
  refine t_iconst (pc := 1) dX11_rate_1 ?_
  refine t_putI (pc := 2) dX11_rate_2 rfl rfl (Or.inl rfl) h0.1 rfl ?_
  refine t_ld (pc := 5) dX11_rate_5 rfl rfl rfl rfl rfl ?_
  refine t_getR (pc := 6) dX11_rate_6 rfl h0.1 rfl ?_
  refine t_iconst (pc := 9) dX11_rate_9 ?_
  refine t_iaload (pc := 10) dX11_rate_10 h0.2.1 ?_
  refine t_st (pc := 11) [some (.ref 90), some (.int (I l1)), some (.int (I ((up S 90 4 0) 91 0)))] dX11_rate_11 rfl rfl rfl rfl rfl rfl ?_
  refine t_ld (pc := 12) dX11_rate_12 rfl rfl rfl rfl rfl ?_
  refine t_ld (pc := 13) dX11_rate_13 rfl rfl rfl rfl rfl ?_
  refine t_getI (pc := 14) dX11_rate_14 rfl h0.1 rfl ?_
  refine t_ld (pc := 17) dX11_rate_17 rfl rfl rfl rfl rfl ?_
  refine t_getI (pc := 18) dX11_rate_18 rfl h0.1 rfl ?_
  refine t_scIN (pc := 21) dX11_rate_21 rfl [] rfl rfl ⟨rfl, by decide, Nat.le_of_ble_eq_true rfl⟩ fun v101 S102 => ?_
  refine t_if_eq (pc := 24) 32 dX11_rate_24 rfl ?_ ?_
  · refine t_ld (pc := 32) dX11_rate_32 rfl rfl rfl rfl rfl ?_
    refine t_iconst (pc := 33) dX11_rate_33 ?_
    refine t_vcIN (pc := 34) dX11_rate_34 rfl rfl [] rfl rfl ⟨rfl, by decide, Nat.le_of_ble_eq_true rfl⟩ h0.1 fun v103 S104 => ?_
    exact t_iret (pc := 37) dX11_rate_37 rfl
  · refine t_ld (pc := 27) dX11_rate_27 rfl rfl rfl rfl rfl ?_
    refine t_ld (pc := 28) dX11_rate_28 rfl rfl rfl rfl rfl ?_
    refine t_ic_ne (pc := 29) 38 dX11_rate_29 rfl ?_ ?_
    · refine t_ld (pc := 38) dX11_rate_38 rfl rfl rfl rfl rfl ?_
      refine t_vcVN (pc := 39) dX11_rate_39 rfl rfl [] rfl rfl ⟨rfl, by decide, Nat.le_of_ble_eq_true rfl⟩ h0.1 fun S105 => ?_
      refine t_ld (pc := 42) dX11_rate_42 rfl rfl rfl rfl rfl ?_
      refine t_getR (pc := 43) dX11_rate_43 rfl h0.1 rfl ?_
      refine t_sipush (pc := 46) dX11_rate_46 (by decide) ?_
      refine t_ld (pc := 49) dX11_rate_49 rfl rfl rfl rfl rfl ?_
      refine t_iastore (pc := 50) dX11_rate_50 h0.2.1 ?_
      refine t_ld (pc := 51) dX11_rate_51 rfl rfl rfl rfl rfl ?_
      refine t_ld (pc := 52) dX11_rate_52 rfl rfl rfl rfl rfl ?_
      refine t_vcIN (pc := 53) dX11_rate_53 rfl rfl [] rfl rfl ⟨rfl, by decide, Nat.le_of_ble_eq_true rfl⟩ h0.1 fun v106 S107 => ?_
      exact t_iret (pc := 56) dX11_rate_56 rfl
    · refine t_ld (pc := 32) dX11_rate_32 rfl rfl rfl rfl rfl ?_
      refine t_iconst (pc := 33) dX11_rate_33 ?_
      refine t_vcIN (pc := 34) dX11_rate_34 rfl rfl [] rfl rfl ⟨rfl, by decide, Nat.le_of_ble_eq_true rfl⟩ h0.1 fun v108 S109 => ?_
      exact t_iret (pc := 37) dX11_rate_37 rfl
theorem qX11_undo_0 {sc : Nat × (Nat → Int32)} {SH : List mCell} {S : mStore} {r : mR × mW} (h0 : sMod SH) : ((if I ((up S 90 4 0) 90 5) = I 0 then r = rI (-1) SH (up S 90 4 0) else (∃ v101 S102, G sc MX11_keptAt 0 [some (.int (I ((up (up S 90 4 0) 90 5 (((up S 90 4 0) 90 5) - 1)) 90 6))), some (.int (I ((up (up S 90 4 0) 90 5 (((up S 90 4 0) 90 5) - 1)) 90 5)))] [] SH (up (up S 90 4 0) 90 5 (((up S 90 4 0) 90 5) - 1)) (rI v101 SH S102) ∧ (∃ S103, G sc MX11_copies 0 [some (.ref 90), some (.int (I v101)), some (.int (I 0)), some (.int (I 1654)), none] [] SH S102 (rV SH S103) ∧ r = rI (S103 90 5) SH S103)))) → G sc MX11_undo 0 [some (.ref 90)] [] SH S r := by
  refine t_ld (pc := 0) dX11_undo_0 rfl rfl rfl rfl rfl ?_
  refine t_iconst (pc := 1) dX11_undo_1 ?_
  refine t_putI (pc := 2) dX11_undo_2 rfl rfl (Or.inl rfl) h0.1 rfl ?_
  refine t_ld (pc := 5) dX11_undo_5 rfl rfl rfl rfl rfl ?_
  refine t_getI (pc := 6) dX11_undo_6 rfl h0.1 rfl ?_
  refine t_if_ne (pc := 9) 14 dX11_undo_9 rfl ?_ ?_
  · refine t_ld (pc := 14) dX11_undo_14 rfl rfl rfl rfl rfl ?_
    refine t_dup (pc := 15) dX11_undo_15 rfl ?_
    refine t_getI (pc := 16) dX11_undo_16 rfl h0.1 rfl ?_
    refine t_iconst (pc := 19) dX11_undo_19 ?_
    refine t_isub (pc := 20) dX11_undo_20 ?_
    refine t_putI (pc := 21) dX11_undo_21 rfl rfl (Or.inl rfl) h0.1 rfl ?_
    refine t_ld (pc := 24) dX11_undo_24 rfl rfl rfl rfl rfl ?_
    refine t_ld (pc := 25) dX11_undo_25 rfl rfl rfl rfl rfl ?_
    refine t_getI (pc := 26) dX11_undo_26 rfl h0.1 rfl ?_
    refine t_ld (pc := 29) dX11_undo_29 rfl rfl rfl rfl rfl ?_
    refine t_getI (pc := 30) dX11_undo_30 rfl h0.1 rfl ?_
    refine t_scIN (pc := 33) dX11_undo_33 rfl [.ref 90] rfl rfl ⟨rfl, by decide, Nat.le_of_ble_eq_true rfl⟩ fun v101 S102 => ?_
    refine t_iconst (pc := 36) dX11_undo_36 ?_
    refine t_sipush (pc := 37) dX11_undo_37 (by decide) ?_
    refine t_vcVN (pc := 40) dX11_undo_40 rfl rfl [] rfl rfl ⟨rfl, by decide, Nat.le_of_ble_eq_true rfl⟩ h0.1 fun S103 => ?_
    refine t_ld (pc := 43) dX11_undo_43 rfl rfl rfl rfl rfl ?_
    refine t_getI (pc := 44) dX11_undo_44 rfl h0.1 rfl ?_
    exact t_iret (pc := 47) dX11_undo_47 rfl
  · refine t_iconst (pc := 12) dX11_undo_12 ?_
    exact t_iret (pc := 13) dX11_undo_13 rfl
theorem qX11_toldOf_0 {sc : Nat × (Nat → Int32)} {SH : List mCell} {S : mStore} {r : mR × mW} (h0 : sMod SH) {l1 : Int} {l2 : Int} : ((swp l2 0 ((0 ≤ l1 + 1 ∧ l1 + 1 < 137400) ∧ r = rI (S 91 (l1 + 1)) SH S) [(∃ v101 S102, G sc MX11_usedOf 0 [some (.ref 90), some (.int (I l1)), none, none] [] SH S (rI v101 SH S102) ∧ r = rI v101 SH S102), (∃ v103 S104, G sc MX11_merged 0 [some (.ref 90), some (.int (I l1)), none, none] [] SH S (rI v103 SH S104) ∧ r = rI v103 SH S104), (∃ v105 S106, G sc MX11_waiting 0 [some (.ref 90), some (.int (I l1))] [] SH S (rI v105 SH S106) ∧ r = rI v105 SH S106), ((0 ≤ l1 + 0 ∧ l1 + 0 < 137400) ∧ r = rI (S 91 (l1 + 0)) SH S), ((0 ≤ l1 + 3 ∧ l1 + 3 < 137400) ∧ r = rI (S 91 (l1 + 3)) SH S)])) → G sc MX11_toldOf 0 [some (.ref 90), some (.int (I l1)), some (.int (I l2))] [] SH S r := by
  refine t_ld (pc := 0) dX11_toldOf_0 rfl rfl rfl rfl rfl ?_
  refine t_switch (pc := 1) 72 dX11_toldOf_1 (by decide) rfl rfl ?_ ?_
  · refine t_ld (pc := 72) dX11_toldOf_72 rfl rfl rfl rfl rfl ?_
    refine t_getR (pc := 73) dX11_toldOf_73 rfl h0.1 rfl ?_
    refine t_ld (pc := 76) dX11_toldOf_76 rfl rfl rfl rfl rfl ?_
    refine t_iconst (pc := 77) dX11_toldOf_77 ?_
    refine t_iadd (pc := 78) dX11_toldOf_78 ?_
    refine t_iaload (pc := 79) dX11_toldOf_79 h0.2.1 ?_
    exact t_iret (pc := 80) dX11_toldOf_80 rfl
  · refine ⟨⟨36, rfl, ?_⟩, ⟨⟨42, rfl, ?_⟩, ⟨⟨48, rfl, ?_⟩, ⟨⟨54, rfl, ?_⟩, ⟨⟨63, rfl, ?_⟩, trivial⟩⟩⟩⟩⟩
    · refine t_ld (pc := 36) dX11_toldOf_36 rfl rfl rfl rfl rfl ?_
      refine t_ld (pc := 37) dX11_toldOf_37 rfl rfl rfl rfl rfl ?_
      refine t_vcIN (pc := 38) dX11_toldOf_38 rfl rfl [] rfl rfl ⟨rfl, by decide, Nat.le_of_ble_eq_true rfl⟩ h0.1 fun v101 S102 => ?_
      exact t_iret (pc := 41) dX11_toldOf_41 rfl
    · refine t_ld (pc := 42) dX11_toldOf_42 rfl rfl rfl rfl rfl ?_
      refine t_ld (pc := 43) dX11_toldOf_43 rfl rfl rfl rfl rfl ?_
      refine t_vcIN (pc := 44) dX11_toldOf_44 rfl rfl [] rfl rfl ⟨rfl, by decide, Nat.le_of_ble_eq_true rfl⟩ h0.1 fun v103 S104 => ?_
      exact t_iret (pc := 47) dX11_toldOf_47 rfl
    · refine t_ld (pc := 48) dX11_toldOf_48 rfl rfl rfl rfl rfl ?_
      refine t_ld (pc := 49) dX11_toldOf_49 rfl rfl rfl rfl rfl ?_
      refine t_vcIN (pc := 50) dX11_toldOf_50 rfl rfl [] rfl rfl ⟨rfl, by decide, Nat.le_of_ble_eq_true rfl⟩ h0.1 fun v105 S106 => ?_
      exact t_iret (pc := 53) dX11_toldOf_53 rfl
    · refine t_ld (pc := 54) dX11_toldOf_54 rfl rfl rfl rfl rfl ?_
      refine t_getR (pc := 55) dX11_toldOf_55 rfl h0.1 rfl ?_
      refine t_ld (pc := 58) dX11_toldOf_58 rfl rfl rfl rfl rfl ?_
      refine t_iconst (pc := 59) dX11_toldOf_59 ?_
      refine t_iadd (pc := 60) dX11_toldOf_60 ?_
      refine t_iaload (pc := 61) dX11_toldOf_61 h0.2.1 ?_
      exact t_iret (pc := 62) dX11_toldOf_62 rfl
    · refine t_ld (pc := 63) dX11_toldOf_63 rfl rfl rfl rfl rfl ?_
      refine t_getR (pc := 64) dX11_toldOf_64 rfl h0.1 rfl ?_
      refine t_ld (pc := 67) dX11_toldOf_67 rfl rfl rfl rfl rfl ?_
      refine t_iconst (pc := 68) dX11_toldOf_68 ?_
      refine t_iadd (pc := 69) dX11_toldOf_69 ?_
      refine t_iaload (pc := 70) dX11_toldOf_70 h0.2.1 ?_
      exact t_iret (pc := 71) dX11_toldOf_71 rfl
theorem qX11_then_0 {sc : Nat × (Nat → Int32)} {SH : List mCell} {S : mStore} {r : mR × mW} (h0 : sMod SH) {l1 : Int} {l2 : Int} : ((∃ v101 S102, G sc MX11_within 0 [some (.int (I l2)), some (.int (I 0)), some (.int (I 5))] [] SH (up S 90 4 0) (rI v101 SH S102) ∧ (∃ v103 S104, G sc MX11_right 0 [some (.ref 90), some (.int (I v101)), some (.int (I 1))] [] SH S102 (rI v103 SH S104) ∧ (if I v103 = I 0 then r = rI 0 SH S104 else (∃ v105 S106, G sc MX11_within 0 [some (.int (I l1)), some (.int (I 0)), some (.int (I 60))] [] SH S104 (rI v105 SH S106) ∧ (∃ v107 S108, G sc MX11_right 0 [some (.ref 90), some (.int (I v105)), some (.int (I 2))] [] SH S106 (rI v107 SH S108) ∧ (if I v107 = I 0 then r = rI 0 SH S108 else (∃ S109, G sc MX11_tries 0 [some (.ref 90)] [] SH S108 (rV SH S109) ∧ (∃ v110 S111, G sc MX11_ticksOf 0 [some (.ref 90), some (.int (I 1654)), some (.int (I l1)), none, none] [] SH S109 (rI v110 SH S111) ∧ (∃ v112 S113, G sc MX11_toldOf 0 [some (.ref 90), some (.int (I 1654)), some (.int (I l2))] [] SH S111 (rI v112 SH S113) ∧ r = rI v112 SH S113)))))))))) → G sc MX11_then 0 [some (.ref 90), some (.int (I l1)), some (.int (I l2))] [] SH S r := by
  refine t_ld (pc := 0) dX11_then_0 rfl rfl rfl rfl rfl ?_
  refine t_iconst (pc := 1) dX11_then_1 ?_
  refine t_putI (pc := 2) dX11_then_2 rfl rfl (Or.inl rfl) h0.1 rfl ?_
  refine t_ld (pc := 5) dX11_then_5 rfl rfl rfl rfl rfl ?_
  refine t_ld (pc := 6) dX11_then_6 rfl rfl rfl rfl rfl ?_
  refine t_iconst (pc := 7) dX11_then_7 ?_
  refine t_iconst (pc := 8) dX11_then_8 ?_
  refine t_scIN (pc := 9) dX11_then_9 rfl [.ref 90] rfl rfl ⟨rfl, by decide, Nat.le_of_ble_eq_true rfl⟩ fun v101 S102 => ?_
  refine t_iconst (pc := 12) dX11_then_12 ?_
  refine t_vcIN (pc := 13) dX11_then_13 rfl rfl [] rfl rfl ⟨rfl, by decide, Nat.le_of_ble_eq_true rfl⟩ h0.1 fun v103 S104 => ?_
  refine t_if_eq (pc := 16) 34 dX11_then_16 rfl ?_ ?_
  · refine t_iconst (pc := 34) dX11_then_34 ?_
    exact t_iret (pc := 35) dX11_then_35 rfl
  · refine t_ld (pc := 19) dX11_then_19 rfl rfl rfl rfl rfl ?_
    refine t_ld (pc := 20) dX11_then_20 rfl rfl rfl rfl rfl ?_
    refine t_iconst (pc := 21) dX11_then_21 ?_
    refine t_bipush (pc := 22) dX11_then_22 (by decide) ?_
    refine t_scIN (pc := 24) dX11_then_24 rfl [.ref 90] rfl rfl ⟨rfl, by decide, Nat.le_of_ble_eq_true rfl⟩ fun v105 S106 => ?_
    refine t_iconst (pc := 27) dX11_then_27 ?_
    refine t_vcIN (pc := 28) dX11_then_28 rfl rfl [] rfl rfl ⟨rfl, by decide, Nat.le_of_ble_eq_true rfl⟩ h0.1 fun v107 S108 => ?_
    refine t_if_ne (pc := 31) 36 dX11_then_31 rfl ?_ ?_
    · refine t_ld (pc := 36) dX11_then_36 rfl rfl rfl rfl rfl ?_
      refine t_vcVN (pc := 37) dX11_then_37 rfl rfl [] rfl rfl ⟨rfl, by decide, Nat.le_of_ble_eq_true rfl⟩ h0.1 fun S109 => ?_
      refine t_ld (pc := 40) dX11_then_40 rfl rfl rfl rfl rfl ?_
      refine t_sipush (pc := 41) dX11_then_41 (by decide) ?_
      refine t_ld (pc := 44) dX11_then_44 rfl rfl rfl rfl rfl ?_
      refine t_vcIN (pc := 45) dX11_then_45 rfl rfl [] rfl rfl ⟨rfl, by decide, Nat.le_of_ble_eq_true rfl⟩ h0.1 fun v110 S111 => ?_
      refine t_pop (pc := 48) dX11_then_48 rfl ?_
      refine t_ld (pc := 49) dX11_then_49 rfl rfl rfl rfl rfl ?_
      refine t_sipush (pc := 50) dX11_then_50 (by decide) ?_
      refine t_ld (pc := 53) dX11_then_53 rfl rfl rfl rfl rfl ?_
      refine t_vcIN (pc := 54) dX11_then_54 rfl rfl [] rfl rfl ⟨rfl, by decide, Nat.le_of_ble_eq_true rfl⟩ h0.1 fun v112 S113 => ?_
      exact t_iret (pc := 57) dX11_then_57 rfl
    · refine t_iconst (pc := 34) dX11_then_34 ?_
      exact t_iret (pc := 35) dX11_then_35 rfl
theorem qX11_quiet_0 {sc : Nat × (Nat → Int32)} {SH : List mCell} {S : mStore} {r : mR × mW} (h0 : sMod SH) {u1 : Option Value} {u2 : Option Value} : ((∃ S101, G sc MX11_tries 0 [some (.ref 90)] [] SH (up S 90 4 0) (rV SH S101) ∧ G sc MX11_quiet 13 [some (.ref 90), some (.int (I 0)), some (.int (I 1))] [] SH S101 r)) → G sc MX11_quiet 0 [some (.ref 90), u1, u2] [] SH S r := by
  refine t_ld (pc := 0) dX11_quiet_0 rfl rfl rfl rfl rfl ?_
  refine t_iconst (pc := 1) dX11_quiet_1 ?_
  refine t_putI (pc := 2) dX11_quiet_2 rfl rfl (Or.inl rfl) h0.1 rfl ?_
  refine t_ld (pc := 5) dX11_quiet_5 rfl rfl rfl rfl rfl ?_
  refine t_vcVN (pc := 6) dX11_quiet_6 rfl rfl [] rfl rfl ⟨rfl, by decide, Nat.le_of_ble_eq_true rfl⟩ h0.1 fun S101 => ?_
  refine t_iconst (pc := 9) dX11_quiet_9 ?_
  refine t_st (pc := 10) [some (.ref 90), some (.int (I 0)), u2] dX11_quiet_10 rfl rfl rfl rfl rfl rfl ?_
  refine t_iconst (pc := 11) dX11_quiet_11 ?_
  refine t_st (pc := 12) [some (.ref 90), some (.int (I 0)), some (.int (I 1))] dX11_quiet_12 rfl rfl rfl rfl rfl rfl ?_
  exact id
theorem qX11_quiet_13 {sc : Nat × (Nat → Int32)} {SH : List mCell} {S : mStore} {r : mR × mW} (h0 : sMod SH) {l1 : Int} {l2 : Int} : ((if I 60 < I l2 then r = rI l1 SH S else (∃ v101 S102, G sc MX11_ticksOf 0 [some (.ref 90), some (.int (I 1654)), some (.int (I 1)), none, none] [] SH S (rI v101 SH S102) ∧ (if I v101 ≤ I 0 then G sc MX11_quiet 13 [some (.ref 90), some (.int (I l1)), some (.int (I (l2 + 1)))] [] SH S102 r else G sc MX11_quiet 13 [some (.ref 90), some (.int (I l2)), some (.int (I (l2 + 1)))] [] SH S102 r)))) → G sc MX11_quiet 13 [some (.ref 90), some (.int (I l1)), some (.int (I l2))] [] SH S r := by
  refine t_ld (pc := 13) dX11_quiet_13 rfl rfl rfl rfl rfl ?_
  refine t_bipush (pc := 14) dX11_quiet_14 (by decide) ?_
  refine t_ic_gt (pc := 16) 38 dX11_quiet_16 rfl ?_ ?_
  · refine t_ld (pc := 38) dX11_quiet_38 rfl rfl rfl rfl rfl ?_
    exact t_iret (pc := 39) dX11_quiet_39 rfl
  · refine t_ld (pc := 19) dX11_quiet_19 rfl rfl rfl rfl rfl ?_
    refine t_sipush (pc := 20) dX11_quiet_20 (by decide) ?_
    refine t_iconst (pc := 23) dX11_quiet_23 ?_
    refine t_vcIN (pc := 24) dX11_quiet_24 rfl rfl [] rfl rfl ⟨rfl, by decide, Nat.le_of_ble_eq_true rfl⟩ h0.1 fun v101 S102 => ?_
    refine t_if_le (pc := 27) 32 dX11_quiet_27 rfl ?_ ?_
    · refine t_iinc (pc := 32) [some (.ref 90), some (.int (I l1)), some (.int (I (l2 + 1)))] dX11_quiet_32 rfl rfl ?_
      refine t_goto (pc := 35) 13 dX11_quiet_35 rfl ?_
      exact id
    · refine t_ld (pc := 30) dX11_quiet_30 rfl rfl rfl rfl rfl ?_
      refine t_st (pc := 31) [some (.ref 90), some (.int (I l2)), some (.int (I l2))] dX11_quiet_31 rfl rfl rfl rfl rfl rfl ?_
      refine t_iinc (pc := 32) [some (.ref 90), some (.int (I l2)), some (.int (I (l2 + 1)))] dX11_quiet_32 rfl rfl ?_
      refine t_goto (pc := 35) 13 dX11_quiet_35 rfl ?_
      exact id
theorem qX11_merges_0 {sc : Nat × (Nat → Int32)} {SH : List mCell} {S : mStore} {r : mR × mW} (h0 : sMod SH) {l1 : Int} {l2 : Int} {u3 : Option Value} : ((∃ v101 S102, G sc MX11_isPage 0 [some (.ref 90), some (.int (I l1)), some (.int (I l2))] [] SH (up S 90 4 0) (rI v101 SH S102) ∧ (if I v101 = I 0 then r = rI 0 SH S102 else (∃ S103, G sc MX11_tries 0 [some (.ref 90)] [] SH S102 (rV SH S103) ∧ G sc MX11_merges 22 [some (.ref 90), some (.int (I l1)), some (.int (I l2)), some (.int (I 0))] [] SH S103 r)))) → G sc MX11_merges 0 [some (.ref 90), some (.int (I l1)), some (.int (I l2)), u3] [] SH S r := by
  refine t_ld (pc := 0) dX11_merges_0 rfl rfl rfl rfl rfl ?_
  refine t_iconst (pc := 1) dX11_merges_1 ?_
  refine t_putI (pc := 2) dX11_merges_2 rfl rfl (Or.inl rfl) h0.1 rfl ?_
  refine t_ld (pc := 5) dX11_merges_5 rfl rfl rfl rfl rfl ?_
  refine t_ld (pc := 6) dX11_merges_6 rfl rfl rfl rfl rfl ?_
  refine t_ld (pc := 7) dX11_merges_7 rfl rfl rfl rfl rfl ?_
  refine t_vcIN (pc := 8) dX11_merges_8 rfl rfl [] rfl rfl ⟨rfl, by decide, Nat.le_of_ble_eq_true rfl⟩ h0.1 fun v101 S102 => ?_
  refine t_if_ne (pc := 11) 16 dX11_merges_11 rfl ?_ ?_
  · refine t_ld (pc := 16) dX11_merges_16 rfl rfl rfl rfl rfl ?_
    refine t_vcVN (pc := 17) dX11_merges_17 rfl rfl [] rfl rfl ⟨rfl, by decide, Nat.le_of_ble_eq_true rfl⟩ h0.1 fun S103 => ?_
    refine t_iconst (pc := 20) dX11_merges_20 ?_
    refine t_st (pc := 21) [some (.ref 90), some (.int (I l1)), some (.int (I l2)), some (.int (I 0))] dX11_merges_21 rfl rfl rfl rfl rfl rfl ?_
    exact id
  · refine t_iconst (pc := 14) dX11_merges_14 ?_
    exact t_iret (pc := 15) dX11_merges_15 rfl
theorem qX11_merges_22 {sc : Nat × (Nat → Int32)} {SH : List mCell} {S : mStore} {r : mR × mW} (h0 : sMod SH) {l1 : Int} {l2 : Int} {l3 : Int} : ((if I 400 < I l3 then r = rI (-1) SH S else ((0 ≤ l1 ∧ l1 < 5) ∧ (∃ v101 S102, G sc MX11_isMerged 0 [some (.ref 90), some (.int (I 1654)), some (.int (I ((S 97 l1) + l2)))] [] SH S (rI v101 SH S102) ∧ (if I v101 = I 0 then (∃ v103 S104, G sc MX11_scans 0 [some (.ref 90), some (.int (I 1654)), some (.int (I 1)), none, none, none] [] SH S102 (rI v103 SH S104) ∧ G sc MX11_merges 22 [some (.ref 90), some (.int (I l1)), some (.int (I l2)), some (.int (I (l3 + 1)))] [] SH S104 r) else r = rI l3 SH S102))))) → G sc MX11_merges 22 [some (.ref 90), some (.int (I l1)), some (.int (I l2)), some (.int (I l3))] [] SH S r := by
  refine t_ld (pc := 22) dX11_merges_22 rfl rfl rfl rfl rfl ?_
  refine t_sipush (pc := 23) dX11_merges_23 (by decide) ?_
  refine t_ic_gt (pc := 26) 64 dX11_merges_26 rfl ?_ ?_
  · refine t_iconst (pc := 64) dX11_merges_64 ?_
    exact t_iret (pc := 65) dX11_merges_65 rfl
  · refine t_ld (pc := 29) dX11_merges_29 rfl rfl rfl rfl rfl ?_
    refine t_sipush (pc := 30) dX11_merges_30 (by decide) ?_
    refine t_ld (pc := 33) dX11_merges_33 rfl rfl rfl rfl rfl ?_
    refine t_getR (pc := 34) dX11_merges_34 rfl h0.1 rfl ?_
    refine t_ld (pc := 37) dX11_merges_37 rfl rfl rfl rfl rfl ?_
    refine t_iaload (pc := 38) dX11_merges_38 h0.2.2.2.2.2.2.2.1 ?_
    refine t_ld (pc := 39) dX11_merges_39 rfl rfl rfl rfl rfl ?_
    refine t_iadd (pc := 40) dX11_merges_40 ?_
    refine t_vcIN (pc := 41) dX11_merges_41 rfl rfl [] rfl rfl ⟨rfl, by decide, Nat.le_of_ble_eq_true rfl⟩ h0.1 fun v101 S102 => ?_
    refine t_if_eq (pc := 44) 49 dX11_merges_44 rfl ?_ ?_
    · refine t_ld (pc := 49) dX11_merges_49 rfl rfl rfl rfl rfl ?_
      refine t_sipush (pc := 50) dX11_merges_50 (by decide) ?_
      refine t_iconst (pc := 53) dX11_merges_53 ?_
      refine t_vcIN (pc := 54) dX11_merges_54 rfl rfl [] rfl rfl ⟨rfl, by decide, Nat.le_of_ble_eq_true rfl⟩ h0.1 fun v103 S104 => ?_
      refine t_pop (pc := 57) dX11_merges_57 rfl ?_
      refine t_iinc (pc := 58) [some (.ref 90), some (.int (I l1)), some (.int (I l2)), some (.int (I (l3 + 1)))] dX11_merges_58 rfl rfl ?_
      refine t_goto (pc := 61) 22 dX11_merges_61 rfl ?_
      exact id
    · refine t_ld (pc := 47) dX11_merges_47 rfl rfl rfl rfl rfl ?_
      exact t_iret (pc := 48) dX11_merges_48 rfl
theorem qX11_isCounted_0 {sc : Nat × (Nat → Int32)} {SH : List mCell} {S : mStore} {r : mR × mW} (h0 : sMod SH) {l1 : Int} : (((0 ≤ 64 + l1 ∧ 64 + l1 < 137400) ∧ (if I (S 91 (64 + l1)) = I 1 then ((0 ≤ 16 + l1 ∧ 16 + l1 < 137400) ∧ (if I (S 91 (16 + l1)) = I (-1) then ((I 0 = I 0 ∨ I 0 = I 1) ∧ r = rI 0 SH S) else ((I 1 = I 0 ∨ I 1 = I 1) ∧ r = rI 1 SH S))) else ((I 0 = I 0 ∨ I 0 = I 1) ∧ r = rI 0 SH S)))) → G sc MX11_isCounted 0 [some (.ref 90), some (.int (I l1))] [] SH S r := by
  refine t_ld (pc := 0) dX11_isCounted_0 rfl rfl rfl rfl rfl ?_
  refine t_getR (pc := 1) dX11_isCounted_1 rfl h0.1 rfl ?_
  refine t_bipush (pc := 4) dX11_isCounted_4 (by decide) ?_
  refine t_ld (pc := 6) dX11_isCounted_6 rfl rfl rfl rfl rfl ?_
  refine t_iadd (pc := 7) dX11_isCounted_7 ?_
  refine t_iaload (pc := 8) dX11_isCounted_8 h0.2.1 ?_
  refine t_iconst (pc := 9) dX11_isCounted_9 ?_
  refine t_ic_ne (pc := 10) 30 dX11_isCounted_10 rfl ?_ ?_
  · refine t_iconst (pc := 30) dX11_isCounted_30 ?_
    exact t_zret (pc := 31) dX11_isCounted_31 rfl
  · refine t_ld (pc := 13) dX11_isCounted_13 rfl rfl rfl rfl rfl ?_
    refine t_getR (pc := 14) dX11_isCounted_14 rfl h0.1 rfl ?_
    refine t_bipush (pc := 17) dX11_isCounted_17 (by decide) ?_
    refine t_ld (pc := 19) dX11_isCounted_19 rfl rfl rfl rfl rfl ?_
    refine t_iadd (pc := 20) dX11_isCounted_20 ?_
    refine t_iaload (pc := 21) dX11_isCounted_21 h0.2.1 ?_
    refine t_iconst (pc := 22) dX11_isCounted_22 ?_
    refine t_ic_eq (pc := 23) 30 dX11_isCounted_23 rfl ?_ ?_
    · refine t_iconst (pc := 30) dX11_isCounted_30 ?_
      exact t_zret (pc := 31) dX11_isCounted_31 rfl
    · refine t_iconst (pc := 26) dX11_isCounted_26 ?_
      refine t_goto (pc := 27) 31 dX11_isCounted_27 rfl ?_
      exact t_zret (pc := 31) dX11_isCounted_31 rfl
theorem qX11_classOf_0 {sc : Nat × (Nat → Int32)} {SH : List mCell} {S : mStore} {r : mR × mW} (h0 : sMod SH) {l1 : Int} {u2 : Option Value} {u3 : Option Value} : (G sc MX11_classOf 4 [some (.ref 90), some (.int (I l1)), some (.int (I 0)), some (.int (I 0))] [] SH S r) → G sc MX11_classOf 0 [some (.ref 90), some (.int (I l1)), u2, u3] [] SH S r := by
  refine t_iconst (pc := 0) dX11_classOf_0 ?_
  refine t_st (pc := 1) [some (.ref 90), some (.int (I l1)), some (.int (I 0)), u3] dX11_classOf_1 rfl rfl rfl rfl rfl rfl ?_
  refine t_iconst (pc := 2) dX11_classOf_2 ?_
  refine t_st (pc := 3) [some (.ref 90), some (.int (I l1)), some (.int (I 0)), some (.int (I 0))] dX11_classOf_3 rfl rfl rfl rfl rfl rfl ?_
  exact id
theorem qX11_classOf_4 {sc : Nat × (Nat → Int32)} {SH : List mCell} {S : mStore} {r : mR × mW} (h0 : sMod SH) {l1 : Int} {l2 : Int} {l3 : Int} : ((if I (S 90 19) ≤ I l3 then r = rI l2 SH S else (∃ v101 S102, G sc MX11_isCounted 0 [some (.ref 90), some (.int (I l3))] [] SH S (rI v101 SH S102) ∧ (if I v101 = I 0 then G sc MX11_classOf 4 [some (.ref 90), some (.int (I l1)), some (.int (I l2)), some (.int (I (l3 + 1)))] [] SH S102 r else (∃ v103 S104, G sc MX11_realm 0 [some (.ref 90), some (.int (I l3))] [] SH S102 (rI v103 SH S104) ∧ (∃ v105 S106, G sc MX11_realm 0 [some (.ref 90), some (.int (I l1))] [] SH S104 (rI v105 SH S106) ∧ (if I v103 = I v105 then (∃ v107 S108, G sc MX11_areLike 0 [some (.ref 90), some (.int (I l1)), some (.int (I l3)), none] [] SH S106 (rI v107 SH S108) ∧ (if I v107 = I 0 then G sc MX11_classOf 4 [some (.ref 90), some (.int (I l1)), some (.int (I l2)), some (.int (I (l3 + 1)))] [] SH S108 r else (if I l1 ≤ I l3 then G sc MX11_classOf 4 [some (.ref 90), some (.int (I l1)), some (.int (I (l2 + 1))), some (.int (I (l3 + 1)))] [] SH S108 r else r = rI (-1) SH S108))) else G sc MX11_classOf 4 [some (.ref 90), some (.int (I l1)), some (.int (I l2)), some (.int (I (l3 + 1)))] [] SH S106 r))))))) → G sc MX11_classOf 4 [some (.ref 90), some (.int (I l1)), some (.int (I l2)), some (.int (I l3))] [] SH S r := by
  refine t_ld (pc := 4) dX11_classOf_4 rfl rfl rfl rfl rfl ?_
  refine t_ld (pc := 5) dX11_classOf_5 rfl rfl rfl rfl rfl ?_
  refine t_getI (pc := 6) dX11_classOf_6 rfl h0.1 rfl ?_
  refine t_ic_ge (pc := 9) 61 dX11_classOf_9 rfl ?_ ?_
  · refine t_ld (pc := 61) dX11_classOf_61 rfl rfl rfl rfl rfl ?_
    exact t_iret (pc := 62) dX11_classOf_62 rfl
  · refine t_ld (pc := 12) dX11_classOf_12 rfl rfl rfl rfl rfl ?_
    refine t_ld (pc := 13) dX11_classOf_13 rfl rfl rfl rfl rfl ?_
    refine t_vcIN (pc := 14) dX11_classOf_14 rfl rfl [] rfl rfl ⟨rfl, by decide, Nat.le_of_ble_eq_true rfl⟩ h0.1 fun v101 S102 => ?_
    refine t_if_eq (pc := 17) 55 dX11_classOf_17 rfl ?_ ?_
    · refine t_iinc (pc := 55) [some (.ref 90), some (.int (I l1)), some (.int (I l2)), some (.int (I (l3 + 1)))] dX11_classOf_55 rfl rfl ?_
      refine t_goto (pc := 58) 4 dX11_classOf_58 rfl ?_
      exact id
    · refine t_ld (pc := 20) dX11_classOf_20 rfl rfl rfl rfl rfl ?_
      refine t_ld (pc := 21) dX11_classOf_21 rfl rfl rfl rfl rfl ?_
      refine t_vcIN (pc := 22) dX11_classOf_22 rfl rfl [] rfl rfl ⟨rfl, by decide, Nat.le_of_ble_eq_true rfl⟩ h0.1 fun v103 S104 => ?_
      refine t_ld (pc := 25) dX11_classOf_25 rfl rfl rfl rfl rfl ?_
      refine t_ld (pc := 26) dX11_classOf_26 rfl rfl rfl rfl rfl ?_
      refine t_vcIN (pc := 27) dX11_classOf_27 rfl rfl [.int (I v103)] rfl rfl ⟨rfl, by decide, Nat.le_of_ble_eq_true rfl⟩ h0.1 fun v105 S106 => ?_
      refine t_ic_ne (pc := 30) 55 dX11_classOf_30 rfl ?_ ?_
      · refine t_iinc (pc := 55) [some (.ref 90), some (.int (I l1)), some (.int (I l2)), some (.int (I (l3 + 1)))] dX11_classOf_55 rfl rfl ?_
        refine t_goto (pc := 58) 4 dX11_classOf_58 rfl ?_
        exact id
      · refine t_ld (pc := 33) dX11_classOf_33 rfl rfl rfl rfl rfl ?_
        refine t_ld (pc := 34) dX11_classOf_34 rfl rfl rfl rfl rfl ?_
        refine t_ld (pc := 35) dX11_classOf_35 rfl rfl rfl rfl rfl ?_
        refine t_vcIN (pc := 36) dX11_classOf_36 rfl rfl [] rfl rfl ⟨rfl, by decide, Nat.le_of_ble_eq_true rfl⟩ h0.1 fun v107 S108 => ?_
        refine t_if_ne (pc := 39) 45 dX11_classOf_39 rfl ?_ ?_
        · refine t_ld (pc := 45) dX11_classOf_45 rfl rfl rfl rfl rfl ?_
          refine t_ld (pc := 46) dX11_classOf_46 rfl rfl rfl rfl rfl ?_
          refine t_ic_ge (pc := 47) 52 dX11_classOf_47 rfl ?_ ?_
          · refine t_iinc (pc := 52) [some (.ref 90), some (.int (I l1)), some (.int (I (l2 + 1))), some (.int (I l3))] dX11_classOf_52 rfl rfl ?_
            refine t_iinc (pc := 55) [some (.ref 90), some (.int (I l1)), some (.int (I (l2 + 1))), some (.int (I (l3 + 1)))] dX11_classOf_55 rfl rfl ?_
            refine t_goto (pc := 58) 4 dX11_classOf_58 rfl ?_
            exact id
          · refine t_iconst (pc := 50) dX11_classOf_50 ?_
            exact t_iret (pc := 51) dX11_classOf_51 rfl
        · refine t_goto (pc := 42) 55 dX11_classOf_42 rfl ?_
          refine t_iinc (pc := 55) [some (.ref 90), some (.int (I l1)), some (.int (I l2)), some (.int (I (l3 + 1)))] dX11_classOf_55 rfl rfl ?_
          refine t_goto (pc := 58) 4 dX11_classOf_58 rfl ?_
          exact id
theorem qX11_least_0 {sc : Nat × (Nat → Int32)} {SH : List mCell} {S : mStore} {r : mR × mW} (h0 : sMod SH) {u1 : Option Value} {u2 : Option Value} {u3 : Option Value} : (G sc MX11_least 4 [some (.ref 90), some (.int (I 0)), some (.int (I 0)), u3] [] SH S r) → G sc MX11_least 0 [some (.ref 90), u1, u2, u3] [] SH S r := by
  refine t_iconst (pc := 0) dX11_least_0 ?_
  refine t_st (pc := 1) [some (.ref 90), some (.int (I 0)), u2, u3] dX11_least_1 rfl rfl rfl rfl rfl rfl ?_
  refine t_iconst (pc := 2) dX11_least_2 ?_
  refine t_st (pc := 3) [some (.ref 90), some (.int (I 0)), some (.int (I 0)), u3] dX11_least_3 rfl rfl rfl rfl rfl rfl ?_
  exact id
theorem qX11_least_4 {sc : Nat × (Nat → Int32)} {SH : List mCell} {S : mStore} {r : mR × mW} (h0 : sMod SH) {l1 : Int} {l2 : Int} {u3 : Option Value} : ((if I (S 90 19) ≤ I l2 then r = rI l1 SH S else ((0 ≤ 16 + l2 ∧ 16 + l2 < 137400) ∧ (if I (S 91 (16 + l2)) = I (-1) then G sc MX11_least 4 [some (.ref 90), some (.int (I l1)), some (.int (I (l2 + 1))), u3] [] SH S r else ((0 ≤ 64 + l2 ∧ 64 + l2 < 137400) ∧ (if I (S 91 (64 + l2)) = I 0 then G sc MX11_least 4 [some (.ref 90), some (.int (I (l1 + 1))), some (.int (I (l2 + 1))), u3] [] SH S r else (if I (S 90 16) = I 1 then (∃ v103 S104, G sc MX11_isZero 0 [some (.ref 90), some (.int (I 0)), some (.int (I l2))] [] SH S (rI v103 SH S104) ∧ (if I v103 = I 0 then (∃ v105 S106, G sc MX11_classOf 0 [some (.ref 90), some (.int (I l2)), none, none] [] SH S104 (rI v105 SH S106) ∧ (if I v105 = I (-1) then G sc MX11_least 4 [some (.ref 90), some (.int (I l1)), some (.int (I (l2 + 1))), some (.int (I v105))] [] SH S106 r else (I (S106 90 13) ≠ I 0 ∧ G sc MX11_least 4 [some (.ref 90), some (.int (I (l1 + (idv ((v105 + (S106 90 13)) - 1) (S106 90 13))))), some (.int (I (l2 + 1))), some (.int (I v105))] [] SH S106 r))) else (if I (-1) = I (-1) then G sc MX11_least 4 [some (.ref 90), some (.int (I l1)), some (.int (I (l2 + 1))), some (.int (I (-1)))] [] SH S104 r else (I (S104 90 13) ≠ I 0 ∧ G sc MX11_least 4 [some (.ref 90), some (.int (I (l1 + (idv (((-1) + (S104 90 13)) - 1) (S104 90 13))))), some (.int (I (l2 + 1))), some (.int (I (-1)))] [] SH S104 r)))) else (∃ v101 S102, G sc MX11_classOf 0 [some (.ref 90), some (.int (I l2)), none, none] [] SH S (rI v101 SH S102) ∧ (if I v101 = I (-1) then G sc MX11_least 4 [some (.ref 90), some (.int (I l1)), some (.int (I (l2 + 1))), some (.int (I v101))] [] SH S102 r else (I (S102 90 13) ≠ I 0 ∧ G sc MX11_least 4 [some (.ref 90), some (.int (I (l1 + (idv ((v101 + (S102 90 13)) - 1) (S102 90 13))))), some (.int (I (l2 + 1))), some (.int (I v101))] [] SH S102 r)))))))))) → G sc MX11_least 4 [some (.ref 90), some (.int (I l1)), some (.int (I l2)), u3] [] SH S r := by
  refine t_ld (pc := 4) dX11_least_4 rfl rfl rfl rfl rfl ?_
  refine t_ld (pc := 5) dX11_least_5 rfl rfl rfl rfl rfl ?_
  refine t_getI (pc := 6) dX11_least_6 rfl h0.1 rfl ?_
  refine t_ic_ge (pc := 9) 100 dX11_least_9 rfl ?_ ?_
  · refine t_ld (pc := 100) dX11_least_100 rfl rfl rfl rfl rfl ?_
    exact t_iret (pc := 101) dX11_least_101 rfl
  · refine t_ld (pc := 12) dX11_least_12 rfl rfl rfl rfl rfl ?_
    refine t_getR (pc := 13) dX11_least_13 rfl h0.1 rfl ?_
    refine t_bipush (pc := 16) dX11_least_16 (by decide) ?_
    refine t_ld (pc := 18) dX11_least_18 rfl rfl rfl rfl rfl ?_
    refine t_iadd (pc := 19) dX11_least_19 ?_
    refine t_iaload (pc := 20) dX11_least_20 h0.2.1 ?_
    refine t_iconst (pc := 21) dX11_least_21 ?_
    refine t_ic_ne (pc := 22) 28 dX11_least_22 rfl ?_ ?_
    · refine t_ld (pc := 28) dX11_least_28 rfl rfl rfl rfl rfl ?_
      refine t_getR (pc := 29) dX11_least_29 rfl h0.1 rfl ?_
      refine t_bipush (pc := 32) dX11_least_32 (by decide) ?_
      refine t_ld (pc := 34) dX11_least_34 rfl rfl rfl rfl rfl ?_
      refine t_iadd (pc := 35) dX11_least_35 ?_
      refine t_iaload (pc := 36) dX11_least_36 h0.2.1 ?_
      refine t_if_ne (pc := 37) 46 dX11_least_37 rfl ?_ ?_
      · refine t_ld (pc := 46) dX11_least_46 rfl rfl rfl rfl rfl ?_
        refine t_getI (pc := 47) dX11_least_47 rfl h0.1 rfl ?_
        refine t_iconst (pc := 50) dX11_least_50 ?_
        refine t_ic_ne (pc := 51) 67 dX11_least_51 rfl ?_ ?_
        · refine t_ld (pc := 67) dX11_least_67 rfl rfl rfl rfl rfl ?_
          refine t_ld (pc := 68) dX11_least_68 rfl rfl rfl rfl rfl ?_
          refine t_vcIN (pc := 69) dX11_least_69 rfl rfl [] rfl rfl ⟨rfl, by decide, Nat.le_of_ble_eq_true rfl⟩ h0.1 fun v101 S102 => ?_
          refine t_st (pc := 72) [some (.ref 90), some (.int (I l1)), some (.int (I l2)), some (.int (I v101))] dX11_least_72 rfl rfl rfl rfl rfl rfl ?_
          refine t_ld (pc := 73) dX11_least_73 rfl rfl rfl rfl rfl ?_
          refine t_iconst (pc := 74) dX11_least_74 ?_
          refine t_ic_eq (pc := 75) 94 dX11_least_75 rfl ?_ ?_
          · refine t_iinc (pc := 94) [some (.ref 90), some (.int (I l1)), some (.int (I (l2 + 1))), some (.int (I v101))] dX11_least_94 rfl rfl ?_
            refine t_goto (pc := 97) 4 dX11_least_97 rfl ?_
            exact id
          · refine t_ld (pc := 78) dX11_least_78 rfl rfl rfl rfl rfl ?_
            refine t_ld (pc := 79) dX11_least_79 rfl rfl rfl rfl rfl ?_
            refine t_ld (pc := 80) dX11_least_80 rfl rfl rfl rfl rfl ?_
            refine t_getI (pc := 81) dX11_least_81 rfl h0.1 rfl ?_
            refine t_iadd (pc := 84) dX11_least_84 ?_
            refine t_iconst (pc := 85) dX11_least_85 ?_
            refine t_isub (pc := 86) dX11_least_86 ?_
            refine t_ld (pc := 87) dX11_least_87 rfl rfl rfl rfl rfl ?_
            refine t_getI (pc := 88) dX11_least_88 rfl h0.1 rfl ?_
            refine t_idivc (pc := 91) dX11_least_91 ?_
            refine t_iadd (pc := 92) dX11_least_92 ?_
            refine t_st (pc := 93) [some (.ref 90), some (.int (I (l1 + (idv ((v101 + (S102 90 13)) - 1) (S102 90 13))))), some (.int (I l2)), some (.int (I v101))] dX11_least_93 rfl rfl rfl rfl rfl rfl ?_
            refine t_iinc (pc := 94) [some (.ref 90), some (.int (I (l1 + (idv ((v101 + (S102 90 13)) - 1) (S102 90 13))))), some (.int (I (l2 + 1))), some (.int (I v101))] dX11_least_94 rfl rfl ?_
            refine t_goto (pc := 97) 4 dX11_least_97 rfl ?_
            exact id
        · refine t_ld (pc := 54) dX11_least_54 rfl rfl rfl rfl rfl ?_
          refine t_iconst (pc := 55) dX11_least_55 ?_
          refine t_ld (pc := 56) dX11_least_56 rfl rfl rfl rfl rfl ?_
          refine t_vcIN (pc := 57) dX11_least_57 rfl rfl [] rfl rfl ⟨rfl, by decide, Nat.le_of_ble_eq_true rfl⟩ h0.1 fun v103 S104 => ?_
          refine t_if_eq (pc := 60) 67 dX11_least_60 rfl ?_ ?_
          · refine t_ld (pc := 67) dX11_least_67 rfl rfl rfl rfl rfl ?_
            refine t_ld (pc := 68) dX11_least_68 rfl rfl rfl rfl rfl ?_
            refine t_vcIN (pc := 69) dX11_least_69 rfl rfl [] rfl rfl ⟨rfl, by decide, Nat.le_of_ble_eq_true rfl⟩ h0.1 fun v105 S106 => ?_
            refine t_st (pc := 72) [some (.ref 90), some (.int (I l1)), some (.int (I l2)), some (.int (I v105))] dX11_least_72 rfl rfl rfl rfl rfl rfl ?_
            refine t_ld (pc := 73) dX11_least_73 rfl rfl rfl rfl rfl ?_
            refine t_iconst (pc := 74) dX11_least_74 ?_
            refine t_ic_eq (pc := 75) 94 dX11_least_75 rfl ?_ ?_
            · refine t_iinc (pc := 94) [some (.ref 90), some (.int (I l1)), some (.int (I (l2 + 1))), some (.int (I v105))] dX11_least_94 rfl rfl ?_
              refine t_goto (pc := 97) 4 dX11_least_97 rfl ?_
              exact id
            · refine t_ld (pc := 78) dX11_least_78 rfl rfl rfl rfl rfl ?_
              refine t_ld (pc := 79) dX11_least_79 rfl rfl rfl rfl rfl ?_
              refine t_ld (pc := 80) dX11_least_80 rfl rfl rfl rfl rfl ?_
              refine t_getI (pc := 81) dX11_least_81 rfl h0.1 rfl ?_
              refine t_iadd (pc := 84) dX11_least_84 ?_
              refine t_iconst (pc := 85) dX11_least_85 ?_
              refine t_isub (pc := 86) dX11_least_86 ?_
              refine t_ld (pc := 87) dX11_least_87 rfl rfl rfl rfl rfl ?_
              refine t_getI (pc := 88) dX11_least_88 rfl h0.1 rfl ?_
              refine t_idivc (pc := 91) dX11_least_91 ?_
              refine t_iadd (pc := 92) dX11_least_92 ?_
              refine t_st (pc := 93) [some (.ref 90), some (.int (I (l1 + (idv ((v105 + (S106 90 13)) - 1) (S106 90 13))))), some (.int (I l2)), some (.int (I v105))] dX11_least_93 rfl rfl rfl rfl rfl rfl ?_
              refine t_iinc (pc := 94) [some (.ref 90), some (.int (I (l1 + (idv ((v105 + (S106 90 13)) - 1) (S106 90 13))))), some (.int (I (l2 + 1))), some (.int (I v105))] dX11_least_94 rfl rfl ?_
              refine t_goto (pc := 97) 4 dX11_least_97 rfl ?_
              exact id
          · refine t_iconst (pc := 63) dX11_least_63 ?_
            refine t_goto (pc := 64) 72 dX11_least_64 rfl ?_
            refine t_st (pc := 72) [some (.ref 90), some (.int (I l1)), some (.int (I l2)), some (.int (I (-1)))] dX11_least_72 rfl rfl rfl rfl rfl rfl ?_
            refine t_ld (pc := 73) dX11_least_73 rfl rfl rfl rfl rfl ?_
            refine t_iconst (pc := 74) dX11_least_74 ?_
            refine t_ic_eq (pc := 75) 94 dX11_least_75 rfl ?_ ?_
            · refine t_iinc (pc := 94) [some (.ref 90), some (.int (I l1)), some (.int (I (l2 + 1))), some (.int (I (-1)))] dX11_least_94 rfl rfl ?_
              refine t_goto (pc := 97) 4 dX11_least_97 rfl ?_
              exact id
            · refine t_ld (pc := 78) dX11_least_78 rfl rfl rfl rfl rfl ?_
              refine t_ld (pc := 79) dX11_least_79 rfl rfl rfl rfl rfl ?_
              refine t_ld (pc := 80) dX11_least_80 rfl rfl rfl rfl rfl ?_
              refine t_getI (pc := 81) dX11_least_81 rfl h0.1 rfl ?_
              refine t_iadd (pc := 84) dX11_least_84 ?_
              refine t_iconst (pc := 85) dX11_least_85 ?_
              refine t_isub (pc := 86) dX11_least_86 ?_
              refine t_ld (pc := 87) dX11_least_87 rfl rfl rfl rfl rfl ?_
              refine t_getI (pc := 88) dX11_least_88 rfl h0.1 rfl ?_
              refine t_idivc (pc := 91) dX11_least_91 ?_
              refine t_iadd (pc := 92) dX11_least_92 ?_
              refine t_st (pc := 93) [some (.ref 90), some (.int (I (l1 + (idv (((-1) + (S104 90 13)) - 1) (S104 90 13))))), some (.int (I l2)), some (.int (I (-1)))] dX11_least_93 rfl rfl rfl rfl rfl rfl ?_
              refine t_iinc (pc := 94) [some (.ref 90), some (.int (I (l1 + (idv (((-1) + (S104 90 13)) - 1) (S104 90 13))))), some (.int (I (l2 + 1))), some (.int (I (-1)))] dX11_least_94 rfl rfl ?_
              refine t_goto (pc := 97) 4 dX11_least_97 rfl ?_
              exact id
      · refine t_iinc (pc := 40) [some (.ref 90), some (.int (I (l1 + 1))), some (.int (I l2)), u3] dX11_least_40 rfl rfl ?_
        refine t_goto (pc := 43) 94 dX11_least_43 rfl ?_
        refine t_iinc (pc := 94) [some (.ref 90), some (.int (I (l1 + 1))), some (.int (I (l2 + 1))), u3] dX11_least_94 rfl rfl ?_
        refine t_goto (pc := 97) 4 dX11_least_97 rfl ?_
        exact id
    · refine t_goto (pc := 25) 94 dX11_least_25 rfl ?_
      refine t_iinc (pc := 94) [some (.ref 90), some (.int (I l1)), some (.int (I (l2 + 1))), u3] dX11_least_94 rfl rfl ?_
      refine t_goto (pc := 97) 4 dX11_least_97 rfl ?_
      exact id
theorem qX11_risk_0 {sc : Nat × (Nat → Int32)} {SH : List mCell} {S : mStore} {r : mR × mW} (h0 : sMod SH) {u1 : Option Value} {u2 : Option Value} : ((∃ v101 S102, G sc MX11_absent 0 [some (.ref 90), some (.int (I 0)), some (.int (I (S 90 19))), none, none] [] SH S (rI v101 SH S102) ∧ G sc MX11_risk 12 [some (.ref 90), some (.int (I v101)), some (.int (I 0))] [] SH S102 r)) → G sc MX11_risk 0 [some (.ref 90), u1, u2] [] SH S r := by
  refine t_ld (pc := 0) dX11_risk_0 rfl rfl rfl rfl rfl ?_
  refine t_iconst (pc := 1) dX11_risk_1 ?_
  refine t_ld (pc := 2) dX11_risk_2 rfl rfl rfl rfl rfl ?_
  refine t_getI (pc := 3) dX11_risk_3 rfl h0.1 rfl ?_
  refine t_vcIN (pc := 6) dX11_risk_6 rfl rfl [] rfl rfl ⟨rfl, by decide, Nat.le_of_ble_eq_true rfl⟩ h0.1 fun v101 S102 => ?_
  refine t_st (pc := 9) [some (.ref 90), some (.int (I v101)), u2] dX11_risk_9 rfl rfl rfl rfl rfl rfl ?_
  refine t_iconst (pc := 10) dX11_risk_10 ?_
  refine t_st (pc := 11) [some (.ref 90), some (.int (I v101)), some (.int (I 0))] dX11_risk_11 rfl rfl rfl rfl rfl rfl ?_
  exact id
theorem qX11_risk_12 {sc : Nat × (Nat → Int32)} {SH : List mCell} {S : mStore} {r : mR × mW} (h0 : sMod SH) {l1 : Int} {l2 : Int} : ((if I (S 90 12) ≤ I l2 then (∃ v101 S102, G sc MX11_usedOf 0 [some (.ref 90), some (.int (I 0)), none, none] [] SH S (rI v101 SH S102) ∧ (if I l1 ≤ I ((S 90 12) - v101) then r = rI (-1) SH S102 else r = rI (((S 90 12) - v101) + 1) SH S102)) else ((0 ≤ 976 + l2 ∧ 976 + l2 < 137400) ∧ (if I (S 91 (976 + l2)) = I (-1) then G sc MX11_risk 12 [some (.ref 90), some (.int (I (l1 + 0))), some (.int (I (l2 + 1)))] [] SH S r else ((0 ≤ 544 + l2 ∧ 544 + l2 < 137400) ∧ G sc MX11_risk 12 [some (.ref 90), some (.int (I (l1 + ((S 91 (544 + l2)) - 1)))), some (.int (I (l2 + 1)))] [] SH S r))))) → G sc MX11_risk 12 [some (.ref 90), some (.int (I l1)), some (.int (I l2))] [] SH S r := by
  refine t_ld (pc := 12) dX11_risk_12 rfl rfl rfl rfl rfl ?_
  refine t_ld (pc := 13) dX11_risk_13 rfl rfl rfl rfl rfl ?_
  refine t_getI (pc := 14) dX11_risk_14 rfl h0.1 rfl ?_
  refine t_ic_ge (pc := 17) 59 dX11_risk_17 rfl ?_ ?_
  · refine t_ld (pc := 59) dX11_risk_59 rfl rfl rfl rfl rfl ?_
    refine t_getI (pc := 60) dX11_risk_60 rfl h0.1 rfl ?_
    refine t_ld (pc := 63) dX11_risk_63 rfl rfl rfl rfl rfl ?_
    refine t_iconst (pc := 64) dX11_risk_64 ?_
    refine t_vcIN (pc := 65) dX11_risk_65 rfl rfl [.int (I (S 90 12))] rfl rfl ⟨rfl, by decide, Nat.le_of_ble_eq_true rfl⟩ h0.1 fun v101 S102 => ?_
    refine t_isub (pc := 68) dX11_risk_68 ?_
    refine t_st (pc := 69) [some (.ref 90), some (.int (I l1)), some (.int (I ((S 90 12) - v101)))] dX11_risk_69 rfl rfl rfl rfl rfl rfl ?_
    refine t_ld (pc := 70) dX11_risk_70 rfl rfl rfl rfl rfl ?_
    refine t_ld (pc := 71) dX11_risk_71 rfl rfl rfl rfl rfl ?_
    refine t_ic_le (pc := 72) 81 dX11_risk_72 rfl ?_ ?_
    · refine t_iconst (pc := 81) dX11_risk_81 ?_
      exact t_iret (pc := 82) dX11_risk_82 rfl
    · refine t_ld (pc := 75) dX11_risk_75 rfl rfl rfl rfl rfl ?_
      refine t_iconst (pc := 76) dX11_risk_76 ?_
      refine t_iadd (pc := 77) dX11_risk_77 ?_
      refine t_goto (pc := 78) 82 dX11_risk_78 rfl ?_
      exact t_iret (pc := 82) dX11_risk_82 rfl
  · refine t_ld (pc := 20) dX11_risk_20 rfl rfl rfl rfl rfl ?_
    refine t_ld (pc := 21) dX11_risk_21 rfl rfl rfl rfl rfl ?_
    refine t_getR (pc := 22) dX11_risk_22 rfl h0.1 rfl ?_
    refine t_sipush (pc := 25) dX11_risk_25 (by decide) ?_
    refine t_ld (pc := 28) dX11_risk_28 rfl rfl rfl rfl rfl ?_
    refine t_iadd (pc := 29) dX11_risk_29 ?_
    refine t_iaload (pc := 30) dX11_risk_30 h0.2.1 ?_
    refine t_iconst (pc := 31) dX11_risk_31 ?_
    refine t_ic_eq (pc := 32) 50 dX11_risk_32 rfl ?_ ?_
    · refine t_iconst (pc := 50) dX11_risk_50 ?_
      refine t_iadd (pc := 51) dX11_risk_51 ?_
      refine t_st (pc := 52) [some (.ref 90), some (.int (I (l1 + 0))), some (.int (I l2))] dX11_risk_52 rfl rfl rfl rfl rfl rfl ?_
      refine t_iinc (pc := 53) [some (.ref 90), some (.int (I (l1 + 0))), some (.int (I (l2 + 1)))] dX11_risk_53 rfl rfl ?_
      refine t_goto (pc := 56) 12 dX11_risk_56 rfl ?_
      exact id
    · refine t_ld (pc := 35) dX11_risk_35 rfl rfl rfl rfl rfl ?_
      refine t_getR (pc := 36) dX11_risk_36 rfl h0.1 rfl ?_
      refine t_sipush (pc := 39) dX11_risk_39 (by decide) ?_
      refine t_ld (pc := 42) dX11_risk_42 rfl rfl rfl rfl rfl ?_
      refine t_iadd (pc := 43) dX11_risk_43 ?_
      refine t_iaload (pc := 44) dX11_risk_44 h0.2.1 ?_
      refine t_iconst (pc := 45) dX11_risk_45 ?_
      refine t_isub (pc := 46) dX11_risk_46 ?_
      refine t_goto (pc := 47) 51 dX11_risk_47 rfl ?_
      refine t_iadd (pc := 51) dX11_risk_51 ?_
      refine t_st (pc := 52) [some (.ref 90), some (.int (I (l1 + ((S 91 (544 + l2)) - 1)))), some (.int (I l2))] dX11_risk_52 rfl rfl rfl rfl rfl rfl ?_
      refine t_iinc (pc := 53) [some (.ref 90), some (.int (I (l1 + ((S 91 (544 + l2)) - 1)))), some (.int (I (l2 + 1)))] dX11_risk_53 rfl rfl ?_
      refine t_goto (pc := 56) 12 dX11_risk_56 rfl ?_
      exact id
theorem qX11_ideal_0 {sc : Nat × (Nat → Int32)} {SH : List mCell} {S : mStore} {r : mR × mW} (h0 : sMod SH) {l1 : Int} : ((∃ v101 S102, G sc MX11_within 0 [some (.int (I l1)), some (.int (I 0)), some (.int (I 2))] [] SH (up S 90 4 0) (rI v101 SH S102) ∧ (∃ v103 S104, G sc MX11_right 0 [some (.ref 90), some (.int (I v101)), some (.int (I 1))] [] SH S102 (rI v103 SH S104) ∧ (if I v103 = I 0 then r = rI 0 SH S104 else (if I l1 = I 0 then (∃ v111 S112, G sc MX11_least 0 [some (.ref 90), none, none, none] [] SH S104 (rI v111 SH S112) ∧ r = rI v111 SH S112) else (if I l1 = I 1 then (∃ v107 S108, G sc MX11_usedOf 0 [some (.ref 90), some (.int (I 0)), none, none] [] SH S104 (rI v107 SH S108) ∧ (∃ v109 S110, G sc MX11_least 0 [some (.ref 90), none, none, none] [] SH S108 (rI v109 SH S110) ∧ r = rI (v107 - v109) SH S110)) else (∃ v105 S106, G sc MX11_risk 0 [some (.ref 90), none, none] [] SH S104 (rI v105 SH S106) ∧ r = rI v105 SH S106))))))) → G sc MX11_ideal 0 [some (.ref 90), some (.int (I l1))] [] SH S r := by
  refine t_ld (pc := 0) dX11_ideal_0 rfl rfl rfl rfl rfl ?_
  refine t_iconst (pc := 1) dX11_ideal_1 ?_
  refine t_putI (pc := 2) dX11_ideal_2 rfl rfl (Or.inl rfl) h0.1 rfl ?_
  refine t_ld (pc := 5) dX11_ideal_5 rfl rfl rfl rfl rfl ?_
  refine t_ld (pc := 6) dX11_ideal_6 rfl rfl rfl rfl rfl ?_
  refine t_iconst (pc := 7) dX11_ideal_7 ?_
  refine t_iconst (pc := 8) dX11_ideal_8 ?_
  refine t_scIN (pc := 9) dX11_ideal_9 rfl [.ref 90] rfl rfl ⟨rfl, by decide, Nat.le_of_ble_eq_true rfl⟩ fun v101 S102 => ?_
  refine t_iconst (pc := 12) dX11_ideal_12 ?_
  refine t_vcIN (pc := 13) dX11_ideal_13 rfl rfl [] rfl rfl ⟨rfl, by decide, Nat.le_of_ble_eq_true rfl⟩ h0.1 fun v103 S104 => ?_
  refine t_if_ne (pc := 16) 21 dX11_ideal_16 rfl ?_ ?_
  · refine t_ld (pc := 21) dX11_ideal_21 rfl rfl rfl rfl rfl ?_
    refine t_if_ne (pc := 22) 32 dX11_ideal_22 rfl ?_ ?_
    · refine t_ld (pc := 32) dX11_ideal_32 rfl rfl rfl rfl rfl ?_
      refine t_iconst (pc := 33) dX11_ideal_33 ?_
      refine t_ic_ne (pc := 34) 50 dX11_ideal_34 rfl ?_ ?_
      · refine t_ld (pc := 50) dX11_ideal_50 rfl rfl rfl rfl rfl ?_
        refine t_vcIN (pc := 51) dX11_ideal_51 rfl rfl [] rfl rfl ⟨rfl, by decide, Nat.le_of_ble_eq_true rfl⟩ h0.1 fun v105 S106 => ?_
        exact t_iret (pc := 54) dX11_ideal_54 rfl
      · refine t_ld (pc := 37) dX11_ideal_37 rfl rfl rfl rfl rfl ?_
        refine t_iconst (pc := 38) dX11_ideal_38 ?_
        refine t_vcIN (pc := 39) dX11_ideal_39 rfl rfl [] rfl rfl ⟨rfl, by decide, Nat.le_of_ble_eq_true rfl⟩ h0.1 fun v107 S108 => ?_
        refine t_ld (pc := 42) dX11_ideal_42 rfl rfl rfl rfl rfl ?_
        refine t_vcIN (pc := 43) dX11_ideal_43 rfl rfl [.int (I v107)] rfl rfl ⟨rfl, by decide, Nat.le_of_ble_eq_true rfl⟩ h0.1 fun v109 S110 => ?_
        refine t_isub (pc := 46) dX11_ideal_46 ?_
        refine t_goto (pc := 47) 54 dX11_ideal_47 rfl ?_
        exact t_iret (pc := 54) dX11_ideal_54 rfl
    · refine t_ld (pc := 25) dX11_ideal_25 rfl rfl rfl rfl rfl ?_
      refine t_vcIN (pc := 26) dX11_ideal_26 rfl rfl [] rfl rfl ⟨rfl, by decide, Nat.le_of_ble_eq_true rfl⟩ h0.1 fun v111 S112 => ?_
      refine t_goto (pc := 29) 54 dX11_ideal_29 rfl ?_
      exact t_iret (pc := 54) dX11_ideal_54 rfl
  · refine t_iconst (pc := 19) dX11_ideal_19 ?_
    exact t_iret (pc := 20) dX11_ideal_20 rfl
theorem qX11_probe_0 {sc : Nat × (Nat → Int32)} {SH : List mCell} {S : mStore} {r : mR × mW} (h0 : sMod SH) {l1 : Int} {l2 : Int} {l3 : Int} {l4 : Int} {u5 : Option Value} {u6 : Option Value} : ((∃ v101 S102, G sc MX11_isPage 0 [some (.ref 90), some (.int (I l1)), some (.int (I l2))] [] SH (up S 90 4 0) (rI v101 SH S102) ∧ (if I v101 = I 0 then r = rI 0 SH S102 else (∃ v103 S104, G sc MX11_within 0 [some (.int (I l3)), some (.int (I 0)), some (.int (I 65535))] [] SH S102 (rI v103 SH S104) ∧ (if I v103 = I 0 then (∃ v105 S106, G sc MX11_right 0 [some (.ref 90), some (.int (I 0)), some (.int (I 2))] [] SH S104 (rI v105 SH S106) ∧ (if I v105 = I 0 then r = rI 0 SH S106 else (∃ S107, G sc MX11_tries 0 [some (.ref 90)] [] SH S106 (rV SH S107) ∧ G sc MX11_probe 58 [some (.ref 90), some (.int (I l1)), some (.int (I l2)), some (.int (I l3)), some (.int (I l4)), some (.int (I 0)), u6] [] SH S107 r))) else (∃ v108 S109, G sc MX11_within 0 [some (.int (I l4)), some (.int (I 0)), some (.int (I 40))] [] SH S104 (rI v108 SH S109) ∧ (if I v108 = I 0 then (∃ v110 S111, G sc MX11_right 0 [some (.ref 90), some (.int (I 0)), some (.int (I 2))] [] SH S109 (rI v110 SH S111) ∧ (if I v110 = I 0 then r = rI 0 SH S111 else (∃ S112, G sc MX11_tries 0 [some (.ref 90)] [] SH S111 (rV SH S112) ∧ G sc MX11_probe 58 [some (.ref 90), some (.int (I l1)), some (.int (I l2)), some (.int (I l3)), some (.int (I l4)), some (.int (I 0)), u6] [] SH S112 r))) else (∃ v113 S114, G sc MX11_right 0 [some (.ref 90), some (.int (I 1)), some (.int (I 2))] [] SH S109 (rI v113 SH S114) ∧ (if I v113 = I 0 then r = rI 0 SH S114 else (∃ S115, G sc MX11_tries 0 [some (.ref 90)] [] SH S114 (rV SH S115) ∧ G sc MX11_probe 58 [some (.ref 90), some (.int (I l1)), some (.int (I l2)), some (.int (I l3)), some (.int (I l4)), some (.int (I 0)), u6] [] SH S115 r)))))))))) → G sc MX11_probe 0 [some (.ref 90), some (.int (I l1)), some (.int (I l2)), some (.int (I l3)), some (.int (I l4)), u5, u6] [] SH S r := by
  refine t_ld (pc := 0) dX11_probe_0 rfl rfl rfl rfl rfl ?_
  refine t_iconst (pc := 1) dX11_probe_1 ?_
  refine t_putI (pc := 2) dX11_probe_2 rfl rfl (Or.inl rfl) h0.1 rfl ?_
  refine t_ld (pc := 5) dX11_probe_5 rfl rfl rfl rfl rfl ?_
  refine t_ld (pc := 6) dX11_probe_6 rfl rfl rfl rfl rfl ?_
  refine t_ld (pc := 7) dX11_probe_7 rfl rfl rfl rfl rfl ?_
  refine t_vcIN (pc := 8) dX11_probe_8 rfl rfl [] rfl rfl ⟨rfl, by decide, Nat.le_of_ble_eq_true rfl⟩ h0.1 fun v101 S102 => ?_
  refine t_if_eq (pc := 11) 49 dX11_probe_11 rfl ?_ ?_
  · refine t_iconst (pc := 49) dX11_probe_49 ?_
    exact t_iret (pc := 50) dX11_probe_50 rfl
  · refine t_ld (pc := 14) dX11_probe_14 rfl rfl rfl rfl rfl ?_
    refine t_ld (pc := 15) dX11_probe_15 rfl rfl rfl rfl rfl ?_
    refine t_iconst (pc := 16) dX11_probe_16 ?_
    refine t_push (pc := 17) 65535 dX11_probe_17 rfl (by decide +kernel) ?_
    refine t_scIN (pc := 20) dX11_probe_20 rfl [.ref 90] rfl rfl ⟨rfl, by decide, Nat.le_of_ble_eq_true rfl⟩ fun v103 S104 => ?_
    refine t_if_eq (pc := 23) 41 dX11_probe_23 rfl ?_ ?_
    · refine t_iconst (pc := 41) dX11_probe_41 ?_
      refine t_iconst (pc := 42) dX11_probe_42 ?_
      refine t_vcIN (pc := 43) dX11_probe_43 rfl rfl [] rfl rfl ⟨rfl, by decide, Nat.le_of_ble_eq_true rfl⟩ h0.1 fun v105 S106 => ?_
      refine t_if_ne (pc := 46) 51 dX11_probe_46 rfl ?_ ?_
      · refine t_ld (pc := 51) dX11_probe_51 rfl rfl rfl rfl rfl ?_
        refine t_vcVN (pc := 52) dX11_probe_52 rfl rfl [] rfl rfl ⟨rfl, by decide, Nat.le_of_ble_eq_true rfl⟩ h0.1 fun S107 => ?_
        refine t_iconst (pc := 55) dX11_probe_55 ?_
        refine t_st (pc := 56) [some (.ref 90), some (.int (I l1)), some (.int (I l2)), some (.int (I l3)), some (.int (I l4)), some (.int (I 0)), u6] dX11_probe_56 rfl rfl rfl rfl rfl rfl ?_
        exact id
      · refine t_iconst (pc := 49) dX11_probe_49 ?_
        exact t_iret (pc := 50) dX11_probe_50 rfl
    · refine t_ld (pc := 26) dX11_probe_26 rfl rfl rfl rfl rfl ?_
      refine t_iconst (pc := 28) dX11_probe_28 ?_
      refine t_bipush (pc := 29) dX11_probe_29 (by decide) ?_
      refine t_scIN (pc := 31) dX11_probe_31 rfl [.ref 90] rfl rfl ⟨rfl, by decide, Nat.le_of_ble_eq_true rfl⟩ fun v108 S109 => ?_
      refine t_if_eq (pc := 34) 41 dX11_probe_34 rfl ?_ ?_
      · refine t_iconst (pc := 41) dX11_probe_41 ?_
        refine t_iconst (pc := 42) dX11_probe_42 ?_
        refine t_vcIN (pc := 43) dX11_probe_43 rfl rfl [] rfl rfl ⟨rfl, by decide, Nat.le_of_ble_eq_true rfl⟩ h0.1 fun v110 S111 => ?_
        refine t_if_ne (pc := 46) 51 dX11_probe_46 rfl ?_ ?_
        · refine t_ld (pc := 51) dX11_probe_51 rfl rfl rfl rfl rfl ?_
          refine t_vcVN (pc := 52) dX11_probe_52 rfl rfl [] rfl rfl ⟨rfl, by decide, Nat.le_of_ble_eq_true rfl⟩ h0.1 fun S112 => ?_
          refine t_iconst (pc := 55) dX11_probe_55 ?_
          refine t_st (pc := 56) [some (.ref 90), some (.int (I l1)), some (.int (I l2)), some (.int (I l3)), some (.int (I l4)), some (.int (I 0)), u6] dX11_probe_56 rfl rfl rfl rfl rfl rfl ?_
          exact id
        · refine t_iconst (pc := 49) dX11_probe_49 ?_
          exact t_iret (pc := 50) dX11_probe_50 rfl
      · refine t_iconst (pc := 37) dX11_probe_37 ?_
        refine t_goto (pc := 38) 42 dX11_probe_38 rfl ?_
        refine t_iconst (pc := 42) dX11_probe_42 ?_
        refine t_vcIN (pc := 43) dX11_probe_43 rfl rfl [] rfl rfl ⟨rfl, by decide, Nat.le_of_ble_eq_true rfl⟩ h0.1 fun v113 S114 => ?_
        refine t_if_ne (pc := 46) 51 dX11_probe_46 rfl ?_ ?_
        · refine t_ld (pc := 51) dX11_probe_51 rfl rfl rfl rfl rfl ?_
          refine t_vcVN (pc := 52) dX11_probe_52 rfl rfl [] rfl rfl ⟨rfl, by decide, Nat.le_of_ble_eq_true rfl⟩ h0.1 fun S115 => ?_
          refine t_iconst (pc := 55) dX11_probe_55 ?_
          refine t_st (pc := 56) [some (.ref 90), some (.int (I l1)), some (.int (I l2)), some (.int (I l3)), some (.int (I l4)), some (.int (I 0)), u6] dX11_probe_56 rfl rfl rfl rfl rfl rfl ?_
          exact id
        · refine t_iconst (pc := 49) dX11_probe_49 ?_
          exact t_iret (pc := 50) dX11_probe_50 rfl
theorem qX11_probe_58 {sc : Nat × (Nat → Int32)} {SH : List mCell} {S : mStore} {r : mR × mW} (h0 : sMod SH) {l1 : Int} {l2 : Int} {l3 : Int} {l4 : Int} {l5 : Int} {u6 : Option Value} : ((if I 4 ≤ I l5 then ((0 ≤ l1 ∧ l1 < 5) ∧ (∃ v101 S102, G sc MX11_writes 0 [some (.ref 90), some (.int (I 1654)), some (.int (I ((S 97 l1) + l2))), none, none, none, none] [] SH S (rI v101 SH S102) ∧ (if I v101 = I (-1) then r = rI (-1) SH S102 else (∃ v103 S104, G sc MX11_ticksOf 0 [some (.ref 90), some (.int (I 1654)), some (.int (I l4)), none, none] [] SH S102 (rI v103 SH S104) ∧ ((0 ≤ 1670 + ((S 97 l1) + l2) ∧ 1670 + ((S 97 l1) + l2) < 137400) ∧ (if I (S104 91 (1670 + ((S 97 l1) + l2))) = I (-1) then r = rI 0 SH S104 else ((0 ≤ 2198 + (S104 91 (1670 + ((S 97 l1) + l2))) ∧ 2198 + (S104 91 (1670 + ((S 97 l1) + l2))) < 137400) ∧ r = rI ((S104 91 (2198 + (S104 91 (1670 + ((S 97 l1) + l2))))) - 1) SH S104))))))) else ((0 ≤ l5 ∧ l5 < 4) ∧ G sc MX11_probe 58 [some (.ref 90), some (.int (I l1)), some (.int (I l2)), some (.int (I l3)), some (.int (I l4)), some (.int (I (l5 + 1))), u6] [] SH (up S 101 l5 (ian (isr l3 (12 - (4 * l5))) 15)) r))) → G sc MX11_probe 58 [some (.ref 90), some (.int (I l1)), some (.int (I l2)), some (.int (I l3)), some (.int (I l4)), some (.int (I l5)), u6] [] SH S r := by
  refine t_ld (pc := 58) dX11_probe_58 rfl rfl rfl rfl rfl ?_
  refine t_iconst (pc := 60) dX11_probe_60 ?_
  refine t_ic_ge (pc := 61) 89 dX11_probe_61 rfl ?_ ?_
  · refine t_ld (pc := 89) dX11_probe_89 rfl rfl rfl rfl rfl ?_
    refine t_getR (pc := 90) dX11_probe_90 rfl h0.1 rfl ?_
    refine t_ld (pc := 93) dX11_probe_93 rfl rfl rfl rfl rfl ?_
    refine t_iaload (pc := 94) dX11_probe_94 h0.2.2.2.2.2.2.2.1 ?_
    refine t_ld (pc := 95) dX11_probe_95 rfl rfl rfl rfl rfl ?_
    refine t_iadd (pc := 96) dX11_probe_96 ?_
    refine t_st (pc := 97) [some (.ref 90), some (.int (I l1)), some (.int (I l2)), some (.int (I l3)), some (.int (I l4)), some (.int (I ((S 97 l1) + l2))), u6] dX11_probe_97 rfl rfl rfl rfl rfl rfl ?_
    refine t_ld (pc := 99) dX11_probe_99 rfl rfl rfl rfl rfl ?_
    refine t_sipush (pc := 100) dX11_probe_100 (by decide) ?_
    refine t_ld (pc := 103) dX11_probe_103 rfl rfl rfl rfl rfl ?_
    refine t_vcIN (pc := 105) dX11_probe_105 rfl rfl [] rfl rfl ⟨rfl, by decide, Nat.le_of_ble_eq_true rfl⟩ h0.1 fun v101 S102 => ?_
    refine t_iconst (pc := 108) dX11_probe_108 ?_
    refine t_ic_ne (pc := 109) 114 dX11_probe_109 rfl ?_ ?_
    · refine t_ld (pc := 114) dX11_probe_114 rfl rfl rfl rfl rfl ?_
      refine t_sipush (pc := 115) dX11_probe_115 (by decide) ?_
      refine t_ld (pc := 118) dX11_probe_118 rfl rfl rfl rfl rfl ?_
      refine t_vcIN (pc := 120) dX11_probe_120 rfl rfl [] rfl rfl ⟨rfl, by decide, Nat.le_of_ble_eq_true rfl⟩ h0.1 fun v103 S104 => ?_
      refine t_pop (pc := 123) dX11_probe_123 rfl ?_
      refine t_ld (pc := 124) dX11_probe_124 rfl rfl rfl rfl rfl ?_
      refine t_getR (pc := 125) dX11_probe_125 rfl h0.1 rfl ?_
      refine t_sipush (pc := 128) dX11_probe_128 (by decide) ?_
      refine t_ld (pc := 131) dX11_probe_131 rfl rfl rfl rfl rfl ?_
      refine t_iadd (pc := 133) dX11_probe_133 ?_
      refine t_iaload (pc := 134) dX11_probe_134 h0.2.1 ?_
      refine t_st (pc := 135) [some (.ref 90), some (.int (I l1)), some (.int (I l2)), some (.int (I l3)), some (.int (I l4)), some (.int (I ((S 97 l1) + l2))), some (.int (I (S104 91 (1670 + ((S 97 l1) + l2)))))] dX11_probe_135 rfl rfl rfl rfl rfl rfl ?_
      refine t_ld (pc := 137) dX11_probe_137 rfl rfl rfl rfl rfl ?_
      refine t_iconst (pc := 139) dX11_probe_139 ?_
      refine t_ic_ne (pc := 140) 147 dX11_probe_140 rfl ?_ ?_
      · refine t_ld (pc := 147) dX11_probe_147 rfl rfl rfl rfl rfl ?_
        refine t_getR (pc := 148) dX11_probe_148 rfl h0.1 rfl ?_
        refine t_sipush (pc := 151) dX11_probe_151 (by decide) ?_
        refine t_ld (pc := 154) dX11_probe_154 rfl rfl rfl rfl rfl ?_
        refine t_iadd (pc := 156) dX11_probe_156 ?_
        refine t_iaload (pc := 157) dX11_probe_157 h0.2.1 ?_
        refine t_iconst (pc := 158) dX11_probe_158 ?_
        refine t_isub (pc := 159) dX11_probe_159 ?_
        exact t_iret (pc := 160) dX11_probe_160 rfl
      · refine t_iconst (pc := 143) dX11_probe_143 ?_
        refine t_goto (pc := 144) 160 dX11_probe_144 rfl ?_
        exact t_iret (pc := 160) dX11_probe_160 rfl
    · refine t_iconst (pc := 112) dX11_probe_112 ?_
      exact t_iret (pc := 113) dX11_probe_113 rfl
  · refine t_ld (pc := 64) dX11_probe_64 rfl rfl rfl rfl rfl ?_
    refine t_getR (pc := 65) dX11_probe_65 rfl h0.1 rfl ?_
    refine t_ld (pc := 68) dX11_probe_68 rfl rfl rfl rfl rfl ?_
    refine t_ld (pc := 70) dX11_probe_70 rfl rfl rfl rfl rfl ?_
    refine t_bipush (pc := 71) dX11_probe_71 (by decide) ?_
    refine t_iconst (pc := 73) dX11_probe_73 ?_
    refine t_ld (pc := 74) dX11_probe_74 rfl rfl rfl rfl rfl ?_
    refine t_imul (pc := 76) dX11_probe_76 ?_
    refine t_isub (pc := 77) dX11_probe_77 ?_
    refine t_ishr (pc := 78) dX11_probe_78 ?_
    refine t_bipush (pc := 79) dX11_probe_79 (by decide) ?_
    refine t_iand (pc := 81) dX11_probe_81 ?_
    refine t_iastore (pc := 82) dX11_probe_82 h0.2.2.2.2.2.2.2.2.2.2.2.1 ?_
    refine t_iinc (pc := 83) [some (.ref 90), some (.int (I l1)), some (.int (I l2)), some (.int (I l3)), some (.int (I l4)), some (.int (I (l5 + 1))), u6] dX11_probe_83 rfl rfl ?_
    refine t_goto (pc := 86) 58 dX11_probe_86 rfl ?_
    exact id
theorem qX11_toAdvise_0 {sc : Nat × (Nat → Int32)} {SH : List mCell} {S : mStore} {r : mR × mW} (h0 : sMod SH) {l1 : Int} {l2 : Int} {u3 : Option Value} {u4 : Option Value} {u5 : Option Value} {u6 : Option Value} : ((∃ v101 S102, G sc MX11_within 0 [some (.int (I l2)), some (.int (I 0)), some (.int (I 1))] [] SH (up S 90 4 0) (rI v101 SH S102) ∧ (∃ v103 S104, G sc MX11_right 0 [some (.ref 90), some (.int (I v101)), some (.int (I 1))] [] SH S102 (rI v103 SH S104) ∧ (if I v103 = I 0 then r = rI 0 SH S104 else (∃ v105 S106, G sc MX11_within 0 [some (.int (I l1)), some (.int (I 0)), some (.int (I 40))] [] SH S104 (rI v105 SH S106) ∧ (∃ v107 S108, G sc MX11_right 0 [some (.ref 90), some (.int (I v105)), some (.int (I 2))] [] SH S106 (rI v107 SH S108) ∧ (if I v107 = I 0 then r = rI 0 SH S108 else G sc MX11_toAdvise 44 [some (.ref 90), some (.int (I l1)), some (.int (I l2)), some (.int (I (-1))), some (.int (I (-1))), some (.int (I 0)), u6] [] SH S108 r))))))) → G sc MX11_toAdvise 0 [some (.ref 90), some (.int (I l1)), some (.int (I l2)), u3, u4, u5, u6] [] SH S r := by
  refine t_ld (pc := 0) dX11_toAdvise_0 rfl rfl rfl rfl rfl ?_
  refine t_iconst (pc := 1) dX11_toAdvise_1 ?_
  refine t_putI (pc := 2) dX11_toAdvise_2 rfl rfl (Or.inl rfl) h0.1 rfl ?_
  refine t_ld (pc := 5) dX11_toAdvise_5 rfl rfl rfl rfl rfl ?_
  refine t_ld (pc := 6) dX11_toAdvise_6 rfl rfl rfl rfl rfl ?_
  refine t_iconst (pc := 7) dX11_toAdvise_7 ?_
  refine t_iconst (pc := 8) dX11_toAdvise_8 ?_
  refine t_scIN (pc := 9) dX11_toAdvise_9 rfl [.ref 90] rfl rfl ⟨rfl, by decide, Nat.le_of_ble_eq_true rfl⟩ fun v101 S102 => ?_
  refine t_iconst (pc := 12) dX11_toAdvise_12 ?_
  refine t_vcIN (pc := 13) dX11_toAdvise_13 rfl rfl [] rfl rfl ⟨rfl, by decide, Nat.le_of_ble_eq_true rfl⟩ h0.1 fun v103 S104 => ?_
  refine t_if_eq (pc := 16) 34 dX11_toAdvise_16 rfl ?_ ?_
  · refine t_iconst (pc := 34) dX11_toAdvise_34 ?_
    exact t_iret (pc := 35) dX11_toAdvise_35 rfl
  · refine t_ld (pc := 19) dX11_toAdvise_19 rfl rfl rfl rfl rfl ?_
    refine t_ld (pc := 20) dX11_toAdvise_20 rfl rfl rfl rfl rfl ?_
    refine t_iconst (pc := 21) dX11_toAdvise_21 ?_
    refine t_bipush (pc := 22) dX11_toAdvise_22 (by decide) ?_
    refine t_scIN (pc := 24) dX11_toAdvise_24 rfl [.ref 90] rfl rfl ⟨rfl, by decide, Nat.le_of_ble_eq_true rfl⟩ fun v105 S106 => ?_
    refine t_iconst (pc := 27) dX11_toAdvise_27 ?_
    refine t_vcIN (pc := 28) dX11_toAdvise_28 rfl rfl [] rfl rfl ⟨rfl, by decide, Nat.le_of_ble_eq_true rfl⟩ h0.1 fun v107 S108 => ?_
    refine t_if_ne (pc := 31) 36 dX11_toAdvise_31 rfl ?_ ?_
    · refine t_iconst (pc := 36) dX11_toAdvise_36 ?_
      refine t_st (pc := 37) [some (.ref 90), some (.int (I l1)), some (.int (I l2)), some (.int (I (-1))), u4, u5, u6] dX11_toAdvise_37 rfl rfl rfl rfl rfl rfl ?_
      refine t_iconst (pc := 38) dX11_toAdvise_38 ?_
      refine t_st (pc := 39) [some (.ref 90), some (.int (I l1)), some (.int (I l2)), some (.int (I (-1))), some (.int (I (-1))), u5, u6] dX11_toAdvise_39 rfl rfl rfl rfl rfl rfl ?_
      refine t_iconst (pc := 41) dX11_toAdvise_41 ?_
      refine t_st (pc := 42) [some (.ref 90), some (.int (I l1)), some (.int (I l2)), some (.int (I (-1))), some (.int (I (-1))), some (.int (I 0)), u6] dX11_toAdvise_42 rfl rfl rfl rfl rfl rfl ?_
      exact id
    · refine t_iconst (pc := 34) dX11_toAdvise_34 ?_
      exact t_iret (pc := 35) dX11_toAdvise_35 rfl
theorem qX11_toAdvise_44 {sc : Nat × (Nat → Int32)} {SH : List mCell} {S : mStore} {r : mR × mW} (h0 : sMod SH) {l1 : Int} {l2 : Int} {l3 : Int} {l4 : Int} {l5 : Int} {u6 : Option Value} : ((if I (S 90 18) ≤ I l5 then (if I l2 = I 0 then r = rI l3 SH S else r = rI l4 SH S) else (∃ S101, G sc MX11_tries 0 [some (.ref 90)] [] SH S (rV SH S101) ∧ ((0 ≤ l5 ∧ l5 < 5) ∧ ((0 ≤ l5 ∧ l5 < 5) ∧ ((0 ≤ l5 ∧ l5 < 4) ∧ (∃ v102 S103, G sc MX11_advises 0 [some (.ref 90), some (.int (I 1654)), some (.int (I (S101 97 l5))), some (.int (I (((S101 97 l5) + (S101 95 l5)) - 1))), some (.int (I 1)), none, none] [] SH S101 (rI v102 SH S103) ∧ (∃ v104 S105, G sc MX11_ticksOf 0 [some (.ref 90), some (.int (I 1654)), some (.int (I l1)), none, none] [] SH S103 (rI v104 SH S105) ∧ (∃ v106 S107, G sc MX11_usedOf 0 [some (.ref 90), some (.int (I 1654)), none, none] [] SH S105 (rI v106 SH S107) ∧ (if I l3 = I (-1) then G sc MX11_toAdvise 44 [some (.ref 90), some (.int (I l1)), some (.int (I l2)), some (.int (I l5)), some (.int (I v106)), some (.int (I (l5 + 1))), some (.int (I v106))] [] SH S107 r else (if I v106 < I l4 then G sc MX11_toAdvise 44 [some (.ref 90), some (.int (I l1)), some (.int (I l2)), some (.int (I l5)), some (.int (I v106)), some (.int (I (l5 + 1))), some (.int (I v106))] [] SH S107 r else G sc MX11_toAdvise 44 [some (.ref 90), some (.int (I l1)), some (.int (I l2)), some (.int (I l3)), some (.int (I l4)), some (.int (I (l5 + 1))), some (.int (I v106))] [] SH S107 r))))))))))) → G sc MX11_toAdvise 44 [some (.ref 90), some (.int (I l1)), some (.int (I l2)), some (.int (I l3)), some (.int (I l4)), some (.int (I l5)), u6] [] SH S r := by
  refine t_ld (pc := 44) dX11_toAdvise_44 rfl rfl rfl rfl rfl ?_
  refine t_ld (pc := 46) dX11_toAdvise_46 rfl rfl rfl rfl rfl ?_
  refine t_getI (pc := 47) dX11_toAdvise_47 rfl h0.1 rfl ?_
  refine t_ic_ge (pc := 50) 136 dX11_toAdvise_50 rfl ?_ ?_
  · refine t_ld (pc := 136) dX11_toAdvise_136 rfl rfl rfl rfl rfl ?_
    refine t_if_ne (pc := 137) 144 dX11_toAdvise_137 rfl ?_ ?_
    · refine t_ld (pc := 144) dX11_toAdvise_144 rfl rfl rfl rfl rfl ?_
      exact t_iret (pc := 146) dX11_toAdvise_146 rfl
    · refine t_ld (pc := 140) dX11_toAdvise_140 rfl rfl rfl rfl rfl ?_
      refine t_goto (pc := 141) 146 dX11_toAdvise_141 rfl ?_
      exact t_iret (pc := 146) dX11_toAdvise_146 rfl
  · refine t_ld (pc := 53) dX11_toAdvise_53 rfl rfl rfl rfl rfl ?_
    refine t_vcVN (pc := 54) dX11_toAdvise_54 rfl rfl [] rfl rfl ⟨rfl, by decide, Nat.le_of_ble_eq_true rfl⟩ h0.1 fun S101 => ?_
    refine t_ld (pc := 57) dX11_toAdvise_57 rfl rfl rfl rfl rfl ?_
    refine t_sipush (pc := 58) dX11_toAdvise_58 (by decide) ?_
    refine t_ld (pc := 61) dX11_toAdvise_61 rfl rfl rfl rfl rfl ?_
    refine t_getR (pc := 62) dX11_toAdvise_62 rfl h0.1 rfl ?_
    refine t_ld (pc := 65) dX11_toAdvise_65 rfl rfl rfl rfl rfl ?_
    refine t_iaload (pc := 67) dX11_toAdvise_67 h0.2.2.2.2.2.2.2.1 ?_
    refine t_ld (pc := 68) dX11_toAdvise_68 rfl rfl rfl rfl rfl ?_
    refine t_getR (pc := 69) dX11_toAdvise_69 rfl h0.1 rfl ?_
    refine t_ld (pc := 72) dX11_toAdvise_72 rfl rfl rfl rfl rfl ?_
    refine t_iaload (pc := 74) dX11_toAdvise_74 h0.2.2.2.2.2.2.2.1 ?_
    refine t_ld (pc := 75) dX11_toAdvise_75 rfl rfl rfl rfl rfl ?_
    refine t_getR (pc := 76) dX11_toAdvise_76 rfl h0.1 rfl ?_
    refine t_ld (pc := 79) dX11_toAdvise_79 rfl rfl rfl rfl rfl ?_
    refine t_iaload (pc := 81) dX11_toAdvise_81 h0.2.2.2.2.2.1 ?_
    refine t_iadd (pc := 82) dX11_toAdvise_82 ?_
    refine t_iconst (pc := 83) dX11_toAdvise_83 ?_
    refine t_isub (pc := 84) dX11_toAdvise_84 ?_
    refine t_iconst (pc := 85) dX11_toAdvise_85 ?_
    refine t_vcIN (pc := 86) dX11_toAdvise_86 rfl rfl [] rfl rfl ⟨rfl, by decide, Nat.le_of_ble_eq_true rfl⟩ h0.1 fun v102 S103 => ?_
    refine t_pop (pc := 89) dX11_toAdvise_89 rfl ?_
    refine t_ld (pc := 90) dX11_toAdvise_90 rfl rfl rfl rfl rfl ?_
    refine t_sipush (pc := 91) dX11_toAdvise_91 (by decide) ?_
    refine t_ld (pc := 94) dX11_toAdvise_94 rfl rfl rfl rfl rfl ?_
    refine t_vcIN (pc := 95) dX11_toAdvise_95 rfl rfl [] rfl rfl ⟨rfl, by decide, Nat.le_of_ble_eq_true rfl⟩ h0.1 fun v104 S105 => ?_
    refine t_pop (pc := 98) dX11_toAdvise_98 rfl ?_
    refine t_ld (pc := 99) dX11_toAdvise_99 rfl rfl rfl rfl rfl ?_
    refine t_sipush (pc := 100) dX11_toAdvise_100 (by decide) ?_
    refine t_vcIN (pc := 103) dX11_toAdvise_103 rfl rfl [] rfl rfl ⟨rfl, by decide, Nat.le_of_ble_eq_true rfl⟩ h0.1 fun v106 S107 => ?_
    refine t_st (pc := 106) [some (.ref 90), some (.int (I l1)), some (.int (I l2)), some (.int (I l3)), some (.int (I l4)), some (.int (I l5)), some (.int (I v106))] dX11_toAdvise_106 rfl rfl rfl rfl rfl rfl ?_
    refine t_ld (pc := 108) dX11_toAdvise_108 rfl rfl rfl rfl rfl ?_
    refine t_iconst (pc := 109) dX11_toAdvise_109 ?_
    refine t_ic_eq (pc := 110) 123 dX11_toAdvise_110 rfl ?_ ?_
    · refine t_ld (pc := 123) dX11_toAdvise_123 rfl rfl rfl rfl rfl ?_
      refine t_st (pc := 125) [some (.ref 90), some (.int (I l1)), some (.int (I l2)), some (.int (I l5)), some (.int (I l4)), some (.int (I l5)), some (.int (I v106))] dX11_toAdvise_125 rfl rfl rfl rfl rfl rfl ?_
      refine t_ld (pc := 126) dX11_toAdvise_126 rfl rfl rfl rfl rfl ?_
      refine t_st (pc := 128) [some (.ref 90), some (.int (I l1)), some (.int (I l2)), some (.int (I l5)), some (.int (I v106)), some (.int (I l5)), some (.int (I v106))] dX11_toAdvise_128 rfl rfl rfl rfl rfl rfl ?_
      refine t_iinc (pc := 130) [some (.ref 90), some (.int (I l1)), some (.int (I l2)), some (.int (I l5)), some (.int (I v106)), some (.int (I (l5 + 1))), some (.int (I v106))] dX11_toAdvise_130 rfl rfl ?_
      refine t_goto (pc := 133) 44 dX11_toAdvise_133 rfl ?_
      exact id
    · refine t_ld (pc := 113) dX11_toAdvise_113 rfl rfl rfl rfl rfl ?_
      refine t_ld (pc := 115) dX11_toAdvise_115 rfl rfl rfl rfl rfl ?_
      refine t_ic_lt (pc := 117) 123 dX11_toAdvise_117 rfl ?_ ?_
      · refine t_ld (pc := 123) dX11_toAdvise_123 rfl rfl rfl rfl rfl ?_
        refine t_st (pc := 125) [some (.ref 90), some (.int (I l1)), some (.int (I l2)), some (.int (I l5)), some (.int (I l4)), some (.int (I l5)), some (.int (I v106))] dX11_toAdvise_125 rfl rfl rfl rfl rfl rfl ?_
        refine t_ld (pc := 126) dX11_toAdvise_126 rfl rfl rfl rfl rfl ?_
        refine t_st (pc := 128) [some (.ref 90), some (.int (I l1)), some (.int (I l2)), some (.int (I l5)), some (.int (I v106)), some (.int (I l5)), some (.int (I v106))] dX11_toAdvise_128 rfl rfl rfl rfl rfl rfl ?_
        refine t_iinc (pc := 130) [some (.ref 90), some (.int (I l1)), some (.int (I l2)), some (.int (I l5)), some (.int (I v106)), some (.int (I (l5 + 1))), some (.int (I v106))] dX11_toAdvise_130 rfl rfl ?_
        refine t_goto (pc := 133) 44 dX11_toAdvise_133 rfl ?_
        exact id
      · refine t_goto (pc := 120) 130 dX11_toAdvise_120 rfl ?_
        refine t_iinc (pc := 130) [some (.ref 90), some (.int (I l1)), some (.int (I l2)), some (.int (I l3)), some (.int (I l4)), some (.int (I (l5 + 1))), some (.int (I v106))] dX11_toAdvise_130 rfl rfl ?_
        refine t_goto (pc := 133) 44 dX11_toAdvise_133 rfl ?_
        exact id
