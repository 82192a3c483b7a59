-- needs: 43.tshape
/-! ===== the program as conditions (gen_vc.py) ===== -/
theorem qX11_risk_0 {sc : Nat × (Nat → Int32)} {SH : List mCell} {S : mStore} {r : mR × mW} (h0 : sMod SH) {u1 : Option Value} {u2 : Option Value} : ((∃ v101 S102, G sc MX11_absent 0 [some (.ref 90), some (.int (I 0)), some (.int (I (S 90 19))), none, none] [] SH S (rI v101 SH S102) ∧ G sc MX11_risk 12 [some (.ref 90), some (.int (I v101)), some (.int (I 0))] [] SH S102 r)) → G sc MX11_risk 0 [some (.ref 90), u1, u2] [] SH S r := by
  refine tt_ld (M := MX11_risk) (pc := 0) dX11_risk_0 rfl rfl rfl rfl rfl ?_
  refine tt_iconst (M := MX11_risk) (pc := 1) dX11_risk_1 ?_
  refine tt_ld (M := MX11_risk) (pc := 2) dX11_risk_2 rfl rfl rfl rfl rfl ?_
  refine tt_getI (M := MX11_risk) (pc := 3) dX11_risk_3 rfl h0.1 rfl ?_
  refine tt_vcIN (M := MX11_risk) (pc := 6) dX11_risk_6 rfl rfl [] rfl rfl ⟨rfl, by decide, Nat.le_of_ble_eq_true rfl⟩ h0.1 fun v101 S102 => ?_
  refine tt_st (M := MX11_risk) (pc := 9) [some (.ref 90), some (.int (I v101)), u2] dX11_risk_9 rfl rfl rfl rfl rfl rfl ?_
  refine tt_iconst (M := MX11_risk) (pc := 10) dX11_risk_10 ?_
  refine tt_st (M := MX11_risk) (pc := 11) [some (.ref 90), some (.int (I v101)), some (.int (I 0))] dX11_risk_11 rfl rfl rfl rfl rfl rfl ?_
  exact id
theorem qX11_risk_12 {sc : Nat × (Nat → Int32)} {SH : List mCell} {S : mStore} {r : mR × mW} (h0 : sMod SH) {l1 : Int} {l2 : Int} : ((if I (S 90 12) ≤ I l2 then (∃ v101 S102, G sc MX11_usedOf 0 [some (.ref 90), some (.int (I 0)), none, none] [] SH S (rI v101 SH S102) ∧ (if I l1 ≤ I ((S 90 12) - v101) then r = rI (-1) SH S102 else r = rI (((S 90 12) - v101) + 1) SH S102)) else (((0 : Int) ≤ 976 + l2 ∧ 976 + l2 < 137400) ∧ (if I (S 91 (976 + l2)) = I (-1) then G sc MX11_risk 12 [some (.ref 90), some (.int (I (l1 + 0))), some (.int (I (l2 + 1)))] [] SH S r else (((0 : Int) ≤ 544 + l2 ∧ 544 + l2 < 137400) ∧ G sc MX11_risk 12 [some (.ref 90), some (.int (I (l1 + ((S 91 (544 + l2)) - 1)))), some (.int (I (l2 + 1)))] [] SH S r))))) → G sc MX11_risk 12 [some (.ref 90), some (.int (I l1)), some (.int (I l2))] [] SH S r := by
  refine tt_ld (M := MX11_risk) (pc := 12) dX11_risk_12 rfl rfl rfl rfl rfl ?_
  refine tt_ld (M := MX11_risk) (pc := 13) dX11_risk_13 rfl rfl rfl rfl rfl ?_
  refine tt_getI (M := MX11_risk) (pc := 14) dX11_risk_14 rfl h0.1 rfl ?_
  refine tt_ic_ge (M := MX11_risk) (pc := 17) 59 dX11_risk_17 rfl ?_ ?_
  · refine tt_ld (M := MX11_risk) (pc := 59) dX11_risk_59 rfl rfl rfl rfl rfl ?_
    refine tt_getI (M := MX11_risk) (pc := 60) dX11_risk_60 rfl h0.1 rfl ?_
    refine tt_ld (M := MX11_risk) (pc := 63) dX11_risk_63 rfl rfl rfl rfl rfl ?_
    refine tt_iconst (M := MX11_risk) (pc := 64) dX11_risk_64 ?_
    refine tt_vcIN (M := MX11_risk) (pc := 65) dX11_risk_65 rfl rfl [.int (I (S 90 12))] rfl rfl ⟨rfl, by decide, Nat.le_of_ble_eq_true rfl⟩ h0.1 fun v101 S102 => ?_
    refine tt_isub (M := MX11_risk) (pc := 68) dX11_risk_68 ?_
    refine tt_st (M := MX11_risk) (pc := 69) [some (.ref 90), some (.int (I l1)), some (.int (I ((S 90 12) - v101)))] dX11_risk_69 rfl rfl rfl rfl rfl rfl ?_
    refine tt_ld (M := MX11_risk) (pc := 70) dX11_risk_70 rfl rfl rfl rfl rfl ?_
    refine tt_ld (M := MX11_risk) (pc := 71) dX11_risk_71 rfl rfl rfl rfl rfl ?_
    refine tt_ic_le (M := MX11_risk) (pc := 72) 81 dX11_risk_72 rfl ?_ ?_
    · refine tt_iconst (M := MX11_risk) (pc := 81) dX11_risk_81 ?_
      exact tt_iret (M := MX11_risk) (pc := 82) dX11_risk_82 rfl
    · refine tt_ld (M := MX11_risk) (pc := 75) dX11_risk_75 rfl rfl rfl rfl rfl ?_
      refine tt_iconst (M := MX11_risk) (pc := 76) dX11_risk_76 ?_
      refine tt_iadd (M := MX11_risk) (pc := 77) dX11_risk_77 ?_
      refine tt_goto (M := MX11_risk) (pc := 78) 82 dX11_risk_78 rfl ?_
      exact tt_iret (M := MX11_risk) (pc := 82) dX11_risk_82 rfl
  · refine tt_ld (M := MX11_risk) (pc := 20) dX11_risk_20 rfl rfl rfl rfl rfl ?_
    refine tt_ld (M := MX11_risk) (pc := 21) dX11_risk_21 rfl rfl rfl rfl rfl ?_
    refine tt_getR (M := MX11_risk) (pc := 22) dX11_risk_22 rfl h0.1 rfl ?_
    refine tt_sipush (M := MX11_risk) (pc := 25) dX11_risk_25 (by decide) ?_
    refine tt_ld (M := MX11_risk) (pc := 28) dX11_risk_28 rfl rfl rfl rfl rfl ?_
    refine tt_iadd (M := MX11_risk) (pc := 29) dX11_risk_29 ?_
    refine tt_iaload (M := MX11_risk) (pc := 30) dX11_risk_30 h0.2.1 rfl ?_
    refine tt_iconst (M := MX11_risk) (pc := 31) dX11_risk_31 ?_
    refine tt_ic_eq (M := MX11_risk) (pc := 32) 50 dX11_risk_32 rfl ?_ ?_
    · refine tt_iconst (M := MX11_risk) (pc := 50) dX11_risk_50 ?_
      refine tt_iadd (M := MX11_risk) (pc := 51) dX11_risk_51 ?_
      refine tt_st (M := MX11_risk) (pc := 52) [some (.ref 90), some (.int (I (l1 + 0))), some (.int (I l2))] dX11_risk_52 rfl rfl rfl rfl rfl rfl ?_
      refine tt_iinc (M := MX11_risk) (pc := 53) [some (.ref 90), some (.int (I (l1 + 0))), some (.int (I (l2 + 1)))] dX11_risk_53 rfl rfl ?_
      refine tt_goto (M := MX11_risk) (pc := 56) 12 dX11_risk_56 rfl ?_
      exact id
    · refine tt_ld (M := MX11_risk) (pc := 35) dX11_risk_35 rfl rfl rfl rfl rfl ?_
      refine tt_getR (M := MX11_risk) (pc := 36) dX11_risk_36 rfl h0.1 rfl ?_
      refine tt_sipush (M := MX11_risk) (pc := 39) dX11_risk_39 (by decide) ?_
      refine tt_ld (M := MX11_risk) (pc := 42) dX11_risk_42 rfl rfl rfl rfl rfl ?_
      refine tt_iadd (M := MX11_risk) (pc := 43) dX11_risk_43 ?_
      refine tt_iaload (M := MX11_risk) (pc := 44) dX11_risk_44 h0.2.1 rfl ?_
      refine tt_iconst (M := MX11_risk) (pc := 45) dX11_risk_45 ?_
      refine tt_isub (M := MX11_risk) (pc := 46) dX11_risk_46 ?_
      refine tt_goto (M := MX11_risk) (pc := 47) 51 dX11_risk_47 rfl ?_
      refine tt_iadd (M := MX11_risk) (pc := 51) dX11_risk_51 ?_
      refine tt_st (M := MX11_risk) (pc := 52) [some (.ref 90), some (.int (I (l1 + ((S 91 (544 + l2)) - 1)))), some (.int (I l2))] dX11_risk_52 rfl rfl rfl rfl rfl rfl ?_
      refine tt_iinc (M := MX11_risk) (pc := 53) [some (.ref 90), some (.int (I (l1 + ((S 91 (544 + l2)) - 1)))), some (.int (I (l2 + 1)))] dX11_risk_53 rfl rfl ?_
      refine tt_goto (M := MX11_risk) (pc := 56) 12 dX11_risk_56 rfl ?_
      exact id
theorem qX11_ideal_0 {sc : Nat × (Nat → Int32)} {SH : List mCell} {S : mStore} {r : mR × mW} (h0 : sMod SH) {l1 : Int} : ((∃ v101 S102, G sc MX11_within 0 [some (.int (I l1)), some (.int (I 0)), some (.int (I 2))] [] SH (up S 90 4 0) (rI v101 SH S102) ∧ (∃ v103 S104, G sc MX11_right 0 [some (.ref 90), some (.int (I v101)), some (.int (I 1))] [] SH S102 (rI v103 SH S104) ∧ (if I v103 = I 0 then r = rI 0 SH S104 else (if I l1 = I 0 then (∃ v111 S112, G sc MX11_least 0 [some (.ref 90), none, none, none] [] SH S104 (rI v111 SH S112) ∧ r = rI v111 SH S112) else (if I l1 = I 1 then (∃ v107 S108, G sc MX11_usedOf 0 [some (.ref 90), some (.int (I 0)), none, none] [] SH S104 (rI v107 SH S108) ∧ (∃ v109 S110, G sc MX11_least 0 [some (.ref 90), none, none, none] [] SH S108 (rI v109 SH S110) ∧ r = rI (v107 - v109) SH S110)) else (∃ v105 S106, G sc MX11_risk 0 [some (.ref 90), none, none] [] SH S104 (rI v105 SH S106) ∧ r = rI v105 SH S106))))))) → G sc MX11_ideal 0 [some (.ref 90), some (.int (I l1))] [] SH S r := by
  refine tt_ld (M := MX11_ideal) (pc := 0) dX11_ideal_0 rfl rfl rfl rfl rfl ?_
  refine tt_iconst (M := MX11_ideal) (pc := 1) dX11_ideal_1 ?_
  refine tt_putI (M := MX11_ideal) (pc := 2) dX11_ideal_2 rfl rfl (Or.inl rfl) h0.1 rfl ?_
  refine tt_ld (M := MX11_ideal) (pc := 5) dX11_ideal_5 rfl rfl rfl rfl rfl ?_
  refine tt_ld (M := MX11_ideal) (pc := 6) dX11_ideal_6 rfl rfl rfl rfl rfl ?_
  refine tt_iconst (M := MX11_ideal) (pc := 7) dX11_ideal_7 ?_
  refine tt_iconst (M := MX11_ideal) (pc := 8) dX11_ideal_8 ?_
  refine tt_scIN (M := MX11_ideal) (pc := 9) dX11_ideal_9 rfl [.ref 90] rfl rfl ⟨rfl, by decide, Nat.le_of_ble_eq_true rfl⟩ fun v101 S102 => ?_
  refine tt_iconst (M := MX11_ideal) (pc := 12) dX11_ideal_12 ?_
  refine tt_vcIN (M := MX11_ideal) (pc := 13) dX11_ideal_13 rfl rfl [] rfl rfl ⟨rfl, by decide, Nat.le_of_ble_eq_true rfl⟩ h0.1 fun v103 S104 => ?_
  refine tt_if_ne (M := MX11_ideal) (pc := 16) 21 dX11_ideal_16 rfl ?_ ?_
  · refine tt_ld (M := MX11_ideal) (pc := 21) dX11_ideal_21 rfl rfl rfl rfl rfl ?_
    refine tt_if_ne (M := MX11_ideal) (pc := 22) 32 dX11_ideal_22 rfl ?_ ?_
    · refine tt_ld (M := MX11_ideal) (pc := 32) dX11_ideal_32 rfl rfl rfl rfl rfl ?_
      refine tt_iconst (M := MX11_ideal) (pc := 33) dX11_ideal_33 ?_
      refine tt_ic_ne (M := MX11_ideal) (pc := 34) 50 dX11_ideal_34 rfl ?_ ?_
      · refine tt_ld (M := MX11_ideal) (pc := 50) dX11_ideal_50 rfl rfl rfl rfl rfl ?_
        refine tt_vcIN (M := MX11_ideal) (pc := 51) dX11_ideal_51 rfl rfl [] rfl rfl ⟨rfl, by decide, Nat.le_of_ble_eq_true rfl⟩ h0.1 fun v105 S106 => ?_
        exact tt_iret (M := MX11_ideal) (pc := 54) dX11_ideal_54 rfl
      · refine tt_ld (M := MX11_ideal) (pc := 37) dX11_ideal_37 rfl rfl rfl rfl rfl ?_
        refine tt_iconst (M := MX11_ideal) (pc := 38) dX11_ideal_38 ?_
        refine tt_vcIN (M := MX11_ideal) (pc := 39) dX11_ideal_39 rfl rfl [] rfl rfl ⟨rfl, by decide, Nat.le_of_ble_eq_true rfl⟩ h0.1 fun v107 S108 => ?_
        refine tt_ld (M := MX11_ideal) (pc := 42) dX11_ideal_42 rfl rfl rfl rfl rfl ?_
        refine tt_vcIN (M := MX11_ideal) (pc := 43) dX11_ideal_43 rfl rfl [.int (I v107)] rfl rfl ⟨rfl, by decide, Nat.le_of_ble_eq_true rfl⟩ h0.1 fun v109 S110 => ?_
        refine tt_isub (M := MX11_ideal) (pc := 46) dX11_ideal_46 ?_
        refine tt_goto (M := MX11_ideal) (pc := 47) 54 dX11_ideal_47 rfl ?_
        exact tt_iret (M := MX11_ideal) (pc := 54) dX11_ideal_54 rfl
    · refine tt_ld (M := MX11_ideal) (pc := 25) dX11_ideal_25 rfl rfl rfl rfl rfl ?_
      refine tt_vcIN (M := MX11_ideal) (pc := 26) dX11_ideal_26 rfl rfl [] rfl rfl ⟨rfl, by decide, Nat.le_of_ble_eq_true rfl⟩ h0.1 fun v111 S112 => ?_
      refine tt_goto (M := MX11_ideal) (pc := 29) 54 dX11_ideal_29 rfl ?_
      exact tt_iret (M := MX11_ideal) (pc := 54) dX11_ideal_54 rfl
  · refine tt_iconst (M := MX11_ideal) (pc := 19) dX11_ideal_19 ?_
    exact tt_iret (M := MX11_ideal) (pc := 20) dX11_ideal_20 rfl
theorem qX11_probe_0 {sc : Nat × (Nat → Int32)} {SH : List mCell} {S : mStore} {r : mR × mW} (h0 : sMod SH) {l1 : Int} {l2 : Int} {l3 : Int} {l4 : Int} {u5 : Option Value} {u6 : Option Value} : ((∃ v101 S102, G sc MX11_isPage 0 [some (.ref 90), some (.int (I l1)), some (.int (I l2))] [] SH (up S 90 4 0) (rI v101 SH S102) ∧ (if I v101 = I 0 then r = rI 0 SH S102 else (∃ v103 S104, G sc MX11_within 0 [some (.int (I l3)), some (.int (I 0)), some (.int (I 65535))] [] SH S102 (rI v103 SH S104) ∧ (if I v103 = I 0 then (∃ v105 S106, G sc MX11_right 0 [some (.ref 90), some (.int (I 0)), some (.int (I 2))] [] SH S104 (rI v105 SH S106) ∧ (if I v105 = I 0 then r = rI 0 SH S106 else (∃ S107, G sc MX11_tries 0 [some (.ref 90)] [] SH S106 (rV SH S107) ∧ G sc MX11_probe 58 [some (.ref 90), some (.int (I l1)), some (.int (I l2)), some (.int (I l3)), some (.int (I l4)), some (.int (I 0)), u6] [] SH S107 r))) else (∃ v108 S109, G sc MX11_within 0 [some (.int (I l4)), some (.int (I 0)), some (.int (I 40))] [] SH S104 (rI v108 SH S109) ∧ (if I v108 = I 0 then (∃ v110 S111, G sc MX11_right 0 [some (.ref 90), some (.int (I 0)), some (.int (I 2))] [] SH S109 (rI v110 SH S111) ∧ (if I v110 = I 0 then r = rI 0 SH S111 else (∃ S112, G sc MX11_tries 0 [some (.ref 90)] [] SH S111 (rV SH S112) ∧ G sc MX11_probe 58 [some (.ref 90), some (.int (I l1)), some (.int (I l2)), some (.int (I l3)), some (.int (I l4)), some (.int (I 0)), u6] [] SH S112 r))) else (∃ v113 S114, G sc MX11_right 0 [some (.ref 90), some (.int (I 1)), some (.int (I 2))] [] SH S109 (rI v113 SH S114) ∧ (if I v113 = I 0 then r = rI 0 SH S114 else (∃ S115, G sc MX11_tries 0 [some (.ref 90)] [] SH S114 (rV SH S115) ∧ G sc MX11_probe 58 [some (.ref 90), some (.int (I l1)), some (.int (I l2)), some (.int (I l3)), some (.int (I l4)), some (.int (I 0)), u6] [] SH S115 r)))))))))) → G sc MX11_probe 0 [some (.ref 90), some (.int (I l1)), some (.int (I l2)), some (.int (I l3)), some (.int (I l4)), u5, u6] [] SH S r := by
  refine tt_ld (M := MX11_probe) (pc := 0) dX11_probe_0 rfl rfl rfl rfl rfl ?_
  refine tt_iconst (M := MX11_probe) (pc := 1) dX11_probe_1 ?_
  refine tt_putI (M := MX11_probe) (pc := 2) dX11_probe_2 rfl rfl (Or.inl rfl) h0.1 rfl ?_
  refine tt_ld (M := MX11_probe) (pc := 5) dX11_probe_5 rfl rfl rfl rfl rfl ?_
  refine tt_ld (M := MX11_probe) (pc := 6) dX11_probe_6 rfl rfl rfl rfl rfl ?_
  refine tt_ld (M := MX11_probe) (pc := 7) dX11_probe_7 rfl rfl rfl rfl rfl ?_
  refine tt_vcIN (M := MX11_probe) (pc := 8) dX11_probe_8 rfl rfl [] rfl rfl ⟨rfl, by decide, Nat.le_of_ble_eq_true rfl⟩ h0.1 fun v101 S102 => ?_
  refine tt_if_eq (M := MX11_probe) (pc := 11) 49 dX11_probe_11 rfl ?_ ?_
  · refine tt_iconst (M := MX11_probe) (pc := 49) dX11_probe_49 ?_
    exact tt_iret (M := MX11_probe) (pc := 50) dX11_probe_50 rfl
  · refine tt_ld (M := MX11_probe) (pc := 14) dX11_probe_14 rfl rfl rfl rfl rfl ?_
    refine tt_ld (M := MX11_probe) (pc := 15) dX11_probe_15 rfl rfl rfl rfl rfl ?_
    refine tt_iconst (M := MX11_probe) (pc := 16) dX11_probe_16 ?_
    refine tt_push (M := MX11_probe) (pc := 17) 65535 dX11_probe_17 rfl (by decide +kernel) ?_
    refine tt_scIN (M := MX11_probe) (pc := 20) dX11_probe_20 rfl [.ref 90] rfl rfl ⟨rfl, by decide, Nat.le_of_ble_eq_true rfl⟩ fun v103 S104 => ?_
    refine tt_if_eq (M := MX11_probe) (pc := 23) 41 dX11_probe_23 rfl ?_ ?_
    · refine tt_iconst (M := MX11_probe) (pc := 41) dX11_probe_41 ?_
      refine tt_iconst (M := MX11_probe) (pc := 42) dX11_probe_42 ?_
      refine tt_vcIN (M := MX11_probe) (pc := 43) dX11_probe_43 rfl rfl [] rfl rfl ⟨rfl, by decide, Nat.le_of_ble_eq_true rfl⟩ h0.1 fun v105 S106 => ?_
      refine tt_if_ne (M := MX11_probe) (pc := 46) 51 dX11_probe_46 rfl ?_ ?_
      · refine tt_ld (M := MX11_probe) (pc := 51) dX11_probe_51 rfl rfl rfl rfl rfl ?_
        refine tt_vcVN (M := MX11_probe) (pc := 52) dX11_probe_52 rfl rfl [] rfl rfl ⟨rfl, by decide, Nat.le_of_ble_eq_true rfl⟩ h0.1 fun S107 => ?_
        refine tt_iconst (M := MX11_probe) (pc := 55) dX11_probe_55 ?_
        refine tt_st (M := MX11_probe) (pc := 56) [some (.ref 90), some (.int (I l1)), some (.int (I l2)), some (.int (I l3)), some (.int (I l4)), some (.int (I 0)), u6] dX11_probe_56 rfl rfl rfl rfl rfl rfl ?_
        exact id
      · refine tt_iconst (M := MX11_probe) (pc := 49) dX11_probe_49 ?_
        exact tt_iret (M := MX11_probe) (pc := 50) dX11_probe_50 rfl
    · refine tt_ld (M := MX11_probe) (pc := 26) dX11_probe_26 rfl rfl rfl rfl rfl ?_
      refine tt_iconst (M := MX11_probe) (pc := 28) dX11_probe_28 ?_
      refine tt_bipush (M := MX11_probe) (pc := 29) dX11_probe_29 (by decide) ?_
      refine tt_scIN (M := MX11_probe) (pc := 31) dX11_probe_31 rfl [.ref 90] rfl rfl ⟨rfl, by decide, Nat.le_of_ble_eq_true rfl⟩ fun v108 S109 => ?_
      refine tt_if_eq (M := MX11_probe) (pc := 34) 41 dX11_probe_34 rfl ?_ ?_
      · refine tt_iconst (M := MX11_probe) (pc := 41) dX11_probe_41 ?_
        refine tt_iconst (M := MX11_probe) (pc := 42) dX11_probe_42 ?_
        refine tt_vcIN (M := MX11_probe) (pc := 43) dX11_probe_43 rfl rfl [] rfl rfl ⟨rfl, by decide, Nat.le_of_ble_eq_true rfl⟩ h0.1 fun v110 S111 => ?_
        refine tt_if_ne (M := MX11_probe) (pc := 46) 51 dX11_probe_46 rfl ?_ ?_
        · refine tt_ld (M := MX11_probe) (pc := 51) dX11_probe_51 rfl rfl rfl rfl rfl ?_
          refine tt_vcVN (M := MX11_probe) (pc := 52) dX11_probe_52 rfl rfl [] rfl rfl ⟨rfl, by decide, Nat.le_of_ble_eq_true rfl⟩ h0.1 fun S112 => ?_
          refine tt_iconst (M := MX11_probe) (pc := 55) dX11_probe_55 ?_
          refine tt_st (M := MX11_probe) (pc := 56) [some (.ref 90), some (.int (I l1)), some (.int (I l2)), some (.int (I l3)), some (.int (I l4)), some (.int (I 0)), u6] dX11_probe_56 rfl rfl rfl rfl rfl rfl ?_
          exact id
        · refine tt_iconst (M := MX11_probe) (pc := 49) dX11_probe_49 ?_
          exact tt_iret (M := MX11_probe) (pc := 50) dX11_probe_50 rfl
      · refine tt_iconst (M := MX11_probe) (pc := 37) dX11_probe_37 ?_
        refine tt_goto (M := MX11_probe) (pc := 38) 42 dX11_probe_38 rfl ?_
        refine tt_iconst (M := MX11_probe) (pc := 42) dX11_probe_42 ?_
        refine tt_vcIN (M := MX11_probe) (pc := 43) dX11_probe_43 rfl rfl [] rfl rfl ⟨rfl, by decide, Nat.le_of_ble_eq_true rfl⟩ h0.1 fun v113 S114 => ?_
        refine tt_if_ne (M := MX11_probe) (pc := 46) 51 dX11_probe_46 rfl ?_ ?_
        · refine tt_ld (M := MX11_probe) (pc := 51) dX11_probe_51 rfl rfl rfl rfl rfl ?_
          refine tt_vcVN (M := MX11_probe) (pc := 52) dX11_probe_52 rfl rfl [] rfl rfl ⟨rfl, by decide, Nat.le_of_ble_eq_true rfl⟩ h0.1 fun S115 => ?_
          refine tt_iconst (M := MX11_probe) (pc := 55) dX11_probe_55 ?_
          refine tt_st (M := MX11_probe) (pc := 56) [some (.ref 90), some (.int (I l1)), some (.int (I l2)), some (.int (I l3)), some (.int (I l4)), some (.int (I 0)), u6] dX11_probe_56 rfl rfl rfl rfl rfl rfl ?_
          exact id
        · refine tt_iconst (M := MX11_probe) (pc := 49) dX11_probe_49 ?_
          exact tt_iret (M := MX11_probe) (pc := 50) dX11_probe_50 rfl
theorem qX11_probe_58 {sc : Nat × (Nat → Int32)} {SH : List mCell} {S : mStore} {r : mR × mW} (h0 : sMod SH) {l1 : Int} {l2 : Int} {l3 : Int} {l4 : Int} {l5 : Int} {u6 : Option Value} : ((if I 4 ≤ I l5 then (((0 : Int) ≤ l1 ∧ l1 < 5) ∧ (∃ v101 S102, G sc MX11_writes 0 [some (.ref 90), some (.int (I 1654)), some (.int (I ((S 97 l1) + l2))), none, none, none, none] [] SH S (rI v101 SH S102) ∧ (if I v101 = I (-1) then r = rI (-1) SH S102 else (∃ v103 S104, G sc MX11_ticksOf 0 [some (.ref 90), some (.int (I 1654)), some (.int (I l4)), none, none] [] SH S102 (rI v103 SH S104) ∧ (((0 : Int) ≤ 1670 + ((S 97 l1) + l2) ∧ 1670 + ((S 97 l1) + l2) < 137400) ∧ (if I (S104 91 (1670 + ((S 97 l1) + l2))) = I (-1) then r = rI 0 SH S104 else (((0 : Int) ≤ 2198 + (S104 91 (1670 + ((S 97 l1) + l2))) ∧ 2198 + (S104 91 (1670 + ((S 97 l1) + l2))) < 137400) ∧ r = rI ((S104 91 (2198 + (S104 91 (1670 + ((S 97 l1) + l2))))) - 1) SH S104))))))) else (((0 : Int) ≤ l5 ∧ l5 < 4) ∧ G sc MX11_probe 58 [some (.ref 90), some (.int (I l1)), some (.int (I l2)), some (.int (I l3)), some (.int (I l4)), some (.int (I (l5 + 1))), u6] [] SH (up S 101 l5 (ian (isr l3 (12 - (4 * l5))) 15)) r))) → G sc MX11_probe 58 [some (.ref 90), some (.int (I l1)), some (.int (I l2)), some (.int (I l3)), some (.int (I l4)), some (.int (I l5)), u6] [] SH S r := by
  refine tt_ld (M := MX11_probe) (pc := 58) dX11_probe_58 rfl rfl rfl rfl rfl ?_
  refine tt_iconst (M := MX11_probe) (pc := 60) dX11_probe_60 ?_
  refine tt_ic_ge (M := MX11_probe) (pc := 61) 89 dX11_probe_61 rfl ?_ ?_
  · refine tt_ld (M := MX11_probe) (pc := 89) dX11_probe_89 rfl rfl rfl rfl rfl ?_
    refine tt_getR (M := MX11_probe) (pc := 90) dX11_probe_90 rfl h0.1 rfl ?_
    refine tt_ld (M := MX11_probe) (pc := 93) dX11_probe_93 rfl rfl rfl rfl rfl ?_
    refine tt_iaload (M := MX11_probe) (pc := 94) dX11_probe_94 h0.2.2.2.2.2.2.2.1 rfl ?_
    refine tt_ld (M := MX11_probe) (pc := 95) dX11_probe_95 rfl rfl rfl rfl rfl ?_
    refine tt_iadd (M := MX11_probe) (pc := 96) dX11_probe_96 ?_
    refine tt_st (M := MX11_probe) (pc := 97) [some (.ref 90), some (.int (I l1)), some (.int (I l2)), some (.int (I l3)), some (.int (I l4)), some (.int (I ((S 97 l1) + l2))), u6] dX11_probe_97 rfl rfl rfl rfl rfl rfl ?_
    refine tt_ld (M := MX11_probe) (pc := 99) dX11_probe_99 rfl rfl rfl rfl rfl ?_
    refine tt_sipush (M := MX11_probe) (pc := 100) dX11_probe_100 (by decide) ?_
    refine tt_ld (M := MX11_probe) (pc := 103) dX11_probe_103 rfl rfl rfl rfl rfl ?_
    refine tt_vcIN (M := MX11_probe) (pc := 105) dX11_probe_105 rfl rfl [] rfl rfl ⟨rfl, by decide, Nat.le_of_ble_eq_true rfl⟩ h0.1 fun v101 S102 => ?_
    refine tt_iconst (M := MX11_probe) (pc := 108) dX11_probe_108 ?_
    refine tt_ic_ne (M := MX11_probe) (pc := 109) 114 dX11_probe_109 rfl ?_ ?_
    · refine tt_ld (M := MX11_probe) (pc := 114) dX11_probe_114 rfl rfl rfl rfl rfl ?_
      refine tt_sipush (M := MX11_probe) (pc := 115) dX11_probe_115 (by decide) ?_
      refine tt_ld (M := MX11_probe) (pc := 118) dX11_probe_118 rfl rfl rfl rfl rfl ?_
      refine tt_vcIN (M := MX11_probe) (pc := 120) dX11_probe_120 rfl rfl [] rfl rfl ⟨rfl, by decide, Nat.le_of_ble_eq_true rfl⟩ h0.1 fun v103 S104 => ?_
      refine tt_pop (M := MX11_probe) (pc := 123) dX11_probe_123 rfl ?_
      refine tt_ld (M := MX11_probe) (pc := 124) dX11_probe_124 rfl rfl rfl rfl rfl ?_
      refine tt_getR (M := MX11_probe) (pc := 125) dX11_probe_125 rfl h0.1 rfl ?_
      refine tt_sipush (M := MX11_probe) (pc := 128) dX11_probe_128 (by decide) ?_
      refine tt_ld (M := MX11_probe) (pc := 131) dX11_probe_131 rfl rfl rfl rfl rfl ?_
      refine tt_iadd (M := MX11_probe) (pc := 133) dX11_probe_133 ?_
      refine tt_iaload (M := MX11_probe) (pc := 134) dX11_probe_134 h0.2.1 rfl ?_
      refine tt_st (M := MX11_probe) (pc := 135) [some (.ref 90), some (.int (I l1)), some (.int (I l2)), some (.int (I l3)), some (.int (I l4)), some (.int (I ((S 97 l1) + l2))), some (.int (I (S104 91 (1670 + ((S 97 l1) + l2)))))] dX11_probe_135 rfl rfl rfl rfl rfl rfl ?_
      refine tt_ld (M := MX11_probe) (pc := 137) dX11_probe_137 rfl rfl rfl rfl rfl ?_
      refine tt_iconst (M := MX11_probe) (pc := 139) dX11_probe_139 ?_
      refine tt_ic_ne (M := MX11_probe) (pc := 140) 147 dX11_probe_140 rfl ?_ ?_
      · refine tt_ld (M := MX11_probe) (pc := 147) dX11_probe_147 rfl rfl rfl rfl rfl ?_
        refine tt_getR (M := MX11_probe) (pc := 148) dX11_probe_148 rfl h0.1 rfl ?_
        refine tt_sipush (M := MX11_probe) (pc := 151) dX11_probe_151 (by decide) ?_
        refine tt_ld (M := MX11_probe) (pc := 154) dX11_probe_154 rfl rfl rfl rfl rfl ?_
        refine tt_iadd (M := MX11_probe) (pc := 156) dX11_probe_156 ?_
        refine tt_iaload (M := MX11_probe) (pc := 157) dX11_probe_157 h0.2.1 rfl ?_
        refine tt_iconst (M := MX11_probe) (pc := 158) dX11_probe_158 ?_
        refine tt_isub (M := MX11_probe) (pc := 159) dX11_probe_159 ?_
        exact tt_iret (M := MX11_probe) (pc := 160) dX11_probe_160 rfl
      · refine tt_iconst (M := MX11_probe) (pc := 143) dX11_probe_143 ?_
        refine tt_goto (M := MX11_probe) (pc := 144) 160 dX11_probe_144 rfl ?_
        exact tt_iret (M := MX11_probe) (pc := 160) dX11_probe_160 rfl
    · refine tt_iconst (M := MX11_probe) (pc := 112) dX11_probe_112 ?_
      exact tt_iret (M := MX11_probe) (pc := 113) dX11_probe_113 rfl
  · refine tt_ld (M := MX11_probe) (pc := 64) dX11_probe_64 rfl rfl rfl rfl rfl ?_
    refine tt_getR (M := MX11_probe) (pc := 65) dX11_probe_65 rfl h0.1 rfl ?_
    refine tt_ld (M := MX11_probe) (pc := 68) dX11_probe_68 rfl rfl rfl rfl rfl ?_
    refine tt_ld (M := MX11_probe) (pc := 70) dX11_probe_70 rfl rfl rfl rfl rfl ?_
    refine tt_bipush (M := MX11_probe) (pc := 71) dX11_probe_71 (by decide) ?_
    refine tt_iconst (M := MX11_probe) (pc := 73) dX11_probe_73 ?_
    refine tt_ld (M := MX11_probe) (pc := 74) dX11_probe_74 rfl rfl rfl rfl rfl ?_
    refine tt_imul (M := MX11_probe) (pc := 76) dX11_probe_76 ?_
    refine tt_isub (M := MX11_probe) (pc := 77) dX11_probe_77 ?_
    refine tt_ishr (M := MX11_probe) (pc := 78) dX11_probe_78 ?_
    refine tt_bipush (M := MX11_probe) (pc := 79) dX11_probe_79 (by decide) ?_
    refine tt_iand (M := MX11_probe) (pc := 81) dX11_probe_81 ?_
    refine tt_iastore (M := MX11_probe) (pc := 82) dX11_probe_82 h0.2.2.2.2.2.2.2.2.2.2.2.1 rfl ?_
    refine tt_iinc (M := MX11_probe) (pc := 83) [some (.ref 90), some (.int (I l1)), some (.int (I l2)), some (.int (I l3)), some (.int (I l4)), some (.int (I (l5 + 1))), u6] dX11_probe_83 rfl rfl ?_
    refine tt_goto (M := MX11_probe) (pc := 86) 58 dX11_probe_86 rfl ?_
    exact id
theorem qX11_toAdvise_0 {sc : Nat × (Nat → Int32)} {SH : List mCell} {S : mStore} {r : mR × mW} (h0 : sMod SH) {l1 : Int} {l2 : Int} {u3 : Option Value} {u4 : Option Value} {u5 : Option Value} {u6 : Option Value} : ((∃ v101 S102, G sc MX11_within 0 [some (.int (I l2)), some (.int (I 0)), some (.int (I 1))] [] SH (up S 90 4 0) (rI v101 SH S102) ∧ (∃ v103 S104, G sc MX11_right 0 [some (.ref 90), some (.int (I v101)), some (.int (I 1))] [] SH S102 (rI v103 SH S104) ∧ (if I v103 = I 0 then r = rI 0 SH S104 else (∃ v105 S106, G sc MX11_within 0 [some (.int (I l1)), some (.int (I 0)), some (.int (I 40))] [] SH S104 (rI v105 SH S106) ∧ (∃ v107 S108, G sc MX11_right 0 [some (.ref 90), some (.int (I v105)), some (.int (I 2))] [] SH S106 (rI v107 SH S108) ∧ (if I v107 = I 0 then r = rI 0 SH S108 else G sc MX11_toAdvise 44 [some (.ref 90), some (.int (I l1)), some (.int (I l2)), some (.int (I (-1))), some (.int (I (-1))), some (.int (I 0)), u6] [] SH S108 r))))))) → G sc MX11_toAdvise 0 [some (.ref 90), some (.int (I l1)), some (.int (I l2)), u3, u4, u5, u6] [] SH S r := by
  refine tt_ld (M := MX11_toAdvise) (pc := 0) dX11_toAdvise_0 rfl rfl rfl rfl rfl ?_
  refine tt_iconst (M := MX11_toAdvise) (pc := 1) dX11_toAdvise_1 ?_
  refine tt_putI (M := MX11_toAdvise) (pc := 2) dX11_toAdvise_2 rfl rfl (Or.inl rfl) h0.1 rfl ?_
  refine tt_ld (M := MX11_toAdvise) (pc := 5) dX11_toAdvise_5 rfl rfl rfl rfl rfl ?_
  refine tt_ld (M := MX11_toAdvise) (pc := 6) dX11_toAdvise_6 rfl rfl rfl rfl rfl ?_
  refine tt_iconst (M := MX11_toAdvise) (pc := 7) dX11_toAdvise_7 ?_
  refine tt_iconst (M := MX11_toAdvise) (pc := 8) dX11_toAdvise_8 ?_
  refine tt_scIN (M := MX11_toAdvise) (pc := 9) dX11_toAdvise_9 rfl [.ref 90] rfl rfl ⟨rfl, by decide, Nat.le_of_ble_eq_true rfl⟩ fun v101 S102 => ?_
  refine tt_iconst (M := MX11_toAdvise) (pc := 12) dX11_toAdvise_12 ?_
  refine tt_vcIN (M := MX11_toAdvise) (pc := 13) dX11_toAdvise_13 rfl rfl [] rfl rfl ⟨rfl, by decide, Nat.le_of_ble_eq_true rfl⟩ h0.1 fun v103 S104 => ?_
  refine tt_if_eq (M := MX11_toAdvise) (pc := 16) 34 dX11_toAdvise_16 rfl ?_ ?_
  · refine tt_iconst (M := MX11_toAdvise) (pc := 34) dX11_toAdvise_34 ?_
    exact tt_iret (M := MX11_toAdvise) (pc := 35) dX11_toAdvise_35 rfl
  · refine tt_ld (M := MX11_toAdvise) (pc := 19) dX11_toAdvise_19 rfl rfl rfl rfl rfl ?_
    refine tt_ld (M := MX11_toAdvise) (pc := 20) dX11_toAdvise_20 rfl rfl rfl rfl rfl ?_
    refine tt_iconst (M := MX11_toAdvise) (pc := 21) dX11_toAdvise_21 ?_
    refine tt_bipush (M := MX11_toAdvise) (pc := 22) dX11_toAdvise_22 (by decide) ?_
    refine tt_scIN (M := MX11_toAdvise) (pc := 24) dX11_toAdvise_24 rfl [.ref 90] rfl rfl ⟨rfl, by decide, Nat.le_of_ble_eq_true rfl⟩ fun v105 S106 => ?_
    refine tt_iconst (M := MX11_toAdvise) (pc := 27) dX11_toAdvise_27 ?_
    refine tt_vcIN (M := MX11_toAdvise) (pc := 28) dX11_toAdvise_28 rfl rfl [] rfl rfl ⟨rfl, by decide, Nat.le_of_ble_eq_true rfl⟩ h0.1 fun v107 S108 => ?_
    refine tt_if_ne (M := MX11_toAdvise) (pc := 31) 36 dX11_toAdvise_31 rfl ?_ ?_
    · refine tt_iconst (M := MX11_toAdvise) (pc := 36) dX11_toAdvise_36 ?_
      refine tt_st (M := MX11_toAdvise) (pc := 37) [some (.ref 90), some (.int (I l1)), some (.int (I l2)), some (.int (I (-1))), u4, u5, u6] dX11_toAdvise_37 rfl rfl rfl rfl rfl rfl ?_
      refine tt_iconst (M := MX11_toAdvise) (pc := 38) dX11_toAdvise_38 ?_
      refine tt_st (M := MX11_toAdvise) (pc := 39) [some (.ref 90), some (.int (I l1)), some (.int (I l2)), some (.int (I (-1))), some (.int (I (-1))), u5, u6] dX11_toAdvise_39 rfl rfl rfl rfl rfl rfl ?_
      refine tt_iconst (M := MX11_toAdvise) (pc := 41) dX11_toAdvise_41 ?_
      refine tt_st (M := MX11_toAdvise) (pc := 42) [some (.ref 90), some (.int (I l1)), some (.int (I l2)), some (.int (I (-1))), some (.int (I (-1))), some (.int (I 0)), u6] dX11_toAdvise_42 rfl rfl rfl rfl rfl rfl ?_
      exact id
    · refine tt_iconst (M := MX11_toAdvise) (pc := 34) dX11_toAdvise_34 ?_
      exact tt_iret (M := MX11_toAdvise) (pc := 35) dX11_toAdvise_35 rfl
theorem qX11_toAdvise_44 {sc : Nat × (Nat → Int32)} {SH : List mCell} {S : mStore} {r : mR × mW} (h0 : sMod SH) {l1 : Int} {l2 : Int} {l3 : Int} {l4 : Int} {l5 : Int} {u6 : Option Value} : ((if I (S 90 18) ≤ I l5 then (if I l2 = I 0 then r = rI l3 SH S else r = rI l4 SH S) else (∃ S101, G sc MX11_tries 0 [some (.ref 90)] [] SH S (rV SH S101) ∧ (((0 : Int) ≤ l5 ∧ l5 < 5) ∧ (((0 : Int) ≤ l5 ∧ l5 < 5) ∧ (((0 : Int) ≤ l5 ∧ l5 < 4) ∧ (∃ v102 S103, G sc MX11_advises 0 [some (.ref 90), some (.int (I 1654)), some (.int (I (S101 97 l5))), some (.int (I (((S101 97 l5) + (S101 95 l5)) - 1))), some (.int (I 1)), none, none] [] SH S101 (rI v102 SH S103) ∧ (∃ v104 S105, G sc MX11_ticksOf 0 [some (.ref 90), some (.int (I 1654)), some (.int (I l1)), none, none] [] SH S103 (rI v104 SH S105) ∧ (∃ v106 S107, G sc MX11_usedOf 0 [some (.ref 90), some (.int (I 1654)), none, none] [] SH S105 (rI v106 SH S107) ∧ (if I l3 = I (-1) then G sc MX11_toAdvise 44 [some (.ref 90), some (.int (I l1)), some (.int (I l2)), some (.int (I l5)), some (.int (I v106)), some (.int (I (l5 + 1))), some (.int (I v106))] [] SH S107 r else (if I v106 < I l4 then G sc MX11_toAdvise 44 [some (.ref 90), some (.int (I l1)), some (.int (I l2)), some (.int (I l5)), some (.int (I v106)), some (.int (I (l5 + 1))), some (.int (I v106))] [] SH S107 r else G sc MX11_toAdvise 44 [some (.ref 90), some (.int (I l1)), some (.int (I l2)), some (.int (I l3)), some (.int (I l4)), some (.int (I (l5 + 1))), some (.int (I v106))] [] SH S107 r))))))))))) → G sc MX11_toAdvise 44 [some (.ref 90), some (.int (I l1)), some (.int (I l2)), some (.int (I l3)), some (.int (I l4)), some (.int (I l5)), u6] [] SH S r := by
  refine tt_ld (M := MX11_toAdvise) (pc := 44) dX11_toAdvise_44 rfl rfl rfl rfl rfl ?_
  refine tt_ld (M := MX11_toAdvise) (pc := 46) dX11_toAdvise_46 rfl rfl rfl rfl rfl ?_
  refine tt_getI (M := MX11_toAdvise) (pc := 47) dX11_toAdvise_47 rfl h0.1 rfl ?_
  refine tt_ic_ge (M := MX11_toAdvise) (pc := 50) 136 dX11_toAdvise_50 rfl ?_ ?_
  · refine tt_ld (M := MX11_toAdvise) (pc := 136) dX11_toAdvise_136 rfl rfl rfl rfl rfl ?_
    refine tt_if_ne (M := MX11_toAdvise) (pc := 137) 144 dX11_toAdvise_137 rfl ?_ ?_
    · refine tt_ld (M := MX11_toAdvise) (pc := 144) dX11_toAdvise_144 rfl rfl rfl rfl rfl ?_
      exact tt_iret (M := MX11_toAdvise) (pc := 146) dX11_toAdvise_146 rfl
    · refine tt_ld (M := MX11_toAdvise) (pc := 140) dX11_toAdvise_140 rfl rfl rfl rfl rfl ?_
      refine tt_goto (M := MX11_toAdvise) (pc := 141) 146 dX11_toAdvise_141 rfl ?_
      exact tt_iret (M := MX11_toAdvise) (pc := 146) dX11_toAdvise_146 rfl
  · refine tt_ld (M := MX11_toAdvise) (pc := 53) dX11_toAdvise_53 rfl rfl rfl rfl rfl ?_
    refine tt_vcVN (M := MX11_toAdvise) (pc := 54) dX11_toAdvise_54 rfl rfl [] rfl rfl ⟨rfl, by decide, Nat.le_of_ble_eq_true rfl⟩ h0.1 fun S101 => ?_
    refine tt_ld (M := MX11_toAdvise) (pc := 57) dX11_toAdvise_57 rfl rfl rfl rfl rfl ?_
    refine tt_sipush (M := MX11_toAdvise) (pc := 58) dX11_toAdvise_58 (by decide) ?_
    refine tt_ld (M := MX11_toAdvise) (pc := 61) dX11_toAdvise_61 rfl rfl rfl rfl rfl ?_
    refine tt_getR (M := MX11_toAdvise) (pc := 62) dX11_toAdvise_62 rfl h0.1 rfl ?_
    refine tt_ld (M := MX11_toAdvise) (pc := 65) dX11_toAdvise_65 rfl rfl rfl rfl rfl ?_
    refine tt_iaload (M := MX11_toAdvise) (pc := 67) dX11_toAdvise_67 h0.2.2.2.2.2.2.2.1 rfl ?_
    refine tt_ld (M := MX11_toAdvise) (pc := 68) dX11_toAdvise_68 rfl rfl rfl rfl rfl ?_
    refine tt_getR (M := MX11_toAdvise) (pc := 69) dX11_toAdvise_69 rfl h0.1 rfl ?_
    refine tt_ld (M := MX11_toAdvise) (pc := 72) dX11_toAdvise_72 rfl rfl rfl rfl rfl ?_
    refine tt_iaload (M := MX11_toAdvise) (pc := 74) dX11_toAdvise_74 h0.2.2.2.2.2.2.2.1 rfl ?_
    refine tt_ld (M := MX11_toAdvise) (pc := 75) dX11_toAdvise_75 rfl rfl rfl rfl rfl ?_
    refine tt_getR (M := MX11_toAdvise) (pc := 76) dX11_toAdvise_76 rfl h0.1 rfl ?_
    refine tt_ld (M := MX11_toAdvise) (pc := 79) dX11_toAdvise_79 rfl rfl rfl rfl rfl ?_
    refine tt_iaload (M := MX11_toAdvise) (pc := 81) dX11_toAdvise_81 h0.2.2.2.2.2.1 rfl ?_
    refine tt_iadd (M := MX11_toAdvise) (pc := 82) dX11_toAdvise_82 ?_
    refine tt_iconst (M := MX11_toAdvise) (pc := 83) dX11_toAdvise_83 ?_
    refine tt_isub (M := MX11_toAdvise) (pc := 84) dX11_toAdvise_84 ?_
    refine tt_iconst (M := MX11_toAdvise) (pc := 85) dX11_toAdvise_85 ?_
    refine tt_vcIN (M := MX11_toAdvise) (pc := 86) dX11_toAdvise_86 rfl rfl [] rfl rfl ⟨rfl, by decide, Nat.le_of_ble_eq_true rfl⟩ h0.1 fun v102 S103 => ?_
    refine tt_pop (M := MX11_toAdvise) (pc := 89) dX11_toAdvise_89 rfl ?_
    refine tt_ld (M := MX11_toAdvise) (pc := 90) dX11_toAdvise_90 rfl rfl rfl rfl rfl ?_
    refine tt_sipush (M := MX11_toAdvise) (pc := 91) dX11_toAdvise_91 (by decide) ?_
    refine tt_ld (M := MX11_toAdvise) (pc := 94) dX11_toAdvise_94 rfl rfl rfl rfl rfl ?_
    refine tt_vcIN (M := MX11_toAdvise) (pc := 95) dX11_toAdvise_95 rfl rfl [] rfl rfl ⟨rfl, by decide, Nat.le_of_ble_eq_true rfl⟩ h0.1 fun v104 S105 => ?_
    refine tt_pop (M := MX11_toAdvise) (pc := 98) dX11_toAdvise_98 rfl ?_
    refine tt_ld (M := MX11_toAdvise) (pc := 99) dX11_toAdvise_99 rfl rfl rfl rfl rfl ?_
    refine tt_sipush (M := MX11_toAdvise) (pc := 100) dX11_toAdvise_100 (by decide) ?_
    refine tt_vcIN (M := MX11_toAdvise) (pc := 103) dX11_toAdvise_103 rfl rfl [] rfl rfl ⟨rfl, by decide, Nat.le_of_ble_eq_true rfl⟩ h0.1 fun v106 S107 => ?_
    refine tt_st (M := MX11_toAdvise) (pc := 106) [some (.ref 90), some (.int (I l1)), some (.int (I l2)), some (.int (I l3)), some (.int (I l4)), some (.int (I l5)), some (.int (I v106))] dX11_toAdvise_106 rfl rfl rfl rfl rfl rfl ?_
    refine tt_ld (M := MX11_toAdvise) (pc := 108) dX11_toAdvise_108 rfl rfl rfl rfl rfl ?_
    refine tt_iconst (M := MX11_toAdvise) (pc := 109) dX11_toAdvise_109 ?_
    refine tt_ic_eq (M := MX11_toAdvise) (pc := 110) 123 dX11_toAdvise_110 rfl ?_ ?_
    · refine tt_ld (M := MX11_toAdvise) (pc := 123) dX11_toAdvise_123 rfl rfl rfl rfl rfl ?_
      refine tt_st (M := MX11_toAdvise) (pc := 125) [some (.ref 90), some (.int (I l1)), some (.int (I l2)), some (.int (I l5)), some (.int (I l4)), some (.int (I l5)), some (.int (I v106))] dX11_toAdvise_125 rfl rfl rfl rfl rfl rfl ?_
      refine tt_ld (M := MX11_toAdvise) (pc := 126) dX11_toAdvise_126 rfl rfl rfl rfl rfl ?_
      refine tt_st (M := MX11_toAdvise) (pc := 128) [some (.ref 90), some (.int (I l1)), some (.int (I l2)), some (.int (I l5)), some (.int (I v106)), some (.int (I l5)), some (.int (I v106))] dX11_toAdvise_128 rfl rfl rfl rfl rfl rfl ?_
      refine tt_iinc (M := MX11_toAdvise) (pc := 130) [some (.ref 90), some (.int (I l1)), some (.int (I l2)), some (.int (I l5)), some (.int (I v106)), some (.int (I (l5 + 1))), some (.int (I v106))] dX11_toAdvise_130 rfl rfl ?_
      refine tt_goto (M := MX11_toAdvise) (pc := 133) 44 dX11_toAdvise_133 rfl ?_
      exact id
    · refine tt_ld (M := MX11_toAdvise) (pc := 113) dX11_toAdvise_113 rfl rfl rfl rfl rfl ?_
      refine tt_ld (M := MX11_toAdvise) (pc := 115) dX11_toAdvise_115 rfl rfl rfl rfl rfl ?_
      refine tt_ic_lt (M := MX11_toAdvise) (pc := 117) 123 dX11_toAdvise_117 rfl ?_ ?_
      · refine tt_ld (M := MX11_toAdvise) (pc := 123) dX11_toAdvise_123 rfl rfl rfl rfl rfl ?_
        refine tt_st (M := MX11_toAdvise) (pc := 125) [some (.ref 90), some (.int (I l1)), some (.int (I l2)), some (.int (I l5)), some (.int (I l4)), some (.int (I l5)), some (.int (I v106))] dX11_toAdvise_125 rfl rfl rfl rfl rfl rfl ?_
        refine tt_ld (M := MX11_toAdvise) (pc := 126) dX11_toAdvise_126 rfl rfl rfl rfl rfl ?_
        refine tt_st (M := MX11_toAdvise) (pc := 128) [some (.ref 90), some (.int (I l1)), some (.int (I l2)), some (.int (I l5)), some (.int (I v106)), some (.int (I l5)), some (.int (I v106))] dX11_toAdvise_128 rfl rfl rfl rfl rfl rfl ?_
        refine tt_iinc (M := MX11_toAdvise) (pc := 130) [some (.ref 90), some (.int (I l1)), some (.int (I l2)), some (.int (I l5)), some (.int (I v106)), some (.int (I (l5 + 1))), some (.int (I v106))] dX11_toAdvise_130 rfl rfl ?_
        refine tt_goto (M := MX11_toAdvise) (pc := 133) 44 dX11_toAdvise_133 rfl ?_
        exact id
      · refine tt_goto (M := MX11_toAdvise) (pc := 120) 130 dX11_toAdvise_120 rfl ?_
        refine tt_iinc (M := MX11_toAdvise) (pc := 130) [some (.ref 90), some (.int (I l1)), some (.int (I l2)), some (.int (I l3)), some (.int (I l4)), some (.int (I (l5 + 1))), some (.int (I v106))] dX11_toAdvise_130 rfl rfl ?_
        refine tt_goto (M := MX11_toAdvise) (pc := 133) 44 dX11_toAdvise_133 rfl ?_
        exact id
theorem qX11_toRate_0 {sc : Nat × (Nat → Int32)} {SH : List mCell} {S : mStore} {r : mR × mW} (h0 : sMod SH) {l1 : Int} {l2 : Int} {u3 : Option Value} {u4 : Option Value} {u5 : Option Value} {u6 : Option Value} {u7 : Option Value} : ((∃ v101 S102, G sc MX11_within 0 [some (.int (I l2)), some (.int (I 0)), some (.int (I 1))] [] SH (up S 90 4 0) (rI v101 SH S102) ∧ (∃ v103 S104, G sc MX11_right 0 [some (.ref 90), some (.int (I v101)), some (.int (I 1))] [] SH S102 (rI v103 SH S104) ∧ (if I v103 = I 0 then r = rI 0 SH S104 else (∃ v105 S106, G sc MX11_within 0 [some (.int (I l1)), some (.int (I 1)), some (.int (I 20))] [] SH S104 (rI v105 SH S106) ∧ (∃ v107 S108, G sc MX11_right 0 [some (.ref 90), some (.int (I v105)), some (.int (I 2))] [] SH S106 (rI v107 SH S108) ∧ (if I v107 = I 0 then r = rI 0 SH S108 else G sc MX11_toRate 50 [some (.ref 90), some (.int (I l1)), some (.int (I l2)), some (.int (I (-1))), some (.int (I 0)), some (.int (I 0)), some (.int (I (S108 90 14))), u7] [] SH S108 r))))))) → G sc MX11_toRate 0 [some (.ref 90), some (.int (I l1)), some (.int (I l2)), u3, u4, u5, u6, u7] [] SH S r := by
  refine tt_ld (M := MX11_toRate) (pc := 0) dX11_toRate_0 rfl rfl rfl rfl rfl ?_
  refine tt_iconst (M := MX11_toRate) (pc := 1) dX11_toRate_1 ?_
  refine tt_putI (M := MX11_toRate) (pc := 2) dX11_toRate_2 rfl rfl (Or.inl rfl) h0.1 rfl ?_
  refine tt_ld (M := MX11_toRate) (pc := 5) dX11_toRate_5 rfl rfl rfl rfl rfl ?_
  refine tt_ld (M := MX11_toRate) (pc := 6) dX11_toRate_6 rfl rfl rfl rfl rfl ?_
  refine tt_iconst (M := MX11_toRate) (pc := 7) dX11_toRate_7 ?_
  refine tt_iconst (M := MX11_toRate) (pc := 8) dX11_toRate_8 ?_
  refine tt_scIN (M := MX11_toRate) (pc := 9) dX11_toRate_9 rfl [.ref 90] rfl rfl ⟨rfl, by decide, Nat.le_of_ble_eq_true rfl⟩ fun v101 S102 => ?_
  refine tt_iconst (M := MX11_toRate) (pc := 12) dX11_toRate_12 ?_
  refine tt_vcIN (M := MX11_toRate) (pc := 13) dX11_toRate_13 rfl rfl [] rfl rfl ⟨rfl, by decide, Nat.le_of_ble_eq_true rfl⟩ h0.1 fun v103 S104 => ?_
  refine tt_if_eq (M := MX11_toRate) (pc := 16) 34 dX11_toRate_16 rfl ?_ ?_
  · refine tt_iconst (M := MX11_toRate) (pc := 34) dX11_toRate_34 ?_
    exact tt_iret (M := MX11_toRate) (pc := 35) dX11_toRate_35 rfl
  · refine tt_ld (M := MX11_toRate) (pc := 19) dX11_toRate_19 rfl rfl rfl rfl rfl ?_
    refine tt_ld (M := MX11_toRate) (pc := 20) dX11_toRate_20 rfl rfl rfl rfl rfl ?_
    refine tt_iconst (M := MX11_toRate) (pc := 21) dX11_toRate_21 ?_
    refine tt_bipush (M := MX11_toRate) (pc := 22) dX11_toRate_22 (by decide) ?_
    refine tt_scIN (M := MX11_toRate) (pc := 24) dX11_toRate_24 rfl [.ref 90] rfl rfl ⟨rfl, by decide, Nat.le_of_ble_eq_true rfl⟩ fun v105 S106 => ?_
    refine tt_iconst (M := MX11_toRate) (pc := 27) dX11_toRate_27 ?_
    refine tt_vcIN (M := MX11_toRate) (pc := 28) dX11_toRate_28 rfl rfl [] rfl rfl ⟨rfl, by decide, Nat.le_of_ble_eq_true rfl⟩ h0.1 fun v107 S108 => ?_
    refine tt_if_ne (M := MX11_toRate) (pc := 31) 36 dX11_toRate_31 rfl ?_ ?_
    · refine tt_iconst (M := MX11_toRate) (pc := 36) dX11_toRate_36 ?_
      refine tt_st (M := MX11_toRate) (pc := 37) [some (.ref 90), some (.int (I l1)), some (.int (I l2)), some (.int (I (-1))), u4, u5, u6, u7] dX11_toRate_37 rfl rfl rfl rfl rfl rfl ?_
      refine tt_iconst (M := MX11_toRate) (pc := 38) dX11_toRate_38 ?_
      refine tt_st (M := MX11_toRate) (pc := 39) [some (.ref 90), some (.int (I l1)), some (.int (I l2)), some (.int (I (-1))), some (.int (I 0)), u5, u6, u7] dX11_toRate_39 rfl rfl rfl rfl rfl rfl ?_
      refine tt_iconst (M := MX11_toRate) (pc := 41) dX11_toRate_41 ?_
      refine tt_st (M := MX11_toRate) (pc := 42) [some (.ref 90), some (.int (I l1)), some (.int (I l2)), some (.int (I (-1))), some (.int (I 0)), some (.int (I 0)), u6, u7] dX11_toRate_42 rfl rfl rfl rfl rfl rfl ?_
      refine tt_ld (M := MX11_toRate) (pc := 44) dX11_toRate_44 rfl rfl rfl rfl rfl ?_
      refine tt_getI (M := MX11_toRate) (pc := 45) dX11_toRate_45 rfl h0.1 rfl ?_
      refine tt_st (M := MX11_toRate) (pc := 48) [some (.ref 90), some (.int (I l1)), some (.int (I l2)), some (.int (I (-1))), some (.int (I 0)), some (.int (I 0)), some (.int (I (S108 90 14))), u7] dX11_toRate_48 rfl rfl rfl rfl rfl rfl ?_
      exact id
    · refine tt_iconst (M := MX11_toRate) (pc := 34) dX11_toRate_34 ?_
      exact tt_iret (M := MX11_toRate) (pc := 35) dX11_toRate_35 rfl
theorem qX11_toRate_50 {sc : Nat × (Nat → Int32)} {SH : List mCell} {S : mStore} {r : mR × mW} (h0 : sMod SH) {l1 : Int} {l2 : Int} {l3 : Int} {l4 : Int} {l5 : Int} {l6 : Int} {u7 : Option Value} : ((if I (S 90 15) < I l6 then (if I l2 = I 0 then r = rI l3 SH S else r = rI l4 SH S) else (∃ S101, G sc MX11_tries 0 [some (.ref 90)] [] SH S (rV SH S101) ∧ (((0 : Int) ≤ 1654 ∧ (1654 : Int) < 137400) ∧ (∃ v102 S103, G sc MX11_ticksOf 0 [some (.ref 90), some (.int (I 1654)), some (.int (I l1)), none, none] [] SH (up S101 91 1654 l6) (rI v102 SH S103) ∧ (∃ v104 S105, G sc MX11_usedOf 0 [some (.ref 90), some (.int (I 1654)), none, none] [] SH S103 (rI v104 SH S105) ∧ (if I l3 = I (-1) then (((0 : Int) ≤ 1657 ∧ (1657 : Int) < 137400) ∧ G sc MX11_toRate 50 [some (.ref 90), some (.int (I l1)), some (.int (I l2)), some (.int (I l6)), some (.int (I v104)), some (.int (I (S105 91 1657))), some (.int (I (l6 + 1))), some (.int (I v104))] [] SH S105 r) else (if I l4 < I v104 then G sc MX11_toRate 50 [some (.ref 90), some (.int (I l1)), some (.int (I l2)), some (.int (I l3)), some (.int (I l4)), some (.int (I l5)), some (.int (I (l6 + 1))), some (.int (I v104))] [] SH S105 r else (if I v104 = I l4 then (((0 : Int) ≤ 1657 ∧ (1657 : Int) < 137400) ∧ (if I (S105 91 1657) < I l5 then (((0 : Int) ≤ 1657 ∧ (1657 : Int) < 137400) ∧ G sc MX11_toRate 50 [some (.ref 90), some (.int (I l1)), some (.int (I l2)), some (.int (I l6)), some (.int (I v104)), some (.int (I (S105 91 1657))), some (.int (I (l6 + 1))), some (.int (I v104))] [] SH S105 r) else G sc MX11_toRate 50 [some (.ref 90), some (.int (I l1)), some (.int (I l2)), some (.int (I l3)), some (.int (I l4)), some (.int (I l5)), some (.int (I (l6 + 1))), some (.int (I v104))] [] SH S105 r)) else (((0 : Int) ≤ 1657 ∧ (1657 : Int) < 137400) ∧ G sc MX11_toRate 50 [some (.ref 90), some (.int (I l1)), some (.int (I l2)), some (.int (I l6)), some (.int (I v104)), some (.int (I (S105 91 1657))), some (.int (I (l6 + 1))), some (.int (I v104))] [] SH S105 r)))))))))) → G sc MX11_toRate 50 [some (.ref 90), some (.int (I l1)), some (.int (I l2)), some (.int (I l3)), some (.int (I l4)), some (.int (I l5)), some (.int (I l6)), u7] [] SH S r := by
  refine tt_ld (M := MX11_toRate) (pc := 50) dX11_toRate_50 rfl rfl rfl rfl rfl ?_
  refine tt_ld (M := MX11_toRate) (pc := 52) dX11_toRate_52 rfl rfl rfl rfl rfl ?_
  refine tt_getI (M := MX11_toRate) (pc := 53) dX11_toRate_53 rfl h0.1 rfl ?_
  refine tt_ic_gt (M := MX11_toRate) (pc := 56) 149 dX11_toRate_56 rfl ?_ ?_
  · refine tt_ld (M := MX11_toRate) (pc := 149) dX11_toRate_149 rfl rfl rfl rfl rfl ?_
    refine tt_if_ne (M := MX11_toRate) (pc := 150) 157 dX11_toRate_150 rfl ?_ ?_
    · refine tt_ld (M := MX11_toRate) (pc := 157) dX11_toRate_157 rfl rfl rfl rfl rfl ?_
      exact tt_iret (M := MX11_toRate) (pc := 159) dX11_toRate_159 rfl
    · refine tt_ld (M := MX11_toRate) (pc := 153) dX11_toRate_153 rfl rfl rfl rfl rfl ?_
      refine tt_goto (M := MX11_toRate) (pc := 154) 159 dX11_toRate_154 rfl ?_
      exact tt_iret (M := MX11_toRate) (pc := 159) dX11_toRate_159 rfl
  · refine tt_ld (M := MX11_toRate) (pc := 59) dX11_toRate_59 rfl rfl rfl rfl rfl ?_
    refine tt_vcVN (M := MX11_toRate) (pc := 60) dX11_toRate_60 rfl rfl [] rfl rfl ⟨rfl, by decide, Nat.le_of_ble_eq_true rfl⟩ h0.1 fun S101 => ?_
    refine tt_ld (M := MX11_toRate) (pc := 63) dX11_toRate_63 rfl rfl rfl rfl rfl ?_
    refine tt_getR (M := MX11_toRate) (pc := 64) dX11_toRate_64 rfl h0.1 rfl ?_
    refine tt_sipush (M := MX11_toRate) (pc := 67) dX11_toRate_67 (by decide) ?_
    refine tt_ld (M := MX11_toRate) (pc := 70) dX11_toRate_70 rfl rfl rfl rfl rfl ?_
    refine tt_iastore (M := MX11_toRate) (pc := 72) dX11_toRate_72 h0.2.1 rfl ?_
    refine tt_ld (M := MX11_toRate) (pc := 73) dX11_toRate_73 rfl rfl rfl rfl rfl ?_
    refine tt_sipush (M := MX11_toRate) (pc := 74) dX11_toRate_74 (by decide) ?_
    refine tt_ld (M := MX11_toRate) (pc := 77) dX11_toRate_77 rfl rfl rfl rfl rfl ?_
    refine tt_vcIN (M := MX11_toRate) (pc := 78) dX11_toRate_78 rfl rfl [] rfl rfl ⟨rfl, by decide, Nat.le_of_ble_eq_true rfl⟩ h0.1 fun v102 S103 => ?_
    refine tt_pop (M := MX11_toRate) (pc := 81) dX11_toRate_81 rfl ?_
    refine tt_ld (M := MX11_toRate) (pc := 82) dX11_toRate_82 rfl rfl rfl rfl rfl ?_
    refine tt_sipush (M := MX11_toRate) (pc := 83) dX11_toRate_83 (by decide) ?_
    refine tt_vcIN (M := MX11_toRate) (pc := 86) dX11_toRate_86 rfl rfl [] rfl rfl ⟨rfl, by decide, Nat.le_of_ble_eq_true rfl⟩ h0.1 fun v104 S105 => ?_
    refine tt_st (M := MX11_toRate) (pc := 89) [some (.ref 90), some (.int (I l1)), some (.int (I l2)), some (.int (I l3)), some (.int (I l4)), some (.int (I l5)), some (.int (I l6)), some (.int (I v104))] dX11_toRate_89 rfl rfl rfl rfl rfl rfl ?_
    refine tt_ld (M := MX11_toRate) (pc := 91) dX11_toRate_91 rfl rfl rfl rfl rfl ?_
    refine tt_iconst (M := MX11_toRate) (pc := 92) dX11_toRate_92 ?_
    refine tt_ic_eq (M := MX11_toRate) (pc := 93) 126 dX11_toRate_93 rfl ?_ ?_
    · refine tt_ld (M := MX11_toRate) (pc := 126) dX11_toRate_126 rfl rfl rfl rfl rfl ?_
      refine tt_st (M := MX11_toRate) (pc := 128) [some (.ref 90), some (.int (I l1)), some (.int (I l2)), some (.int (I l6)), some (.int (I l4)), some (.int (I l5)), some (.int (I l6)), some (.int (I v104))] dX11_toRate_128 rfl rfl rfl rfl rfl rfl ?_
      refine tt_ld (M := MX11_toRate) (pc := 129) dX11_toRate_129 rfl rfl rfl rfl rfl ?_
      refine tt_st (M := MX11_toRate) (pc := 131) [some (.ref 90), some (.int (I l1)), some (.int (I l2)), some (.int (I l6)), some (.int (I v104)), some (.int (I l5)), some (.int (I l6)), some (.int (I v104))] dX11_toRate_131 rfl rfl rfl rfl rfl rfl ?_
      refine tt_ld (M := MX11_toRate) (pc := 133) dX11_toRate_133 rfl rfl rfl rfl rfl ?_
      refine tt_getR (M := MX11_toRate) (pc := 134) dX11_toRate_134 rfl h0.1 rfl ?_
      refine tt_sipush (M := MX11_toRate) (pc := 137) dX11_toRate_137 (by decide) ?_
      refine tt_iaload (M := MX11_toRate) (pc := 140) dX11_toRate_140 h0.2.1 rfl ?_
      refine tt_st (M := MX11_toRate) (pc := 141) [some (.ref 90), some (.int (I l1)), some (.int (I l2)), some (.int (I l6)), some (.int (I v104)), some (.int (I (S105 91 1657))), some (.int (I l6)), some (.int (I v104))] dX11_toRate_141 rfl rfl rfl rfl rfl rfl ?_
      refine tt_iinc (M := MX11_toRate) (pc := 143) [some (.ref 90), some (.int (I l1)), some (.int (I l2)), some (.int (I l6)), some (.int (I v104)), some (.int (I (S105 91 1657))), some (.int (I (l6 + 1))), some (.int (I v104))] dX11_toRate_143 rfl rfl ?_
      refine tt_goto (M := MX11_toRate) (pc := 146) 50 dX11_toRate_146 rfl ?_
      exact id
    · refine tt_ld (M := MX11_toRate) (pc := 96) dX11_toRate_96 rfl rfl rfl rfl rfl ?_
      refine tt_ld (M := MX11_toRate) (pc := 98) dX11_toRate_98 rfl rfl rfl rfl rfl ?_
      refine tt_ic_gt (M := MX11_toRate) (pc := 100) 143 dX11_toRate_100 rfl ?_ ?_
      · refine tt_iinc (M := MX11_toRate) (pc := 143) [some (.ref 90), some (.int (I l1)), some (.int (I l2)), some (.int (I l3)), some (.int (I l4)), some (.int (I l5)), some (.int (I (l6 + 1))), some (.int (I v104))] dX11_toRate_143 rfl rfl ?_
        refine tt_goto (M := MX11_toRate) (pc := 146) 50 dX11_toRate_146 rfl ?_
        exact id
      · refine tt_ld (M := MX11_toRate) (pc := 103) dX11_toRate_103 rfl rfl rfl rfl rfl ?_
        refine tt_ld (M := MX11_toRate) (pc := 105) dX11_toRate_105 rfl rfl rfl rfl rfl ?_
        refine tt_ic_ne (M := MX11_toRate) (pc := 107) 126 dX11_toRate_107 rfl ?_ ?_
        · refine tt_ld (M := MX11_toRate) (pc := 126) dX11_toRate_126 rfl rfl rfl rfl rfl ?_
          refine tt_st (M := MX11_toRate) (pc := 128) [some (.ref 90), some (.int (I l1)), some (.int (I l2)), some (.int (I l6)), some (.int (I l4)), some (.int (I l5)), some (.int (I l6)), some (.int (I v104))] dX11_toRate_128 rfl rfl rfl rfl rfl rfl ?_
          refine tt_ld (M := MX11_toRate) (pc := 129) dX11_toRate_129 rfl rfl rfl rfl rfl ?_
          refine tt_st (M := MX11_toRate) (pc := 131) [some (.ref 90), some (.int (I l1)), some (.int (I l2)), some (.int (I l6)), some (.int (I v104)), some (.int (I l5)), some (.int (I l6)), some (.int (I v104))] dX11_toRate_131 rfl rfl rfl rfl rfl rfl ?_
          refine tt_ld (M := MX11_toRate) (pc := 133) dX11_toRate_133 rfl rfl rfl rfl rfl ?_
          refine tt_getR (M := MX11_toRate) (pc := 134) dX11_toRate_134 rfl h0.1 rfl ?_
          refine tt_sipush (M := MX11_toRate) (pc := 137) dX11_toRate_137 (by decide) ?_
          refine tt_iaload (M := MX11_toRate) (pc := 140) dX11_toRate_140 h0.2.1 rfl ?_
          refine tt_st (M := MX11_toRate) (pc := 141) [some (.ref 90), some (.int (I l1)), some (.int (I l2)), some (.int (I l6)), some (.int (I v104)), some (.int (I (S105 91 1657))), some (.int (I l6)), some (.int (I v104))] dX11_toRate_141 rfl rfl rfl rfl rfl rfl ?_
          refine tt_iinc (M := MX11_toRate) (pc := 143) [some (.ref 90), some (.int (I l1)), some (.int (I l2)), some (.int (I l6)), some (.int (I v104)), some (.int (I (S105 91 1657))), some (.int (I (l6 + 1))), some (.int (I v104))] dX11_toRate_143 rfl rfl ?_
          refine tt_goto (M := MX11_toRate) (pc := 146) 50 dX11_toRate_146 rfl ?_
          exact id
        · refine tt_ld (M := MX11_toRate) (pc := 110) dX11_toRate_110 rfl rfl rfl rfl rfl ?_
          refine tt_getR (M := MX11_toRate) (pc := 111) dX11_toRate_111 rfl h0.1 rfl ?_
          refine tt_sipush (M := MX11_toRate) (pc := 114) dX11_toRate_114 (by decide) ?_
          refine tt_iaload (M := MX11_toRate) (pc := 117) dX11_toRate_117 h0.2.1 rfl ?_
          refine tt_ld (M := MX11_toRate) (pc := 118) dX11_toRate_118 rfl rfl rfl rfl rfl ?_
          refine tt_ic_lt (M := MX11_toRate) (pc := 120) 126 dX11_toRate_120 rfl ?_ ?_
          · refine tt_ld (M := MX11_toRate) (pc := 126) dX11_toRate_126 rfl rfl rfl rfl rfl ?_
            refine tt_st (M := MX11_toRate) (pc := 128) [some (.ref 90), some (.int (I l1)), some (.int (I l2)), some (.int (I l6)), some (.int (I l4)), some (.int (I l5)), some (.int (I l6)), some (.int (I v104))] dX11_toRate_128 rfl rfl rfl rfl rfl rfl ?_
            refine tt_ld (M := MX11_toRate) (pc := 129) dX11_toRate_129 rfl rfl rfl rfl rfl ?_
            refine tt_st (M := MX11_toRate) (pc := 131) [some (.ref 90), some (.int (I l1)), some (.int (I l2)), some (.int (I l6)), some (.int (I v104)), some (.int (I l5)), some (.int (I l6)), some (.int (I v104))] dX11_toRate_131 rfl rfl rfl rfl rfl rfl ?_
            refine tt_ld (M := MX11_toRate) (pc := 133) dX11_toRate_133 rfl rfl rfl rfl rfl ?_
            refine tt_getR (M := MX11_toRate) (pc := 134) dX11_toRate_134 rfl h0.1 rfl ?_
            refine tt_sipush (M := MX11_toRate) (pc := 137) dX11_toRate_137 (by decide) ?_
            refine tt_iaload (M := MX11_toRate) (pc := 140) dX11_toRate_140 h0.2.1 rfl ?_
            refine tt_st (M := MX11_toRate) (pc := 141) [some (.ref 90), some (.int (I l1)), some (.int (I l2)), some (.int (I l6)), some (.int (I v104)), some (.int (I (S105 91 1657))), some (.int (I l6)), some (.int (I v104))] dX11_toRate_141 rfl rfl rfl rfl rfl rfl ?_
            refine tt_iinc (M := MX11_toRate) (pc := 143) [some (.ref 90), some (.int (I l1)), some (.int (I l2)), some (.int (I l6)), some (.int (I v104)), some (.int (I (S105 91 1657))), some (.int (I (l6 + 1))), some (.int (I v104))] dX11_toRate_143 rfl rfl ?_
            refine tt_goto (M := MX11_toRate) (pc := 146) 50 dX11_toRate_146 rfl ?_
            exact id
          · refine tt_goto (M := MX11_toRate) (pc := 123) 143 dX11_toRate_123 rfl ?_
            refine tt_iinc (M := MX11_toRate) (pc := 143) [some (.ref 90), some (.int (I l1)), some (.int (I l2)), some (.int (I l3)), some (.int (I l4)), some (.int (I l5)), some (.int (I (l6 + 1))), some (.int (I v104))] dX11_toRate_143 rfl rfl ?_
            refine tt_goto (M := MX11_toRate) (pc := 146) 50 dX11_toRate_146 rfl ?_
            exact id
theorem qX11_note_0 {sc : Nat × (Nat → Int32)} {SH : List mCell} {S : mStore} {r : mR × mW} (h0 : sMod SH) {l1 : Int} {l2 : Int} : ((if I ((up S 90 4 0) 90 7) = I 8 then (∃ v101 S102, G sc MX11_refuses 0 [some (.ref 90), some (.int (I 2))] [] SH (up S 90 4 0) (rI v101 SH S102) ∧ r = rI v101 SH S102) else (∃ v103 S104, G sc MX11_within 0 [some (.int (I l1)), some (.int (I 0)), some (.int (I 20))] [] SH (up S 90 4 0) (rI v103 SH S104) ∧ (if I v103 = I 0 then (∃ v105 S106, G sc MX11_refuses 0 [some (.ref 90), some (.int (I 2))] [] SH S104 (rI v105 SH S106) ∧ r = rI v105 SH S106) else (∃ v107 S108, G sc MX11_within 0 [some (.int (I l2)), some (.int (I 0)), some (.int (I 48))] [] SH S104 (rI v107 SH S108) ∧ (if I v107 = I 0 then (∃ v109 S110, G sc MX11_refuses 0 [some (.ref 90), some (.int (I 2))] [] SH S108 (rI v109 SH S110) ∧ r = rI v109 SH S110) else (((0 : Int) ≤ S108 90 7 ∧ S108 90 7 < 16) ∧ (((0 : Int) ≤ (up S108 92 (S108 90 7) l1) 90 7 ∧ (up S108 92 (S108 90 7) l1) 90 7 < 16) ∧ r = rI ((up (up (up S108 92 (S108 90 7) l1) 93 ((up S108 92 (S108 90 7) l1) 90 7) l2) 90 7 (((up (up S108 92 (S108 90 7) l1) 93 ((up S108 92 (S108 90 7) l1) 90 7) l2) 90 7) + 1)) 90 7) SH (up (up (up S108 92 (S108 90 7) l1) 93 ((up S108 92 (S108 90 7) l1) 90 7) l2) 90 7 (((up (up S108 92 (S108 90 7) l1) 93 ((up S108 92 (S108 90 7) l1) 90 7) l2) 90 7) + 1)))))))))) → G sc MX11_note 0 [some (.ref 90), some (.int (I l1)), some (.int (I l2))] [] SH S r := by
  refine tt_ld (M := MX11_note) (pc := 0) dX11_note_0 rfl rfl rfl rfl rfl ?_
  refine tt_iconst (M := MX11_note) (pc := 1) dX11_note_1 ?_
  refine tt_putI (M := MX11_note) (pc := 2) dX11_note_2 rfl rfl (Or.inl rfl) h0.1 rfl ?_
  refine tt_ld (M := MX11_note) (pc := 5) dX11_note_5 rfl rfl rfl rfl rfl ?_
  refine tt_getI (M := MX11_note) (pc := 6) dX11_note_6 rfl h0.1 rfl ?_
  refine tt_bipush (M := MX11_note) (pc := 9) dX11_note_9 (by decide) ?_
  refine tt_ic_eq (M := MX11_note) (pc := 11) 34 dX11_note_11 rfl ?_ ?_
  · refine tt_ld (M := MX11_note) (pc := 34) dX11_note_34 rfl rfl rfl rfl rfl ?_
    refine tt_iconst (M := MX11_note) (pc := 35) dX11_note_35 ?_
    refine tt_vcIN (M := MX11_note) (pc := 36) dX11_note_36 rfl rfl [] rfl rfl ⟨rfl, by decide, Nat.le_of_ble_eq_true rfl⟩ h0.1 fun v101 S102 => ?_
    exact tt_iret (M := MX11_note) (pc := 39) dX11_note_39 rfl
  · refine tt_ld (M := MX11_note) (pc := 14) dX11_note_14 rfl rfl rfl rfl rfl ?_
    refine tt_iconst (M := MX11_note) (pc := 15) dX11_note_15 ?_
    refine tt_bipush (M := MX11_note) (pc := 16) dX11_note_16 (by decide) ?_
    refine tt_scIN (M := MX11_note) (pc := 18) dX11_note_18 rfl [] rfl rfl ⟨rfl, by decide, Nat.le_of_ble_eq_true rfl⟩ fun v103 S104 => ?_
    refine tt_if_eq (M := MX11_note) (pc := 21) 34 dX11_note_21 rfl ?_ ?_
    · refine tt_ld (M := MX11_note) (pc := 34) dX11_note_34 rfl rfl rfl rfl rfl ?_
      refine tt_iconst (M := MX11_note) (pc := 35) dX11_note_35 ?_
      refine tt_vcIN (M := MX11_note) (pc := 36) dX11_note_36 rfl rfl [] rfl rfl ⟨rfl, by decide, Nat.le_of_ble_eq_true rfl⟩ h0.1 fun v105 S106 => ?_
      exact tt_iret (M := MX11_note) (pc := 39) dX11_note_39 rfl
    · refine tt_ld (M := MX11_note) (pc := 24) dX11_note_24 rfl rfl rfl rfl rfl ?_
      refine tt_iconst (M := MX11_note) (pc := 25) dX11_note_25 ?_
      refine tt_bipush (M := MX11_note) (pc := 26) dX11_note_26 (by decide) ?_
      refine tt_scIN (M := MX11_note) (pc := 28) dX11_note_28 rfl [] rfl rfl ⟨rfl, by decide, Nat.le_of_ble_eq_true rfl⟩ fun v107 S108 => ?_
      refine tt_if_ne (M := MX11_note) (pc := 31) 40 dX11_note_31 rfl ?_ ?_
      · refine tt_ld (M := MX11_note) (pc := 40) dX11_note_40 rfl rfl rfl rfl rfl ?_
        refine tt_getR (M := MX11_note) (pc := 41) dX11_note_41 rfl h0.1 rfl ?_
        refine tt_ld (M := MX11_note) (pc := 44) dX11_note_44 rfl rfl rfl rfl rfl ?_
        refine tt_getI (M := MX11_note) (pc := 45) dX11_note_45 rfl h0.1 rfl ?_
        refine tt_ld (M := MX11_note) (pc := 48) dX11_note_48 rfl rfl rfl rfl rfl ?_
        refine tt_iastore (M := MX11_note) (pc := 49) dX11_note_49 h0.2.2.1 rfl ?_
        refine tt_ld (M := MX11_note) (pc := 50) dX11_note_50 rfl rfl rfl rfl rfl ?_
        refine tt_getR (M := MX11_note) (pc := 51) dX11_note_51 rfl h0.1 rfl ?_
        refine tt_ld (M := MX11_note) (pc := 54) dX11_note_54 rfl rfl rfl rfl rfl ?_
        refine tt_getI (M := MX11_note) (pc := 55) dX11_note_55 rfl h0.1 rfl ?_
        refine tt_ld (M := MX11_note) (pc := 58) dX11_note_58 rfl rfl rfl rfl rfl ?_
        refine tt_iastore (M := MX11_note) (pc := 59) dX11_note_59 h0.2.2.2.1 rfl ?_
        refine tt_ld (M := MX11_note) (pc := 60) dX11_note_60 rfl rfl rfl rfl rfl ?_
        refine tt_dup (M := MX11_note) (pc := 61) dX11_note_61 rfl ?_
        refine tt_getI (M := MX11_note) (pc := 62) dX11_note_62 rfl h0.1 rfl ?_
        refine tt_iconst (M := MX11_note) (pc := 65) dX11_note_65 ?_
        refine tt_iadd (M := MX11_note) (pc := 66) dX11_note_66 ?_
        refine tt_putI (M := MX11_note) (pc := 67) dX11_note_67 rfl rfl (Or.inl rfl) h0.1 rfl ?_
        refine tt_ld (M := MX11_note) (pc := 70) dX11_note_70 rfl rfl rfl rfl rfl ?_
        refine tt_getI (M := MX11_note) (pc := 71) dX11_note_71 rfl h0.1 rfl ?_
        exact tt_iret (M := MX11_note) (pc := 74) dX11_note_74 rfl
      · refine tt_ld (M := MX11_note) (pc := 34) dX11_note_34 rfl rfl rfl rfl rfl ?_
        refine tt_iconst (M := MX11_note) (pc := 35) dX11_note_35 ?_
        refine tt_vcIN (M := MX11_note) (pc := 36) dX11_note_36 rfl rfl [] rfl rfl ⟨rfl, by decide, Nat.le_of_ble_eq_true rfl⟩ h0.1 fun v109 S110 => ?_
        exact tt_iret (M := MX11_note) (pc := 39) dX11_note_39 rfl
theorem qX11_isNoted_0 {sc : Nat × (Nat → Int32)} {SH : List mCell} {S : mStore} {r : mR × mW} (h0 : sMod SH) {u1 : Option Value} {u2 : Option Value} : (G sc MX11_isNoted 2 [some (.ref 90), some (.int (I 0)), u2] [] SH S r) → G sc MX11_isNoted 0 [some (.ref 90), u1, u2] [] SH S r := by
  refine tt_iconst (M := MX11_isNoted) (pc := 0) dX11_isNoted_0 ?_
  refine tt_st (M := MX11_isNoted) (pc := 1) [some (.ref 90), some (.int (I 0)), u2] dX11_isNoted_1 rfl rfl rfl rfl rfl rfl ?_
  exact id
theorem qX11_isNoted_2 {sc : Nat × (Nat → Int32)} {SH : List mCell} {S : mStore} {r : mR × mW} (h0 : sMod SH) {l1 : Int} {u2 : Option Value} : ((if I 20 < I l1 then G sc MX11_isNoted 40 [some (.ref 90), some (.int (I 1)), some (.int (I 0))] [] SH S r else (∃ v101 S102, G sc MX11_usedOf 0 [some (.ref 90), some (.int (I 1654)), none, none] [] SH S (rI v101 SH S102) ∧ (((0 : Int) ≤ l1 ∧ l1 < 21) ∧ (∃ v103 S104, G sc MX11_ticksOf 0 [some (.ref 90), some (.int (I 1654)), some (.int (I 1)), none, none] [] SH (up S102 108 l1 v101) (rI v103 SH S104) ∧ G sc MX11_isNoted 2 [some (.ref 90), some (.int (I (l1 + 1))), u2] [] SH S104 r))))) → G sc MX11_isNoted 2 [some (.ref 90), some (.int (I l1)), u2] [] SH S r := by
  refine tt_ld (M := MX11_isNoted) (pc := 2) dX11_isNoted_2 rfl rfl rfl rfl rfl ?_
  refine tt_bipush (M := MX11_isNoted) (pc := 3) dX11_isNoted_3 (by decide) ?_
  refine tt_ic_gt (M := MX11_isNoted) (pc := 5) 36 dX11_isNoted_5 rfl ?_ ?_
  · refine tt_iconst (M := MX11_isNoted) (pc := 36) dX11_isNoted_36 ?_
    refine tt_st (M := MX11_isNoted) (pc := 37) [some (.ref 90), some (.int (I 1)), u2] dX11_isNoted_37 rfl rfl rfl rfl rfl rfl ?_
    refine tt_iconst (M := MX11_isNoted) (pc := 38) dX11_isNoted_38 ?_
    refine tt_st (M := MX11_isNoted) (pc := 39) [some (.ref 90), some (.int (I 1)), some (.int (I 0))] dX11_isNoted_39 rfl rfl rfl rfl rfl rfl ?_
    exact id
  · refine tt_ld (M := MX11_isNoted) (pc := 8) dX11_isNoted_8 rfl rfl rfl rfl rfl ?_
    refine tt_getR (M := MX11_isNoted) (pc := 9) dX11_isNoted_9 rfl h0.1 rfl ?_
    refine tt_ld (M := MX11_isNoted) (pc := 12) dX11_isNoted_12 rfl rfl rfl rfl rfl ?_
    refine tt_ld (M := MX11_isNoted) (pc := 13) dX11_isNoted_13 rfl rfl rfl rfl rfl ?_
    refine tt_sipush (M := MX11_isNoted) (pc := 14) dX11_isNoted_14 (by decide) ?_
    refine tt_vcIN (M := MX11_isNoted) (pc := 17) dX11_isNoted_17 rfl rfl [.int (I l1), .ref 108] rfl rfl ⟨rfl, by decide, Nat.le_of_ble_eq_true rfl⟩ h0.1 fun v101 S102 => ?_
    refine tt_iastore (M := MX11_isNoted) (pc := 20) dX11_isNoted_20 h0.2.2.2.2.2.2.2.2.2.2.2.2.2.2.2.2.2.2.1 rfl ?_
    refine tt_ld (M := MX11_isNoted) (pc := 21) dX11_isNoted_21 rfl rfl rfl rfl rfl ?_
    refine tt_sipush (M := MX11_isNoted) (pc := 22) dX11_isNoted_22 (by decide) ?_
    refine tt_iconst (M := MX11_isNoted) (pc := 25) dX11_isNoted_25 ?_
    refine tt_vcIN (M := MX11_isNoted) (pc := 26) dX11_isNoted_26 rfl rfl [] rfl rfl ⟨rfl, by decide, Nat.le_of_ble_eq_true rfl⟩ h0.1 fun v103 S104 => ?_
    refine tt_pop (M := MX11_isNoted) (pc := 29) dX11_isNoted_29 rfl ?_
    refine tt_iinc (M := MX11_isNoted) (pc := 30) [some (.ref 90), some (.int (I (l1 + 1))), u2] dX11_isNoted_30 rfl rfl ?_
    refine tt_goto (M := MX11_isNoted) (pc := 33) 2 dX11_isNoted_33 rfl ?_
    exact id
theorem qX11_isNoted_40 {sc : Nat × (Nat → Int32)} {SH : List mCell} {S : mStore} {r : mR × mW} (h0 : sMod SH) {l1 : Int} {l2 : Int} : ((if I (S 90 7) ≤ I l2 then ((I l1 = I 0 ∨ I l1 = I 1) ∧ r = rI l1 SH S) else (if I l1 = I 0 then G sc MX11_isNoted 40 [some (.ref 90), some (.int (I 0)), some (.int (I (l2 + 1)))] [] SH S r else (((0 : Int) ≤ l2 ∧ l2 < 16) ∧ (((0 : Int) ≤ S 92 l2 ∧ S 92 l2 < 21) ∧ (((0 : Int) ≤ l2 ∧ l2 < 16) ∧ (if I (S 108 (S 92 l2)) = I (S 93 l2) then G sc MX11_isNoted 40 [some (.ref 90), some (.int (I 1)), some (.int (I (l2 + 1)))] [] SH S r else G sc MX11_isNoted 40 [some (.ref 90), some (.int (I 0)), some (.int (I (l2 + 1)))] [] SH S r))))))) → G sc MX11_isNoted 40 [some (.ref 90), some (.int (I l1)), some (.int (I l2))] [] SH S r := by
  refine tt_ld (M := MX11_isNoted) (pc := 40) dX11_isNoted_40 rfl rfl rfl rfl rfl ?_
  refine tt_ld (M := MX11_isNoted) (pc := 41) dX11_isNoted_41 rfl rfl rfl rfl rfl ?_
  refine tt_getI (M := MX11_isNoted) (pc := 42) dX11_isNoted_42 rfl h0.1 rfl ?_
  refine tt_ic_ge (M := MX11_isNoted) (pc := 45) 84 dX11_isNoted_45 rfl ?_ ?_
  · refine tt_ld (M := MX11_isNoted) (pc := 84) dX11_isNoted_84 rfl rfl rfl rfl rfl ?_
    exact tt_zret (M := MX11_isNoted) (pc := 85) dX11_isNoted_85 rfl
  · refine tt_ld (M := MX11_isNoted) (pc := 48) dX11_isNoted_48 rfl rfl rfl rfl rfl ?_
    refine tt_if_eq (M := MX11_isNoted) (pc := 49) 76 dX11_isNoted_49 rfl ?_ ?_
    · refine tt_iconst (M := MX11_isNoted) (pc := 76) dX11_isNoted_76 ?_
      refine tt_st (M := MX11_isNoted) (pc := 77) [some (.ref 90), some (.int (I 0)), some (.int (I l2))] dX11_isNoted_77 rfl rfl rfl rfl rfl rfl ?_
      refine tt_iinc (M := MX11_isNoted) (pc := 78) [some (.ref 90), some (.int (I 0)), some (.int (I (l2 + 1)))] dX11_isNoted_78 rfl rfl ?_
      refine tt_goto (M := MX11_isNoted) (pc := 81) 40 dX11_isNoted_81 rfl ?_
      exact id
    · refine tt_ld (M := MX11_isNoted) (pc := 52) dX11_isNoted_52 rfl rfl rfl rfl rfl ?_
      refine tt_getR (M := MX11_isNoted) (pc := 53) dX11_isNoted_53 rfl h0.1 rfl ?_
      refine tt_ld (M := MX11_isNoted) (pc := 56) dX11_isNoted_56 rfl rfl rfl rfl rfl ?_
      refine tt_getR (M := MX11_isNoted) (pc := 57) dX11_isNoted_57 rfl h0.1 rfl ?_
      refine tt_ld (M := MX11_isNoted) (pc := 60) dX11_isNoted_60 rfl rfl rfl rfl rfl ?_
      refine tt_iaload (M := MX11_isNoted) (pc := 61) dX11_isNoted_61 h0.2.2.1 rfl ?_
      refine tt_iaload (M := MX11_isNoted) (pc := 62) dX11_isNoted_62 h0.2.2.2.2.2.2.2.2.2.2.2.2.2.2.2.2.2.2.1 rfl ?_
      refine tt_ld (M := MX11_isNoted) (pc := 63) dX11_isNoted_63 rfl rfl rfl rfl rfl ?_
      refine tt_getR (M := MX11_isNoted) (pc := 64) dX11_isNoted_64 rfl h0.1 rfl ?_
      refine tt_ld (M := MX11_isNoted) (pc := 67) dX11_isNoted_67 rfl rfl rfl rfl rfl ?_
      refine tt_iaload (M := MX11_isNoted) (pc := 68) dX11_isNoted_68 h0.2.2.2.1 rfl ?_
      refine tt_ic_ne (M := MX11_isNoted) (pc := 69) 76 dX11_isNoted_69 rfl ?_ ?_
      · refine tt_iconst (M := MX11_isNoted) (pc := 76) dX11_isNoted_76 ?_
        refine tt_st (M := MX11_isNoted) (pc := 77) [some (.ref 90), some (.int (I 0)), some (.int (I l2))] dX11_isNoted_77 rfl rfl rfl rfl rfl rfl ?_
        refine tt_iinc (M := MX11_isNoted) (pc := 78) [some (.ref 90), some (.int (I 0)), some (.int (I (l2 + 1)))] dX11_isNoted_78 rfl rfl ?_
        refine tt_goto (M := MX11_isNoted) (pc := 81) 40 dX11_isNoted_81 rfl ?_
        exact id
      · refine tt_iconst (M := MX11_isNoted) (pc := 72) dX11_isNoted_72 ?_
        refine tt_goto (M := MX11_isNoted) (pc := 73) 77 dX11_isNoted_73 rfl ?_
        refine tt_st (M := MX11_isNoted) (pc := 77) [some (.ref 90), some (.int (I 1)), some (.int (I l2))] dX11_isNoted_77 rfl rfl rfl rfl rfl rfl ?_
        refine tt_iinc (M := MX11_isNoted) (pc := 78) [some (.ref 90), some (.int (I 1)), some (.int (I (l2 + 1)))] dX11_isNoted_78 rfl rfl ?_
        refine tt_goto (M := MX11_isNoted) (pc := 81) 40 dX11_isNoted_81 rfl ?_
        exact id
theorem qX11_isGuess_0 {sc : Nat × (Nat → Int32)} {SH : List mCell} {S : mStore} {r : mR × mW} (h0 : sMod SH) {l1 : Int} {l2 : Int} {l3 : Int} : ((∃ v101 S102, G sc MX11_cellOf 0 [some (.ref 90), some (.int (I 0)), some (.int (I l1)), some (.int (I l2)), none] [] SH S (rI v101 SH S102) ∧ (if I l3 = I v101 then ((I 0 = I 0 ∨ I 0 = I 1) ∧ r = rI 0 SH S102) else (∃ S103, G sc MX11_tries 0 [some (.ref 90)] [] SH S102 (rV SH S103) ∧ (∃ v104 S105, G sc MX11_writesCell 0 [some (.ref 90), some (.int (I 1654)), some (.int (I l1)), some (.int (I l2)), some (.int (I l3))] [] SH S103 (rI v104 SH S105) ∧ (if I v104 = I (-1) then ((I 0 = I 0 ∨ I 0 = I 1) ∧ r = rI 0 SH S105) else (∃ v106 S107, G sc MX11_isNoted 0 [some (.ref 90), none, none] [] SH S105 (rI v106 SH S107) ∧ (if I v106 = I 0 then ((I 0 = I 0 ∨ I 0 = I 1) ∧ r = rI 0 SH S107) else ((I 1 = I 0 ∨ I 1 = I 1) ∧ r = rI 1 SH S107))))))))) → G sc MX11_isGuess 0 [some (.ref 90), some (.int (I l1)), some (.int (I l2)), some (.int (I l3))] [] SH S r := by
  refine tt_ld (M := MX11_isGuess) (pc := 0) dX11_isGuess_0 rfl rfl rfl rfl rfl ?_
  refine tt_ld (M := MX11_isGuess) (pc := 1) dX11_isGuess_1 rfl rfl rfl rfl rfl ?_
  refine tt_iconst (M := MX11_isGuess) (pc := 2) dX11_isGuess_2 ?_
  refine tt_ld (M := MX11_isGuess) (pc := 3) dX11_isGuess_3 rfl rfl rfl rfl rfl ?_
  refine tt_ld (M := MX11_isGuess) (pc := 4) dX11_isGuess_4 rfl rfl rfl rfl rfl ?_
  refine tt_vcIN (M := MX11_isGuess) (pc := 5) dX11_isGuess_5 rfl rfl [.int (I l3)] rfl rfl ⟨rfl, by decide, Nat.le_of_ble_eq_true rfl⟩ h0.1 fun v101 S102 => ?_
  refine tt_ic_ne (M := MX11_isGuess) (pc := 8) 13 dX11_isGuess_8 rfl ?_ ?_
  · refine tt_ld (M := MX11_isGuess) (pc := 13) dX11_isGuess_13 rfl rfl rfl rfl rfl ?_
    refine tt_vcVN (M := MX11_isGuess) (pc := 14) dX11_isGuess_14 rfl rfl [] rfl rfl ⟨rfl, by decide, Nat.le_of_ble_eq_true rfl⟩ h0.1 fun S103 => ?_
    refine tt_ld (M := MX11_isGuess) (pc := 17) dX11_isGuess_17 rfl rfl rfl rfl rfl ?_
    refine tt_sipush (M := MX11_isGuess) (pc := 18) dX11_isGuess_18 (by decide) ?_
    refine tt_ld (M := MX11_isGuess) (pc := 21) dX11_isGuess_21 rfl rfl rfl rfl rfl ?_
    refine tt_ld (M := MX11_isGuess) (pc := 22) dX11_isGuess_22 rfl rfl rfl rfl rfl ?_
    refine tt_ld (M := MX11_isGuess) (pc := 23) dX11_isGuess_23 rfl rfl rfl rfl rfl ?_
    refine tt_vcIN (M := MX11_isGuess) (pc := 24) dX11_isGuess_24 rfl rfl [] rfl rfl ⟨rfl, by decide, Nat.le_of_ble_eq_true rfl⟩ h0.1 fun v104 S105 => ?_
    refine tt_iconst (M := MX11_isGuess) (pc := 27) dX11_isGuess_27 ?_
    refine tt_ic_eq (M := MX11_isGuess) (pc := 28) 42 dX11_isGuess_28 rfl ?_ ?_
    · refine tt_iconst (M := MX11_isGuess) (pc := 42) dX11_isGuess_42 ?_
      exact tt_zret (M := MX11_isGuess) (pc := 43) dX11_isGuess_43 rfl
    · refine tt_ld (M := MX11_isGuess) (pc := 31) dX11_isGuess_31 rfl rfl rfl rfl rfl ?_
      refine tt_vcIN (M := MX11_isGuess) (pc := 32) dX11_isGuess_32 rfl rfl [] rfl rfl ⟨rfl, by decide, Nat.le_of_ble_eq_true rfl⟩ h0.1 fun v106 S107 => ?_
      refine tt_if_eq (M := MX11_isGuess) (pc := 35) 42 dX11_isGuess_35 rfl ?_ ?_
      · refine tt_iconst (M := MX11_isGuess) (pc := 42) dX11_isGuess_42 ?_
        exact tt_zret (M := MX11_isGuess) (pc := 43) dX11_isGuess_43 rfl
      · refine tt_iconst (M := MX11_isGuess) (pc := 38) dX11_isGuess_38 ?_
        refine tt_goto (M := MX11_isGuess) (pc := 39) 43 dX11_isGuess_39 rfl ?_
        exact tt_zret (M := MX11_isGuess) (pc := 43) dX11_isGuess_43 rfl
  · refine tt_iconst (M := MX11_isGuess) (pc := 11) dX11_isGuess_11 ?_
    exact tt_zret (M := MX11_isGuess) (pc := 12) dX11_isGuess_12 rfl
theorem qX11_guess_0 {sc : Nat × (Nat → Int32)} {SH : List mCell} {S : mStore} {r : mR × mW} (h0 : sMod SH) {l1 : Int} {l2 : Int} {l3 : Int} {l4 : Int} {u5 : Option Value} {u6 : Option Value} {u7 : Option Value} : ((∃ v101 S102, G sc MX11_isPage 0 [some (.ref 90), some (.int (I l1)), some (.int (I l2))] [] SH (up S 90 4 0) (rI v101 SH S102) ∧ (if I v101 = I 0 then r = rI 0 SH S102 else (∃ v103 S104, G sc MX11_within 0 [some (.int (I l3)), some (.int (I 0)), some (.int (I 3))] [] SH S102 (rI v103 SH S104) ∧ (if I v103 = I 0 then (∃ v105 S106, G sc MX11_right 0 [some (.ref 90), some (.int (I 0)), some (.int (I 1))] [] SH S104 (rI v105 SH S106) ∧ (if I v105 = I 0 then r = rI 0 SH S106 else (if I l4 = I 2 then (∃ S107, G sc MX11_tries 0 [some (.ref 90)] [] SH S106 (rV SH S107) ∧ (∃ v108 S109, G sc MX11_isNoted 0 [some (.ref 90), none, none] [] SH S107 (rI v108 SH S109) ∧ (if I v108 = I 0 then r = rI 0 SH S109 else r = rI 1 SH S109))) else G sc MX11_guess 81 [some (.ref 90), some (.int (I l1)), some (.int (I l2)), some (.int (I l3)), some (.int (I l4)), some (.int (I 0)), some (.int (I (-1))), some (.int (I 15))] [] SH S106 r))) else (∃ v110 S111, G sc MX11_within 0 [some (.int (I l4)), some (.int (I 0)), some (.int (I 2))] [] SH S104 (rI v110 SH S111) ∧ (if I v110 = I 0 then (∃ v112 S113, G sc MX11_right 0 [some (.ref 90), some (.int (I 0)), some (.int (I 1))] [] SH S111 (rI v112 SH S113) ∧ (if I v112 = I 0 then r = rI 0 SH S113 else (if I l4 = I 2 then (∃ S114, G sc MX11_tries 0 [some (.ref 90)] [] SH S113 (rV SH S114) ∧ (∃ v115 S116, G sc MX11_isNoted 0 [some (.ref 90), none, none] [] SH S114 (rI v115 SH S116) ∧ (if I v115 = I 0 then r = rI 0 SH S116 else r = rI 1 SH S116))) else G sc MX11_guess 81 [some (.ref 90), some (.int (I l1)), some (.int (I l2)), some (.int (I l3)), some (.int (I l4)), some (.int (I 0)), some (.int (I (-1))), some (.int (I 15))] [] SH S113 r))) else (∃ v117 S118, G sc MX11_right 0 [some (.ref 90), some (.int (I 1)), some (.int (I 1))] [] SH S111 (rI v117 SH S118) ∧ (if I v117 = I 0 then r = rI 0 SH S118 else (if I l4 = I 2 then (∃ S119, G sc MX11_tries 0 [some (.ref 90)] [] SH S118 (rV SH S119) ∧ (∃ v120 S121, G sc MX11_isNoted 0 [some (.ref 90), none, none] [] SH S119 (rI v120 SH S121) ∧ (if I v120 = I 0 then r = rI 0 SH S121 else r = rI 1 SH S121))) else G sc MX11_guess 81 [some (.ref 90), some (.int (I l1)), some (.int (I l2)), some (.int (I l3)), some (.int (I l4)), some (.int (I 0)), some (.int (I (-1))), some (.int (I 15))] [] SH S118 r)))))))))) → G sc MX11_guess 0 [some (.ref 90), some (.int (I l1)), some (.int (I l2)), some (.int (I l3)), some (.int (I l4)), u5, u6, u7] [] SH S r := by
  refine tt_ld (M := MX11_guess) (pc := 0) dX11_guess_0 rfl rfl rfl rfl rfl ?_
  refine tt_iconst (M := MX11_guess) (pc := 1) dX11_guess_1 ?_
  refine tt_putI (M := MX11_guess) (pc := 2) dX11_guess_2 rfl rfl (Or.inl rfl) h0.1 rfl ?_
  refine tt_ld (M := MX11_guess) (pc := 5) dX11_guess_5 rfl rfl rfl rfl rfl ?_
  refine tt_ld (M := MX11_guess) (pc := 6) dX11_guess_6 rfl rfl rfl rfl rfl ?_
  refine tt_ld (M := MX11_guess) (pc := 7) dX11_guess_7 rfl rfl rfl rfl rfl ?_
  refine tt_vcIN (M := MX11_guess) (pc := 8) dX11_guess_8 rfl rfl [] rfl rfl ⟨rfl, by decide, Nat.le_of_ble_eq_true rfl⟩ h0.1 fun v101 S102 => ?_
  refine tt_if_eq (M := MX11_guess) (pc := 11) 46 dX11_guess_11 rfl ?_ ?_
  · refine tt_iconst (M := MX11_guess) (pc := 46) dX11_guess_46 ?_
    exact tt_iret (M := MX11_guess) (pc := 47) dX11_guess_47 rfl
  · refine tt_ld (M := MX11_guess) (pc := 14) dX11_guess_14 rfl rfl rfl rfl rfl ?_
    refine tt_ld (M := MX11_guess) (pc := 15) dX11_guess_15 rfl rfl rfl rfl rfl ?_
    refine tt_iconst (M := MX11_guess) (pc := 16) dX11_guess_16 ?_
    refine tt_iconst (M := MX11_guess) (pc := 17) dX11_guess_17 ?_
    refine tt_scIN (M := MX11_guess) (pc := 18) dX11_guess_18 rfl [.ref 90] rfl rfl ⟨rfl, by decide, Nat.le_of_ble_eq_true rfl⟩ fun v103 S104 => ?_
    refine tt_if_eq (M := MX11_guess) (pc := 21) 38 dX11_guess_21 rfl ?_ ?_
    · refine tt_iconst (M := MX11_guess) (pc := 38) dX11_guess_38 ?_
      refine tt_iconst (M := MX11_guess) (pc := 39) dX11_guess_39 ?_
      refine tt_vcIN (M := MX11_guess) (pc := 40) dX11_guess_40 rfl rfl [] rfl rfl ⟨rfl, by decide, Nat.le_of_ble_eq_true rfl⟩ h0.1 fun v105 S106 => ?_
      refine tt_if_ne (M := MX11_guess) (pc := 43) 48 dX11_guess_43 rfl ?_ ?_
      · refine tt_ld (M := MX11_guess) (pc := 48) dX11_guess_48 rfl rfl rfl rfl rfl ?_
        refine tt_iconst (M := MX11_guess) (pc := 50) dX11_guess_50 ?_
        refine tt_ic_ne (M := MX11_guess) (pc := 51) 71 dX11_guess_51 rfl ?_ ?_
        · refine tt_iconst (M := MX11_guess) (pc := 71) dX11_guess_71 ?_
          refine tt_st (M := MX11_guess) (pc := 72) [some (.ref 90), some (.int (I l1)), some (.int (I l2)), some (.int (I l3)), some (.int (I l4)), some (.int (I 0)), u6, u7] dX11_guess_72 rfl rfl rfl rfl rfl rfl ?_
          refine tt_iconst (M := MX11_guess) (pc := 74) dX11_guess_74 ?_
          refine tt_st (M := MX11_guess) (pc := 75) [some (.ref 90), some (.int (I l1)), some (.int (I l2)), some (.int (I l3)), some (.int (I l4)), some (.int (I 0)), some (.int (I (-1))), u7] dX11_guess_75 rfl rfl rfl rfl rfl rfl ?_
          refine tt_bipush (M := MX11_guess) (pc := 77) dX11_guess_77 (by decide) ?_
          refine tt_st (M := MX11_guess) (pc := 79) [some (.ref 90), some (.int (I l1)), some (.int (I l2)), some (.int (I l3)), some (.int (I l4)), some (.int (I 0)), some (.int (I (-1))), some (.int (I 15))] dX11_guess_79 rfl rfl rfl rfl rfl rfl ?_
          exact id
        · refine tt_ld (M := MX11_guess) (pc := 54) dX11_guess_54 rfl rfl rfl rfl rfl ?_
          refine tt_vcVN (M := MX11_guess) (pc := 55) dX11_guess_55 rfl rfl [] rfl rfl ⟨rfl, by decide, Nat.le_of_ble_eq_true rfl⟩ h0.1 fun S107 => ?_
          refine tt_ld (M := MX11_guess) (pc := 58) dX11_guess_58 rfl rfl rfl rfl rfl ?_
          refine tt_vcIN (M := MX11_guess) (pc := 59) dX11_guess_59 rfl rfl [] rfl rfl ⟨rfl, by decide, Nat.le_of_ble_eq_true rfl⟩ h0.1 fun v108 S109 => ?_
          refine tt_if_eq (M := MX11_guess) (pc := 62) 69 dX11_guess_62 rfl ?_ ?_
          · refine tt_iconst (M := MX11_guess) (pc := 69) dX11_guess_69 ?_
            exact tt_iret (M := MX11_guess) (pc := 70) dX11_guess_70 rfl
          · refine tt_iconst (M := MX11_guess) (pc := 65) dX11_guess_65 ?_
            refine tt_goto (M := MX11_guess) (pc := 66) 70 dX11_guess_66 rfl ?_
            exact tt_iret (M := MX11_guess) (pc := 70) dX11_guess_70 rfl
      · refine tt_iconst (M := MX11_guess) (pc := 46) dX11_guess_46 ?_
        exact tt_iret (M := MX11_guess) (pc := 47) dX11_guess_47 rfl
    · refine tt_ld (M := MX11_guess) (pc := 24) dX11_guess_24 rfl rfl rfl rfl rfl ?_
      refine tt_iconst (M := MX11_guess) (pc := 26) dX11_guess_26 ?_
      refine tt_iconst (M := MX11_guess) (pc := 27) dX11_guess_27 ?_
      refine tt_scIN (M := MX11_guess) (pc := 28) dX11_guess_28 rfl [.ref 90] rfl rfl ⟨rfl, by decide, Nat.le_of_ble_eq_true rfl⟩ fun v110 S111 => ?_
      refine tt_if_eq (M := MX11_guess) (pc := 31) 38 dX11_guess_31 rfl ?_ ?_
      · refine tt_iconst (M := MX11_guess) (pc := 38) dX11_guess_38 ?_
        refine tt_iconst (M := MX11_guess) (pc := 39) dX11_guess_39 ?_
        refine tt_vcIN (M := MX11_guess) (pc := 40) dX11_guess_40 rfl rfl [] rfl rfl ⟨rfl, by decide, Nat.le_of_ble_eq_true rfl⟩ h0.1 fun v112 S113 => ?_
        refine tt_if_ne (M := MX11_guess) (pc := 43) 48 dX11_guess_43 rfl ?_ ?_
        · refine tt_ld (M := MX11_guess) (pc := 48) dX11_guess_48 rfl rfl rfl rfl rfl ?_
          refine tt_iconst (M := MX11_guess) (pc := 50) dX11_guess_50 ?_
          refine tt_ic_ne (M := MX11_guess) (pc := 51) 71 dX11_guess_51 rfl ?_ ?_
          · refine tt_iconst (M := MX11_guess) (pc := 71) dX11_guess_71 ?_
            refine tt_st (M := MX11_guess) (pc := 72) [some (.ref 90), some (.int (I l1)), some (.int (I l2)), some (.int (I l3)), some (.int (I l4)), some (.int (I 0)), u6, u7] dX11_guess_72 rfl rfl rfl rfl rfl rfl ?_
            refine tt_iconst (M := MX11_guess) (pc := 74) dX11_guess_74 ?_
            refine tt_st (M := MX11_guess) (pc := 75) [some (.ref 90), some (.int (I l1)), some (.int (I l2)), some (.int (I l3)), some (.int (I l4)), some (.int (I 0)), some (.int (I (-1))), u7] dX11_guess_75 rfl rfl rfl rfl rfl rfl ?_
            refine tt_bipush (M := MX11_guess) (pc := 77) dX11_guess_77 (by decide) ?_
            refine tt_st (M := MX11_guess) (pc := 79) [some (.ref 90), some (.int (I l1)), some (.int (I l2)), some (.int (I l3)), some (.int (I l4)), some (.int (I 0)), some (.int (I (-1))), some (.int (I 15))] dX11_guess_79 rfl rfl rfl rfl rfl rfl ?_
            exact id
          · refine tt_ld (M := MX11_guess) (pc := 54) dX11_guess_54 rfl rfl rfl rfl rfl ?_
            refine tt_vcVN (M := MX11_guess) (pc := 55) dX11_guess_55 rfl rfl [] rfl rfl ⟨rfl, by decide, Nat.le_of_ble_eq_true rfl⟩ h0.1 fun S114 => ?_
            refine tt_ld (M := MX11_guess) (pc := 58) dX11_guess_58 rfl rfl rfl rfl rfl ?_
            refine tt_vcIN (M := MX11_guess) (pc := 59) dX11_guess_59 rfl rfl [] rfl rfl ⟨rfl, by decide, Nat.le_of_ble_eq_true rfl⟩ h0.1 fun v115 S116 => ?_
            refine tt_if_eq (M := MX11_guess) (pc := 62) 69 dX11_guess_62 rfl ?_ ?_
            · refine tt_iconst (M := MX11_guess) (pc := 69) dX11_guess_69 ?_
              exact tt_iret (M := MX11_guess) (pc := 70) dX11_guess_70 rfl
            · refine tt_iconst (M := MX11_guess) (pc := 65) dX11_guess_65 ?_
              refine tt_goto (M := MX11_guess) (pc := 66) 70 dX11_guess_66 rfl ?_
              exact tt_iret (M := MX11_guess) (pc := 70) dX11_guess_70 rfl
        · refine tt_iconst (M := MX11_guess) (pc := 46) dX11_guess_46 ?_
          exact tt_iret (M := MX11_guess) (pc := 47) dX11_guess_47 rfl
      · refine tt_iconst (M := MX11_guess) (pc := 34) dX11_guess_34 ?_
        refine tt_goto (M := MX11_guess) (pc := 35) 39 dX11_guess_35 rfl ?_
        refine tt_iconst (M := MX11_guess) (pc := 39) dX11_guess_39 ?_
        refine tt_vcIN (M := MX11_guess) (pc := 40) dX11_guess_40 rfl rfl [] rfl rfl ⟨rfl, by decide, Nat.le_of_ble_eq_true rfl⟩ h0.1 fun v117 S118 => ?_
        refine tt_if_ne (M := MX11_guess) (pc := 43) 48 dX11_guess_43 rfl ?_ ?_
        · refine tt_ld (M := MX11_guess) (pc := 48) dX11_guess_48 rfl rfl rfl rfl rfl ?_
          refine tt_iconst (M := MX11_guess) (pc := 50) dX11_guess_50 ?_
          refine tt_ic_ne (M := MX11_guess) (pc := 51) 71 dX11_guess_51 rfl ?_ ?_
          · refine tt_iconst (M := MX11_guess) (pc := 71) dX11_guess_71 ?_
            refine tt_st (M := MX11_guess) (pc := 72) [some (.ref 90), some (.int (I l1)), some (.int (I l2)), some (.int (I l3)), some (.int (I l4)), some (.int (I 0)), u6, u7] dX11_guess_72 rfl rfl rfl rfl rfl rfl ?_
            refine tt_iconst (M := MX11_guess) (pc := 74) dX11_guess_74 ?_
            refine tt_st (M := MX11_guess) (pc := 75) [some (.ref 90), some (.int (I l1)), some (.int (I l2)), some (.int (I l3)), some (.int (I l4)), some (.int (I 0)), some (.int (I (-1))), u7] dX11_guess_75 rfl rfl rfl rfl rfl rfl ?_
            refine tt_bipush (M := MX11_guess) (pc := 77) dX11_guess_77 (by decide) ?_
            refine tt_st (M := MX11_guess) (pc := 79) [some (.ref 90), some (.int (I l1)), some (.int (I l2)), some (.int (I l3)), some (.int (I l4)), some (.int (I 0)), some (.int (I (-1))), some (.int (I 15))] dX11_guess_79 rfl rfl rfl rfl rfl rfl ?_
            exact id
          · refine tt_ld (M := MX11_guess) (pc := 54) dX11_guess_54 rfl rfl rfl rfl rfl ?_
            refine tt_vcVN (M := MX11_guess) (pc := 55) dX11_guess_55 rfl rfl [] rfl rfl ⟨rfl, by decide, Nat.le_of_ble_eq_true rfl⟩ h0.1 fun S119 => ?_
            refine tt_ld (M := MX11_guess) (pc := 58) dX11_guess_58 rfl rfl rfl rfl rfl ?_
            refine tt_vcIN (M := MX11_guess) (pc := 59) dX11_guess_59 rfl rfl [] rfl rfl ⟨rfl, by decide, Nat.le_of_ble_eq_true rfl⟩ h0.1 fun v120 S121 => ?_
            refine tt_if_eq (M := MX11_guess) (pc := 62) 69 dX11_guess_62 rfl ?_ ?_
            · refine tt_iconst (M := MX11_guess) (pc := 69) dX11_guess_69 ?_
              exact tt_iret (M := MX11_guess) (pc := 70) dX11_guess_70 rfl
            · refine tt_iconst (M := MX11_guess) (pc := 65) dX11_guess_65 ?_
              refine tt_goto (M := MX11_guess) (pc := 66) 70 dX11_guess_66 rfl ?_
              exact tt_iret (M := MX11_guess) (pc := 70) dX11_guess_70 rfl
        · refine tt_iconst (M := MX11_guess) (pc := 46) dX11_guess_46 ?_
          exact tt_iret (M := MX11_guess) (pc := 47) dX11_guess_47 rfl
theorem qX11_guess_81 {sc : Nat × (Nat → Int32)} {SH : List mCell} {S : mStore} {r : mR × mW} (h0 : sMod SH) {l1 : Int} {l2 : Int} {l3 : Int} {l4 : Int} {l5 : Int} {l6 : Int} {l7 : Int} : ((if I l7 < I 0 then (if I l4 = I 0 then r = rI l5 SH S else r = rI l6 SH S) else (((0 : Int) ≤ l1 ∧ l1 < 5) ∧ (∃ v101 S102, G sc MX11_isGuess 0 [some (.ref 90), some (.int (I ((S 97 l1) + l2))), some (.int (I l3)), some (.int (I l7))] [] SH S (rI v101 SH S102) ∧ (if I v101 = I 0 then G sc MX11_guess 81 [some (.ref 90), some (.int (I l1)), some (.int (I l2)), some (.int (I l3)), some (.int (I l4)), some (.int (I l5)), some (.int (I l6)), some (.int (I (l7 + (-1))))] [] SH S102 r else G sc MX11_guess 81 [some (.ref 90), some (.int (I l1)), some (.int (I l2)), some (.int (I l3)), some (.int (I l4)), some (.int (I (l5 + 1))), some (.int (I l7)), some (.int (I (l7 + (-1))))] [] SH S102 r))))) → G sc MX11_guess 81 [some (.ref 90), some (.int (I l1)), some (.int (I l2)), some (.int (I l3)), some (.int (I l4)), some (.int (I l5)), some (.int (I l6)), some (.int (I l7))] [] SH S r := by
  refine tt_ld (M := MX11_guess) (pc := 81) dX11_guess_81 rfl rfl rfl rfl rfl ?_
  refine tt_if_lt (M := MX11_guess) (pc := 83) 120 dX11_guess_83 rfl ?_ ?_
  · refine tt_ld (M := MX11_guess) (pc := 120) dX11_guess_120 rfl rfl rfl rfl rfl ?_
    refine tt_if_ne (M := MX11_guess) (pc := 122) 130 dX11_guess_122 rfl ?_ ?_
    · refine tt_ld (M := MX11_guess) (pc := 130) dX11_guess_130 rfl rfl rfl rfl rfl ?_
      exact tt_iret (M := MX11_guess) (pc := 132) dX11_guess_132 rfl
    · refine tt_ld (M := MX11_guess) (pc := 125) dX11_guess_125 rfl rfl rfl rfl rfl ?_
      refine tt_goto (M := MX11_guess) (pc := 127) 132 dX11_guess_127 rfl ?_
      exact tt_iret (M := MX11_guess) (pc := 132) dX11_guess_132 rfl
  · refine tt_ld (M := MX11_guess) (pc := 86) dX11_guess_86 rfl rfl rfl rfl rfl ?_
    refine tt_ld (M := MX11_guess) (pc := 87) dX11_guess_87 rfl rfl rfl rfl rfl ?_
    refine tt_getR (M := MX11_guess) (pc := 88) dX11_guess_88 rfl h0.1 rfl ?_
    refine tt_ld (M := MX11_guess) (pc := 91) dX11_guess_91 rfl rfl rfl rfl rfl ?_
    refine tt_iaload (M := MX11_guess) (pc := 92) dX11_guess_92 h0.2.2.2.2.2.2.2.1 rfl ?_
    refine tt_ld (M := MX11_guess) (pc := 93) dX11_guess_93 rfl rfl rfl rfl rfl ?_
    refine tt_iadd (M := MX11_guess) (pc := 94) dX11_guess_94 ?_
    refine tt_ld (M := MX11_guess) (pc := 95) dX11_guess_95 rfl rfl rfl rfl rfl ?_
    refine tt_ld (M := MX11_guess) (pc := 96) dX11_guess_96 rfl rfl rfl rfl rfl ?_
    refine tt_vcIN (M := MX11_guess) (pc := 98) dX11_guess_98 rfl rfl [] rfl rfl ⟨rfl, by decide, Nat.le_of_ble_eq_true rfl⟩ h0.1 fun v101 S102 => ?_
    refine tt_if_ne (M := MX11_guess) (pc := 101) 107 dX11_guess_101 rfl ?_ ?_
    · refine tt_iinc (M := MX11_guess) (pc := 107) [some (.ref 90), some (.int (I l1)), some (.int (I l2)), some (.int (I l3)), some (.int (I l4)), some (.int (I (l5 + 1))), some (.int (I l6)), some (.int (I l7))] dX11_guess_107 rfl rfl ?_
      refine tt_ld (M := MX11_guess) (pc := 110) dX11_guess_110 rfl rfl rfl rfl rfl ?_
      refine tt_st (M := MX11_guess) (pc := 112) [some (.ref 90), some (.int (I l1)), some (.int (I l2)), some (.int (I l3)), some (.int (I l4)), some (.int (I (l5 + 1))), some (.int (I l7)), some (.int (I l7))] dX11_guess_112 rfl rfl rfl rfl rfl rfl ?_
      refine tt_iinc (M := MX11_guess) (pc := 114) [some (.ref 90), some (.int (I l1)), some (.int (I l2)), some (.int (I l3)), some (.int (I l4)), some (.int (I (l5 + 1))), some (.int (I l7)), some (.int (I (l7 + (-1))))] dX11_guess_114 rfl rfl ?_
      refine tt_goto (M := MX11_guess) (pc := 117) 81 dX11_guess_117 rfl ?_
      exact id
    · refine tt_goto (M := MX11_guess) (pc := 104) 114 dX11_guess_104 rfl ?_
      refine tt_iinc (M := MX11_guess) (pc := 114) [some (.ref 90), some (.int (I l1)), some (.int (I l2)), some (.int (I l3)), some (.int (I l4)), some (.int (I l5)), some (.int (I l6)), some (.int (I (l7 + (-1))))] dX11_guess_114 rfl rfl ?_
      refine tt_goto (M := MX11_guess) (pc := 117) 81 dX11_guess_117 rfl ?_
      exact id
theorem qX11_ones_0 {sc : Nat × (Nat → Int32)} {SH : List mCell} {S : mStore} {r : mR × mW} {j0 : Int64} {u2 : Option Value} {u3 : Option Value} : (G sc MX11_ones 4 [some (.long j0), none, some (.int (I 0)), some (.int (I 0))] [] SH S r) → G sc MX11_ones 0 [some (.long j0), none, u2, u3] [] SH S r := by
  refine tt_iconst (M := MX11_ones) (pc := 0) dX11_ones_0 ?_
  refine tt_st (M := MX11_ones) (pc := 1) [some (.long j0), none, some (.int (I 0)), u3] dX11_ones_1 rfl rfl rfl rfl rfl rfl ?_
  refine tt_iconst (M := MX11_ones) (pc := 2) dX11_ones_2 ?_
  refine tt_st (M := MX11_ones) (pc := 3) [some (.long j0), none, some (.int (I 0)), some (.int (I 0))] dX11_ones_3 rfl rfl rfl rfl rfl rfl ?_
  exact id
theorem qX11_ones_4 {sc : Nat × (Nat → Int32)} {SH : List mCell} {S : mStore} {r : mR × mW} {j0 : Int64} {l2 : Int} {l3 : Int} : ((if I 48 < I l3 then r = rI l2 SH S else (if I (jcm ((jsr j0 l3) &&& 1) 1) = I 0 then G sc MX11_ones 4 [some (.long j0), none, some (.int (I (l2 + 1))), some (.int (I (l3 + 1)))] [] SH S r else G sc MX11_ones 4 [some (.long j0), none, some (.int (I (l2 + 0))), some (.int (I (l3 + 1)))] [] SH S r))) → G sc MX11_ones 4 [some (.long j0), none, some (.int (I l2)), some (.int (I l3))] [] SH S r := by
  refine tt_ld (M := MX11_ones) (pc := 4) dX11_ones_4 rfl rfl rfl rfl rfl ?_
  refine tt_bipush (M := MX11_ones) (pc := 5) dX11_ones_5 (by decide) ?_
  refine tt_ic_gt (M := MX11_ones) (pc := 7) 34 dX11_ones_7 rfl ?_ ?_
  · refine tt_ld (M := MX11_ones) (pc := 34) dX11_ones_34 rfl rfl rfl rfl rfl ?_
    exact tt_iret (M := MX11_ones) (pc := 35) dX11_ones_35 rfl
  · refine tt_ld (M := MX11_ones) (pc := 10) dX11_ones_10 rfl rfl rfl rfl rfl ?_
    refine tt_ld (M := MX11_ones) (pc := 11) dX11_ones_11 rfl rfl rfl rfl rfl ?_
    refine tt_ld (M := MX11_ones) (pc := 12) dX11_ones_12 rfl rfl rfl rfl rfl ?_
    refine tt_lshr (M := MX11_ones) (pc := 13) dX11_ones_13 ?_
    refine tt_pushv (M := MX11_ones) (pc := 14) (.long 1) dX11_ones_14 rfl rfl ?_
    refine tt_land (M := MX11_ones) (pc := 15) dX11_ones_15 ?_
    refine tt_pushv (M := MX11_ones) (pc := 16) (.long 1) dX11_ones_16 rfl rfl ?_
    refine tt_lcmp (M := MX11_ones) (pc := 17) dX11_ones_17 ?_
    refine tt_if_ne (M := MX11_ones) (pc := 18) 25 dX11_ones_18 rfl ?_ ?_
    · refine tt_iconst (M := MX11_ones) (pc := 25) dX11_ones_25 ?_
      refine tt_iadd (M := MX11_ones) (pc := 26) dX11_ones_26 ?_
      refine tt_st (M := MX11_ones) (pc := 27) [some (.long j0), none, some (.int (I (l2 + 0))), some (.int (I l3))] dX11_ones_27 rfl rfl rfl rfl rfl rfl ?_
      refine tt_iinc (M := MX11_ones) (pc := 28) [some (.long j0), none, some (.int (I (l2 + 0))), some (.int (I (l3 + 1)))] dX11_ones_28 rfl rfl ?_
      refine tt_goto (M := MX11_ones) (pc := 31) 4 dX11_ones_31 rfl ?_
      exact id
    · refine tt_iconst (M := MX11_ones) (pc := 21) dX11_ones_21 ?_
      refine tt_goto (M := MX11_ones) (pc := 22) 26 dX11_ones_22 rfl ?_
      refine tt_iadd (M := MX11_ones) (pc := 26) dX11_ones_26 ?_
      refine tt_st (M := MX11_ones) (pc := 27) [some (.long j0), none, some (.int (I (l2 + 1))), some (.int (I l3))] dX11_ones_27 rfl rfl rfl rfl rfl rfl ?_
      refine tt_iinc (M := MX11_ones) (pc := 28) [some (.long j0), none, some (.int (I (l2 + 1))), some (.int (I (l3 + 1)))] dX11_ones_28 rfl rfl ?_
      refine tt_goto (M := MX11_ones) (pc := 31) 4 dX11_ones_31 rfl ?_
      exact id
