-- needs: 43.tshape
/-! ===== the program as conditions (gen_vc.py) ===== -/
theorem qX11_pageOf_0 {sc : Nat × (Nat → Int32)} {SH : List mCell} {S : mStore} {r : mR × mW} (h0 : sMod SH) {l1 : Int} : ((if I (S 90 36) = I 2 then (∃ v107 S108, G sc MX11_wants 0 [some (.ref 90), some (.int (I 1)), some (.int (I 1))] [] SH S (rI v107 SH S108) ∧ (if I v107 = I 0 then G sc MX11_pageOf 69 [some (.ref 90), some (.int (I l1))] [] SH S108 r else (if I 12 ≤ I (S108 90 37) then (∃ v109 S110, G sc MX11_wants 0 [some (.ref 90), some (.int (I 0)), some (.int (I 2))] [] SH S108 (rI v109 SH S110) ∧ (if I v109 = I 0 then G sc MX11_pageOf 69 [some (.ref 90), some (.int (I l1))] [] SH S110 r else (((0 : Int) ≤ l1 ∧ l1 < 4) ∧ (if I (S110 102 l1) ≤ I (S110 90 37) then G sc MX11_pageOf 62 [some (.ref 90), some (.int (I l1))] [.int (I 0), .ref 90] SH S110 r else G sc MX11_pageOf 62 [some (.ref 90), some (.int (I l1))] [.int (I 1), .ref 90] SH S110 r)))) else (∃ v111 S112, G sc MX11_wants 0 [some (.ref 90), some (.int (I 1)), some (.int (I 2))] [] SH S108 (rI v111 SH S112) ∧ (if I v111 = I 0 then G sc MX11_pageOf 69 [some (.ref 90), some (.int (I l1))] [] SH S112 r else (((0 : Int) ≤ l1 ∧ l1 < 4) ∧ (if I (S112 102 l1) ≤ I (S112 90 37) then G sc MX11_pageOf 62 [some (.ref 90), some (.int (I l1))] [.int (I 0), .ref 90] SH S112 r else G sc MX11_pageOf 62 [some (.ref 90), some (.int (I l1))] [.int (I 1), .ref 90] SH S112 r))))))) else (∃ v101 S102, G sc MX11_wants 0 [some (.ref 90), some (.int (I 0)), some (.int (I 1))] [] SH S (rI v101 SH S102) ∧ (if I v101 = I 0 then G sc MX11_pageOf 69 [some (.ref 90), some (.int (I l1))] [] SH S102 r else (if I 12 ≤ I (S102 90 37) then (∃ v103 S104, G sc MX11_wants 0 [some (.ref 90), some (.int (I 0)), some (.int (I 2))] [] SH S102 (rI v103 SH S104) ∧ (if I v103 = I 0 then G sc MX11_pageOf 69 [some (.ref 90), some (.int (I l1))] [] SH S104 r else (((0 : Int) ≤ l1 ∧ l1 < 4) ∧ (if I (S104 102 l1) ≤ I (S104 90 37) then G sc MX11_pageOf 62 [some (.ref 90), some (.int (I l1))] [.int (I 0), .ref 90] SH S104 r else G sc MX11_pageOf 62 [some (.ref 90), some (.int (I l1))] [.int (I 1), .ref 90] SH S104 r)))) else (∃ v105 S106, G sc MX11_wants 0 [some (.ref 90), some (.int (I 1)), some (.int (I 2))] [] SH S102 (rI v105 SH S106) ∧ (if I v105 = I 0 then G sc MX11_pageOf 69 [some (.ref 90), some (.int (I l1))] [] SH S106 r else (((0 : Int) ≤ l1 ∧ l1 < 4) ∧ (if I (S106 102 l1) ≤ I (S106 90 37) then G sc MX11_pageOf 62 [some (.ref 90), some (.int (I l1))] [.int (I 0), .ref 90] SH S106 r else G sc MX11_pageOf 62 [some (.ref 90), some (.int (I l1))] [.int (I 1), .ref 90] SH S106 r))))))))) → G sc MX11_pageOf 0 [some (.ref 90), some (.int (I l1))] [] SH S r := by
  refine tt_ld (M := MX11_pageOf) (pc := 0) dX11_pageOf_0 rfl rfl rfl rfl rfl ?_
  refine tt_ld (M := MX11_pageOf) (pc := 1) dX11_pageOf_1 rfl rfl rfl rfl rfl ?_
  refine tt_getI (M := MX11_pageOf) (pc := 2) dX11_pageOf_2 rfl h0.1 rfl ?_
  refine tt_iconst (M := MX11_pageOf) (pc := 5) dX11_pageOf_5 ?_
  refine tt_ic_ne (M := MX11_pageOf) (pc := 6) 13 dX11_pageOf_6 rfl ?_ ?_
  · refine tt_iconst (M := MX11_pageOf) (pc := 13) dX11_pageOf_13 ?_
    refine tt_iconst (M := MX11_pageOf) (pc := 14) dX11_pageOf_14 ?_
    refine tt_vcIN (M := MX11_pageOf) (pc := 15) dX11_pageOf_15 rfl rfl [] rfl rfl ⟨rfl, by decide, Nat.le_of_ble_eq_true rfl⟩ h0.1 fun v101 S102 => ?_
    refine tt_if_eq (M := MX11_pageOf) (pc := 18) 69 dX11_pageOf_18 rfl ?_ ?_
    · exact id
    · refine tt_ld (M := MX11_pageOf) (pc := 21) dX11_pageOf_21 rfl rfl rfl rfl rfl ?_
      refine tt_ld (M := MX11_pageOf) (pc := 22) dX11_pageOf_22 rfl rfl rfl rfl rfl ?_
      refine tt_getI (M := MX11_pageOf) (pc := 23) dX11_pageOf_23 rfl h0.1 rfl ?_
      refine tt_bipush (M := MX11_pageOf) (pc := 26) dX11_pageOf_26 (by decide) ?_
      refine tt_ic_ge (M := MX11_pageOf) (pc := 28) 35 dX11_pageOf_28 rfl ?_ ?_
      · refine tt_iconst (M := MX11_pageOf) (pc := 35) dX11_pageOf_35 ?_
        refine tt_iconst (M := MX11_pageOf) (pc := 36) dX11_pageOf_36 ?_
        refine tt_vcIN (M := MX11_pageOf) (pc := 37) dX11_pageOf_37 rfl rfl [] rfl rfl ⟨rfl, by decide, Nat.le_of_ble_eq_true rfl⟩ h0.1 fun v103 S104 => ?_
        refine tt_if_eq (M := MX11_pageOf) (pc := 40) 69 dX11_pageOf_40 rfl ?_ ?_
        · exact id
        · refine tt_ld (M := MX11_pageOf) (pc := 43) dX11_pageOf_43 rfl rfl rfl rfl rfl ?_
          refine tt_ld (M := MX11_pageOf) (pc := 44) dX11_pageOf_44 rfl rfl rfl rfl rfl ?_
          refine tt_getI (M := MX11_pageOf) (pc := 45) dX11_pageOf_45 rfl h0.1 rfl ?_
          refine tt_ld (M := MX11_pageOf) (pc := 48) dX11_pageOf_48 rfl rfl rfl rfl rfl ?_
          refine tt_getR (M := MX11_pageOf) (pc := 49) dX11_pageOf_49 rfl h0.1 rfl ?_
          refine tt_ld (M := MX11_pageOf) (pc := 52) dX11_pageOf_52 rfl rfl rfl rfl rfl ?_
          refine tt_iaload (M := MX11_pageOf) (pc := 53) dX11_pageOf_53 h0.2.2.2.2.2.2.2.2.2.2.2.2.1 rfl ?_
          refine tt_ic_ge (M := MX11_pageOf) (pc := 54) 61 dX11_pageOf_54 rfl ?_ ?_
          · refine tt_iconst (M := MX11_pageOf) (pc := 61) dX11_pageOf_61 ?_
            exact id
          · refine tt_iconst (M := MX11_pageOf) (pc := 57) dX11_pageOf_57 ?_
            refine tt_goto (M := MX11_pageOf) (pc := 58) 62 dX11_pageOf_58 rfl ?_
            exact id
      · refine tt_iconst (M := MX11_pageOf) (pc := 31) dX11_pageOf_31 ?_
        refine tt_goto (M := MX11_pageOf) (pc := 32) 36 dX11_pageOf_32 rfl ?_
        refine tt_iconst (M := MX11_pageOf) (pc := 36) dX11_pageOf_36 ?_
        refine tt_vcIN (M := MX11_pageOf) (pc := 37) dX11_pageOf_37 rfl rfl [] rfl rfl ⟨rfl, by decide, Nat.le_of_ble_eq_true rfl⟩ h0.1 fun v105 S106 => ?_
        refine tt_if_eq (M := MX11_pageOf) (pc := 40) 69 dX11_pageOf_40 rfl ?_ ?_
        · exact id
        · refine tt_ld (M := MX11_pageOf) (pc := 43) dX11_pageOf_43 rfl rfl rfl rfl rfl ?_
          refine tt_ld (M := MX11_pageOf) (pc := 44) dX11_pageOf_44 rfl rfl rfl rfl rfl ?_
          refine tt_getI (M := MX11_pageOf) (pc := 45) dX11_pageOf_45 rfl h0.1 rfl ?_
          refine tt_ld (M := MX11_pageOf) (pc := 48) dX11_pageOf_48 rfl rfl rfl rfl rfl ?_
          refine tt_getR (M := MX11_pageOf) (pc := 49) dX11_pageOf_49 rfl h0.1 rfl ?_
          refine tt_ld (M := MX11_pageOf) (pc := 52) dX11_pageOf_52 rfl rfl rfl rfl rfl ?_
          refine tt_iaload (M := MX11_pageOf) (pc := 53) dX11_pageOf_53 h0.2.2.2.2.2.2.2.2.2.2.2.2.1 rfl ?_
          refine tt_ic_ge (M := MX11_pageOf) (pc := 54) 61 dX11_pageOf_54 rfl ?_ ?_
          · refine tt_iconst (M := MX11_pageOf) (pc := 61) dX11_pageOf_61 ?_
            exact id
          · refine tt_iconst (M := MX11_pageOf) (pc := 57) dX11_pageOf_57 ?_
            refine tt_goto (M := MX11_pageOf) (pc := 58) 62 dX11_pageOf_58 rfl ?_
            exact id
  · refine tt_iconst (M := MX11_pageOf) (pc := 9) dX11_pageOf_9 ?_
    refine tt_goto (M := MX11_pageOf) (pc := 10) 14 dX11_pageOf_10 rfl ?_
    refine tt_iconst (M := MX11_pageOf) (pc := 14) dX11_pageOf_14 ?_
    refine tt_vcIN (M := MX11_pageOf) (pc := 15) dX11_pageOf_15 rfl rfl [] rfl rfl ⟨rfl, by decide, Nat.le_of_ble_eq_true rfl⟩ h0.1 fun v107 S108 => ?_
    refine tt_if_eq (M := MX11_pageOf) (pc := 18) 69 dX11_pageOf_18 rfl ?_ ?_
    · exact id
    · refine tt_ld (M := MX11_pageOf) (pc := 21) dX11_pageOf_21 rfl rfl rfl rfl rfl ?_
      refine tt_ld (M := MX11_pageOf) (pc := 22) dX11_pageOf_22 rfl rfl rfl rfl rfl ?_
      refine tt_getI (M := MX11_pageOf) (pc := 23) dX11_pageOf_23 rfl h0.1 rfl ?_
      refine tt_bipush (M := MX11_pageOf) (pc := 26) dX11_pageOf_26 (by decide) ?_
      refine tt_ic_ge (M := MX11_pageOf) (pc := 28) 35 dX11_pageOf_28 rfl ?_ ?_
      · refine tt_iconst (M := MX11_pageOf) (pc := 35) dX11_pageOf_35 ?_
        refine tt_iconst (M := MX11_pageOf) (pc := 36) dX11_pageOf_36 ?_
        refine tt_vcIN (M := MX11_pageOf) (pc := 37) dX11_pageOf_37 rfl rfl [] rfl rfl ⟨rfl, by decide, Nat.le_of_ble_eq_true rfl⟩ h0.1 fun v109 S110 => ?_
        refine tt_if_eq (M := MX11_pageOf) (pc := 40) 69 dX11_pageOf_40 rfl ?_ ?_
        · exact id
        · refine tt_ld (M := MX11_pageOf) (pc := 43) dX11_pageOf_43 rfl rfl rfl rfl rfl ?_
          refine tt_ld (M := MX11_pageOf) (pc := 44) dX11_pageOf_44 rfl rfl rfl rfl rfl ?_
          refine tt_getI (M := MX11_pageOf) (pc := 45) dX11_pageOf_45 rfl h0.1 rfl ?_
          refine tt_ld (M := MX11_pageOf) (pc := 48) dX11_pageOf_48 rfl rfl rfl rfl rfl ?_
          refine tt_getR (M := MX11_pageOf) (pc := 49) dX11_pageOf_49 rfl h0.1 rfl ?_
          refine tt_ld (M := MX11_pageOf) (pc := 52) dX11_pageOf_52 rfl rfl rfl rfl rfl ?_
          refine tt_iaload (M := MX11_pageOf) (pc := 53) dX11_pageOf_53 h0.2.2.2.2.2.2.2.2.2.2.2.2.1 rfl ?_
          refine tt_ic_ge (M := MX11_pageOf) (pc := 54) 61 dX11_pageOf_54 rfl ?_ ?_
          · refine tt_iconst (M := MX11_pageOf) (pc := 61) dX11_pageOf_61 ?_
            exact id
          · refine tt_iconst (M := MX11_pageOf) (pc := 57) dX11_pageOf_57 ?_
            refine tt_goto (M := MX11_pageOf) (pc := 58) 62 dX11_pageOf_58 rfl ?_
            exact id
      · refine tt_iconst (M := MX11_pageOf) (pc := 31) dX11_pageOf_31 ?_
        refine tt_goto (M := MX11_pageOf) (pc := 32) 36 dX11_pageOf_32 rfl ?_
        refine tt_iconst (M := MX11_pageOf) (pc := 36) dX11_pageOf_36 ?_
        refine tt_vcIN (M := MX11_pageOf) (pc := 37) dX11_pageOf_37 rfl rfl [] rfl rfl ⟨rfl, by decide, Nat.le_of_ble_eq_true rfl⟩ h0.1 fun v111 S112 => ?_
        refine tt_if_eq (M := MX11_pageOf) (pc := 40) 69 dX11_pageOf_40 rfl ?_ ?_
        · exact id
        · refine tt_ld (M := MX11_pageOf) (pc := 43) dX11_pageOf_43 rfl rfl rfl rfl rfl ?_
          refine tt_ld (M := MX11_pageOf) (pc := 44) dX11_pageOf_44 rfl rfl rfl rfl rfl ?_
          refine tt_getI (M := MX11_pageOf) (pc := 45) dX11_pageOf_45 rfl h0.1 rfl ?_
          refine tt_ld (M := MX11_pageOf) (pc := 48) dX11_pageOf_48 rfl rfl rfl rfl rfl ?_
          refine tt_getR (M := MX11_pageOf) (pc := 49) dX11_pageOf_49 rfl h0.1 rfl ?_
          refine tt_ld (M := MX11_pageOf) (pc := 52) dX11_pageOf_52 rfl rfl rfl rfl rfl ?_
          refine tt_iaload (M := MX11_pageOf) (pc := 53) dX11_pageOf_53 h0.2.2.2.2.2.2.2.2.2.2.2.2.1 rfl ?_
          refine tt_ic_ge (M := MX11_pageOf) (pc := 54) 61 dX11_pageOf_54 rfl ?_ ?_
          · refine tt_iconst (M := MX11_pageOf) (pc := 61) dX11_pageOf_61 ?_
            exact id
          · refine tt_iconst (M := MX11_pageOf) (pc := 57) dX11_pageOf_57 ?_
            refine tt_goto (M := MX11_pageOf) (pc := 58) 62 dX11_pageOf_58 rfl ?_
            exact id
theorem qX11_pageOf_62 {sc : Nat × (Nat → Int32)} {SH : List mCell} {S : mStore} {r : mR × mW} (h0 : sMod SH) {l1 : Int} {s0 : Int} : ((∃ v101 S102, G sc MX11_wants 0 [some (.ref 90), some (.int (I s0)), some (.int (I 3))] [] SH S (rI v101 SH S102) ∧ (if I v101 = I 0 then G sc MX11_pageOf 69 [some (.ref 90), some (.int (I l1))] [] SH S102 r else r = rI ((12 * l1) + (S102 90 37)) SH S102))) → G sc MX11_pageOf 62 [some (.ref 90), some (.int (I l1))] [.int (I s0), .ref 90] SH S r := by
  refine tt_iconst (M := MX11_pageOf) (pc := 62) dX11_pageOf_62 ?_
  refine tt_vcIN (M := MX11_pageOf) (pc := 63) dX11_pageOf_63 rfl rfl [] rfl rfl ⟨rfl, by decide, Nat.le_of_ble_eq_true rfl⟩ h0.1 fun v101 S102 => ?_
  refine tt_if_ne (M := MX11_pageOf) (pc := 66) 71 dX11_pageOf_66 rfl ?_ ?_
  · refine tt_bipush (M := MX11_pageOf) (pc := 71) dX11_pageOf_71 (by decide) ?_
    refine tt_ld (M := MX11_pageOf) (pc := 73) dX11_pageOf_73 rfl rfl rfl rfl rfl ?_
    refine tt_imul (M := MX11_pageOf) (pc := 74) dX11_pageOf_74 ?_
    refine tt_ld (M := MX11_pageOf) (pc := 75) dX11_pageOf_75 rfl rfl rfl rfl rfl ?_
    refine tt_getI (M := MX11_pageOf) (pc := 76) dX11_pageOf_76 rfl h0.1 rfl ?_
    refine tt_iadd (M := MX11_pageOf) (pc := 79) dX11_pageOf_79 ?_
    exact tt_iret (M := MX11_pageOf) (pc := 80) dX11_pageOf_80 rfl
  · exact id
theorem qX11_pageOf_69 {sc : Nat × (Nat → Int32)} {SH : List mCell} {S : mStore} {r : mR × mW} (h0 : sMod SH) {l1 : Int} : (r = rI (-1) SH S) → G sc MX11_pageOf 69 [some (.ref 90), some (.int (I l1))] [] SH S r := by
  refine tt_iconst (M := MX11_pageOf) (pc := 69) dX11_pageOf_69 ?_
  exact tt_iret (M := MX11_pageOf) (pc := 70) dX11_pageOf_70 rfl
theorem qX11_once_0 {sc : Nat × (Nat → Int32)} {SH : List mCell} {S : mStore} {r : mR × mW} (h0 : sMod SH) {l1 : Int} : ((if I (ian (isr (S 90 47) l1) 1) = I 0 then (∃ v104 S105, G sc MX11_wants 0 [some (.ref 90), some (.int (I 1)), some (.int (I 5))] [] SH S (rI v104 SH S105) ∧ (if I v104 = I 0 then ((I 0 = I 0 ∨ I 0 = I 1) ∧ r = rI 0 SH S105) else (∃ S106, G sc MX11_go 0 [some (.ref 90), none] [] SH (up S105 90 47 (iro (S105 90 47) (isl 1 l1))) (rV SH S106) ∧ ((I 1 = I 0 ∨ I 1 = I 1) ∧ r = rI 1 SH S106)))) else (∃ v101 S102, G sc MX11_wants 0 [some (.ref 90), some (.int (I 0)), some (.int (I 5))] [] SH S (rI v101 SH S102) ∧ (if I v101 = I 0 then ((I 0 = I 0 ∨ I 0 = I 1) ∧ r = rI 0 SH S102) else (∃ S103, G sc MX11_go 0 [some (.ref 90), none] [] SH (up S102 90 47 (iro (S102 90 47) (isl 1 l1))) (rV SH S103) ∧ ((I 1 = I 0 ∨ I 1 = I 1) ∧ r = rI 1 SH S103)))))) → G sc MX11_once 0 [some (.ref 90), some (.int (I l1))] [] SH S r := by
  refine tt_ld (M := MX11_once) (pc := 0) dX11_once_0 rfl rfl rfl rfl rfl ?_
  refine tt_ld (M := MX11_once) (pc := 1) dX11_once_1 rfl rfl rfl rfl rfl ?_
  refine tt_getI (M := MX11_once) (pc := 2) dX11_once_2 rfl h0.1 rfl ?_
  refine tt_ld (M := MX11_once) (pc := 5) dX11_once_5 rfl rfl rfl rfl rfl ?_
  refine tt_ishr (M := MX11_once) (pc := 6) dX11_once_6 ?_
  refine tt_iconst (M := MX11_once) (pc := 7) dX11_once_7 ?_
  refine tt_iand (M := MX11_once) (pc := 8) dX11_once_8 ?_
  refine tt_if_ne (M := MX11_once) (pc := 9) 16 dX11_once_9 rfl ?_ ?_
  · refine tt_iconst (M := MX11_once) (pc := 16) dX11_once_16 ?_
    refine tt_iconst (M := MX11_once) (pc := 17) dX11_once_17 ?_
    refine tt_vcIN (M := MX11_once) (pc := 18) dX11_once_18 rfl rfl [] rfl rfl ⟨rfl, by decide, Nat.le_of_ble_eq_true rfl⟩ h0.1 fun v101 S102 => ?_
    refine tt_if_ne (M := MX11_once) (pc := 21) 26 dX11_once_21 rfl ?_ ?_
    · refine tt_ld (M := MX11_once) (pc := 26) dX11_once_26 rfl rfl rfl rfl rfl ?_
      refine tt_dup (M := MX11_once) (pc := 27) dX11_once_27 rfl ?_
      refine tt_getI (M := MX11_once) (pc := 28) dX11_once_28 rfl h0.1 rfl ?_
      refine tt_iconst (M := MX11_once) (pc := 31) dX11_once_31 ?_
      refine tt_ld (M := MX11_once) (pc := 32) dX11_once_32 rfl rfl rfl rfl rfl ?_
      refine tt_ishl (M := MX11_once) (pc := 33) dX11_once_33 ?_
      refine tt_ior (M := MX11_once) (pc := 34) dX11_once_34 ?_
      refine tt_putI (M := MX11_once) (pc := 35) dX11_once_35 rfl rfl (Or.inl rfl) h0.1 rfl ?_
      refine tt_ld (M := MX11_once) (pc := 38) dX11_once_38 rfl rfl rfl rfl rfl ?_
      refine tt_vcVN (M := MX11_once) (pc := 39) dX11_once_39 rfl rfl [] rfl rfl ⟨rfl, by decide, Nat.le_of_ble_eq_true rfl⟩ h0.1 fun S103 => ?_
      refine tt_iconst (M := MX11_once) (pc := 42) dX11_once_42 ?_
      exact tt_zret (M := MX11_once) (pc := 43) dX11_once_43 rfl
    · refine tt_iconst (M := MX11_once) (pc := 24) dX11_once_24 ?_
      exact tt_zret (M := MX11_once) (pc := 25) dX11_once_25 rfl
  · refine tt_iconst (M := MX11_once) (pc := 12) dX11_once_12 ?_
    refine tt_goto (M := MX11_once) (pc := 13) 17 dX11_once_13 rfl ?_
    refine tt_iconst (M := MX11_once) (pc := 17) dX11_once_17 ?_
    refine tt_vcIN (M := MX11_once) (pc := 18) dX11_once_18 rfl rfl [] rfl rfl ⟨rfl, by decide, Nat.le_of_ble_eq_true rfl⟩ h0.1 fun v104 S105 => ?_
    refine tt_if_ne (M := MX11_once) (pc := 21) 26 dX11_once_21 rfl ?_ ?_
    · refine tt_ld (M := MX11_once) (pc := 26) dX11_once_26 rfl rfl rfl rfl rfl ?_
      refine tt_dup (M := MX11_once) (pc := 27) dX11_once_27 rfl ?_
      refine tt_getI (M := MX11_once) (pc := 28) dX11_once_28 rfl h0.1 rfl ?_
      refine tt_iconst (M := MX11_once) (pc := 31) dX11_once_31 ?_
      refine tt_ld (M := MX11_once) (pc := 32) dX11_once_32 rfl rfl rfl rfl rfl ?_
      refine tt_ishl (M := MX11_once) (pc := 33) dX11_once_33 ?_
      refine tt_ior (M := MX11_once) (pc := 34) dX11_once_34 ?_
      refine tt_putI (M := MX11_once) (pc := 35) dX11_once_35 rfl rfl (Or.inl rfl) h0.1 rfl ?_
      refine tt_ld (M := MX11_once) (pc := 38) dX11_once_38 rfl rfl rfl rfl rfl ?_
      refine tt_vcVN (M := MX11_once) (pc := 39) dX11_once_39 rfl rfl [] rfl rfl ⟨rfl, by decide, Nat.le_of_ble_eq_true rfl⟩ h0.1 fun S106 => ?_
      refine tt_iconst (M := MX11_once) (pc := 42) dX11_once_42 ?_
      exact tt_zret (M := MX11_once) (pc := 43) dX11_once_43 rfl
    · refine tt_iconst (M := MX11_once) (pc := 24) dX11_once_24 ?_
      exact tt_zret (M := MX11_once) (pc := 25) dX11_once_25 rfl
theorem qX11_page1_0 {sc : Nat × (Nat → Int32)} {SH : List mCell} {S : mStore} {r : mR × mW} (h0 : sMod SH) {u1 : Option Value} {u2 : Option Value} : ((if I (S 90 40) ≤ I (S 90 48) then (∃ v101 S102, G sc MX11_wants 0 [some (.ref 90), some (.int (I 0)), some (.int (I 2))] [] SH S (rI v101 SH S102) ∧ (if I v101 = I 0 then r = rV SH S102 else (∃ S103, G sc MX11_go 0 [some (.ref 90), none] [] SH S102 (rV SH S103) ∧ (∃ v104 S105, G sc MX11_pageHere 0 [some (.ref 90), some (.int (I (S103 90 46))), none] [] SH S103 (rI v104 SH S105) ∧ (if I (S105 90 39) = I 0 then (((0 : Int) ≤ v104 ∧ v104 < 48) ∧ (if I (S105 104 v104) = I (-1) then (∃ v109 S110, G sc MX11_wants 0 [some (.ref 90), some (.int (I 1)), some (.int (I 4))] [] SH S105 (rI v109 SH S110) ∧ (if I v109 = I 0 then r = rV SH S110 else (∃ S111, G sc MX11_go 0 [some (.ref 90), none] [] SH S110 (rV SH S111) ∧ G sc MX11_page1 75 [some (.ref 90), some (.int (I v104)), some (.int (I 0))] [] SH S111 r))) else (∃ v106 S107, G sc MX11_wants 0 [some (.ref 90), some (.int (I 0)), some (.int (I 4))] [] SH S105 (rI v106 SH S107) ∧ (if I v106 = I 0 then r = rV SH S107 else (∃ S108, G sc MX11_go 0 [some (.ref 90), none] [] SH S107 (rV SH S108) ∧ G sc MX11_page1 75 [some (.ref 90), some (.int (I v104)), some (.int (I 0))] [] SH S108 r))))) else r = rV SH S105))))) else (∃ v112 S113, G sc MX11_wants 0 [some (.ref 90), some (.int (I 1)), some (.int (I 2))] [] SH S (rI v112 SH S113) ∧ (if I v112 = I 0 then r = rV SH S113 else (∃ S114, G sc MX11_go 0 [some (.ref 90), none] [] SH S113 (rV SH S114) ∧ (∃ v115 S116, G sc MX11_pageHere 0 [some (.ref 90), some (.int (I (S114 90 46))), none] [] SH S114 (rI v115 SH S116) ∧ (if I (S116 90 39) = I 0 then (((0 : Int) ≤ v115 ∧ v115 < 48) ∧ (if I (S116 104 v115) = I (-1) then (∃ v120 S121, G sc MX11_wants 0 [some (.ref 90), some (.int (I 1)), some (.int (I 4))] [] SH S116 (rI v120 SH S121) ∧ (if I v120 = I 0 then r = rV SH S121 else (∃ S122, G sc MX11_go 0 [some (.ref 90), none] [] SH S121 (rV SH S122) ∧ G sc MX11_page1 75 [some (.ref 90), some (.int (I v115)), some (.int (I 0))] [] SH S122 r))) else (∃ v117 S118, G sc MX11_wants 0 [some (.ref 90), some (.int (I 0)), some (.int (I 4))] [] SH S116 (rI v117 SH S118) ∧ (if I v117 = I 0 then r = rV SH S118 else (∃ S119, G sc MX11_go 0 [some (.ref 90), none] [] SH S118 (rV SH S119) ∧ G sc MX11_page1 75 [some (.ref 90), some (.int (I v115)), some (.int (I 0))] [] SH S119 r))))) else r = rV SH S116))))))) → G sc MX11_page1 0 [some (.ref 90), u1, u2] [] SH S r := by
  refine tt_ld (M := MX11_page1) (pc := 0) dX11_page1_0 rfl rfl rfl rfl rfl ?_
  refine tt_ld (M := MX11_page1) (pc := 1) dX11_page1_1 rfl rfl rfl rfl rfl ?_
  refine tt_getI (M := MX11_page1) (pc := 2) dX11_page1_2 rfl h0.1 rfl ?_
  refine tt_ld (M := MX11_page1) (pc := 5) dX11_page1_5 rfl rfl rfl rfl rfl ?_
  refine tt_getI (M := MX11_page1) (pc := 6) dX11_page1_6 rfl h0.1 rfl ?_
  refine tt_ic_ge (M := MX11_page1) (pc := 9) 16 dX11_page1_9 rfl ?_ ?_
  · refine tt_iconst (M := MX11_page1) (pc := 16) dX11_page1_16 ?_
    refine tt_iconst (M := MX11_page1) (pc := 17) dX11_page1_17 ?_
    refine tt_vcIN (M := MX11_page1) (pc := 18) dX11_page1_18 rfl rfl [] rfl rfl ⟨rfl, by decide, Nat.le_of_ble_eq_true rfl⟩ h0.1 fun v101 S102 => ?_
    refine tt_if_ne (M := MX11_page1) (pc := 21) 25 dX11_page1_21 rfl ?_ ?_
    · refine tt_ld (M := MX11_page1) (pc := 25) dX11_page1_25 rfl rfl rfl rfl rfl ?_
      refine tt_vcVN (M := MX11_page1) (pc := 26) dX11_page1_26 rfl rfl [] rfl rfl ⟨rfl, by decide, Nat.le_of_ble_eq_true rfl⟩ h0.1 fun S103 => ?_
      refine tt_ld (M := MX11_page1) (pc := 29) dX11_page1_29 rfl rfl rfl rfl rfl ?_
      refine tt_ld (M := MX11_page1) (pc := 30) dX11_page1_30 rfl rfl rfl rfl rfl ?_
      refine tt_getI (M := MX11_page1) (pc := 31) dX11_page1_31 rfl h0.1 rfl ?_
      refine tt_vcIN (M := MX11_page1) (pc := 34) dX11_page1_34 rfl rfl [] rfl rfl ⟨rfl, by decide, Nat.le_of_ble_eq_true rfl⟩ h0.1 fun v104 S105 => ?_
      refine tt_st (M := MX11_page1) (pc := 37) [some (.ref 90), some (.int (I v104)), u2] dX11_page1_37 rfl rfl rfl rfl rfl rfl ?_
      refine tt_ld (M := MX11_page1) (pc := 38) dX11_page1_38 rfl rfl rfl rfl rfl ?_
      refine tt_getI (M := MX11_page1) (pc := 39) dX11_page1_39 rfl h0.1 rfl ?_
      refine tt_if_ne (M := MX11_page1) (pc := 42) 68 dX11_page1_42 rfl ?_ ?_
      · exact tt_ret (M := MX11_page1) (pc := 68) dX11_page1_68 rfl
      · refine tt_ld (M := MX11_page1) (pc := 45) dX11_page1_45 rfl rfl rfl rfl rfl ?_
        refine tt_ld (M := MX11_page1) (pc := 46) dX11_page1_46 rfl rfl rfl rfl rfl ?_
        refine tt_getR (M := MX11_page1) (pc := 47) dX11_page1_47 rfl h0.1 rfl ?_
        refine tt_ld (M := MX11_page1) (pc := 50) dX11_page1_50 rfl rfl rfl rfl rfl ?_
        refine tt_iaload (M := MX11_page1) (pc := 51) dX11_page1_51 h0.2.2.2.2.2.2.2.2.2.2.2.2.2.2.1 rfl ?_
        refine tt_iconst (M := MX11_page1) (pc := 52) dX11_page1_52 ?_
        refine tt_ic_ne (M := MX11_page1) (pc := 53) 60 dX11_page1_53 rfl ?_ ?_
        · refine tt_iconst (M := MX11_page1) (pc := 60) dX11_page1_60 ?_
          refine tt_iconst (M := MX11_page1) (pc := 61) dX11_page1_61 ?_
          refine tt_vcIN (M := MX11_page1) (pc := 62) dX11_page1_62 rfl rfl [] rfl rfl ⟨rfl, by decide, Nat.le_of_ble_eq_true rfl⟩ h0.1 fun v106 S107 => ?_
          refine tt_if_ne (M := MX11_page1) (pc := 65) 69 dX11_page1_65 rfl ?_ ?_
          · refine tt_ld (M := MX11_page1) (pc := 69) dX11_page1_69 rfl rfl rfl rfl rfl ?_
            refine tt_vcVN (M := MX11_page1) (pc := 70) dX11_page1_70 rfl rfl [] rfl rfl ⟨rfl, by decide, Nat.le_of_ble_eq_true rfl⟩ h0.1 fun S108 => ?_
            refine tt_iconst (M := MX11_page1) (pc := 73) dX11_page1_73 ?_
            refine tt_st (M := MX11_page1) (pc := 74) [some (.ref 90), some (.int (I v104)), some (.int (I 0))] dX11_page1_74 rfl rfl rfl rfl rfl rfl ?_
            exact id
          · exact tt_ret (M := MX11_page1) (pc := 68) dX11_page1_68 rfl
        · refine tt_iconst (M := MX11_page1) (pc := 56) dX11_page1_56 ?_
          refine tt_goto (M := MX11_page1) (pc := 57) 61 dX11_page1_57 rfl ?_
          refine tt_iconst (M := MX11_page1) (pc := 61) dX11_page1_61 ?_
          refine tt_vcIN (M := MX11_page1) (pc := 62) dX11_page1_62 rfl rfl [] rfl rfl ⟨rfl, by decide, Nat.le_of_ble_eq_true rfl⟩ h0.1 fun v109 S110 => ?_
          refine tt_if_ne (M := MX11_page1) (pc := 65) 69 dX11_page1_65 rfl ?_ ?_
          · refine tt_ld (M := MX11_page1) (pc := 69) dX11_page1_69 rfl rfl rfl rfl rfl ?_
            refine tt_vcVN (M := MX11_page1) (pc := 70) dX11_page1_70 rfl rfl [] rfl rfl ⟨rfl, by decide, Nat.le_of_ble_eq_true rfl⟩ h0.1 fun S111 => ?_
            refine tt_iconst (M := MX11_page1) (pc := 73) dX11_page1_73 ?_
            refine tt_st (M := MX11_page1) (pc := 74) [some (.ref 90), some (.int (I v104)), some (.int (I 0))] dX11_page1_74 rfl rfl rfl rfl rfl rfl ?_
            exact id
          · exact tt_ret (M := MX11_page1) (pc := 68) dX11_page1_68 rfl
    · exact tt_ret (M := MX11_page1) (pc := 24) dX11_page1_24 rfl
  · refine tt_iconst (M := MX11_page1) (pc := 12) dX11_page1_12 ?_
    refine tt_goto (M := MX11_page1) (pc := 13) 17 dX11_page1_13 rfl ?_
    refine tt_iconst (M := MX11_page1) (pc := 17) dX11_page1_17 ?_
    refine tt_vcIN (M := MX11_page1) (pc := 18) dX11_page1_18 rfl rfl [] rfl rfl ⟨rfl, by decide, Nat.le_of_ble_eq_true rfl⟩ h0.1 fun v112 S113 => ?_
    refine tt_if_ne (M := MX11_page1) (pc := 21) 25 dX11_page1_21 rfl ?_ ?_
    · refine tt_ld (M := MX11_page1) (pc := 25) dX11_page1_25 rfl rfl rfl rfl rfl ?_
      refine tt_vcVN (M := MX11_page1) (pc := 26) dX11_page1_26 rfl rfl [] rfl rfl ⟨rfl, by decide, Nat.le_of_ble_eq_true rfl⟩ h0.1 fun S114 => ?_
      refine tt_ld (M := MX11_page1) (pc := 29) dX11_page1_29 rfl rfl rfl rfl rfl ?_
      refine tt_ld (M := MX11_page1) (pc := 30) dX11_page1_30 rfl rfl rfl rfl rfl ?_
      refine tt_getI (M := MX11_page1) (pc := 31) dX11_page1_31 rfl h0.1 rfl ?_
      refine tt_vcIN (M := MX11_page1) (pc := 34) dX11_page1_34 rfl rfl [] rfl rfl ⟨rfl, by decide, Nat.le_of_ble_eq_true rfl⟩ h0.1 fun v115 S116 => ?_
      refine tt_st (M := MX11_page1) (pc := 37) [some (.ref 90), some (.int (I v115)), u2] dX11_page1_37 rfl rfl rfl rfl rfl rfl ?_
      refine tt_ld (M := MX11_page1) (pc := 38) dX11_page1_38 rfl rfl rfl rfl rfl ?_
      refine tt_getI (M := MX11_page1) (pc := 39) dX11_page1_39 rfl h0.1 rfl ?_
      refine tt_if_ne (M := MX11_page1) (pc := 42) 68 dX11_page1_42 rfl ?_ ?_
      · exact tt_ret (M := MX11_page1) (pc := 68) dX11_page1_68 rfl
      · refine tt_ld (M := MX11_page1) (pc := 45) dX11_page1_45 rfl rfl rfl rfl rfl ?_
        refine tt_ld (M := MX11_page1) (pc := 46) dX11_page1_46 rfl rfl rfl rfl rfl ?_
        refine tt_getR (M := MX11_page1) (pc := 47) dX11_page1_47 rfl h0.1 rfl ?_
        refine tt_ld (M := MX11_page1) (pc := 50) dX11_page1_50 rfl rfl rfl rfl rfl ?_
        refine tt_iaload (M := MX11_page1) (pc := 51) dX11_page1_51 h0.2.2.2.2.2.2.2.2.2.2.2.2.2.2.1 rfl ?_
        refine tt_iconst (M := MX11_page1) (pc := 52) dX11_page1_52 ?_
        refine tt_ic_ne (M := MX11_page1) (pc := 53) 60 dX11_page1_53 rfl ?_ ?_
        · refine tt_iconst (M := MX11_page1) (pc := 60) dX11_page1_60 ?_
          refine tt_iconst (M := MX11_page1) (pc := 61) dX11_page1_61 ?_
          refine tt_vcIN (M := MX11_page1) (pc := 62) dX11_page1_62 rfl rfl [] rfl rfl ⟨rfl, by decide, Nat.le_of_ble_eq_true rfl⟩ h0.1 fun v117 S118 => ?_
          refine tt_if_ne (M := MX11_page1) (pc := 65) 69 dX11_page1_65 rfl ?_ ?_
          · refine tt_ld (M := MX11_page1) (pc := 69) dX11_page1_69 rfl rfl rfl rfl rfl ?_
            refine tt_vcVN (M := MX11_page1) (pc := 70) dX11_page1_70 rfl rfl [] rfl rfl ⟨rfl, by decide, Nat.le_of_ble_eq_true rfl⟩ h0.1 fun S119 => ?_
            refine tt_iconst (M := MX11_page1) (pc := 73) dX11_page1_73 ?_
            refine tt_st (M := MX11_page1) (pc := 74) [some (.ref 90), some (.int (I v115)), some (.int (I 0))] dX11_page1_74 rfl rfl rfl rfl rfl rfl ?_
            exact id
          · exact tt_ret (M := MX11_page1) (pc := 68) dX11_page1_68 rfl
        · refine tt_iconst (M := MX11_page1) (pc := 56) dX11_page1_56 ?_
          refine tt_goto (M := MX11_page1) (pc := 57) 61 dX11_page1_57 rfl ?_
          refine tt_iconst (M := MX11_page1) (pc := 61) dX11_page1_61 ?_
          refine tt_vcIN (M := MX11_page1) (pc := 62) dX11_page1_62 rfl rfl [] rfl rfl ⟨rfl, by decide, Nat.le_of_ble_eq_true rfl⟩ h0.1 fun v120 S121 => ?_
          refine tt_if_ne (M := MX11_page1) (pc := 65) 69 dX11_page1_65 rfl ?_ ?_
          · refine tt_ld (M := MX11_page1) (pc := 69) dX11_page1_69 rfl rfl rfl rfl rfl ?_
            refine tt_vcVN (M := MX11_page1) (pc := 70) dX11_page1_70 rfl rfl [] rfl rfl ⟨rfl, by decide, Nat.le_of_ble_eq_true rfl⟩ h0.1 fun S122 => ?_
            refine tt_iconst (M := MX11_page1) (pc := 73) dX11_page1_73 ?_
            refine tt_st (M := MX11_page1) (pc := 74) [some (.ref 90), some (.int (I v115)), some (.int (I 0))] dX11_page1_74 rfl rfl rfl rfl rfl rfl ?_
            exact id
          · exact tt_ret (M := MX11_page1) (pc := 68) dX11_page1_68 rfl
    · exact tt_ret (M := MX11_page1) (pc := 24) dX11_page1_24 rfl
theorem qX11_page1_75 {sc : Nat × (Nat → Int32)} {SH : List mCell} {S : mStore} {r : mR × mW} (h0 : sMod SH) {l1 : Int} {l2 : Int} : ((if I 4 ≤ I l2 then G sc MX11_page1 113 [some (.ref 90), some (.int (I l1)), some (.int (I l2))] [] SH S r else (if I (S 90 39) = I 0 then (∃ v101 S102, G sc MX11_number 0 [some (.ref 90), some (.int (I 0)), some (.int (I 15)), none] [] SH S (rI v101 SH S102) ∧ (((0 : Int) ≤ (4 * (S 90 48)) + l2 ∧ (4 * (S 90 48)) + l2 < 192) ∧ G sc MX11_page1 75 [some (.ref 90), some (.int (I l1)), some (.int (I (l2 + 1)))] [] SH (up S102 105 ((4 * (S 90 48)) + l2) v101) r)) else G sc MX11_page1 113 [some (.ref 90), some (.int (I l1)), some (.int (I l2))] [] SH S r))) → G sc MX11_page1 75 [some (.ref 90), some (.int (I l1)), some (.int (I l2))] [] SH S r := by
  refine tt_ld (M := MX11_page1) (pc := 75) dX11_page1_75 rfl rfl rfl rfl rfl ?_
  refine tt_iconst (M := MX11_page1) (pc := 76) dX11_page1_76 ?_
  refine tt_ic_ge (M := MX11_page1) (pc := 77) 113 dX11_page1_77 rfl ?_ ?_
  · exact id
  · refine tt_ld (M := MX11_page1) (pc := 80) dX11_page1_80 rfl rfl rfl rfl rfl ?_
    refine tt_getI (M := MX11_page1) (pc := 81) dX11_page1_81 rfl h0.1 rfl ?_
    refine tt_if_ne (M := MX11_page1) (pc := 84) 113 dX11_page1_84 rfl ?_ ?_
    · exact id
    · refine tt_ld (M := MX11_page1) (pc := 87) dX11_page1_87 rfl rfl rfl rfl rfl ?_
      refine tt_getR (M := MX11_page1) (pc := 88) dX11_page1_88 rfl h0.1 rfl ?_
      refine tt_iconst (M := MX11_page1) (pc := 91) dX11_page1_91 ?_
      refine tt_ld (M := MX11_page1) (pc := 92) dX11_page1_92 rfl rfl rfl rfl rfl ?_
      refine tt_getI (M := MX11_page1) (pc := 93) dX11_page1_93 rfl h0.1 rfl ?_
      refine tt_imul (M := MX11_page1) (pc := 96) dX11_page1_96 ?_
      refine tt_ld (M := MX11_page1) (pc := 97) dX11_page1_97 rfl rfl rfl rfl rfl ?_
      refine tt_iadd (M := MX11_page1) (pc := 98) dX11_page1_98 ?_
      refine tt_ld (M := MX11_page1) (pc := 99) dX11_page1_99 rfl rfl rfl rfl rfl ?_
      refine tt_iconst (M := MX11_page1) (pc := 100) dX11_page1_100 ?_
      refine tt_bipush (M := MX11_page1) (pc := 101) dX11_page1_101 (by decide) ?_
      refine tt_vcIN (M := MX11_page1) (pc := 103) dX11_page1_103 rfl rfl [.int (I ((4 * (S 90 48)) + l2)), .ref 105] rfl rfl ⟨rfl, by decide, Nat.le_of_ble_eq_true rfl⟩ h0.1 fun v101 S102 => ?_
      refine tt_iastore (M := MX11_page1) (pc := 106) dX11_page1_106 h0.2.2.2.2.2.2.2.2.2.2.2.2.2.2.2.1 rfl ?_
      refine tt_iinc (M := MX11_page1) (pc := 107) [some (.ref 90), some (.int (I l1)), some (.int (I (l2 + 1)))] dX11_page1_107 rfl rfl ?_
      refine tt_goto (M := MX11_page1) (pc := 110) 75 dX11_page1_110 rfl ?_
      exact id
theorem qX11_page1_113 {sc : Nat × (Nat → Int32)} {SH : List mCell} {S : mStore} {r : mR × mW} (h0 : sMod SH) {l1 : Int} {l2 : Int} : ((((0 : Int) ≤ l1 ∧ l1 < 48) ∧ r = rV SH (up (up S 104 l1 (S 90 48)) 90 48 (((up S 104 l1 (S 90 48)) 90 48) + 1)))) → G sc MX11_page1 113 [some (.ref 90), some (.int (I l1)), some (.int (I l2))] [] SH S r := by
  refine tt_ld (M := MX11_page1) (pc := 113) dX11_page1_113 rfl rfl rfl rfl rfl ?_
  refine tt_getR (M := MX11_page1) (pc := 114) dX11_page1_114 rfl h0.1 rfl ?_
  refine tt_ld (M := MX11_page1) (pc := 117) dX11_page1_117 rfl rfl rfl rfl rfl ?_
  refine tt_ld (M := MX11_page1) (pc := 118) dX11_page1_118 rfl rfl rfl rfl rfl ?_
  refine tt_getI (M := MX11_page1) (pc := 119) dX11_page1_119 rfl h0.1 rfl ?_
  refine tt_iastore (M := MX11_page1) (pc := 122) dX11_page1_122 h0.2.2.2.2.2.2.2.2.2.2.2.2.2.2.1 rfl ?_
  refine tt_ld (M := MX11_page1) (pc := 123) dX11_page1_123 rfl rfl rfl rfl rfl ?_
  refine tt_dup (M := MX11_page1) (pc := 124) dX11_page1_124 rfl ?_
  refine tt_getI (M := MX11_page1) (pc := 125) dX11_page1_125 rfl h0.1 rfl ?_
  refine tt_iconst (M := MX11_page1) (pc := 128) dX11_page1_128 ?_
  refine tt_iadd (M := MX11_page1) (pc := 129) dX11_page1_129 ?_
  refine tt_putI (M := MX11_page1) (pc := 130) dX11_page1_130 rfl rfl (Or.inl rfl) h0.1 rfl ?_
  exact tt_ret (M := MX11_page1) (pc := 133) dX11_page1_133 rfl
theorem qX11_advise1_0 {sc : Nat × (Nat → Int32)} {SH : List mCell} {S : mStore} {r : mR × mW} (h0 : sMod SH) {u1 : Option Value} {u2 : Option Value} {u3 : Option Value} : ((∃ S101, G sc MX11_go 0 [some (.ref 90), none] [] SH S (rV SH S101) ∧ (∃ v102 S103, G sc MX11_pageHere 0 [some (.ref 90), some (.int (I (S101 90 46))), none] [] SH S101 (rI v102 SH S103) ∧ (if I (S103 90 39) = I 0 then (∃ S104, G sc MX11_go 0 [some (.ref 90), none] [] SH S103 (rV SH S104) ∧ (∃ v105 S106, G sc MX11_pageOf 0 [some (.ref 90), some (.int (I (idv v102 12)))] [] SH S104 (rI v105 SH S106) ∧ (if I (S106 90 39) = I 0 then (if I v105 < I v102 then (∃ v107 S108, G sc MX11_wants 0 [some (.ref 90), some (.int (I 0)), some (.int (I 3))] [] SH S106 (rI v107 SH S108) ∧ (if I v107 = I 0 then r = rV SH S108 else (∃ S109, G sc MX11_go 0 [some (.ref 90), none] [] SH S108 (rV SH S109) ∧ G sc MX11_advise1 66 [some (.ref 90), some (.int (I v102)), some (.int (I v105)), some (.int (I v102))] [] SH S109 r))) else (∃ v110 S111, G sc MX11_wants 0 [some (.ref 90), some (.int (I 1)), some (.int (I 3))] [] SH S106 (rI v110 SH S111) ∧ (if I v110 = I 0 then r = rV SH S111 else (∃ S112, G sc MX11_go 0 [some (.ref 90), none] [] SH S111 (rV SH S112) ∧ G sc MX11_advise1 66 [some (.ref 90), some (.int (I v102)), some (.int (I v105)), some (.int (I v102))] [] SH S112 r)))) else r = rV SH S106))) else r = rV SH S103)))) → G sc MX11_advise1 0 [some (.ref 90), u1, u2, u3] [] SH S r := by
  refine tt_ld (M := MX11_advise1) (pc := 0) dX11_advise1_0 rfl rfl rfl rfl rfl ?_
  refine tt_vcVN (M := MX11_advise1) (pc := 1) dX11_advise1_1 rfl rfl [] rfl rfl ⟨rfl, by decide, Nat.le_of_ble_eq_true rfl⟩ h0.1 fun S101 => ?_
  refine tt_ld (M := MX11_advise1) (pc := 4) dX11_advise1_4 rfl rfl rfl rfl rfl ?_
  refine tt_ld (M := MX11_advise1) (pc := 5) dX11_advise1_5 rfl rfl rfl rfl rfl ?_
  refine tt_getI (M := MX11_advise1) (pc := 6) dX11_advise1_6 rfl h0.1 rfl ?_
  refine tt_vcIN (M := MX11_advise1) (pc := 9) dX11_advise1_9 rfl rfl [] rfl rfl ⟨rfl, by decide, Nat.le_of_ble_eq_true rfl⟩ h0.1 fun v102 S103 => ?_
  refine tt_st (M := MX11_advise1) (pc := 12) [some (.ref 90), some (.int (I v102)), u2, u3] dX11_advise1_12 rfl rfl rfl rfl rfl rfl ?_
  refine tt_ld (M := MX11_advise1) (pc := 13) dX11_advise1_13 rfl rfl rfl rfl rfl ?_
  refine tt_getI (M := MX11_advise1) (pc := 14) dX11_advise1_14 rfl h0.1 rfl ?_
  refine tt_if_eq (M := MX11_advise1) (pc := 17) 21 dX11_advise1_17 rfl ?_ ?_
  · refine tt_ld (M := MX11_advise1) (pc := 21) dX11_advise1_21 rfl rfl rfl rfl rfl ?_
    refine tt_vcVN (M := MX11_advise1) (pc := 22) dX11_advise1_22 rfl rfl [] rfl rfl ⟨rfl, by decide, Nat.le_of_ble_eq_true rfl⟩ h0.1 fun S104 => ?_
    refine tt_ld (M := MX11_advise1) (pc := 25) dX11_advise1_25 rfl rfl rfl rfl rfl ?_
    refine tt_ld (M := MX11_advise1) (pc := 26) dX11_advise1_26 rfl rfl rfl rfl rfl ?_
    refine tt_bipush (M := MX11_advise1) (pc := 27) dX11_advise1_27 (by decide) ?_
    refine tt_idiv (M := MX11_advise1) (pc := 29) dX11_advise1_29 (by decide) ?_
    refine tt_vcIN (M := MX11_advise1) (pc := 30) dX11_advise1_30 rfl rfl [] rfl rfl ⟨rfl, by decide, Nat.le_of_ble_eq_true rfl⟩ h0.1 fun v105 S106 => ?_
    refine tt_st (M := MX11_advise1) (pc := 33) [some (.ref 90), some (.int (I v102)), some (.int (I v105)), u3] dX11_advise1_33 rfl rfl rfl rfl rfl rfl ?_
    refine tt_ld (M := MX11_advise1) (pc := 34) dX11_advise1_34 rfl rfl rfl rfl rfl ?_
    refine tt_getI (M := MX11_advise1) (pc := 35) dX11_advise1_35 rfl h0.1 rfl ?_
    refine tt_if_ne (M := MX11_advise1) (pc := 38) 59 dX11_advise1_38 rfl ?_ ?_
    · exact tt_ret (M := MX11_advise1) (pc := 59) dX11_advise1_59 rfl
    · refine tt_ld (M := MX11_advise1) (pc := 41) dX11_advise1_41 rfl rfl rfl rfl rfl ?_
      refine tt_ld (M := MX11_advise1) (pc := 42) dX11_advise1_42 rfl rfl rfl rfl rfl ?_
      refine tt_ld (M := MX11_advise1) (pc := 43) dX11_advise1_43 rfl rfl rfl rfl rfl ?_
      refine tt_ic_lt (M := MX11_advise1) (pc := 44) 51 dX11_advise1_44 rfl ?_ ?_
      · refine tt_iconst (M := MX11_advise1) (pc := 51) dX11_advise1_51 ?_
        refine tt_iconst (M := MX11_advise1) (pc := 52) dX11_advise1_52 ?_
        refine tt_vcIN (M := MX11_advise1) (pc := 53) dX11_advise1_53 rfl rfl [] rfl rfl ⟨rfl, by decide, Nat.le_of_ble_eq_true rfl⟩ h0.1 fun v107 S108 => ?_
        refine tt_if_ne (M := MX11_advise1) (pc := 56) 60 dX11_advise1_56 rfl ?_ ?_
        · refine tt_ld (M := MX11_advise1) (pc := 60) dX11_advise1_60 rfl rfl rfl rfl rfl ?_
          refine tt_vcVN (M := MX11_advise1) (pc := 61) dX11_advise1_61 rfl rfl [] rfl rfl ⟨rfl, by decide, Nat.le_of_ble_eq_true rfl⟩ h0.1 fun S109 => ?_
          refine tt_ld (M := MX11_advise1) (pc := 64) dX11_advise1_64 rfl rfl rfl rfl rfl ?_
          refine tt_st (M := MX11_advise1) (pc := 65) [some (.ref 90), some (.int (I v102)), some (.int (I v105)), some (.int (I v102))] dX11_advise1_65 rfl rfl rfl rfl rfl rfl ?_
          exact id
        · exact tt_ret (M := MX11_advise1) (pc := 59) dX11_advise1_59 rfl
      · refine tt_iconst (M := MX11_advise1) (pc := 47) dX11_advise1_47 ?_
        refine tt_goto (M := MX11_advise1) (pc := 48) 52 dX11_advise1_48 rfl ?_
        refine tt_iconst (M := MX11_advise1) (pc := 52) dX11_advise1_52 ?_
        refine tt_vcIN (M := MX11_advise1) (pc := 53) dX11_advise1_53 rfl rfl [] rfl rfl ⟨rfl, by decide, Nat.le_of_ble_eq_true rfl⟩ h0.1 fun v110 S111 => ?_
        refine tt_if_ne (M := MX11_advise1) (pc := 56) 60 dX11_advise1_56 rfl ?_ ?_
        · refine tt_ld (M := MX11_advise1) (pc := 60) dX11_advise1_60 rfl rfl rfl rfl rfl ?_
          refine tt_vcVN (M := MX11_advise1) (pc := 61) dX11_advise1_61 rfl rfl [] rfl rfl ⟨rfl, by decide, Nat.le_of_ble_eq_true rfl⟩ h0.1 fun S112 => ?_
          refine tt_ld (M := MX11_advise1) (pc := 64) dX11_advise1_64 rfl rfl rfl rfl rfl ?_
          refine tt_st (M := MX11_advise1) (pc := 65) [some (.ref 90), some (.int (I v102)), some (.int (I v105)), some (.int (I v102))] dX11_advise1_65 rfl rfl rfl rfl rfl rfl ?_
          exact id
        · exact tt_ret (M := MX11_advise1) (pc := 59) dX11_advise1_59 rfl
  · exact tt_ret (M := MX11_advise1) (pc := 20) dX11_advise1_20 rfl
theorem qX11_advise1_66 {sc : Nat × (Nat → Int32)} {SH : List mCell} {S : mStore} {r : mR × mW} (h0 : sMod SH) {l1 : Int} {l2 : Int} {l3 : Int} : ((if I l2 < I l3 then r = rV SH S else (((0 : Int) ≤ l3 ∧ l3 < 48) ∧ G sc MX11_advise1 66 [some (.ref 90), some (.int (I l1)), some (.int (I l2)), some (.int (I (l3 + 1)))] [] SH (up S 106 l3 1) r))) → G sc MX11_advise1 66 [some (.ref 90), some (.int (I l1)), some (.int (I l2)), some (.int (I l3))] [] SH S r := by
  refine tt_ld (M := MX11_advise1) (pc := 66) dX11_advise1_66 rfl rfl rfl rfl rfl ?_
  refine tt_ld (M := MX11_advise1) (pc := 67) dX11_advise1_67 rfl rfl rfl rfl rfl ?_
  refine tt_ic_gt (M := MX11_advise1) (pc := 68) 84 dX11_advise1_68 rfl ?_ ?_
  · exact tt_ret (M := MX11_advise1) (pc := 84) dX11_advise1_84 rfl
  · refine tt_ld (M := MX11_advise1) (pc := 71) dX11_advise1_71 rfl rfl rfl rfl rfl ?_
    refine tt_getR (M := MX11_advise1) (pc := 72) dX11_advise1_72 rfl h0.1 rfl ?_
    refine tt_ld (M := MX11_advise1) (pc := 75) dX11_advise1_75 rfl rfl rfl rfl rfl ?_
    refine tt_iconst (M := MX11_advise1) (pc := 76) dX11_advise1_76 ?_
    refine tt_iastore (M := MX11_advise1) (pc := 77) dX11_advise1_77 h0.2.2.2.2.2.2.2.2.2.2.2.2.2.2.2.2.1 rfl ?_
    refine tt_iinc (M := MX11_advise1) (pc := 78) [some (.ref 90), some (.int (I l1)), some (.int (I l2)), some (.int (I (l3 + 1)))] dX11_advise1_78 rfl rfl ?_
    refine tt_goto (M := MX11_advise1) (pc := 81) 66 dX11_advise1_81 rfl ?_
    exact id
theorem qX11_guest1_0 {sc : Nat × (Nat → Int32)} {SH : List mCell} {S : mStore} {r : mR × mW} (h0 : sMod SH) : ((if I 4 ≤ I (S 90 46) then (∃ v101 S102, G sc MX11_wants 0 [some (.ref 90), some (.int (I 0)), some (.int (I 2))] [] SH S (rI v101 SH S102) ∧ (if I v101 = I 0 then r = rV SH S102 else (∃ S103, G sc MX11_go 0 [some (.ref 90), none] [] SH S102 (rV SH S103) ∧ (∃ v104 S105, G sc MX11_number 0 [some (.ref 90), some (.int (I 1)), some (.int (I 12)), none] [] SH S103 (rI v104 SH S105) ∧ (((0 : Int) ≤ S103 90 46 ∧ S103 90 46 < 4) ∧ (((0 : Int) ≤ (up S105 102 (S103 90 46) v104) 90 46 ∧ (up S105 102 (S103 90 46) v104) 90 46 < 4) ∧ (if I ((up (up S105 102 (S103 90 46) v104) 103 ((up S105 102 (S103 90 46) v104) 90 46) 0) 90 39) = I 0 then (if I ((up (up S105 102 (S103 90 46) v104) 103 ((up S105 102 (S103 90 46) v104) 90 46) 0) 90 36) = I 2 then (∃ v106 S107, G sc MX11_number 0 [some (.ref 90), some (.int (I 0)), some (.int (I 2)), none] [] SH (up (up S105 102 (S103 90 46) v104) 103 ((up S105 102 (S103 90 46) v104) 90 46) 0) (rI v106 SH S107) ∧ (((0 : Int) ≤ (up (up S105 102 (S103 90 46) v104) 103 ((up S105 102 (S103 90 46) v104) 90 46) 0) 90 46 ∧ (up (up S105 102 (S103 90 46) v104) 103 ((up S105 102 (S103 90 46) v104) 90 46) 0) 90 46 < 4) ∧ r = rV SH (up (up S107 103 ((up (up S105 102 (S103 90 46) v104) 103 ((up S105 102 (S103 90 46) v104) 90 46) 0) 90 46) v106) 90 46 (((up S107 103 ((up (up S105 102 (S103 90 46) v104) 103 ((up S105 102 (S103 90 46) v104) 90 46) 0) 90 46) v106) 90 46) + 1)))) else r = rV SH (up (up (up S105 102 (S103 90 46) v104) 103 ((up S105 102 (S103 90 46) v104) 90 46) 0) 90 46 (((up (up S105 102 (S103 90 46) v104) 103 ((up S105 102 (S103 90 46) v104) 90 46) 0) 90 46) + 1))) else r = rV SH (up (up (up S105 102 (S103 90 46) v104) 103 ((up S105 102 (S103 90 46) v104) 90 46) 0) 90 46 (((up (up S105 102 (S103 90 46) v104) 103 ((up S105 102 (S103 90 46) v104) 90 46) 0) 90 46) + 1))))))))) else (∃ v108 S109, G sc MX11_wants 0 [some (.ref 90), some (.int (I 1)), some (.int (I 2))] [] SH S (rI v108 SH S109) ∧ (if I v108 = I 0 then r = rV SH S109 else (∃ S110, G sc MX11_go 0 [some (.ref 90), none] [] SH S109 (rV SH S110) ∧ (∃ v111 S112, G sc MX11_number 0 [some (.ref 90), some (.int (I 1)), some (.int (I 12)), none] [] SH S110 (rI v111 SH S112) ∧ (((0 : Int) ≤ S110 90 46 ∧ S110 90 46 < 4) ∧ (((0 : Int) ≤ (up S112 102 (S110 90 46) v111) 90 46 ∧ (up S112 102 (S110 90 46) v111) 90 46 < 4) ∧ (if I ((up (up S112 102 (S110 90 46) v111) 103 ((up S112 102 (S110 90 46) v111) 90 46) 0) 90 39) = I 0 then (if I ((up (up S112 102 (S110 90 46) v111) 103 ((up S112 102 (S110 90 46) v111) 90 46) 0) 90 36) = I 2 then (∃ v113 S114, G sc MX11_number 0 [some (.ref 90), some (.int (I 0)), some (.int (I 2)), none] [] SH (up (up S112 102 (S110 90 46) v111) 103 ((up S112 102 (S110 90 46) v111) 90 46) 0) (rI v113 SH S114) ∧ (((0 : Int) ≤ (up (up S112 102 (S110 90 46) v111) 103 ((up S112 102 (S110 90 46) v111) 90 46) 0) 90 46 ∧ (up (up S112 102 (S110 90 46) v111) 103 ((up S112 102 (S110 90 46) v111) 90 46) 0) 90 46 < 4) ∧ r = rV SH (up (up S114 103 ((up (up S112 102 (S110 90 46) v111) 103 ((up S112 102 (S110 90 46) v111) 90 46) 0) 90 46) v113) 90 46 (((up S114 103 ((up (up S112 102 (S110 90 46) v111) 103 ((up S112 102 (S110 90 46) v111) 90 46) 0) 90 46) v113) 90 46) + 1)))) else r = rV SH (up (up (up S112 102 (S110 90 46) v111) 103 ((up S112 102 (S110 90 46) v111) 90 46) 0) 90 46 (((up (up S112 102 (S110 90 46) v111) 103 ((up S112 102 (S110 90 46) v111) 90 46) 0) 90 46) + 1))) else r = rV SH (up (up (up S112 102 (S110 90 46) v111) 103 ((up S112 102 (S110 90 46) v111) 90 46) 0) 90 46 (((up (up S112 102 (S110 90 46) v111) 103 ((up S112 102 (S110 90 46) v111) 90 46) 0) 90 46) + 1))))))))))) → G sc MX11_guest1 0 [some (.ref 90)] [] SH S r := by
  refine tt_ld (M := MX11_guest1) (pc := 0) dX11_guest1_0 rfl rfl rfl rfl rfl ?_
  refine tt_ld (M := MX11_guest1) (pc := 1) dX11_guest1_1 rfl rfl rfl rfl rfl ?_
  refine tt_getI (M := MX11_guest1) (pc := 2) dX11_guest1_2 rfl h0.1 rfl ?_
  refine tt_iconst (M := MX11_guest1) (pc := 5) dX11_guest1_5 ?_
  refine tt_ic_ge (M := MX11_guest1) (pc := 6) 13 dX11_guest1_6 rfl ?_ ?_
  · refine tt_iconst (M := MX11_guest1) (pc := 13) dX11_guest1_13 ?_
    refine tt_iconst (M := MX11_guest1) (pc := 14) dX11_guest1_14 ?_
    refine tt_vcIN (M := MX11_guest1) (pc := 15) dX11_guest1_15 rfl rfl [] rfl rfl ⟨rfl, by decide, Nat.le_of_ble_eq_true rfl⟩ h0.1 fun v101 S102 => ?_
    refine tt_if_ne (M := MX11_guest1) (pc := 18) 22 dX11_guest1_18 rfl ?_ ?_
    · refine tt_ld (M := MX11_guest1) (pc := 22) dX11_guest1_22 rfl rfl rfl rfl rfl ?_
      refine tt_vcVN (M := MX11_guest1) (pc := 23) dX11_guest1_23 rfl rfl [] rfl rfl ⟨rfl, by decide, Nat.le_of_ble_eq_true rfl⟩ h0.1 fun S103 => ?_
      refine tt_ld (M := MX11_guest1) (pc := 26) dX11_guest1_26 rfl rfl rfl rfl rfl ?_
      refine tt_getR (M := MX11_guest1) (pc := 27) dX11_guest1_27 rfl h0.1 rfl ?_
      refine tt_ld (M := MX11_guest1) (pc := 30) dX11_guest1_30 rfl rfl rfl rfl rfl ?_
      refine tt_getI (M := MX11_guest1) (pc := 31) dX11_guest1_31 rfl h0.1 rfl ?_
      refine tt_ld (M := MX11_guest1) (pc := 34) dX11_guest1_34 rfl rfl rfl rfl rfl ?_
      refine tt_iconst (M := MX11_guest1) (pc := 35) dX11_guest1_35 ?_
      refine tt_bipush (M := MX11_guest1) (pc := 36) dX11_guest1_36 (by decide) ?_
      refine tt_vcIN (M := MX11_guest1) (pc := 38) dX11_guest1_38 rfl rfl [.int (I (S103 90 46)), .ref 102] rfl rfl ⟨rfl, by decide, Nat.le_of_ble_eq_true rfl⟩ h0.1 fun v104 S105 => ?_
      refine tt_iastore (M := MX11_guest1) (pc := 41) dX11_guest1_41 h0.2.2.2.2.2.2.2.2.2.2.2.2.1 rfl ?_
      refine tt_ld (M := MX11_guest1) (pc := 42) dX11_guest1_42 rfl rfl rfl rfl rfl ?_
      refine tt_getR (M := MX11_guest1) (pc := 43) dX11_guest1_43 rfl h0.1 rfl ?_
      refine tt_ld (M := MX11_guest1) (pc := 46) dX11_guest1_46 rfl rfl rfl rfl rfl ?_
      refine tt_getI (M := MX11_guest1) (pc := 47) dX11_guest1_47 rfl h0.1 rfl ?_
      refine tt_iconst (M := MX11_guest1) (pc := 50) dX11_guest1_50 ?_
      refine tt_iastore (M := MX11_guest1) (pc := 51) dX11_guest1_51 h0.2.2.2.2.2.2.2.2.2.2.2.2.2.1 rfl ?_
      refine tt_ld (M := MX11_guest1) (pc := 52) dX11_guest1_52 rfl rfl rfl rfl rfl ?_
      refine tt_getI (M := MX11_guest1) (pc := 53) dX11_guest1_53 rfl h0.1 rfl ?_
      refine tt_if_ne (M := MX11_guest1) (pc := 56) 82 dX11_guest1_56 rfl ?_ ?_
      · refine tt_ld (M := MX11_guest1) (pc := 82) dX11_guest1_82 rfl rfl rfl rfl rfl ?_
        refine tt_dup (M := MX11_guest1) (pc := 83) dX11_guest1_83 rfl ?_
        refine tt_getI (M := MX11_guest1) (pc := 84) dX11_guest1_84 rfl h0.1 rfl ?_
        refine tt_iconst (M := MX11_guest1) (pc := 87) dX11_guest1_87 ?_
        refine tt_iadd (M := MX11_guest1) (pc := 88) dX11_guest1_88 ?_
        refine tt_putI (M := MX11_guest1) (pc := 89) dX11_guest1_89 rfl rfl (Or.inl rfl) h0.1 rfl ?_
        exact tt_ret (M := MX11_guest1) (pc := 92) dX11_guest1_92 rfl
      · refine tt_ld (M := MX11_guest1) (pc := 59) dX11_guest1_59 rfl rfl rfl rfl rfl ?_
        refine tt_getI (M := MX11_guest1) (pc := 60) dX11_guest1_60 rfl h0.1 rfl ?_
        refine tt_iconst (M := MX11_guest1) (pc := 63) dX11_guest1_63 ?_
        refine tt_ic_ne (M := MX11_guest1) (pc := 64) 82 dX11_guest1_64 rfl ?_ ?_
        · refine tt_ld (M := MX11_guest1) (pc := 82) dX11_guest1_82 rfl rfl rfl rfl rfl ?_
          refine tt_dup (M := MX11_guest1) (pc := 83) dX11_guest1_83 rfl ?_
          refine tt_getI (M := MX11_guest1) (pc := 84) dX11_guest1_84 rfl h0.1 rfl ?_
          refine tt_iconst (M := MX11_guest1) (pc := 87) dX11_guest1_87 ?_
          refine tt_iadd (M := MX11_guest1) (pc := 88) dX11_guest1_88 ?_
          refine tt_putI (M := MX11_guest1) (pc := 89) dX11_guest1_89 rfl rfl (Or.inl rfl) h0.1 rfl ?_
          exact tt_ret (M := MX11_guest1) (pc := 92) dX11_guest1_92 rfl
        · refine tt_ld (M := MX11_guest1) (pc := 67) dX11_guest1_67 rfl rfl rfl rfl rfl ?_
          refine tt_getR (M := MX11_guest1) (pc := 68) dX11_guest1_68 rfl h0.1 rfl ?_
          refine tt_ld (M := MX11_guest1) (pc := 71) dX11_guest1_71 rfl rfl rfl rfl rfl ?_
          refine tt_getI (M := MX11_guest1) (pc := 72) dX11_guest1_72 rfl h0.1 rfl ?_
          refine tt_ld (M := MX11_guest1) (pc := 75) dX11_guest1_75 rfl rfl rfl rfl rfl ?_
          refine tt_iconst (M := MX11_guest1) (pc := 76) dX11_guest1_76 ?_
          refine tt_iconst (M := MX11_guest1) (pc := 77) dX11_guest1_77 ?_
          refine tt_vcIN (M := MX11_guest1) (pc := 78) dX11_guest1_78 rfl rfl [.int (I ((up (up S105 102 (S103 90 46) v104) 103 ((up S105 102 (S103 90 46) v104) 90 46) 0) 90 46)), .ref 103] rfl rfl ⟨rfl, by decide, Nat.le_of_ble_eq_true rfl⟩ h0.1 fun v106 S107 => ?_
          refine tt_iastore (M := MX11_guest1) (pc := 81) dX11_guest1_81 h0.2.2.2.2.2.2.2.2.2.2.2.2.2.1 rfl ?_
          refine tt_ld (M := MX11_guest1) (pc := 82) dX11_guest1_82 rfl rfl rfl rfl rfl ?_
          refine tt_dup (M := MX11_guest1) (pc := 83) dX11_guest1_83 rfl ?_
          refine tt_getI (M := MX11_guest1) (pc := 84) dX11_guest1_84 rfl h0.1 rfl ?_
          refine tt_iconst (M := MX11_guest1) (pc := 87) dX11_guest1_87 ?_
          refine tt_iadd (M := MX11_guest1) (pc := 88) dX11_guest1_88 ?_
          refine tt_putI (M := MX11_guest1) (pc := 89) dX11_guest1_89 rfl rfl (Or.inl rfl) h0.1 rfl ?_
          exact tt_ret (M := MX11_guest1) (pc := 92) dX11_guest1_92 rfl
    · exact tt_ret (M := MX11_guest1) (pc := 21) dX11_guest1_21 rfl
  · refine tt_iconst (M := MX11_guest1) (pc := 9) dX11_guest1_9 ?_
    refine tt_goto (M := MX11_guest1) (pc := 10) 14 dX11_guest1_10 rfl ?_
    refine tt_iconst (M := MX11_guest1) (pc := 14) dX11_guest1_14 ?_
    refine tt_vcIN (M := MX11_guest1) (pc := 15) dX11_guest1_15 rfl rfl [] rfl rfl ⟨rfl, by decide, Nat.le_of_ble_eq_true rfl⟩ h0.1 fun v108 S109 => ?_
    refine tt_if_ne (M := MX11_guest1) (pc := 18) 22 dX11_guest1_18 rfl ?_ ?_
    · refine tt_ld (M := MX11_guest1) (pc := 22) dX11_guest1_22 rfl rfl rfl rfl rfl ?_
      refine tt_vcVN (M := MX11_guest1) (pc := 23) dX11_guest1_23 rfl rfl [] rfl rfl ⟨rfl, by decide, Nat.le_of_ble_eq_true rfl⟩ h0.1 fun S110 => ?_
      refine tt_ld (M := MX11_guest1) (pc := 26) dX11_guest1_26 rfl rfl rfl rfl rfl ?_
      refine tt_getR (M := MX11_guest1) (pc := 27) dX11_guest1_27 rfl h0.1 rfl ?_
      refine tt_ld (M := MX11_guest1) (pc := 30) dX11_guest1_30 rfl rfl rfl rfl rfl ?_
      refine tt_getI (M := MX11_guest1) (pc := 31) dX11_guest1_31 rfl h0.1 rfl ?_
      refine tt_ld (M := MX11_guest1) (pc := 34) dX11_guest1_34 rfl rfl rfl rfl rfl ?_
      refine tt_iconst (M := MX11_guest1) (pc := 35) dX11_guest1_35 ?_
      refine tt_bipush (M := MX11_guest1) (pc := 36) dX11_guest1_36 (by decide) ?_
      refine tt_vcIN (M := MX11_guest1) (pc := 38) dX11_guest1_38 rfl rfl [.int (I (S110 90 46)), .ref 102] rfl rfl ⟨rfl, by decide, Nat.le_of_ble_eq_true rfl⟩ h0.1 fun v111 S112 => ?_
      refine tt_iastore (M := MX11_guest1) (pc := 41) dX11_guest1_41 h0.2.2.2.2.2.2.2.2.2.2.2.2.1 rfl ?_
      refine tt_ld (M := MX11_guest1) (pc := 42) dX11_guest1_42 rfl rfl rfl rfl rfl ?_
      refine tt_getR (M := MX11_guest1) (pc := 43) dX11_guest1_43 rfl h0.1 rfl ?_
      refine tt_ld (M := MX11_guest1) (pc := 46) dX11_guest1_46 rfl rfl rfl rfl rfl ?_
      refine tt_getI (M := MX11_guest1) (pc := 47) dX11_guest1_47 rfl h0.1 rfl ?_
      refine tt_iconst (M := MX11_guest1) (pc := 50) dX11_guest1_50 ?_
      refine tt_iastore (M := MX11_guest1) (pc := 51) dX11_guest1_51 h0.2.2.2.2.2.2.2.2.2.2.2.2.2.1 rfl ?_
      refine tt_ld (M := MX11_guest1) (pc := 52) dX11_guest1_52 rfl rfl rfl rfl rfl ?_
      refine tt_getI (M := MX11_guest1) (pc := 53) dX11_guest1_53 rfl h0.1 rfl ?_
      refine tt_if_ne (M := MX11_guest1) (pc := 56) 82 dX11_guest1_56 rfl ?_ ?_
      · refine tt_ld (M := MX11_guest1) (pc := 82) dX11_guest1_82 rfl rfl rfl rfl rfl ?_
        refine tt_dup (M := MX11_guest1) (pc := 83) dX11_guest1_83 rfl ?_
        refine tt_getI (M := MX11_guest1) (pc := 84) dX11_guest1_84 rfl h0.1 rfl ?_
        refine tt_iconst (M := MX11_guest1) (pc := 87) dX11_guest1_87 ?_
        refine tt_iadd (M := MX11_guest1) (pc := 88) dX11_guest1_88 ?_
        refine tt_putI (M := MX11_guest1) (pc := 89) dX11_guest1_89 rfl rfl (Or.inl rfl) h0.1 rfl ?_
        exact tt_ret (M := MX11_guest1) (pc := 92) dX11_guest1_92 rfl
      · refine tt_ld (M := MX11_guest1) (pc := 59) dX11_guest1_59 rfl rfl rfl rfl rfl ?_
        refine tt_getI (M := MX11_guest1) (pc := 60) dX11_guest1_60 rfl h0.1 rfl ?_
        refine tt_iconst (M := MX11_guest1) (pc := 63) dX11_guest1_63 ?_
        refine tt_ic_ne (M := MX11_guest1) (pc := 64) 82 dX11_guest1_64 rfl ?_ ?_
        · refine tt_ld (M := MX11_guest1) (pc := 82) dX11_guest1_82 rfl rfl rfl rfl rfl ?_
          refine tt_dup (M := MX11_guest1) (pc := 83) dX11_guest1_83 rfl ?_
          refine tt_getI (M := MX11_guest1) (pc := 84) dX11_guest1_84 rfl h0.1 rfl ?_
          refine tt_iconst (M := MX11_guest1) (pc := 87) dX11_guest1_87 ?_
          refine tt_iadd (M := MX11_guest1) (pc := 88) dX11_guest1_88 ?_
          refine tt_putI (M := MX11_guest1) (pc := 89) dX11_guest1_89 rfl rfl (Or.inl rfl) h0.1 rfl ?_
          exact tt_ret (M := MX11_guest1) (pc := 92) dX11_guest1_92 rfl
        · refine tt_ld (M := MX11_guest1) (pc := 67) dX11_guest1_67 rfl rfl rfl rfl rfl ?_
          refine tt_getR (M := MX11_guest1) (pc := 68) dX11_guest1_68 rfl h0.1 rfl ?_
          refine tt_ld (M := MX11_guest1) (pc := 71) dX11_guest1_71 rfl rfl rfl rfl rfl ?_
          refine tt_getI (M := MX11_guest1) (pc := 72) dX11_guest1_72 rfl h0.1 rfl ?_
          refine tt_ld (M := MX11_guest1) (pc := 75) dX11_guest1_75 rfl rfl rfl rfl rfl ?_
          refine tt_iconst (M := MX11_guest1) (pc := 76) dX11_guest1_76 ?_
          refine tt_iconst (M := MX11_guest1) (pc := 77) dX11_guest1_77 ?_
          refine tt_vcIN (M := MX11_guest1) (pc := 78) dX11_guest1_78 rfl rfl [.int (I ((up (up S112 102 (S110 90 46) v111) 103 ((up S112 102 (S110 90 46) v111) 90 46) 0) 90 46)), .ref 103] rfl rfl ⟨rfl, by decide, Nat.le_of_ble_eq_true rfl⟩ h0.1 fun v113 S114 => ?_
          refine tt_iastore (M := MX11_guest1) (pc := 81) dX11_guest1_81 h0.2.2.2.2.2.2.2.2.2.2.2.2.2.1 rfl ?_
          refine tt_ld (M := MX11_guest1) (pc := 82) dX11_guest1_82 rfl rfl rfl rfl rfl ?_
          refine tt_dup (M := MX11_guest1) (pc := 83) dX11_guest1_83 rfl ?_
          refine tt_getI (M := MX11_guest1) (pc := 84) dX11_guest1_84 rfl h0.1 rfl ?_
          refine tt_iconst (M := MX11_guest1) (pc := 87) dX11_guest1_87 ?_
          refine tt_iadd (M := MX11_guest1) (pc := 88) dX11_guest1_88 ?_
          refine tt_putI (M := MX11_guest1) (pc := 89) dX11_guest1_89 rfl rfl (Or.inl rfl) h0.1 rfl ?_
          exact tt_ret (M := MX11_guest1) (pc := 92) dX11_guest1_92 rfl
    · exact tt_ret (M := MX11_guest1) (pc := 21) dX11_guest1_21 rfl
theorem qX11_clause1_0 {sc : Nat × (Nat → Int32)} {SH : List mCell} {S : mStore} {r : mR × mW} (h0 : sMod SH) : ((if I (S 90 36) = I 1 then G sc MX11_clause1 16 [some (.ref 90)] [.int (I (S 90 38))] SH S r else G sc MX11_clause1 16 [some (.ref 90)] [.int (I (-1))] SH S r)) → G sc MX11_clause1 0 [some (.ref 90)] [] SH S r := by
  refine tt_ld (M := MX11_clause1) (pc := 0) dX11_clause1_0 rfl rfl rfl rfl rfl ?_
  refine tt_getI (M := MX11_clause1) (pc := 1) dX11_clause1_1 rfl h0.1 rfl ?_
  refine tt_iconst (M := MX11_clause1) (pc := 4) dX11_clause1_4 ?_
  refine tt_ic_ne (M := MX11_clause1) (pc := 5) 15 dX11_clause1_5 rfl ?_ ?_
  · refine tt_iconst (M := MX11_clause1) (pc := 15) dX11_clause1_15 ?_
    exact id
  · refine tt_ld (M := MX11_clause1) (pc := 8) dX11_clause1_8 rfl rfl rfl rfl rfl ?_
    refine tt_getI (M := MX11_clause1) (pc := 9) dX11_clause1_9 rfl h0.1 rfl ?_
    refine tt_goto (M := MX11_clause1) (pc := 12) 16 dX11_clause1_12 rfl ?_
    exact id
theorem qX11_clause1_16 {sc : Nat × (Nat → Int32)} {SH : List mCell} {S : mStore} {r : mR × mW} (h0 : sMod SH) {s0 : Int} : ((swp s0 0 (∃ v101 S102, G sc MX11_wants 0 [some (.ref 90), some (.int (I 0)), some (.int (I 1))] [] SH S (rI v101 SH S102) ∧ G sc MX11_clause1 234 [some (.ref 90)] [] SH S102 r) [(if I (S 90 48) = I 0 then G sc MX11_clause1 77 [some (.ref 90)] [.int (I 1), .ref 90] SH S r else G sc MX11_clause1 77 [some (.ref 90)] [.int (I 0), .ref 90] SH S r), (∃ v103 S104, G sc MX11_once 0 [some (.ref 90), some (.int (I 1))] [] SH S (rI v103 SH S104) ∧ (if I v103 = I 0 then G sc MX11_clause1 234 [some (.ref 90)] [] SH S104 r else (∃ v105 S106, G sc MX11_number 0 [some (.ref 90), some (.int (I 2)), some (.int (I 8)), none] [] SH S104 (rI v105 SH S106) ∧ G sc MX11_clause1 234 [some (.ref 90)] [] SH (up S106 90 41 v105) r))), (∃ v107 S108, G sc MX11_once 0 [some (.ref 90), some (.int (I 2))] [] SH S (rI v107 SH S108) ∧ (if I v107 = I 0 then G sc MX11_clause1 234 [some (.ref 90)] [] SH S108 r else (∃ v109 S110, G sc MX11_number 0 [some (.ref 90), some (.int (I 1)), some (.int (I 16)), none] [] SH S108 (rI v109 SH S110) ∧ (if I ((up S110 90 42 v109) 90 39) = I 0 then (∃ v111 S112, G sc MX11_number 0 [some (.ref 90), some (.int (I ((up S110 90 42 v109) 90 42))), some (.int (I 16)), none] [] SH (up S110 90 42 v109) (rI v111 SH S112) ∧ G sc MX11_clause1 234 [some (.ref 90)] [] SH (up S112 90 43 v111) r) else G sc MX11_clause1 234 [some (.ref 90)] [] SH (up S110 90 42 v109) r)))), (∃ v113 S114, G sc MX11_once 0 [some (.ref 90), some (.int (I 3))] [] SH S (rI v113 SH S114) ∧ (if I v113 = I 0 then G sc MX11_clause1 234 [some (.ref 90)] [] SH S114 r else G sc MX11_clause1 234 [some (.ref 90)] [] SH (up S114 90 44 1) r)), (∃ v115 S116, G sc MX11_once 0 [some (.ref 90), some (.int (I 4))] [] SH S (rI v115 SH S116) ∧ (if I v115 = I 0 then G sc MX11_clause1 234 [some (.ref 90)] [] SH S116 r else G sc MX11_clause1 234 [some (.ref 90)] [] SH (up S116 90 45 1) r)), (∃ S117, G sc MX11_guest1 0 [some (.ref 90)] [] SH S (rV SH S117) ∧ G sc MX11_clause1 234 [some (.ref 90)] [] SH S117 r), (∃ S118, G sc MX11_page1 0 [some (.ref 90), none, none] [] SH S (rV SH S118) ∧ G sc MX11_clause1 234 [some (.ref 90)] [] SH S118 r), (∃ S119, G sc MX11_advise1 0 [some (.ref 90), none, none, none] [] SH S (rV SH S119) ∧ G sc MX11_clause1 234 [some (.ref 90)] [] SH S119 r)])) → G sc MX11_clause1 16 [some (.ref 90)] [.int (I s0)] SH S r := by
  refine tt_switch (M := MX11_clause1) (pc := 16) 227 dX11_clause1_16 ⟨by decide, by simp only [List.length_cons, List.length_nil]; omega⟩ rfl rfl ?_ ?_
  · refine tt_ld (M := MX11_clause1) (pc := 227) dX11_clause1_227 rfl rfl rfl rfl rfl ?_
    refine tt_iconst (M := MX11_clause1) (pc := 228) dX11_clause1_228 ?_
    refine tt_iconst (M := MX11_clause1) (pc := 229) dX11_clause1_229 ?_
    refine tt_vcIN (M := MX11_clause1) (pc := 230) dX11_clause1_230 rfl rfl [] rfl rfl ⟨rfl, by decide, Nat.le_of_ble_eq_true rfl⟩ h0.1 fun v101 S102 => ?_
    refine tt_pop (M := MX11_clause1) (pc := 233) dX11_clause1_233 rfl ?_
    exact id
  · refine ⟨⟨64, rfl, ?_⟩, ⟨⟨106, rfl, ?_⟩, ⟨⟨128, rfl, ?_⟩, ⟨⟨174, rfl, ?_⟩, ⟨⟨190, rfl, ?_⟩, ⟨⟨206, rfl, ?_⟩, ⟨⟨213, rfl, ?_⟩, ⟨⟨220, rfl, ?_⟩, trivial⟩⟩⟩⟩⟩⟩⟩⟩
    · refine tt_ld (M := MX11_clause1) (pc := 64) dX11_clause1_64 rfl rfl rfl rfl rfl ?_
      refine tt_ld (M := MX11_clause1) (pc := 65) dX11_clause1_65 rfl rfl rfl rfl rfl ?_
      refine tt_getI (M := MX11_clause1) (pc := 66) dX11_clause1_66 rfl h0.1 rfl ?_
      refine tt_if_ne (M := MX11_clause1) (pc := 69) 76 dX11_clause1_69 rfl ?_ ?_
      · refine tt_iconst (M := MX11_clause1) (pc := 76) dX11_clause1_76 ?_
        exact id
      · refine tt_iconst (M := MX11_clause1) (pc := 72) dX11_clause1_72 ?_
        refine tt_goto (M := MX11_clause1) (pc := 73) 77 dX11_clause1_73 rfl ?_
        exact id
    · refine tt_ld (M := MX11_clause1) (pc := 106) dX11_clause1_106 rfl rfl rfl rfl rfl ?_
      refine tt_iconst (M := MX11_clause1) (pc := 107) dX11_clause1_107 ?_
      refine tt_vcIN (M := MX11_clause1) (pc := 108) dX11_clause1_108 rfl rfl [] rfl rfl ⟨rfl, by decide, Nat.le_of_ble_eq_true rfl⟩ h0.1 fun v103 S104 => ?_
      refine tt_if_eq (M := MX11_clause1) (pc := 111) 234 dX11_clause1_111 rfl ?_ ?_
      · exact id
      · refine tt_ld (M := MX11_clause1) (pc := 114) dX11_clause1_114 rfl rfl rfl rfl rfl ?_
        refine tt_ld (M := MX11_clause1) (pc := 115) dX11_clause1_115 rfl rfl rfl rfl rfl ?_
        refine tt_iconst (M := MX11_clause1) (pc := 116) dX11_clause1_116 ?_
        refine tt_bipush (M := MX11_clause1) (pc := 117) dX11_clause1_117 (by decide) ?_
        refine tt_vcIN (M := MX11_clause1) (pc := 119) dX11_clause1_119 rfl rfl [.ref 90] rfl rfl ⟨rfl, by decide, Nat.le_of_ble_eq_true rfl⟩ h0.1 fun v105 S106 => ?_
        refine tt_putI (M := MX11_clause1) (pc := 122) dX11_clause1_122 rfl rfl (Or.inl rfl) h0.1 rfl ?_
        refine tt_goto (M := MX11_clause1) (pc := 125) 234 dX11_clause1_125 rfl ?_
        exact id
    · refine tt_ld (M := MX11_clause1) (pc := 128) dX11_clause1_128 rfl rfl rfl rfl rfl ?_
      refine tt_iconst (M := MX11_clause1) (pc := 129) dX11_clause1_129 ?_
      refine tt_vcIN (M := MX11_clause1) (pc := 130) dX11_clause1_130 rfl rfl [] rfl rfl ⟨rfl, by decide, Nat.le_of_ble_eq_true rfl⟩ h0.1 fun v107 S108 => ?_
      refine tt_if_ne (M := MX11_clause1) (pc := 133) 139 dX11_clause1_133 rfl ?_ ?_
      · refine tt_ld (M := MX11_clause1) (pc := 139) dX11_clause1_139 rfl rfl rfl rfl rfl ?_
        refine tt_ld (M := MX11_clause1) (pc := 140) dX11_clause1_140 rfl rfl rfl rfl rfl ?_
        refine tt_iconst (M := MX11_clause1) (pc := 141) dX11_clause1_141 ?_
        refine tt_bipush (M := MX11_clause1) (pc := 142) dX11_clause1_142 (by decide) ?_
        refine tt_vcIN (M := MX11_clause1) (pc := 144) dX11_clause1_144 rfl rfl [.ref 90] rfl rfl ⟨rfl, by decide, Nat.le_of_ble_eq_true rfl⟩ h0.1 fun v109 S110 => ?_
        refine tt_putI (M := MX11_clause1) (pc := 147) dX11_clause1_147 rfl rfl (Or.inl rfl) h0.1 rfl ?_
        refine tt_ld (M := MX11_clause1) (pc := 150) dX11_clause1_150 rfl rfl rfl rfl rfl ?_
        refine tt_getI (M := MX11_clause1) (pc := 151) dX11_clause1_151 rfl h0.1 rfl ?_
        refine tt_if_ne (M := MX11_clause1) (pc := 154) 234 dX11_clause1_154 rfl ?_ ?_
        · exact id
        · refine tt_ld (M := MX11_clause1) (pc := 157) dX11_clause1_157 rfl rfl rfl rfl rfl ?_
          refine tt_ld (M := MX11_clause1) (pc := 158) dX11_clause1_158 rfl rfl rfl rfl rfl ?_
          refine tt_ld (M := MX11_clause1) (pc := 159) dX11_clause1_159 rfl rfl rfl rfl rfl ?_
          refine tt_getI (M := MX11_clause1) (pc := 160) dX11_clause1_160 rfl h0.1 rfl ?_
          refine tt_bipush (M := MX11_clause1) (pc := 163) dX11_clause1_163 (by decide) ?_
          refine tt_vcIN (M := MX11_clause1) (pc := 165) dX11_clause1_165 rfl rfl [.ref 90] rfl rfl ⟨rfl, by decide, Nat.le_of_ble_eq_true rfl⟩ h0.1 fun v111 S112 => ?_
          refine tt_putI (M := MX11_clause1) (pc := 168) dX11_clause1_168 rfl rfl (Or.inl rfl) h0.1 rfl ?_
          refine tt_goto (M := MX11_clause1) (pc := 171) 234 dX11_clause1_171 rfl ?_
          exact id
      · refine tt_goto (M := MX11_clause1) (pc := 136) 234 dX11_clause1_136 rfl ?_
        exact id
    · refine tt_ld (M := MX11_clause1) (pc := 174) dX11_clause1_174 rfl rfl rfl rfl rfl ?_
      refine tt_iconst (M := MX11_clause1) (pc := 175) dX11_clause1_175 ?_
      refine tt_vcIN (M := MX11_clause1) (pc := 176) dX11_clause1_176 rfl rfl [] rfl rfl ⟨rfl, by decide, Nat.le_of_ble_eq_true rfl⟩ h0.1 fun v113 S114 => ?_
      refine tt_if_eq (M := MX11_clause1) (pc := 179) 234 dX11_clause1_179 rfl ?_ ?_
      · exact id
      · refine tt_ld (M := MX11_clause1) (pc := 182) dX11_clause1_182 rfl rfl rfl rfl rfl ?_
        refine tt_iconst (M := MX11_clause1) (pc := 183) dX11_clause1_183 ?_
        refine tt_putI (M := MX11_clause1) (pc := 184) dX11_clause1_184 rfl rfl (Or.inl rfl) h0.1 rfl ?_
        refine tt_goto (M := MX11_clause1) (pc := 187) 234 dX11_clause1_187 rfl ?_
        exact id
    · refine tt_ld (M := MX11_clause1) (pc := 190) dX11_clause1_190 rfl rfl rfl rfl rfl ?_
      refine tt_iconst (M := MX11_clause1) (pc := 191) dX11_clause1_191 ?_
      refine tt_vcIN (M := MX11_clause1) (pc := 192) dX11_clause1_192 rfl rfl [] rfl rfl ⟨rfl, by decide, Nat.le_of_ble_eq_true rfl⟩ h0.1 fun v115 S116 => ?_
      refine tt_if_eq (M := MX11_clause1) (pc := 195) 234 dX11_clause1_195 rfl ?_ ?_
      · exact id
      · refine tt_ld (M := MX11_clause1) (pc := 198) dX11_clause1_198 rfl rfl rfl rfl rfl ?_
        refine tt_iconst (M := MX11_clause1) (pc := 199) dX11_clause1_199 ?_
        refine tt_putI (M := MX11_clause1) (pc := 200) dX11_clause1_200 rfl rfl (Or.inl rfl) h0.1 rfl ?_
        refine tt_goto (M := MX11_clause1) (pc := 203) 234 dX11_clause1_203 rfl ?_
        exact id
    · refine tt_ld (M := MX11_clause1) (pc := 206) dX11_clause1_206 rfl rfl rfl rfl rfl ?_
      refine tt_vcVN (M := MX11_clause1) (pc := 207) dX11_clause1_207 rfl rfl [] rfl rfl ⟨rfl, by decide, Nat.le_of_ble_eq_true rfl⟩ h0.1 fun S117 => ?_
      refine tt_goto (M := MX11_clause1) (pc := 210) 234 dX11_clause1_210 rfl ?_
      exact id
    · refine tt_ld (M := MX11_clause1) (pc := 213) dX11_clause1_213 rfl rfl rfl rfl rfl ?_
      refine tt_vcVN (M := MX11_clause1) (pc := 214) dX11_clause1_214 rfl rfl [] rfl rfl ⟨rfl, by decide, Nat.le_of_ble_eq_true rfl⟩ h0.1 fun S118 => ?_
      refine tt_goto (M := MX11_clause1) (pc := 217) 234 dX11_clause1_217 rfl ?_
      exact id
    · refine tt_ld (M := MX11_clause1) (pc := 220) dX11_clause1_220 rfl rfl rfl rfl rfl ?_
      refine tt_vcVN (M := MX11_clause1) (pc := 221) dX11_clause1_221 rfl rfl [] rfl rfl ⟨rfl, by decide, Nat.le_of_ble_eq_true rfl⟩ h0.1 fun S119 => ?_
      refine tt_goto (M := MX11_clause1) (pc := 224) 234 dX11_clause1_224 rfl ?_
      exact id
theorem qX11_clause1_77 {sc : Nat × (Nat → Int32)} {SH : List mCell} {S : mStore} {r : mR × mW} (h0 : sMod SH) {s0 : Int} : ((∃ v101 S102, G sc MX11_wants 0 [some (.ref 90), some (.int (I s0)), some (.int (I 4))] [] SH S (rI v101 SH S102) ∧ (if I v101 = I 0 then G sc MX11_clause1 234 [some (.ref 90)] [] SH S102 r else (∃ v103 S104, G sc MX11_once 0 [some (.ref 90), some (.int (I 0))] [] SH S102 (rI v103 SH S104) ∧ (if I v103 = I 0 then G sc MX11_clause1 234 [some (.ref 90)] [] SH S104 r else (∃ v105 S106, G sc MX11_number 0 [some (.ref 90), some (.int (I 1)), some (.int (I 48)), none] [] SH S104 (rI v105 SH S106) ∧ G sc MX11_clause1 234 [some (.ref 90)] [] SH (up S106 90 40 v105) r)))))) → G sc MX11_clause1 77 [some (.ref 90)] [.int (I s0), .ref 90] SH S r := by
  refine tt_iconst (M := MX11_clause1) (pc := 77) dX11_clause1_77 ?_
  refine tt_vcIN (M := MX11_clause1) (pc := 78) dX11_clause1_78 rfl rfl [] rfl rfl ⟨rfl, by decide, Nat.le_of_ble_eq_true rfl⟩ h0.1 fun v101 S102 => ?_
  refine tt_if_eq (M := MX11_clause1) (pc := 81) 234 dX11_clause1_81 rfl ?_ ?_
  · exact id
  · refine tt_ld (M := MX11_clause1) (pc := 84) dX11_clause1_84 rfl rfl rfl rfl rfl ?_
    refine tt_iconst (M := MX11_clause1) (pc := 85) dX11_clause1_85 ?_
    refine tt_vcIN (M := MX11_clause1) (pc := 86) dX11_clause1_86 rfl rfl [] rfl rfl ⟨rfl, by decide, Nat.le_of_ble_eq_true rfl⟩ h0.1 fun v103 S104 => ?_
    refine tt_if_eq (M := MX11_clause1) (pc := 89) 234 dX11_clause1_89 rfl ?_ ?_
    · exact id
    · refine tt_ld (M := MX11_clause1) (pc := 92) dX11_clause1_92 rfl rfl rfl rfl rfl ?_
      refine tt_ld (M := MX11_clause1) (pc := 93) dX11_clause1_93 rfl rfl rfl rfl rfl ?_
      refine tt_iconst (M := MX11_clause1) (pc := 94) dX11_clause1_94 ?_
      refine tt_bipush (M := MX11_clause1) (pc := 95) dX11_clause1_95 (by decide) ?_
      refine tt_vcIN (M := MX11_clause1) (pc := 97) dX11_clause1_97 rfl rfl [.ref 90] rfl rfl ⟨rfl, by decide, Nat.le_of_ble_eq_true rfl⟩ h0.1 fun v105 S106 => ?_
      refine tt_putI (M := MX11_clause1) (pc := 100) dX11_clause1_100 rfl rfl (Or.inl rfl) h0.1 rfl ?_
      refine tt_goto (M := MX11_clause1) (pc := 103) 234 dX11_clause1_103 rfl ?_
      exact id
theorem qX11_clause1_234 {sc : Nat × (Nat → Int32)} {SH : List mCell} {S : mStore} {r : mR × mW} (h0 : sMod SH) : (r = rV SH S) → G sc MX11_clause1 234 [some (.ref 90)] [] SH S r := by
  exact tt_ret (M := MX11_clause1) (pc := 234) dX11_clause1_234 rfl
theorem qX11_ends_0 {sc : Nat × (Nat → Int32)} {SH : List mCell} {S : mStore} {r : mR × mW} (h0 : sMod SH) : ((if I (S 90 39) = I 0 then (if I (S 90 36) = I 3 then (∃ v104 S105, G sc MX11_wants 0 [some (.ref 90), some (.int (I 1)), some (.int (I 1))] [] SH S (rI v104 SH S105) ∧ (if I v104 = I 0 then r = rV SH S105 else (∃ S106, G sc MX11_go 0 [some (.ref 90), none] [] SH S105 (rV SH S106) ∧ r = rV SH S106))) else (∃ v101 S102, G sc MX11_wants 0 [some (.ref 90), some (.int (I 0)), some (.int (I 1))] [] SH S (rI v101 SH S102) ∧ (if I v101 = I 0 then r = rV SH S102 else (∃ S103, G sc MX11_go 0 [some (.ref 90), none] [] SH S102 (rV SH S103) ∧ r = rV SH S103)))) else r = rV SH S)) → G sc MX11_ends 0 [some (.ref 90)] [] SH S r := by
  refine tt_ld (M := MX11_ends) (pc := 0) dX11_ends_0 rfl rfl rfl rfl rfl ?_
  refine tt_getI (M := MX11_ends) (pc := 1) dX11_ends_1 rfl h0.1 rfl ?_
  refine tt_if_ne (M := MX11_ends) (pc := 4) 32 dX11_ends_4 rfl ?_ ?_
  · exact tt_ret (M := MX11_ends) (pc := 32) dX11_ends_32 rfl
  · refine tt_ld (M := MX11_ends) (pc := 7) dX11_ends_7 rfl rfl rfl rfl rfl ?_
    refine tt_ld (M := MX11_ends) (pc := 8) dX11_ends_8 rfl rfl rfl rfl rfl ?_
    refine tt_getI (M := MX11_ends) (pc := 9) dX11_ends_9 rfl h0.1 rfl ?_
    refine tt_iconst (M := MX11_ends) (pc := 12) dX11_ends_12 ?_
    refine tt_ic_ne (M := MX11_ends) (pc := 13) 20 dX11_ends_13 rfl ?_ ?_
    · refine tt_iconst (M := MX11_ends) (pc := 20) dX11_ends_20 ?_
      refine tt_iconst (M := MX11_ends) (pc := 21) dX11_ends_21 ?_
      refine tt_vcIN (M := MX11_ends) (pc := 22) dX11_ends_22 rfl rfl [] rfl rfl ⟨rfl, by decide, Nat.le_of_ble_eq_true rfl⟩ h0.1 fun v101 S102 => ?_
      refine tt_if_eq (M := MX11_ends) (pc := 25) 32 dX11_ends_25 rfl ?_ ?_
      · exact tt_ret (M := MX11_ends) (pc := 32) dX11_ends_32 rfl
      · refine tt_ld (M := MX11_ends) (pc := 28) dX11_ends_28 rfl rfl rfl rfl rfl ?_
        refine tt_vcVN (M := MX11_ends) (pc := 29) dX11_ends_29 rfl rfl [] rfl rfl ⟨rfl, by decide, Nat.le_of_ble_eq_true rfl⟩ h0.1 fun S103 => ?_
        exact tt_ret (M := MX11_ends) (pc := 32) dX11_ends_32 rfl
    · refine tt_iconst (M := MX11_ends) (pc := 16) dX11_ends_16 ?_
      refine tt_goto (M := MX11_ends) (pc := 17) 21 dX11_ends_17 rfl ?_
      refine tt_iconst (M := MX11_ends) (pc := 21) dX11_ends_21 ?_
      refine tt_vcIN (M := MX11_ends) (pc := 22) dX11_ends_22 rfl rfl [] rfl rfl ⟨rfl, by decide, Nat.le_of_ble_eq_true rfl⟩ h0.1 fun v104 S105 => ?_
      refine tt_if_eq (M := MX11_ends) (pc := 25) 32 dX11_ends_25 rfl ?_ ?_
      · exact tt_ret (M := MX11_ends) (pc := 32) dX11_ends_32 rfl
      · refine tt_ld (M := MX11_ends) (pc := 28) dX11_ends_28 rfl rfl rfl rfl rfl ?_
        refine tt_vcVN (M := MX11_ends) (pc := 29) dX11_ends_29 rfl rfl [] rfl rfl ⟨rfl, by decide, Nat.le_of_ble_eq_true rfl⟩ h0.1 fun S106 => ?_
        exact tt_ret (M := MX11_ends) (pc := 32) dX11_ends_32 rfl
theorem qX11_without1_0 {sc : Nat × (Nat → Int32)} {SH : List mCell} {S : mStore} {r : mR × mW} (h0 : sMod SH) {u1 : Option Value} : (G sc MX11_without1 49 [some (.ref 90), some (.int (I 0))] [] SH (up (up (up (up (up (up (up (up (up S 90 40 24) 90 41 4) 90 42 1) 90 43 8) 90 48 0) 90 47 0) 90 46 0) 90 45 0) 90 44 0) r) → G sc MX11_without1 0 [some (.ref 90), u1] [] SH S r := by
  refine tt_ld (M := MX11_without1) (pc := 0) dX11_without1_0 rfl rfl rfl rfl rfl ?_
  refine tt_bipush (M := MX11_without1) (pc := 1) dX11_without1_1 (by decide) ?_
  refine tt_putI (M := MX11_without1) (pc := 3) dX11_without1_3 rfl rfl (Or.inl rfl) h0.1 rfl ?_
  refine tt_ld (M := MX11_without1) (pc := 6) dX11_without1_6 rfl rfl rfl rfl rfl ?_
  refine tt_iconst (M := MX11_without1) (pc := 7) dX11_without1_7 ?_
  refine tt_putI (M := MX11_without1) (pc := 8) dX11_without1_8 rfl rfl (Or.inl rfl) h0.1 rfl ?_
  refine tt_ld (M := MX11_without1) (pc := 11) dX11_without1_11 rfl rfl rfl rfl rfl ?_
  refine tt_iconst (M := MX11_without1) (pc := 12) dX11_without1_12 ?_
  refine tt_putI (M := MX11_without1) (pc := 13) dX11_without1_13 rfl rfl (Or.inl rfl) h0.1 rfl ?_
  refine tt_ld (M := MX11_without1) (pc := 16) dX11_without1_16 rfl rfl rfl rfl rfl ?_
  refine tt_bipush (M := MX11_without1) (pc := 17) dX11_without1_17 (by decide) ?_
  refine tt_putI (M := MX11_without1) (pc := 19) dX11_without1_19 rfl rfl (Or.inl rfl) h0.1 rfl ?_
  refine tt_ld (M := MX11_without1) (pc := 22) dX11_without1_22 rfl rfl rfl rfl rfl ?_
  refine tt_ld (M := MX11_without1) (pc := 23) dX11_without1_23 rfl rfl rfl rfl rfl ?_
  refine tt_ld (M := MX11_without1) (pc := 24) dX11_without1_24 rfl rfl rfl rfl rfl ?_
  refine tt_ld (M := MX11_without1) (pc := 25) dX11_without1_25 rfl rfl rfl rfl rfl ?_
  refine tt_ld (M := MX11_without1) (pc := 26) dX11_without1_26 rfl rfl rfl rfl rfl ?_
  refine tt_iconst (M := MX11_without1) (pc := 27) dX11_without1_27 ?_
  refine tt_dup_x1 (M := MX11_without1) (pc := 28) dX11_without1_28 rfl rfl ?_
  refine tt_putI (M := MX11_without1) (pc := 29) dX11_without1_29 rfl rfl (Or.inl rfl) h0.1 rfl ?_
  refine tt_dup_x1 (M := MX11_without1) (pc := 32) dX11_without1_32 rfl rfl ?_
  refine tt_putI (M := MX11_without1) (pc := 33) dX11_without1_33 rfl rfl (Or.inl rfl) h0.1 rfl ?_
  refine tt_dup_x1 (M := MX11_without1) (pc := 36) dX11_without1_36 rfl rfl ?_
  refine tt_putI (M := MX11_without1) (pc := 37) dX11_without1_37 rfl rfl (Or.inl rfl) h0.1 rfl ?_
  refine tt_dup_x1 (M := MX11_without1) (pc := 40) dX11_without1_40 rfl rfl ?_
  refine tt_putI (M := MX11_without1) (pc := 41) dX11_without1_41 rfl rfl (Or.inl rfl) h0.1 rfl ?_
  refine tt_putI (M := MX11_without1) (pc := 44) dX11_without1_44 rfl rfl (Or.inl rfl) h0.1 rfl ?_
  refine tt_iconst (M := MX11_without1) (pc := 47) dX11_without1_47 ?_
  refine tt_st (M := MX11_without1) (pc := 48) [some (.ref 90), some (.int (I 0))] dX11_without1_48 rfl rfl rfl rfl rfl rfl ?_
  exact id
theorem qX11_without1_49 {sc : Nat × (Nat → Int32)} {SH : List mCell} {S : mStore} {r : mR × mW} (h0 : sMod SH) {l1 : Int} : ((if I 48 ≤ I l1 then r = rV SH S else (((0 : Int) ≤ l1 ∧ l1 < 48) ∧ (((0 : Int) ≤ l1 ∧ l1 < 48) ∧ G sc MX11_without1 49 [some (.ref 90), some (.int (I (l1 + 1)))] [] SH (up (up S 104 l1 (-1)) 106 l1 0) r)))) → G sc MX11_without1 49 [some (.ref 90), some (.int (I l1))] [] SH S r := by
  refine tt_ld (M := MX11_without1) (pc := 49) dX11_without1_49 rfl rfl rfl rfl rfl ?_
  refine tt_bipush (M := MX11_without1) (pc := 50) dX11_without1_50 (by decide) ?_
  refine tt_ic_ge (M := MX11_without1) (pc := 52) 75 dX11_without1_52 rfl ?_ ?_
  · exact tt_ret (M := MX11_without1) (pc := 75) dX11_without1_75 rfl
  · refine tt_ld (M := MX11_without1) (pc := 55) dX11_without1_55 rfl rfl rfl rfl rfl ?_
    refine tt_getR (M := MX11_without1) (pc := 56) dX11_without1_56 rfl h0.1 rfl ?_
    refine tt_ld (M := MX11_without1) (pc := 59) dX11_without1_59 rfl rfl rfl rfl rfl ?_
    refine tt_iconst (M := MX11_without1) (pc := 60) dX11_without1_60 ?_
    refine tt_iastore (M := MX11_without1) (pc := 61) dX11_without1_61 h0.2.2.2.2.2.2.2.2.2.2.2.2.2.2.1 rfl ?_
    refine tt_ld (M := MX11_without1) (pc := 62) dX11_without1_62 rfl rfl rfl rfl rfl ?_
    refine tt_getR (M := MX11_without1) (pc := 63) dX11_without1_63 rfl h0.1 rfl ?_
    refine tt_ld (M := MX11_without1) (pc := 66) dX11_without1_66 rfl rfl rfl rfl rfl ?_
    refine tt_iconst (M := MX11_without1) (pc := 67) dX11_without1_67 ?_
    refine tt_iastore (M := MX11_without1) (pc := 68) dX11_without1_68 h0.2.2.2.2.2.2.2.2.2.2.2.2.2.2.2.2.1 rfl ?_
    refine tt_iinc (M := MX11_without1) (pc := 69) [some (.ref 90), some (.int (I (l1 + 1)))] dX11_without1_69 rfl rfl ?_
    refine tt_goto (M := MX11_without1) (pc := 72) 49 dX11_without1_72 rfl ?_
    exact id
theorem qX11_becomes_0 {sc : Nat × (Nat → Int32)} {SH : List mCell} {S : mStore} {r : mR × mW} (h0 : sMod SH) {u1 : Option Value} {u2 : Option Value} {u3 : Option Value} : (G sc MX11_becomes 63 [some (.ref 90), some (.int (I 0)), u2, u3] [] SH (up (up (up (up (up (up (up (up S 90 12 (S 90 40)) 90 13 ((up S 90 12 (S 90 40)) 90 41)) 90 14 ((up (up S 90 12 (S 90 40)) 90 13 ((up S 90 12 (S 90 40)) 90 41)) 90 42)) 90 15 ((up (up (up S 90 12 (S 90 40)) 90 13 ((up S 90 12 (S 90 40)) 90 41)) 90 14 ((up (up S 90 12 (S 90 40)) 90 13 ((up S 90 12 (S 90 40)) 90 41)) 90 42)) 90 43)) 90 16 ((up (up (up (up S 90 12 (S 90 40)) 90 13 ((up S 90 12 (S 90 40)) 90 41)) 90 14 ((up (up S 90 12 (S 90 40)) 90 13 ((up S 90 12 (S 90 40)) 90 41)) 90 42)) 90 15 ((up (up (up S 90 12 (S 90 40)) 90 13 ((up S 90 12 (S 90 40)) 90 41)) 90 14 ((up (up S 90 12 (S 90 40)) 90 13 ((up S 90 12 (S 90 40)) 90 41)) 90 42)) 90 43)) 90 44)) 90 17 ((up (up (up (up (up S 90 12 (S 90 40)) 90 13 ((up S 90 12 (S 90 40)) 90 41)) 90 14 ((up (up S 90 12 (S 90 40)) 90 13 ((up S 90 12 (S 90 40)) 90 41)) 90 42)) 90 15 ((up (up (up S 90 12 (S 90 40)) 90 13 ((up S 90 12 (S 90 40)) 90 41)) 90 14 ((up (up S 90 12 (S 90 40)) 90 13 ((up S 90 12 (S 90 40)) 90 41)) 90 42)) 90 43)) 90 16 ((up (up (up (up S 90 12 (S 90 40)) 90 13 ((up S 90 12 (S 90 40)) 90 41)) 90 14 ((up (up S 90 12 (S 90 40)) 90 13 ((up S 90 12 (S 90 40)) 90 41)) 90 42)) 90 15 ((up (up (up S 90 12 (S 90 40)) 90 13 ((up S 90 12 (S 90 40)) 90 41)) 90 14 ((up (up S 90 12 (S 90 40)) 90 13 ((up S 90 12 (S 90 40)) 90 41)) 90 42)) 90 43)) 90 44)) 90 45)) 90 18 ((up (up (up (up (up (up S 90 12 (S 90 40)) 90 13 ((up S 90 12 (S 90 40)) 90 41)) 90 14 ((up (up S 90 12 (S 90 40)) 90 13 ((up S 90 12 (S 90 40)) 90 41)) 90 42)) 90 15 ((up (up (up S 90 12 (S 90 40)) 90 13 ((up S 90 12 (S 90 40)) 90 41)) 90 14 ((up (up S 90 12 (S 90 40)) 90 13 ((up S 90 12 (S 90 40)) 90 41)) 90 42)) 90 43)) 90 16 ((up (up (up (up S 90 12 (S 90 40)) 90 13 ((up S 90 12 (S 90 40)) 90 41)) 90 14 ((up (up S 90 12 (S 90 40)) 90 13 ((up S 90 12 (S 90 40)) 90 41)) 90 42)) 90 15 ((up (up (up S 90 12 (S 90 40)) 90 13 ((up S 90 12 (S 90 40)) 90 41)) 90 14 ((up (up S 90 12 (S 90 40)) 90 13 ((up S 90 12 (S 90 40)) 90 41)) 90 42)) 90 43)) 90 44)) 90 17 ((up (up (up (up (up S 90 12 (S 90 40)) 90 13 ((up S 90 12 (S 90 40)) 90 41)) 90 14 ((up (up S 90 12 (S 90 40)) 90 13 ((up S 90 12 (S 90 40)) 90 41)) 90 42)) 90 15 ((up (up (up S 90 12 (S 90 40)) 90 13 ((up S 90 12 (S 90 40)) 90 41)) 90 14 ((up (up S 90 12 (S 90 40)) 90 13 ((up S 90 12 (S 90 40)) 90 41)) 90 42)) 90 43)) 90 16 ((up (up (up (up S 90 12 (S 90 40)) 90 13 ((up S 90 12 (S 90 40)) 90 41)) 90 14 ((up (up S 90 12 (S 90 40)) 90 13 ((up S 90 12 (S 90 40)) 90 41)) 90 42)) 90 15 ((up (up (up S 90 12 (S 90 40)) 90 13 ((up S 90 12 (S 90 40)) 90 41)) 90 14 ((up (up S 90 12 (S 90 40)) 90 13 ((up S 90 12 (S 90 40)) 90 41)) 90 42)) 90 43)) 90 44)) 90 45)) 90 46)) 90 19 0) r) → G sc MX11_becomes 0 [some (.ref 90), u1, u2, u3] [] SH S r := by
  refine tt_ld (M := MX11_becomes) (pc := 0) dX11_becomes_0 rfl rfl rfl rfl rfl ?_
  refine tt_ld (M := MX11_becomes) (pc := 1) dX11_becomes_1 rfl rfl rfl rfl rfl ?_
  refine tt_getI (M := MX11_becomes) (pc := 2) dX11_becomes_2 rfl h0.1 rfl ?_
  refine tt_putI (M := MX11_becomes) (pc := 5) dX11_becomes_5 rfl rfl (Or.inl rfl) h0.1 rfl ?_
  refine tt_ld (M := MX11_becomes) (pc := 8) dX11_becomes_8 rfl rfl rfl rfl rfl ?_
  refine tt_ld (M := MX11_becomes) (pc := 9) dX11_becomes_9 rfl rfl rfl rfl rfl ?_
  refine tt_getI (M := MX11_becomes) (pc := 10) dX11_becomes_10 rfl h0.1 rfl ?_
  refine tt_putI (M := MX11_becomes) (pc := 13) dX11_becomes_13 rfl rfl (Or.inl rfl) h0.1 rfl ?_
  refine tt_ld (M := MX11_becomes) (pc := 16) dX11_becomes_16 rfl rfl rfl rfl rfl ?_
  refine tt_ld (M := MX11_becomes) (pc := 17) dX11_becomes_17 rfl rfl rfl rfl rfl ?_
  refine tt_getI (M := MX11_becomes) (pc := 18) dX11_becomes_18 rfl h0.1 rfl ?_
  refine tt_putI (M := MX11_becomes) (pc := 21) dX11_becomes_21 rfl rfl (Or.inl rfl) h0.1 rfl ?_
  refine tt_ld (M := MX11_becomes) (pc := 24) dX11_becomes_24 rfl rfl rfl rfl rfl ?_
  refine tt_ld (M := MX11_becomes) (pc := 25) dX11_becomes_25 rfl rfl rfl rfl rfl ?_
  refine tt_getI (M := MX11_becomes) (pc := 26) dX11_becomes_26 rfl h0.1 rfl ?_
  refine tt_putI (M := MX11_becomes) (pc := 29) dX11_becomes_29 rfl rfl (Or.inl rfl) h0.1 rfl ?_
  refine tt_ld (M := MX11_becomes) (pc := 32) dX11_becomes_32 rfl rfl rfl rfl rfl ?_
  refine tt_ld (M := MX11_becomes) (pc := 33) dX11_becomes_33 rfl rfl rfl rfl rfl ?_
  refine tt_getI (M := MX11_becomes) (pc := 34) dX11_becomes_34 rfl h0.1 rfl ?_
  refine tt_putI (M := MX11_becomes) (pc := 37) dX11_becomes_37 rfl rfl (Or.inl rfl) h0.1 rfl ?_
  refine tt_ld (M := MX11_becomes) (pc := 40) dX11_becomes_40 rfl rfl rfl rfl rfl ?_
  refine tt_ld (M := MX11_becomes) (pc := 41) dX11_becomes_41 rfl rfl rfl rfl rfl ?_
  refine tt_getI (M := MX11_becomes) (pc := 42) dX11_becomes_42 rfl h0.1 rfl ?_
  refine tt_putI (M := MX11_becomes) (pc := 45) dX11_becomes_45 rfl rfl (Or.inl rfl) h0.1 rfl ?_
  refine tt_ld (M := MX11_becomes) (pc := 48) dX11_becomes_48 rfl rfl rfl rfl rfl ?_
  refine tt_ld (M := MX11_becomes) (pc := 49) dX11_becomes_49 rfl rfl rfl rfl rfl ?_
  refine tt_getI (M := MX11_becomes) (pc := 50) dX11_becomes_50 rfl h0.1 rfl ?_
  refine tt_putI (M := MX11_becomes) (pc := 53) dX11_becomes_53 rfl rfl (Or.inl rfl) h0.1 rfl ?_
  refine tt_ld (M := MX11_becomes) (pc := 56) dX11_becomes_56 rfl rfl rfl rfl rfl ?_
  refine tt_iconst (M := MX11_becomes) (pc := 57) dX11_becomes_57 ?_
  refine tt_putI (M := MX11_becomes) (pc := 58) dX11_becomes_58 rfl rfl (Or.inl rfl) h0.1 rfl ?_
  refine tt_iconst (M := MX11_becomes) (pc := 61) dX11_becomes_61 ?_
  refine tt_st (M := MX11_becomes) (pc := 62) [some (.ref 90), some (.int (I 0)), u2, u3] dX11_becomes_62 rfl rfl rfl rfl rfl rfl ?_
  exact id
theorem qX11_becomes_63 {sc : Nat × (Nat → Int32)} {SH : List mCell} {S : mStore} {r : mR × mW} (h0 : sMod SH) {l1 : Int} {u2 : Option Value} {u3 : Option Value} : ((if I (S 90 18) ≤ I l1 then (∃ S101, G sc MX11_begins 0 [some (.ref 90), none] [] SH S (rV SH S101) ∧ G sc MX11_becomes 155 [some (.ref 90), some (.int (I 0)), u2, u3] [] SH S101 r) else (((0 : Int) ≤ l1 ∧ l1 < 4) ∧ (((0 : Int) ≤ l1 ∧ l1 < 4) ∧ (((0 : Int) ≤ l1 ∧ l1 < 4) ∧ (((0 : Int) ≤ l1 ∧ l1 < 4) ∧ (((0 : Int) ≤ l1 ∧ l1 < 5) ∧ G sc MX11_becomes 107 [some (.ref 90), some (.int (I l1)), some (.int (I 0)), u3] [] SH (up (up (up S 95 l1 (S 102 l1)) 96 l1 ((up S 95 l1 (S 102 l1)) 103 l1)) 97 l1 ((up (up S 95 l1 (S 102 l1)) 96 l1 ((up S 95 l1 (S 102 l1)) 103 l1)) 90 19)) r))))))) → G sc MX11_becomes 63 [some (.ref 90), some (.int (I l1)), u2, u3] [] SH S r := by
  refine tt_ld (M := MX11_becomes) (pc := 63) dX11_becomes_63 rfl rfl rfl rfl rfl ?_
  refine tt_ld (M := MX11_becomes) (pc := 64) dX11_becomes_64 rfl rfl rfl rfl rfl ?_
  refine tt_getI (M := MX11_becomes) (pc := 65) dX11_becomes_65 rfl h0.1 rfl ?_
  refine tt_ic_ge (M := MX11_becomes) (pc := 68) 149 dX11_becomes_68 rfl ?_ ?_
  · refine tt_ld (M := MX11_becomes) (pc := 149) dX11_becomes_149 rfl rfl rfl rfl rfl ?_
    refine tt_vcVN (M := MX11_becomes) (pc := 150) dX11_becomes_150 rfl rfl [] rfl rfl ⟨rfl, by decide, Nat.le_of_ble_eq_true rfl⟩ h0.1 fun S101 => ?_
    refine tt_iconst (M := MX11_becomes) (pc := 153) dX11_becomes_153 ?_
    refine tt_st (M := MX11_becomes) (pc := 154) [some (.ref 90), some (.int (I 0)), u2, u3] dX11_becomes_154 rfl rfl rfl rfl rfl rfl ?_
    exact id
  · refine tt_ld (M := MX11_becomes) (pc := 71) dX11_becomes_71 rfl rfl rfl rfl rfl ?_
    refine tt_getR (M := MX11_becomes) (pc := 72) dX11_becomes_72 rfl h0.1 rfl ?_
    refine tt_ld (M := MX11_becomes) (pc := 75) dX11_becomes_75 rfl rfl rfl rfl rfl ?_
    refine tt_ld (M := MX11_becomes) (pc := 76) dX11_becomes_76 rfl rfl rfl rfl rfl ?_
    refine tt_getR (M := MX11_becomes) (pc := 77) dX11_becomes_77 rfl h0.1 rfl ?_
    refine tt_ld (M := MX11_becomes) (pc := 80) dX11_becomes_80 rfl rfl rfl rfl rfl ?_
    refine tt_iaload (M := MX11_becomes) (pc := 81) dX11_becomes_81 h0.2.2.2.2.2.2.2.2.2.2.2.2.1 rfl ?_
    refine tt_iastore (M := MX11_becomes) (pc := 82) dX11_becomes_82 h0.2.2.2.2.2.1 rfl ?_
    refine tt_ld (M := MX11_becomes) (pc := 83) dX11_becomes_83 rfl rfl rfl rfl rfl ?_
    refine tt_getR (M := MX11_becomes) (pc := 84) dX11_becomes_84 rfl h0.1 rfl ?_
    refine tt_ld (M := MX11_becomes) (pc := 87) dX11_becomes_87 rfl rfl rfl rfl rfl ?_
    refine tt_ld (M := MX11_becomes) (pc := 88) dX11_becomes_88 rfl rfl rfl rfl rfl ?_
    refine tt_getR (M := MX11_becomes) (pc := 89) dX11_becomes_89 rfl h0.1 rfl ?_
    refine tt_ld (M := MX11_becomes) (pc := 92) dX11_becomes_92 rfl rfl rfl rfl rfl ?_
    refine tt_iaload (M := MX11_becomes) (pc := 93) dX11_becomes_93 h0.2.2.2.2.2.2.2.2.2.2.2.2.2.1 rfl ?_
    refine tt_iastore (M := MX11_becomes) (pc := 94) dX11_becomes_94 h0.2.2.2.2.2.2.1 rfl ?_
    refine tt_ld (M := MX11_becomes) (pc := 95) dX11_becomes_95 rfl rfl rfl rfl rfl ?_
    refine tt_getR (M := MX11_becomes) (pc := 96) dX11_becomes_96 rfl h0.1 rfl ?_
    refine tt_ld (M := MX11_becomes) (pc := 99) dX11_becomes_99 rfl rfl rfl rfl rfl ?_
    refine tt_ld (M := MX11_becomes) (pc := 100) dX11_becomes_100 rfl rfl rfl rfl rfl ?_
    refine tt_getI (M := MX11_becomes) (pc := 101) dX11_becomes_101 rfl h0.1 rfl ?_
    refine tt_iastore (M := MX11_becomes) (pc := 104) dX11_becomes_104 h0.2.2.2.2.2.2.2.1 rfl ?_
    refine tt_iconst (M := MX11_becomes) (pc := 105) dX11_becomes_105 ?_
    refine tt_st (M := MX11_becomes) (pc := 106) [some (.ref 90), some (.int (I l1)), some (.int (I 0)), u3] dX11_becomes_106 rfl rfl rfl rfl rfl rfl ?_
    exact id
theorem qX11_becomes_107 {sc : Nat × (Nat → Int32)} {SH : List mCell} {S : mStore} {r : mR × mW} (h0 : sMod SH) {l1 : Int} {l2 : Int} {u3 : Option Value} : ((((0 : Int) ≤ l1 ∧ l1 < 4) ∧ (if I (S 95 l1) ≤ I l2 then G sc MX11_becomes 63 [some (.ref 90), some (.int (I (l1 + 1))), some (.int (I l2)), u3] [] SH S r else (((0 : Int) ≤ S 90 19 ∧ S 90 19 < 48) ∧ G sc MX11_becomes 107 [some (.ref 90), some (.int (I l1)), some (.int (I (l2 + 1))), u3] [] SH (up (up S 98 (S 90 19) l1) 90 19 (((up S 98 (S 90 19) l1) 90 19) + 1)) r)))) → G sc MX11_becomes 107 [some (.ref 90), some (.int (I l1)), some (.int (I l2)), u3] [] SH S r := by
  refine tt_ld (M := MX11_becomes) (pc := 107) dX11_becomes_107 rfl rfl rfl rfl rfl ?_
  refine tt_ld (M := MX11_becomes) (pc := 108) dX11_becomes_108 rfl rfl rfl rfl rfl ?_
  refine tt_getR (M := MX11_becomes) (pc := 109) dX11_becomes_109 rfl h0.1 rfl ?_
  refine tt_ld (M := MX11_becomes) (pc := 112) dX11_becomes_112 rfl rfl rfl rfl rfl ?_
  refine tt_iaload (M := MX11_becomes) (pc := 113) dX11_becomes_113 h0.2.2.2.2.2.1 rfl ?_
  refine tt_ic_ge (M := MX11_becomes) (pc := 114) 143 dX11_becomes_114 rfl ?_ ?_
  · refine tt_iinc (M := MX11_becomes) (pc := 143) [some (.ref 90), some (.int (I (l1 + 1))), some (.int (I l2)), u3] dX11_becomes_143 rfl rfl ?_
    refine tt_goto (M := MX11_becomes) (pc := 146) 63 dX11_becomes_146 rfl ?_
    exact id
  · refine tt_ld (M := MX11_becomes) (pc := 117) dX11_becomes_117 rfl rfl rfl rfl rfl ?_
    refine tt_getR (M := MX11_becomes) (pc := 118) dX11_becomes_118 rfl h0.1 rfl ?_
    refine tt_ld (M := MX11_becomes) (pc := 121) dX11_becomes_121 rfl rfl rfl rfl rfl ?_
    refine tt_getI (M := MX11_becomes) (pc := 122) dX11_becomes_122 rfl h0.1 rfl ?_
    refine tt_ld (M := MX11_becomes) (pc := 125) dX11_becomes_125 rfl rfl rfl rfl rfl ?_
    refine tt_iastore (M := MX11_becomes) (pc := 126) dX11_becomes_126 h0.2.2.2.2.2.2.2.2.1 rfl ?_
    refine tt_ld (M := MX11_becomes) (pc := 127) dX11_becomes_127 rfl rfl rfl rfl rfl ?_
    refine tt_dup (M := MX11_becomes) (pc := 128) dX11_becomes_128 rfl ?_
    refine tt_getI (M := MX11_becomes) (pc := 129) dX11_becomes_129 rfl h0.1 rfl ?_
    refine tt_iconst (M := MX11_becomes) (pc := 132) dX11_becomes_132 ?_
    refine tt_iadd (M := MX11_becomes) (pc := 133) dX11_becomes_133 ?_
    refine tt_putI (M := MX11_becomes) (pc := 134) dX11_becomes_134 rfl rfl (Or.inl rfl) h0.1 rfl ?_
    refine tt_iinc (M := MX11_becomes) (pc := 137) [some (.ref 90), some (.int (I l1)), some (.int (I (l2 + 1))), u3] dX11_becomes_137 rfl rfl ?_
    refine tt_goto (M := MX11_becomes) (pc := 140) 107 dX11_becomes_140 rfl ?_
    exact id
theorem qX11_becomes_155 {sc : Nat × (Nat → Int32)} {SH : List mCell} {S : mStore} {r : mR × mW} (h0 : sMod SH) {l1 : Int} {u2 : Option Value} {u3 : Option Value} : ((if I (S 90 19) ≤ I l1 then r = rV SH (up (up (up (up S 90 11 0) 90 7 0) 90 6 0) 90 5 0) else (((0 : Int) ≤ l1 ∧ l1 < 48) ∧ (((0 : Int) ≤ l1 ∧ l1 < 48) ∧ (((0 : Int) ≤ S 98 l1 ∧ S 98 l1 < 5) ∧ (((0 : Int) ≤ ((12 * (S 98 l1)) + l1) - (S 97 (S 98 l1)) ∧ ((12 * (S 98 l1)) + l1) - (S 97 (S 98 l1)) < 48) ∧ (((0 : Int) ≤ 64 + l1 ∧ 64 + l1 < 137400) ∧ (((0 : Int) ≤ ((12 * (S 98 l1)) + l1) - (S 97 (S 98 l1)) ∧ ((12 * (S 98 l1)) + l1) - (S 97 (S 98 l1)) < 48) ∧ (if I ((up S 91 (64 + l1) (S 106 (((12 * (S 98 l1)) + l1) - (S 97 (S 98 l1))))) 104 (((12 * (S 98 l1)) + l1) - (S 97 (S 98 l1)))) = I (-1) then G sc MX11_becomes 155 [some (.ref 90), some (.int (I (l1 + 1))), some (.int (I (((12 * (S 98 l1)) + l1) - (S 97 (S 98 l1))))), u3] [] SH (up S 91 (64 + l1) (S 106 (((12 * (S 98 l1)) + l1) - (S 97 (S 98 l1))))) r else G sc MX11_becomes 217 [some (.ref 90), some (.int (I l1)), some (.int (I (((12 * (S 98 l1)) + l1) - (S 97 (S 98 l1))))), some (.int (I 0))] [] SH (up S 91 (64 + l1) (S 106 (((12 * (S 98 l1)) + l1) - (S 97 (S 98 l1))))) r))))))))) → G sc MX11_becomes 155 [some (.ref 90), some (.int (I l1)), u2, u3] [] SH S r := by
  refine tt_ld (M := MX11_becomes) (pc := 155) dX11_becomes_155 rfl rfl rfl rfl rfl ?_
  refine tt_ld (M := MX11_becomes) (pc := 156) dX11_becomes_156 rfl rfl rfl rfl rfl ?_
  refine tt_getI (M := MX11_becomes) (pc := 157) dX11_becomes_157 rfl h0.1 rfl ?_
  refine tt_ic_ge (M := MX11_becomes) (pc := 160) 278 dX11_becomes_160 rfl ?_ ?_
  · refine tt_ld (M := MX11_becomes) (pc := 278) dX11_becomes_278 rfl rfl rfl rfl rfl ?_
    refine tt_ld (M := MX11_becomes) (pc := 279) dX11_becomes_279 rfl rfl rfl rfl rfl ?_
    refine tt_ld (M := MX11_becomes) (pc := 280) dX11_becomes_280 rfl rfl rfl rfl rfl ?_
    refine tt_ld (M := MX11_becomes) (pc := 281) dX11_becomes_281 rfl rfl rfl rfl rfl ?_
    refine tt_iconst (M := MX11_becomes) (pc := 282) dX11_becomes_282 ?_
    refine tt_dup_x1 (M := MX11_becomes) (pc := 283) dX11_becomes_283 rfl rfl ?_
    refine tt_putI (M := MX11_becomes) (pc := 284) dX11_becomes_284 rfl rfl (Or.inl rfl) h0.1 rfl ?_
    refine tt_dup_x1 (M := MX11_becomes) (pc := 287) dX11_becomes_287 rfl rfl ?_
    refine tt_putI (M := MX11_becomes) (pc := 288) dX11_becomes_288 rfl rfl (Or.inl rfl) h0.1 rfl ?_
    refine tt_dup_x1 (M := MX11_becomes) (pc := 291) dX11_becomes_291 rfl rfl ?_
    refine tt_putI (M := MX11_becomes) (pc := 292) dX11_becomes_292 rfl rfl (Or.inl rfl) h0.1 rfl ?_
    refine tt_putI (M := MX11_becomes) (pc := 295) dX11_becomes_295 rfl rfl (Or.inl rfl) h0.1 rfl ?_
    exact tt_ret (M := MX11_becomes) (pc := 298) dX11_becomes_298 rfl
  · refine tt_bipush (M := MX11_becomes) (pc := 163) dX11_becomes_163 (by decide) ?_
    refine tt_ld (M := MX11_becomes) (pc := 165) dX11_becomes_165 rfl rfl rfl rfl rfl ?_
    refine tt_getR (M := MX11_becomes) (pc := 166) dX11_becomes_166 rfl h0.1 rfl ?_
    refine tt_ld (M := MX11_becomes) (pc := 169) dX11_becomes_169 rfl rfl rfl rfl rfl ?_
    refine tt_iaload (M := MX11_becomes) (pc := 170) dX11_becomes_170 h0.2.2.2.2.2.2.2.2.1 rfl ?_
    refine tt_imul (M := MX11_becomes) (pc := 171) dX11_becomes_171 ?_
    refine tt_ld (M := MX11_becomes) (pc := 172) dX11_becomes_172 rfl rfl rfl rfl rfl ?_
    refine tt_iadd (M := MX11_becomes) (pc := 173) dX11_becomes_173 ?_
    refine tt_ld (M := MX11_becomes) (pc := 174) dX11_becomes_174 rfl rfl rfl rfl rfl ?_
    refine tt_getR (M := MX11_becomes) (pc := 175) dX11_becomes_175 rfl h0.1 rfl ?_
    refine tt_ld (M := MX11_becomes) (pc := 178) dX11_becomes_178 rfl rfl rfl rfl rfl ?_
    refine tt_getR (M := MX11_becomes) (pc := 179) dX11_becomes_179 rfl h0.1 rfl ?_
    refine tt_ld (M := MX11_becomes) (pc := 182) dX11_becomes_182 rfl rfl rfl rfl rfl ?_
    refine tt_iaload (M := MX11_becomes) (pc := 183) dX11_becomes_183 h0.2.2.2.2.2.2.2.2.1 rfl ?_
    refine tt_iaload (M := MX11_becomes) (pc := 184) dX11_becomes_184 h0.2.2.2.2.2.2.2.1 rfl ?_
    refine tt_isub (M := MX11_becomes) (pc := 185) dX11_becomes_185 ?_
    refine tt_st (M := MX11_becomes) (pc := 186) [some (.ref 90), some (.int (I l1)), some (.int (I (((12 * (S 98 l1)) + l1) - (S 97 (S 98 l1))))), u3] dX11_becomes_186 rfl rfl rfl rfl rfl rfl ?_
    refine tt_ld (M := MX11_becomes) (pc := 187) dX11_becomes_187 rfl rfl rfl rfl rfl ?_
    refine tt_getR (M := MX11_becomes) (pc := 188) dX11_becomes_188 rfl h0.1 rfl ?_
    refine tt_bipush (M := MX11_becomes) (pc := 191) dX11_becomes_191 (by decide) ?_
    refine tt_ld (M := MX11_becomes) (pc := 193) dX11_becomes_193 rfl rfl rfl rfl rfl ?_
    refine tt_iadd (M := MX11_becomes) (pc := 194) dX11_becomes_194 ?_
    refine tt_ld (M := MX11_becomes) (pc := 195) dX11_becomes_195 rfl rfl rfl rfl rfl ?_
    refine tt_getR (M := MX11_becomes) (pc := 196) dX11_becomes_196 rfl h0.1 rfl ?_
    refine tt_ld (M := MX11_becomes) (pc := 199) dX11_becomes_199 rfl rfl rfl rfl rfl ?_
    refine tt_iaload (M := MX11_becomes) (pc := 200) dX11_becomes_200 h0.2.2.2.2.2.2.2.2.2.2.2.2.2.2.2.2.1 rfl ?_
    refine tt_iastore (M := MX11_becomes) (pc := 201) dX11_becomes_201 h0.2.1 rfl ?_
    refine tt_ld (M := MX11_becomes) (pc := 202) dX11_becomes_202 rfl rfl rfl rfl rfl ?_
    refine tt_getR (M := MX11_becomes) (pc := 203) dX11_becomes_203 rfl h0.1 rfl ?_
    refine tt_ld (M := MX11_becomes) (pc := 206) dX11_becomes_206 rfl rfl rfl rfl rfl ?_
    refine tt_iaload (M := MX11_becomes) (pc := 207) dX11_becomes_207 h0.2.2.2.2.2.2.2.2.2.2.2.2.2.2.1 rfl ?_
    refine tt_iconst (M := MX11_becomes) (pc := 208) dX11_becomes_208 ?_
    refine tt_ic_ne (M := MX11_becomes) (pc := 209) 215 dX11_becomes_209 rfl ?_ ?_
    · refine tt_iconst (M := MX11_becomes) (pc := 215) dX11_becomes_215 ?_
      refine tt_st (M := MX11_becomes) (pc := 216) [some (.ref 90), some (.int (I l1)), some (.int (I (((12 * (S 98 l1)) + l1) - (S 97 (S 98 l1))))), some (.int (I 0))] dX11_becomes_216 rfl rfl rfl rfl rfl rfl ?_
      exact id
    · refine tt_goto (M := MX11_becomes) (pc := 212) 272 dX11_becomes_212 rfl ?_
      refine tt_iinc (M := MX11_becomes) (pc := 272) [some (.ref 90), some (.int (I (l1 + 1))), some (.int (I (((12 * (S 98 l1)) + l1) - (S 97 (S 98 l1))))), u3] dX11_becomes_272 rfl rfl ?_
      refine tt_goto (M := MX11_becomes) (pc := 275) 155 dX11_becomes_275 rfl ?_
      exact id
theorem qX11_becomes_217 {sc : Nat × (Nat → Int32)} {SH : List mCell} {S : mStore} {r : mR × mW} (h0 : sMod SH) {l1 : Int} {l2 : Int} {l3 : Int} : ((if I 4 ≤ I l3 then (((0 : Int) ≤ l2 ∧ l2 < 48) ∧ (∃ S101, G sc MX11_liesIn 0 [some (.ref 90), some (.int (I 0)), some (.int (I l1)), some (.int (I (S 104 l2)))] [] SH S (rV SH S101) ∧ (((0 : Int) ≤ l2 ∧ l2 < 48) ∧ (∃ S102, G sc MX11_laysCells 0 [some (.ref 90), some (.int (I 0)), some (.int (I (S101 104 l2))), none] [] SH S101 (rV SH S102) ∧ G sc MX11_becomes 155 [some (.ref 90), some (.int (I (l1 + 1))), some (.int (I l2)), some (.int (I l3))] [] SH S102 r)))) else (((0 : Int) ≤ l2 ∧ l2 < 48) ∧ (((0 : Int) ≤ (4 * (S 104 l2)) + l3 ∧ (4 * (S 104 l2)) + l3 < 192) ∧ (((0 : Int) ≤ l3 ∧ l3 < 4) ∧ G sc MX11_becomes 217 [some (.ref 90), some (.int (I l1)), some (.int (I l2)), some (.int (I (l3 + 1)))] [] SH (up S 101 l3 (S 105 ((4 * (S 104 l2)) + l3))) r))))) → G sc MX11_becomes 217 [some (.ref 90), some (.int (I l1)), some (.int (I l2)), some (.int (I l3))] [] SH S r := by
  refine tt_ld (M := MX11_becomes) (pc := 217) dX11_becomes_217 rfl rfl rfl rfl rfl ?_
  refine tt_iconst (M := MX11_becomes) (pc := 218) dX11_becomes_218 ?_
  refine tt_ic_ge (M := MX11_becomes) (pc := 219) 249 dX11_becomes_219 rfl ?_ ?_
  · refine tt_ld (M := MX11_becomes) (pc := 249) dX11_becomes_249 rfl rfl rfl rfl rfl ?_
    refine tt_iconst (M := MX11_becomes) (pc := 250) dX11_becomes_250 ?_
    refine tt_ld (M := MX11_becomes) (pc := 251) dX11_becomes_251 rfl rfl rfl rfl rfl ?_
    refine tt_ld (M := MX11_becomes) (pc := 252) dX11_becomes_252 rfl rfl rfl rfl rfl ?_
    refine tt_getR (M := MX11_becomes) (pc := 253) dX11_becomes_253 rfl h0.1 rfl ?_
    refine tt_ld (M := MX11_becomes) (pc := 256) dX11_becomes_256 rfl rfl rfl rfl rfl ?_
    refine tt_iaload (M := MX11_becomes) (pc := 257) dX11_becomes_257 h0.2.2.2.2.2.2.2.2.2.2.2.2.2.2.1 rfl ?_
    refine tt_vcVN (M := MX11_becomes) (pc := 258) dX11_becomes_258 rfl rfl [] rfl rfl ⟨rfl, by decide, Nat.le_of_ble_eq_true rfl⟩ h0.1 fun S101 => ?_
    refine tt_ld (M := MX11_becomes) (pc := 261) dX11_becomes_261 rfl rfl rfl rfl rfl ?_
    refine tt_iconst (M := MX11_becomes) (pc := 262) dX11_becomes_262 ?_
    refine tt_ld (M := MX11_becomes) (pc := 263) dX11_becomes_263 rfl rfl rfl rfl rfl ?_
    refine tt_getR (M := MX11_becomes) (pc := 264) dX11_becomes_264 rfl h0.1 rfl ?_
    refine tt_ld (M := MX11_becomes) (pc := 267) dX11_becomes_267 rfl rfl rfl rfl rfl ?_
    refine tt_iaload (M := MX11_becomes) (pc := 268) dX11_becomes_268 h0.2.2.2.2.2.2.2.2.2.2.2.2.2.2.1 rfl ?_
    refine tt_vcVN (M := MX11_becomes) (pc := 269) dX11_becomes_269 rfl rfl [] rfl rfl ⟨rfl, by decide, Nat.le_of_ble_eq_true rfl⟩ h0.1 fun S102 => ?_
    refine tt_iinc (M := MX11_becomes) (pc := 272) [some (.ref 90), some (.int (I (l1 + 1))), some (.int (I l2)), some (.int (I l3))] dX11_becomes_272 rfl rfl ?_
    refine tt_goto (M := MX11_becomes) (pc := 275) 155 dX11_becomes_275 rfl ?_
    exact id
  · refine tt_ld (M := MX11_becomes) (pc := 222) dX11_becomes_222 rfl rfl rfl rfl rfl ?_
    refine tt_getR (M := MX11_becomes) (pc := 223) dX11_becomes_223 rfl h0.1 rfl ?_
    refine tt_ld (M := MX11_becomes) (pc := 226) dX11_becomes_226 rfl rfl rfl rfl rfl ?_
    refine tt_ld (M := MX11_becomes) (pc := 227) dX11_becomes_227 rfl rfl rfl rfl rfl ?_
    refine tt_getR (M := MX11_becomes) (pc := 228) dX11_becomes_228 rfl h0.1 rfl ?_
    refine tt_iconst (M := MX11_becomes) (pc := 231) dX11_becomes_231 ?_
    refine tt_ld (M := MX11_becomes) (pc := 232) dX11_becomes_232 rfl rfl rfl rfl rfl ?_
    refine tt_getR (M := MX11_becomes) (pc := 233) dX11_becomes_233 rfl h0.1 rfl ?_
    refine tt_ld (M := MX11_becomes) (pc := 236) dX11_becomes_236 rfl rfl rfl rfl rfl ?_
    refine tt_iaload (M := MX11_becomes) (pc := 237) dX11_becomes_237 h0.2.2.2.2.2.2.2.2.2.2.2.2.2.2.1 rfl ?_
    refine tt_imul (M := MX11_becomes) (pc := 238) dX11_becomes_238 ?_
    refine tt_ld (M := MX11_becomes) (pc := 239) dX11_becomes_239 rfl rfl rfl rfl rfl ?_
    refine tt_iadd (M := MX11_becomes) (pc := 240) dX11_becomes_240 ?_
    refine tt_iaload (M := MX11_becomes) (pc := 241) dX11_becomes_241 h0.2.2.2.2.2.2.2.2.2.2.2.2.2.2.2.1 rfl ?_
    refine tt_iastore (M := MX11_becomes) (pc := 242) dX11_becomes_242 h0.2.2.2.2.2.2.2.2.2.2.2.1 rfl ?_
    refine tt_iinc (M := MX11_becomes) (pc := 243) [some (.ref 90), some (.int (I l1)), some (.int (I l2)), some (.int (I (l3 + 1)))] dX11_becomes_243 rfl rfl ?_
    refine tt_goto (M := MX11_becomes) (pc := 246) 217 dX11_becomes_246 rfl ?_
    exact id
