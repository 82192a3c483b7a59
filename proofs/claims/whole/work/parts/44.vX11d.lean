-- needs: 43.tshape
/-! ===== the program as conditions (gen_vc.py) ===== -/
theorem qX11_wants_0 {sc : Nat × (Nat → Int32)} {SH : List mCell} {S : mStore} {r : mR × mW} (h0 : sMod SH) {l1 : Int} {l2 : Int} : ((if I (S 90 39) = I 0 then (if I l1 = I 0 then (if I ((up (up S 90 39 l2) 90 26 ((up S 90 39 l2) 90 34)) 90 39) = I 0 then ((I 1 = I 0 ∨ I 1 = I 1) ∧ r = rI 1 SH (up (up S 90 39 l2) 90 26 ((up S 90 39 l2) 90 34))) else ((I 0 = I 0 ∨ I 0 = I 1) ∧ r = rI 0 SH (up (up S 90 39 l2) 90 26 ((up S 90 39 l2) 90 34)))) else (if I (S 90 39) = I 0 then ((I 1 = I 0 ∨ I 1 = I 1) ∧ r = rI 1 SH S) else ((I 0 = I 0 ∨ I 0 = I 1) ∧ r = rI 0 SH S))) else (if I (S 90 39) = I 0 then ((I 1 = I 0 ∨ I 1 = I 1) ∧ r = rI 1 SH S) else ((I 0 = I 0 ∨ I 0 = I 1) ∧ r = rI 0 SH S)))) → G sc MX11_wants 0 [some (.ref 90), some (.int (I l1)), some (.int (I l2))] [] SH S r := by
  refine t_ld (pc := 0) dX11_wants_0 rfl rfl rfl rfl rfl ?_
  refine t_getI (pc := 1) dX11_wants_1 rfl h0.1 rfl ?_
  refine t_if_ne (pc := 4) 24 dX11_wants_4 rfl ?_ ?_
  · refine t_ld (pc := 24) dX11_wants_24 rfl rfl rfl rfl rfl ?_
    refine t_getI (pc := 25) dX11_wants_25 rfl h0.1 rfl ?_
    refine t_if_ne (pc := 28) 35 dX11_wants_28 rfl ?_ ?_
    · refine t_iconst (pc := 35) dX11_wants_35 ?_
      exact t_zret (pc := 36) dX11_wants_36 rfl
    · refine t_iconst (pc := 31) dX11_wants_31 ?_
      refine t_goto (pc := 32) 36 dX11_wants_32 rfl ?_
      exact t_zret (pc := 36) dX11_wants_36 rfl
  · refine t_ld (pc := 7) dX11_wants_7 rfl rfl rfl rfl rfl ?_
    refine t_if_ne (pc := 8) 24 dX11_wants_8 rfl ?_ ?_
    · refine t_ld (pc := 24) dX11_wants_24 rfl rfl rfl rfl rfl ?_
      refine t_getI (pc := 25) dX11_wants_25 rfl h0.1 rfl ?_
      refine t_if_ne (pc := 28) 35 dX11_wants_28 rfl ?_ ?_
      · refine t_iconst (pc := 35) dX11_wants_35 ?_
        exact t_zret (pc := 36) dX11_wants_36 rfl
      · refine t_iconst (pc := 31) dX11_wants_31 ?_
        refine t_goto (pc := 32) 36 dX11_wants_32 rfl ?_
        exact t_zret (pc := 36) dX11_wants_36 rfl
    · refine t_ld (pc := 11) dX11_wants_11 rfl rfl rfl rfl rfl ?_
      refine t_ld (pc := 12) dX11_wants_12 rfl rfl rfl rfl rfl ?_
      refine t_putI (pc := 13) dX11_wants_13 rfl rfl (Or.inl rfl) h0.1 rfl ?_
      refine t_ld (pc := 16) dX11_wants_16 rfl rfl rfl rfl rfl ?_
      refine t_ld (pc := 17) dX11_wants_17 rfl rfl rfl rfl rfl ?_
      refine t_getI (pc := 18) dX11_wants_18 rfl h0.1 rfl ?_
      refine t_putI (pc := 21) dX11_wants_21 rfl rfl (Or.inl rfl) h0.1 rfl ?_
      refine t_ld (pc := 24) dX11_wants_24 rfl rfl rfl rfl rfl ?_
      refine t_getI (pc := 25) dX11_wants_25 rfl h0.1 rfl ?_
      refine t_if_ne (pc := 28) 35 dX11_wants_28 rfl ?_ ?_
      · refine t_iconst (pc := 35) dX11_wants_35 ?_
        exact t_zret (pc := 36) dX11_wants_36 rfl
      · refine t_iconst (pc := 31) dX11_wants_31 ?_
        refine t_goto (pc := 32) 36 dX11_wants_32 rfl ?_
        exact t_zret (pc := 36) dX11_wants_36 rfl
theorem qX11_number_0 {sc : Nat × (Nat → Int32)} {SH : List mCell} {S : mStore} {r : mR × mW} (h0 : sMod SH) {l1 : Int} {l2 : Int} {u3 : Option Value} : ((if I (S 90 36) = I 2 then (∃ v108 S109, G sc MX11_wants 0 [some (.ref 90), some (.int (I 1)), some (.int (I 1))] [] SH S (rI v108 SH S109) ∧ (if I v108 = I 0 then r = rI 0 SH S109 else (∃ v110 S111, G sc MX11_within 0 [some (.int (I (S109 90 37))), some (.int (I l1)), some (.int (I l2))] [] SH S109 (rI v110 SH S111) ∧ (∃ v112 S113, G sc MX11_wants 0 [some (.ref 90), some (.int (I v110)), some (.int (I 2))] [] SH S111 (rI v112 SH S113) ∧ (if I v112 = I 0 then r = rI 0 SH S113 else (∃ S114, G sc MX11_go 0 [some (.ref 90), none] [] SH S113 (rV SH S114) ∧ r = rI (S113 90 37) SH S114)))))) else (∃ v101 S102, G sc MX11_wants 0 [some (.ref 90), some (.int (I 0)), some (.int (I 1))] [] SH S (rI v101 SH S102) ∧ (if I v101 = I 0 then r = rI 0 SH S102 else (∃ v103 S104, G sc MX11_within 0 [some (.int (I (S102 90 37))), some (.int (I l1)), some (.int (I l2))] [] SH S102 (rI v103 SH S104) ∧ (∃ v105 S106, G sc MX11_wants 0 [some (.ref 90), some (.int (I v103)), some (.int (I 2))] [] SH S104 (rI v105 SH S106) ∧ (if I v105 = I 0 then r = rI 0 SH S106 else (∃ S107, G sc MX11_go 0 [some (.ref 90), none] [] SH S106 (rV SH S107) ∧ r = rI (S106 90 37) SH S107)))))))) → G sc MX11_number 0 [some (.ref 90), some (.int (I l1)), some (.int (I l2)), u3] [] SH S r := by
  refine t_ld (pc := 0) dX11_number_0 rfl rfl rfl rfl rfl ?_
  refine t_ld (pc := 1) dX11_number_1 rfl rfl rfl rfl rfl ?_
  refine t_getI (pc := 2) dX11_number_2 rfl h0.1 rfl ?_
  refine t_iconst (pc := 5) dX11_number_5 ?_
  refine t_ic_ne (pc := 6) 13 dX11_number_6 rfl ?_ ?_
  · refine t_iconst (pc := 13) dX11_number_13 ?_
    refine t_iconst (pc := 14) dX11_number_14 ?_
    refine t_vcIN (pc := 15) dX11_number_15 rfl rfl [] rfl rfl ⟨rfl, by decide, Nat.le_of_ble_eq_true rfl⟩ h0.1 fun v101 S102 => ?_
    refine t_if_eq (pc := 18) 38 dX11_number_18 rfl ?_ ?_
    · refine t_iconst (pc := 38) dX11_number_38 ?_
      exact t_iret (pc := 39) dX11_number_39 rfl
    · refine t_ld (pc := 21) dX11_number_21 rfl rfl rfl rfl rfl ?_
      refine t_ld (pc := 22) dX11_number_22 rfl rfl rfl rfl rfl ?_
      refine t_getI (pc := 23) dX11_number_23 rfl h0.1 rfl ?_
      refine t_ld (pc := 26) dX11_number_26 rfl rfl rfl rfl rfl ?_
      refine t_ld (pc := 27) dX11_number_27 rfl rfl rfl rfl rfl ?_
      refine t_scIN (pc := 28) dX11_number_28 rfl [.ref 90] rfl rfl ⟨rfl, by decide, Nat.le_of_ble_eq_true rfl⟩ fun v103 S104 => ?_
      refine t_iconst (pc := 31) dX11_number_31 ?_
      refine t_vcIN (pc := 32) dX11_number_32 rfl rfl [] rfl rfl ⟨rfl, by decide, Nat.le_of_ble_eq_true rfl⟩ h0.1 fun v105 S106 => ?_
      refine t_if_ne (pc := 35) 40 dX11_number_35 rfl ?_ ?_
      · refine t_ld (pc := 40) dX11_number_40 rfl rfl rfl rfl rfl ?_
        refine t_getI (pc := 41) dX11_number_41 rfl h0.1 rfl ?_
        refine t_st (pc := 44) [some (.ref 90), some (.int (I l1)), some (.int (I l2)), some (.int (I (S106 90 37)))] dX11_number_44 rfl rfl rfl rfl rfl rfl ?_
        refine t_ld (pc := 45) dX11_number_45 rfl rfl rfl rfl rfl ?_
        refine t_vcVN (pc := 46) dX11_number_46 rfl rfl [] rfl rfl ⟨rfl, by decide, Nat.le_of_ble_eq_true rfl⟩ h0.1 fun S107 => ?_
        refine t_ld (pc := 49) dX11_number_49 rfl rfl rfl rfl rfl ?_
        exact t_iret (pc := 50) dX11_number_50 rfl
      · refine t_iconst (pc := 38) dX11_number_38 ?_
        exact t_iret (pc := 39) dX11_number_39 rfl
  · refine t_iconst (pc := 9) dX11_number_9 ?_
    refine t_goto (pc := 10) 14 dX11_number_10 rfl ?_
    refine t_iconst (pc := 14) dX11_number_14 ?_
    refine t_vcIN (pc := 15) dX11_number_15 rfl rfl [] rfl rfl ⟨rfl, by decide, Nat.le_of_ble_eq_true rfl⟩ h0.1 fun v108 S109 => ?_
    refine t_if_eq (pc := 18) 38 dX11_number_18 rfl ?_ ?_
    · refine t_iconst (pc := 38) dX11_number_38 ?_
      exact t_iret (pc := 39) dX11_number_39 rfl
    · refine t_ld (pc := 21) dX11_number_21 rfl rfl rfl rfl rfl ?_
      refine t_ld (pc := 22) dX11_number_22 rfl rfl rfl rfl rfl ?_
      refine t_getI (pc := 23) dX11_number_23 rfl h0.1 rfl ?_
      refine t_ld (pc := 26) dX11_number_26 rfl rfl rfl rfl rfl ?_
      refine t_ld (pc := 27) dX11_number_27 rfl rfl rfl rfl rfl ?_
      refine t_scIN (pc := 28) dX11_number_28 rfl [.ref 90] rfl rfl ⟨rfl, by decide, Nat.le_of_ble_eq_true rfl⟩ fun v110 S111 => ?_
      refine t_iconst (pc := 31) dX11_number_31 ?_
      refine t_vcIN (pc := 32) dX11_number_32 rfl rfl [] rfl rfl ⟨rfl, by decide, Nat.le_of_ble_eq_true rfl⟩ h0.1 fun v112 S113 => ?_
      refine t_if_ne (pc := 35) 40 dX11_number_35 rfl ?_ ?_
      · refine t_ld (pc := 40) dX11_number_40 rfl rfl rfl rfl rfl ?_
        refine t_getI (pc := 41) dX11_number_41 rfl h0.1 rfl ?_
        refine t_st (pc := 44) [some (.ref 90), some (.int (I l1)), some (.int (I l2)), some (.int (I (S113 90 37)))] dX11_number_44 rfl rfl rfl rfl rfl rfl ?_
        refine t_ld (pc := 45) dX11_number_45 rfl rfl rfl rfl rfl ?_
        refine t_vcVN (pc := 46) dX11_number_46 rfl rfl [] rfl rfl ⟨rfl, by decide, Nat.le_of_ble_eq_true rfl⟩ h0.1 fun S114 => ?_
        refine t_ld (pc := 49) dX11_number_49 rfl rfl rfl rfl rfl ?_
        exact t_iret (pc := 50) dX11_number_50 rfl
      · refine t_iconst (pc := 38) dX11_number_38 ?_
        exact t_iret (pc := 39) dX11_number_39 rfl
theorem qX11_opens_0 {sc : Nat × (Nat → Int32)} {SH : List mCell} {S : mStore} {r : mR × mW} (h0 : sMod SH) {l1 : Int} : ((∃ S101, G sc MX11_go 0 [some (.ref 90), none] [] SH (up (up (up (up S 90 35 l1) 90 33 0) 90 39 0) 90 26 (-1)) (rV SH S101) ∧ r = rV SH S101)) → G sc MX11_opens 0 [some (.ref 90), some (.int (I l1))] [] SH S r := by
  refine t_ld (pc := 0) dX11_opens_0 rfl rfl rfl rfl rfl ?_
  refine t_ld (pc := 1) dX11_opens_1 rfl rfl rfl rfl rfl ?_
  refine t_putI (pc := 2) dX11_opens_2 rfl rfl (Or.inl rfl) h0.1 rfl ?_
  refine t_ld (pc := 5) dX11_opens_5 rfl rfl rfl rfl rfl ?_
  refine t_iconst (pc := 6) dX11_opens_6 ?_
  refine t_putI (pc := 7) dX11_opens_7 rfl rfl (Or.inl rfl) h0.1 rfl ?_
  refine t_ld (pc := 10) dX11_opens_10 rfl rfl rfl rfl rfl ?_
  refine t_iconst (pc := 11) dX11_opens_11 ?_
  refine t_putI (pc := 12) dX11_opens_12 rfl rfl (Or.inl rfl) h0.1 rfl ?_
  refine t_ld (pc := 15) dX11_opens_15 rfl rfl rfl rfl rfl ?_
  refine t_iconst (pc := 16) dX11_opens_16 ?_
  refine t_putI (pc := 17) dX11_opens_17 rfl rfl (Or.inl rfl) h0.1 rfl ?_
  refine t_ld (pc := 20) dX11_opens_20 rfl rfl rfl rfl rfl ?_
  refine t_vcVN (pc := 21) dX11_opens_21 rfl rfl [] rfl rfl ⟨rfl, by decide, Nat.le_of_ble_eq_true rfl⟩ h0.1 fun S101 => ?_
  exact t_ret (pc := 24) dX11_opens_24 rfl
theorem qX11_pageHere_0 {sc : Nat × (Nat → Int32)} {SH : List mCell} {S : mStore} {r : mR × mW} (h0 : sMod SH) {l1 : Int} {u2 : Option Value} : ((if I (S 90 36) = I 2 then (∃ v107 S108, G sc MX11_wants 0 [some (.ref 90), some (.int (I 1)), some (.int (I 1))] [] SH S (rI v107 SH S108) ∧ (if I v107 = I 0 then G sc MX11_pageHere 63 [some (.ref 90), some (.int (I l1)), u2] [] SH S108 r else (if I 4 ≤ I (S108 90 37) then (∃ v109 S110, G sc MX11_wants 0 [some (.ref 90), some (.int (I 0)), some (.int (I 2))] [] SH S108 (rI v109 SH S110) ∧ (if I v109 = I 0 then G sc MX11_pageHere 63 [some (.ref 90), some (.int (I l1)), u2] [] SH S110 r else (if I l1 ≤ I (S110 90 37) then G sc MX11_pageHere 56 [some (.ref 90), some (.int (I l1)), u2] [.int (I 0), .ref 90] SH S110 r else G sc MX11_pageHere 56 [some (.ref 90), some (.int (I l1)), u2] [.int (I 1), .ref 90] SH S110 r))) else (∃ v111 S112, G sc MX11_wants 0 [some (.ref 90), some (.int (I 1)), some (.int (I 2))] [] SH S108 (rI v111 SH S112) ∧ (if I v111 = I 0 then G sc MX11_pageHere 63 [some (.ref 90), some (.int (I l1)), u2] [] SH S112 r else (if I l1 ≤ I (S112 90 37) then G sc MX11_pageHere 56 [some (.ref 90), some (.int (I l1)), u2] [.int (I 0), .ref 90] SH S112 r else G sc MX11_pageHere 56 [some (.ref 90), some (.int (I l1)), u2] [.int (I 1), .ref 90] SH S112 r)))))) else (∃ v101 S102, G sc MX11_wants 0 [some (.ref 90), some (.int (I 0)), some (.int (I 1))] [] SH S (rI v101 SH S102) ∧ (if I v101 = I 0 then G sc MX11_pageHere 63 [some (.ref 90), some (.int (I l1)), u2] [] SH S102 r else (if I 4 ≤ I (S102 90 37) then (∃ v103 S104, G sc MX11_wants 0 [some (.ref 90), some (.int (I 0)), some (.int (I 2))] [] SH S102 (rI v103 SH S104) ∧ (if I v103 = I 0 then G sc MX11_pageHere 63 [some (.ref 90), some (.int (I l1)), u2] [] SH S104 r else (if I l1 ≤ I (S104 90 37) then G sc MX11_pageHere 56 [some (.ref 90), some (.int (I l1)), u2] [.int (I 0), .ref 90] SH S104 r else G sc MX11_pageHere 56 [some (.ref 90), some (.int (I l1)), u2] [.int (I 1), .ref 90] SH S104 r))) else (∃ v105 S106, G sc MX11_wants 0 [some (.ref 90), some (.int (I 1)), some (.int (I 2))] [] SH S102 (rI v105 SH S106) ∧ (if I v105 = I 0 then G sc MX11_pageHere 63 [some (.ref 90), some (.int (I l1)), u2] [] SH S106 r else (if I l1 ≤ I (S106 90 37) then G sc MX11_pageHere 56 [some (.ref 90), some (.int (I l1)), u2] [.int (I 0), .ref 90] SH S106 r else G sc MX11_pageHere 56 [some (.ref 90), some (.int (I l1)), u2] [.int (I 1), .ref 90] SH S106 r)))))))) → G sc MX11_pageHere 0 [some (.ref 90), some (.int (I l1)), u2] [] SH S r := by
  refine t_ld (pc := 0) dX11_pageHere_0 rfl rfl rfl rfl rfl ?_
  refine t_ld (pc := 1) dX11_pageHere_1 rfl rfl rfl rfl rfl ?_
  refine t_getI (pc := 2) dX11_pageHere_2 rfl h0.1 rfl ?_
  refine t_iconst (pc := 5) dX11_pageHere_5 ?_
  refine t_ic_ne (pc := 6) 13 dX11_pageHere_6 rfl ?_ ?_
  · refine t_iconst (pc := 13) dX11_pageHere_13 ?_
    refine t_iconst (pc := 14) dX11_pageHere_14 ?_
    refine t_vcIN (pc := 15) dX11_pageHere_15 rfl rfl [] rfl rfl ⟨rfl, by decide, Nat.le_of_ble_eq_true rfl⟩ h0.1 fun v101 S102 => ?_
    refine t_if_eq (pc := 18) 63 dX11_pageHere_18 rfl ?_ ?_
    · exact id
    · refine t_ld (pc := 21) dX11_pageHere_21 rfl rfl rfl rfl rfl ?_
      refine t_ld (pc := 22) dX11_pageHere_22 rfl rfl rfl rfl rfl ?_
      refine t_getI (pc := 23) dX11_pageHere_23 rfl h0.1 rfl ?_
      refine t_iconst (pc := 26) dX11_pageHere_26 ?_
      refine t_ic_ge (pc := 27) 34 dX11_pageHere_27 rfl ?_ ?_
      · refine t_iconst (pc := 34) dX11_pageHere_34 ?_
        refine t_iconst (pc := 35) dX11_pageHere_35 ?_
        refine t_vcIN (pc := 36) dX11_pageHere_36 rfl rfl [] rfl rfl ⟨rfl, by decide, Nat.le_of_ble_eq_true rfl⟩ h0.1 fun v103 S104 => ?_
        refine t_if_eq (pc := 39) 63 dX11_pageHere_39 rfl ?_ ?_
        · exact id
        · refine t_ld (pc := 42) dX11_pageHere_42 rfl rfl rfl rfl rfl ?_
          refine t_ld (pc := 43) dX11_pageHere_43 rfl rfl rfl rfl rfl ?_
          refine t_getI (pc := 44) dX11_pageHere_44 rfl h0.1 rfl ?_
          refine t_ld (pc := 47) dX11_pageHere_47 rfl rfl rfl rfl rfl ?_
          refine t_ic_ge (pc := 48) 55 dX11_pageHere_48 rfl ?_ ?_
          · refine t_iconst (pc := 55) dX11_pageHere_55 ?_
            exact id
          · refine t_iconst (pc := 51) dX11_pageHere_51 ?_
            refine t_goto (pc := 52) 56 dX11_pageHere_52 rfl ?_
            exact id
      · refine t_iconst (pc := 30) dX11_pageHere_30 ?_
        refine t_goto (pc := 31) 35 dX11_pageHere_31 rfl ?_
        refine t_iconst (pc := 35) dX11_pageHere_35 ?_
        refine t_vcIN (pc := 36) dX11_pageHere_36 rfl rfl [] rfl rfl ⟨rfl, by decide, Nat.le_of_ble_eq_true rfl⟩ h0.1 fun v105 S106 => ?_
        refine t_if_eq (pc := 39) 63 dX11_pageHere_39 rfl ?_ ?_
        · exact id
        · refine t_ld (pc := 42) dX11_pageHere_42 rfl rfl rfl rfl rfl ?_
          refine t_ld (pc := 43) dX11_pageHere_43 rfl rfl rfl rfl rfl ?_
          refine t_getI (pc := 44) dX11_pageHere_44 rfl h0.1 rfl ?_
          refine t_ld (pc := 47) dX11_pageHere_47 rfl rfl rfl rfl rfl ?_
          refine t_ic_ge (pc := 48) 55 dX11_pageHere_48 rfl ?_ ?_
          · refine t_iconst (pc := 55) dX11_pageHere_55 ?_
            exact id
          · refine t_iconst (pc := 51) dX11_pageHere_51 ?_
            refine t_goto (pc := 52) 56 dX11_pageHere_52 rfl ?_
            exact id
  · refine t_iconst (pc := 9) dX11_pageHere_9 ?_
    refine t_goto (pc := 10) 14 dX11_pageHere_10 rfl ?_
    refine t_iconst (pc := 14) dX11_pageHere_14 ?_
    refine t_vcIN (pc := 15) dX11_pageHere_15 rfl rfl [] rfl rfl ⟨rfl, by decide, Nat.le_of_ble_eq_true rfl⟩ h0.1 fun v107 S108 => ?_
    refine t_if_eq (pc := 18) 63 dX11_pageHere_18 rfl ?_ ?_
    · exact id
    · refine t_ld (pc := 21) dX11_pageHere_21 rfl rfl rfl rfl rfl ?_
      refine t_ld (pc := 22) dX11_pageHere_22 rfl rfl rfl rfl rfl ?_
      refine t_getI (pc := 23) dX11_pageHere_23 rfl h0.1 rfl ?_
      refine t_iconst (pc := 26) dX11_pageHere_26 ?_
      refine t_ic_ge (pc := 27) 34 dX11_pageHere_27 rfl ?_ ?_
      · refine t_iconst (pc := 34) dX11_pageHere_34 ?_
        refine t_iconst (pc := 35) dX11_pageHere_35 ?_
        refine t_vcIN (pc := 36) dX11_pageHere_36 rfl rfl [] rfl rfl ⟨rfl, by decide, Nat.le_of_ble_eq_true rfl⟩ h0.1 fun v109 S110 => ?_
        refine t_if_eq (pc := 39) 63 dX11_pageHere_39 rfl ?_ ?_
        · exact id
        · refine t_ld (pc := 42) dX11_pageHere_42 rfl rfl rfl rfl rfl ?_
          refine t_ld (pc := 43) dX11_pageHere_43 rfl rfl rfl rfl rfl ?_
          refine t_getI (pc := 44) dX11_pageHere_44 rfl h0.1 rfl ?_
          refine t_ld (pc := 47) dX11_pageHere_47 rfl rfl rfl rfl rfl ?_
          refine t_ic_ge (pc := 48) 55 dX11_pageHere_48 rfl ?_ ?_
          · refine t_iconst (pc := 55) dX11_pageHere_55 ?_
            exact id
          · refine t_iconst (pc := 51) dX11_pageHere_51 ?_
            refine t_goto (pc := 52) 56 dX11_pageHere_52 rfl ?_
            exact id
      · refine t_iconst (pc := 30) dX11_pageHere_30 ?_
        refine t_goto (pc := 31) 35 dX11_pageHere_31 rfl ?_
        refine t_iconst (pc := 35) dX11_pageHere_35 ?_
        refine t_vcIN (pc := 36) dX11_pageHere_36 rfl rfl [] rfl rfl ⟨rfl, by decide, Nat.le_of_ble_eq_true rfl⟩ h0.1 fun v111 S112 => ?_
        refine t_if_eq (pc := 39) 63 dX11_pageHere_39 rfl ?_ ?_
        · exact id
        · refine t_ld (pc := 42) dX11_pageHere_42 rfl rfl rfl rfl rfl ?_
          refine t_ld (pc := 43) dX11_pageHere_43 rfl rfl rfl rfl rfl ?_
          refine t_getI (pc := 44) dX11_pageHere_44 rfl h0.1 rfl ?_
          refine t_ld (pc := 47) dX11_pageHere_47 rfl rfl rfl rfl rfl ?_
          refine t_ic_ge (pc := 48) 55 dX11_pageHere_48 rfl ?_ ?_
          · refine t_iconst (pc := 55) dX11_pageHere_55 ?_
            exact id
          · refine t_iconst (pc := 51) dX11_pageHere_51 ?_
            refine t_goto (pc := 52) 56 dX11_pageHere_52 rfl ?_
            exact id
theorem qX11_pageHere_56 {sc : Nat × (Nat → Int32)} {SH : List mCell} {S : mStore} {r : mR × mW} (h0 : sMod SH) {l1 : Int} {u2 : Option Value} {s0 : Int} : ((∃ v101 S102, G sc MX11_wants 0 [some (.ref 90), some (.int (I s0)), some (.int (I 3))] [] SH S (rI v101 SH S102) ∧ (if I v101 = I 0 then G sc MX11_pageHere 63 [some (.ref 90), some (.int (I l1)), u2] [] SH S102 r else (∃ S103, G sc MX11_go 0 [some (.ref 90), none] [] SH S102 (rV SH S103) ∧ (∃ v104 S105, G sc MX11_pageOf 0 [some (.ref 90), some (.int (I (S102 90 37)))] [] SH S103 (rI v104 SH S105) ∧ r = rI v104 SH S105))))) → G sc MX11_pageHere 56 [some (.ref 90), some (.int (I l1)), u2] [.int (I s0), .ref 90] SH S r := by
  refine t_iconst (pc := 56) dX11_pageHere_56 ?_
  refine t_vcIN (pc := 57) dX11_pageHere_57 rfl rfl [] rfl rfl ⟨rfl, by decide, Nat.le_of_ble_eq_true rfl⟩ h0.1 fun v101 S102 => ?_
  refine t_if_ne (pc := 60) 65 dX11_pageHere_60 rfl ?_ ?_
  · refine t_ld (pc := 65) dX11_pageHere_65 rfl rfl rfl rfl rfl ?_
    refine t_getI (pc := 66) dX11_pageHere_66 rfl h0.1 rfl ?_
    refine t_st (pc := 69) [some (.ref 90), some (.int (I l1)), some (.int (I (S102 90 37)))] dX11_pageHere_69 rfl rfl rfl rfl rfl rfl ?_
    refine t_ld (pc := 70) dX11_pageHere_70 rfl rfl rfl rfl rfl ?_
    refine t_vcVN (pc := 71) dX11_pageHere_71 rfl rfl [] rfl rfl ⟨rfl, by decide, Nat.le_of_ble_eq_true rfl⟩ h0.1 fun S103 => ?_
    refine t_ld (pc := 74) dX11_pageHere_74 rfl rfl rfl rfl rfl ?_
    refine t_ld (pc := 75) dX11_pageHere_75 rfl rfl rfl rfl rfl ?_
    refine t_vcIN (pc := 76) dX11_pageHere_76 rfl rfl [] rfl rfl ⟨rfl, by decide, Nat.le_of_ble_eq_true rfl⟩ h0.1 fun v104 S105 => ?_
    exact t_iret (pc := 79) dX11_pageHere_79 rfl
  · exact id
theorem qX11_pageHere_63 {sc : Nat × (Nat → Int32)} {SH : List mCell} {S : mStore} {r : mR × mW} (h0 : sMod SH) {l1 : Int} {u2 : Option Value} : (r = rI (-1) SH S) → G sc MX11_pageHere 63 [some (.ref 90), some (.int (I l1)), u2] [] SH S r := by
  refine t_iconst (pc := 63) dX11_pageHere_63 ?_
  exact t_iret (pc := 64) dX11_pageHere_64 rfl
theorem qX11_pageOf_0 {sc : Nat × (Nat → Int32)} {SH : List mCell} {S : mStore} {r : mR × mW} (h0 : sMod SH) {l1 : Int} : ((if I (S 90 36) = I 2 then (∃ v107 S108, G sc MX11_wants 0 [some (.ref 90), some (.int (I 1)), some (.int (I 1))] [] SH S (rI v107 SH S108) ∧ (if I v107 = I 0 then G sc MX11_pageOf 69 [some (.ref 90), some (.int (I l1))] [] SH S108 r else (if I 12 ≤ I (S108 90 37) then (∃ v109 S110, G sc MX11_wants 0 [some (.ref 90), some (.int (I 0)), some (.int (I 2))] [] SH S108 (rI v109 SH S110) ∧ (if I v109 = I 0 then G sc MX11_pageOf 69 [some (.ref 90), some (.int (I l1))] [] SH S110 r else ((0 ≤ l1 ∧ l1 < 4) ∧ (if I (S110 102 l1) ≤ I (S110 90 37) then G sc MX11_pageOf 62 [some (.ref 90), some (.int (I l1))] [.int (I 0), .ref 90] SH S110 r else G sc MX11_pageOf 62 [some (.ref 90), some (.int (I l1))] [.int (I 1), .ref 90] SH S110 r)))) else (∃ v111 S112, G sc MX11_wants 0 [some (.ref 90), some (.int (I 1)), some (.int (I 2))] [] SH S108 (rI v111 SH S112) ∧ (if I v111 = I 0 then G sc MX11_pageOf 69 [some (.ref 90), some (.int (I l1))] [] SH S112 r else ((0 ≤ l1 ∧ l1 < 4) ∧ (if I (S112 102 l1) ≤ I (S112 90 37) then G sc MX11_pageOf 62 [some (.ref 90), some (.int (I l1))] [.int (I 0), .ref 90] SH S112 r else G sc MX11_pageOf 62 [some (.ref 90), some (.int (I l1))] [.int (I 1), .ref 90] SH S112 r))))))) else (∃ v101 S102, G sc MX11_wants 0 [some (.ref 90), some (.int (I 0)), some (.int (I 1))] [] SH S (rI v101 SH S102) ∧ (if I v101 = I 0 then G sc MX11_pageOf 69 [some (.ref 90), some (.int (I l1))] [] SH S102 r else (if I 12 ≤ I (S102 90 37) then (∃ v103 S104, G sc MX11_wants 0 [some (.ref 90), some (.int (I 0)), some (.int (I 2))] [] SH S102 (rI v103 SH S104) ∧ (if I v103 = I 0 then G sc MX11_pageOf 69 [some (.ref 90), some (.int (I l1))] [] SH S104 r else ((0 ≤ l1 ∧ l1 < 4) ∧ (if I (S104 102 l1) ≤ I (S104 90 37) then G sc MX11_pageOf 62 [some (.ref 90), some (.int (I l1))] [.int (I 0), .ref 90] SH S104 r else G sc MX11_pageOf 62 [some (.ref 90), some (.int (I l1))] [.int (I 1), .ref 90] SH S104 r)))) else (∃ v105 S106, G sc MX11_wants 0 [some (.ref 90), some (.int (I 1)), some (.int (I 2))] [] SH S102 (rI v105 SH S106) ∧ (if I v105 = I 0 then G sc MX11_pageOf 69 [some (.ref 90), some (.int (I l1))] [] SH S106 r else ((0 ≤ l1 ∧ l1 < 4) ∧ (if I (S106 102 l1) ≤ I (S106 90 37) then G sc MX11_pageOf 62 [some (.ref 90), some (.int (I l1))] [.int (I 0), .ref 90] SH S106 r else G sc MX11_pageOf 62 [some (.ref 90), some (.int (I l1))] [.int (I 1), .ref 90] SH S106 r))))))))) → G sc MX11_pageOf 0 [some (.ref 90), some (.int (I l1))] [] SH S r := by
  refine t_ld (pc := 0) dX11_pageOf_0 rfl rfl rfl rfl rfl ?_
  refine t_ld (pc := 1) dX11_pageOf_1 rfl rfl rfl rfl rfl ?_
  refine t_getI (pc := 2) dX11_pageOf_2 rfl h0.1 rfl ?_
  refine t_iconst (pc := 5) dX11_pageOf_5 ?_
  refine t_ic_ne (pc := 6) 13 dX11_pageOf_6 rfl ?_ ?_
  · refine t_iconst (pc := 13) dX11_pageOf_13 ?_
    refine t_iconst (pc := 14) dX11_pageOf_14 ?_
    refine t_vcIN (pc := 15) dX11_pageOf_15 rfl rfl [] rfl rfl ⟨rfl, by decide, Nat.le_of_ble_eq_true rfl⟩ h0.1 fun v101 S102 => ?_
    refine t_if_eq (pc := 18) 69 dX11_pageOf_18 rfl ?_ ?_
    · exact id
    · refine t_ld (pc := 21) dX11_pageOf_21 rfl rfl rfl rfl rfl ?_
      refine t_ld (pc := 22) dX11_pageOf_22 rfl rfl rfl rfl rfl ?_
      refine t_getI (pc := 23) dX11_pageOf_23 rfl h0.1 rfl ?_
      refine t_bipush (pc := 26) dX11_pageOf_26 (by decide) ?_
      refine t_ic_ge (pc := 28) 35 dX11_pageOf_28 rfl ?_ ?_
      · refine t_iconst (pc := 35) dX11_pageOf_35 ?_
        refine t_iconst (pc := 36) dX11_pageOf_36 ?_
        refine t_vcIN (pc := 37) dX11_pageOf_37 rfl rfl [] rfl rfl ⟨rfl, by decide, Nat.le_of_ble_eq_true rfl⟩ h0.1 fun v103 S104 => ?_
        refine t_if_eq (pc := 40) 69 dX11_pageOf_40 rfl ?_ ?_
        · exact id
        · refine t_ld (pc := 43) dX11_pageOf_43 rfl rfl rfl rfl rfl ?_
          refine t_ld (pc := 44) dX11_pageOf_44 rfl rfl rfl rfl rfl ?_
          refine t_getI (pc := 45) dX11_pageOf_45 rfl h0.1 rfl ?_
          refine t_ld (pc := 48) dX11_pageOf_48 rfl rfl rfl rfl rfl ?_
          refine t_getR (pc := 49) dX11_pageOf_49 rfl h0.1 rfl ?_
          refine t_ld (pc := 52) dX11_pageOf_52 rfl rfl rfl rfl rfl ?_
          refine t_iaload (pc := 53) dX11_pageOf_53 h0.2.2.2.2.2.2.2.2.2.2.2.2.1 ?_
          refine t_ic_ge (pc := 54) 61 dX11_pageOf_54 rfl ?_ ?_
          · refine t_iconst (pc := 61) dX11_pageOf_61 ?_
            exact id
          · refine t_iconst (pc := 57) dX11_pageOf_57 ?_
            refine t_goto (pc := 58) 62 dX11_pageOf_58 rfl ?_
            exact id
      · refine t_iconst (pc := 31) dX11_pageOf_31 ?_
        refine t_goto (pc := 32) 36 dX11_pageOf_32 rfl ?_
        refine t_iconst (pc := 36) dX11_pageOf_36 ?_
        refine t_vcIN (pc := 37) dX11_pageOf_37 rfl rfl [] rfl rfl ⟨rfl, by decide, Nat.le_of_ble_eq_true rfl⟩ h0.1 fun v105 S106 => ?_
        refine t_if_eq (pc := 40) 69 dX11_pageOf_40 rfl ?_ ?_
        · exact id
        · refine t_ld (pc := 43) dX11_pageOf_43 rfl rfl rfl rfl rfl ?_
          refine t_ld (pc := 44) dX11_pageOf_44 rfl rfl rfl rfl rfl ?_
          refine t_getI (pc := 45) dX11_pageOf_45 rfl h0.1 rfl ?_
          refine t_ld (pc := 48) dX11_pageOf_48 rfl rfl rfl rfl rfl ?_
          refine t_getR (pc := 49) dX11_pageOf_49 rfl h0.1 rfl ?_
          refine t_ld (pc := 52) dX11_pageOf_52 rfl rfl rfl rfl rfl ?_
          refine t_iaload (pc := 53) dX11_pageOf_53 h0.2.2.2.2.2.2.2.2.2.2.2.2.1 ?_
          refine t_ic_ge (pc := 54) 61 dX11_pageOf_54 rfl ?_ ?_
          · refine t_iconst (pc := 61) dX11_pageOf_61 ?_
            exact id
          · refine t_iconst (pc := 57) dX11_pageOf_57 ?_
            refine t_goto (pc := 58) 62 dX11_pageOf_58 rfl ?_
            exact id
  · refine t_iconst (pc := 9) dX11_pageOf_9 ?_
    refine t_goto (pc := 10) 14 dX11_pageOf_10 rfl ?_
    refine t_iconst (pc := 14) dX11_pageOf_14 ?_
    refine t_vcIN (pc := 15) dX11_pageOf_15 rfl rfl [] rfl rfl ⟨rfl, by decide, Nat.le_of_ble_eq_true rfl⟩ h0.1 fun v107 S108 => ?_
    refine t_if_eq (pc := 18) 69 dX11_pageOf_18 rfl ?_ ?_
    · exact id
    · refine t_ld (pc := 21) dX11_pageOf_21 rfl rfl rfl rfl rfl ?_
      refine t_ld (pc := 22) dX11_pageOf_22 rfl rfl rfl rfl rfl ?_
      refine t_getI (pc := 23) dX11_pageOf_23 rfl h0.1 rfl ?_
      refine t_bipush (pc := 26) dX11_pageOf_26 (by decide) ?_
      refine t_ic_ge (pc := 28) 35 dX11_pageOf_28 rfl ?_ ?_
      · refine t_iconst (pc := 35) dX11_pageOf_35 ?_
        refine t_iconst (pc := 36) dX11_pageOf_36 ?_
        refine t_vcIN (pc := 37) dX11_pageOf_37 rfl rfl [] rfl rfl ⟨rfl, by decide, Nat.le_of_ble_eq_true rfl⟩ h0.1 fun v109 S110 => ?_
        refine t_if_eq (pc := 40) 69 dX11_pageOf_40 rfl ?_ ?_
        · exact id
        · refine t_ld (pc := 43) dX11_pageOf_43 rfl rfl rfl rfl rfl ?_
          refine t_ld (pc := 44) dX11_pageOf_44 rfl rfl rfl rfl rfl ?_
          refine t_getI (pc := 45) dX11_pageOf_45 rfl h0.1 rfl ?_
          refine t_ld (pc := 48) dX11_pageOf_48 rfl rfl rfl rfl rfl ?_
          refine t_getR (pc := 49) dX11_pageOf_49 rfl h0.1 rfl ?_
          refine t_ld (pc := 52) dX11_pageOf_52 rfl rfl rfl rfl rfl ?_
          refine t_iaload (pc := 53) dX11_pageOf_53 h0.2.2.2.2.2.2.2.2.2.2.2.2.1 ?_
          refine t_ic_ge (pc := 54) 61 dX11_pageOf_54 rfl ?_ ?_
          · refine t_iconst (pc := 61) dX11_pageOf_61 ?_
            exact id
          · refine t_iconst (pc := 57) dX11_pageOf_57 ?_
            refine t_goto (pc := 58) 62 dX11_pageOf_58 rfl ?_
            exact id
      · refine t_iconst (pc := 31) dX11_pageOf_31 ?_
        refine t_goto (pc := 32) 36 dX11_pageOf_32 rfl ?_
        refine t_iconst (pc := 36) dX11_pageOf_36 ?_
        refine t_vcIN (pc := 37) dX11_pageOf_37 rfl rfl [] rfl rfl ⟨rfl, by decide, Nat.le_of_ble_eq_true rfl⟩ h0.1 fun v111 S112 => ?_
        refine t_if_eq (pc := 40) 69 dX11_pageOf_40 rfl ?_ ?_
        · exact id
        · refine t_ld (pc := 43) dX11_pageOf_43 rfl rfl rfl rfl rfl ?_
          refine t_ld (pc := 44) dX11_pageOf_44 rfl rfl rfl rfl rfl ?_
          refine t_getI (pc := 45) dX11_pageOf_45 rfl h0.1 rfl ?_
          refine t_ld (pc := 48) dX11_pageOf_48 rfl rfl rfl rfl rfl ?_
          refine t_getR (pc := 49) dX11_pageOf_49 rfl h0.1 rfl ?_
          refine t_ld (pc := 52) dX11_pageOf_52 rfl rfl rfl rfl rfl ?_
          refine t_iaload (pc := 53) dX11_pageOf_53 h0.2.2.2.2.2.2.2.2.2.2.2.2.1 ?_
          refine t_ic_ge (pc := 54) 61 dX11_pageOf_54 rfl ?_ ?_
          · refine t_iconst (pc := 61) dX11_pageOf_61 ?_
            exact id
          · refine t_iconst (pc := 57) dX11_pageOf_57 ?_
            refine t_goto (pc := 58) 62 dX11_pageOf_58 rfl ?_
            exact id
theorem qX11_pageOf_62 {sc : Nat × (Nat → Int32)} {SH : List mCell} {S : mStore} {r : mR × mW} (h0 : sMod SH) {l1 : Int} {s0 : Int} : ((∃ v101 S102, G sc MX11_wants 0 [some (.ref 90), some (.int (I s0)), some (.int (I 3))] [] SH S (rI v101 SH S102) ∧ (if I v101 = I 0 then G sc MX11_pageOf 69 [some (.ref 90), some (.int (I l1))] [] SH S102 r else r = rI ((12 * l1) + (S102 90 37)) SH S102))) → G sc MX11_pageOf 62 [some (.ref 90), some (.int (I l1))] [.int (I s0), .ref 90] SH S r := by
  refine t_iconst (pc := 62) dX11_pageOf_62 ?_
  refine t_vcIN (pc := 63) dX11_pageOf_63 rfl rfl [] rfl rfl ⟨rfl, by decide, Nat.le_of_ble_eq_true rfl⟩ h0.1 fun v101 S102 => ?_
  refine t_if_ne (pc := 66) 71 dX11_pageOf_66 rfl ?_ ?_
  · refine t_bipush (pc := 71) dX11_pageOf_71 (by decide) ?_
    refine t_ld (pc := 73) dX11_pageOf_73 rfl rfl rfl rfl rfl ?_
    refine t_imul (pc := 74) dX11_pageOf_74 ?_
    refine t_ld (pc := 75) dX11_pageOf_75 rfl rfl rfl rfl rfl ?_
    refine t_getI (pc := 76) dX11_pageOf_76 rfl h0.1 rfl ?_
    refine t_iadd (pc := 79) dX11_pageOf_79 ?_
    exact t_iret (pc := 80) dX11_pageOf_80 rfl
  · exact id
theorem qX11_pageOf_69 {sc : Nat × (Nat → Int32)} {SH : List mCell} {S : mStore} {r : mR × mW} (h0 : sMod SH) {l1 : Int} : (r = rI (-1) SH S) → G sc MX11_pageOf 69 [some (.ref 90), some (.int (I l1))] [] SH S r := by
  refine t_iconst (pc := 69) dX11_pageOf_69 ?_
  exact t_iret (pc := 70) dX11_pageOf_70 rfl
theorem qX11_once_0 {sc : Nat × (Nat → Int32)} {SH : List mCell} {S : mStore} {r : mR × mW} (h0 : sMod SH) {l1 : Int} : ((if I (ian (isr (S 90 47) l1) 1) = I 0 then (∃ v104 S105, G sc MX11_wants 0 [some (.ref 90), some (.int (I 1)), some (.int (I 5))] [] SH S (rI v104 SH S105) ∧ (if I v104 = I 0 then ((I 0 = I 0 ∨ I 0 = I 1) ∧ r = rI 0 SH S105) else (∃ S106, G sc MX11_go 0 [some (.ref 90), none] [] SH (up S105 90 47 (iro (S105 90 47) (isl 1 l1))) (rV SH S106) ∧ ((I 1 = I 0 ∨ I 1 = I 1) ∧ r = rI 1 SH S106)))) else (∃ v101 S102, G sc MX11_wants 0 [some (.ref 90), some (.int (I 0)), some (.int (I 5))] [] SH S (rI v101 SH S102) ∧ (if I v101 = I 0 then ((I 0 = I 0 ∨ I 0 = I 1) ∧ r = rI 0 SH S102) else (∃ S103, G sc MX11_go 0 [some (.ref 90), none] [] SH (up S102 90 47 (iro (S102 90 47) (isl 1 l1))) (rV SH S103) ∧ ((I 1 = I 0 ∨ I 1 = I 1) ∧ r = rI 1 SH S103)))))) → G sc MX11_once 0 [some (.ref 90), some (.int (I l1))] [] SH S r := by
  refine t_ld (pc := 0) dX11_once_0 rfl rfl rfl rfl rfl ?_
  refine t_ld (pc := 1) dX11_once_1 rfl rfl rfl rfl rfl ?_
  refine t_getI (pc := 2) dX11_once_2 rfl h0.1 rfl ?_
  refine t_ld (pc := 5) dX11_once_5 rfl rfl rfl rfl rfl ?_
  refine t_ishr (pc := 6) dX11_once_6 ?_
  refine t_iconst (pc := 7) dX11_once_7 ?_
  refine t_iand (pc := 8) dX11_once_8 ?_
  refine t_if_ne (pc := 9) 16 dX11_once_9 rfl ?_ ?_
  · refine t_iconst (pc := 16) dX11_once_16 ?_
    refine t_iconst (pc := 17) dX11_once_17 ?_
    refine t_vcIN (pc := 18) dX11_once_18 rfl rfl [] rfl rfl ⟨rfl, by decide, Nat.le_of_ble_eq_true rfl⟩ h0.1 fun v101 S102 => ?_
    refine t_if_ne (pc := 21) 26 dX11_once_21 rfl ?_ ?_
    · refine t_ld (pc := 26) dX11_once_26 rfl rfl rfl rfl rfl ?_
      refine t_dup (pc := 27) dX11_once_27 rfl ?_
      refine t_getI (pc := 28) dX11_once_28 rfl h0.1 rfl ?_
      refine t_iconst (pc := 31) dX11_once_31 ?_
      refine t_ld (pc := 32) dX11_once_32 rfl rfl rfl rfl rfl ?_
      refine t_ishl (pc := 33) dX11_once_33 ?_
      refine t_ior (pc := 34) dX11_once_34 ?_
      refine t_putI (pc := 35) dX11_once_35 rfl rfl (Or.inl rfl) h0.1 rfl ?_
      refine t_ld (pc := 38) dX11_once_38 rfl rfl rfl rfl rfl ?_
      refine t_vcVN (pc := 39) dX11_once_39 rfl rfl [] rfl rfl ⟨rfl, by decide, Nat.le_of_ble_eq_true rfl⟩ h0.1 fun S103 => ?_
      refine t_iconst (pc := 42) dX11_once_42 ?_
      exact t_zret (pc := 43) dX11_once_43 rfl
    · refine t_iconst (pc := 24) dX11_once_24 ?_
      exact t_zret (pc := 25) dX11_once_25 rfl
  · refine t_iconst (pc := 12) dX11_once_12 ?_
    refine t_goto (pc := 13) 17 dX11_once_13 rfl ?_
    refine t_iconst (pc := 17) dX11_once_17 ?_
    refine t_vcIN (pc := 18) dX11_once_18 rfl rfl [] rfl rfl ⟨rfl, by decide, Nat.le_of_ble_eq_true rfl⟩ h0.1 fun v104 S105 => ?_
    refine t_if_ne (pc := 21) 26 dX11_once_21 rfl ?_ ?_
    · refine t_ld (pc := 26) dX11_once_26 rfl rfl rfl rfl rfl ?_
      refine t_dup (pc := 27) dX11_once_27 rfl ?_
      refine t_getI (pc := 28) dX11_once_28 rfl h0.1 rfl ?_
      refine t_iconst (pc := 31) dX11_once_31 ?_
      refine t_ld (pc := 32) dX11_once_32 rfl rfl rfl rfl rfl ?_
      refine t_ishl (pc := 33) dX11_once_33 ?_
      refine t_ior (pc := 34) dX11_once_34 ?_
      refine t_putI (pc := 35) dX11_once_35 rfl rfl (Or.inl rfl) h0.1 rfl ?_
      refine t_ld (pc := 38) dX11_once_38 rfl rfl rfl rfl rfl ?_
      refine t_vcVN (pc := 39) dX11_once_39 rfl rfl [] rfl rfl ⟨rfl, by decide, Nat.le_of_ble_eq_true rfl⟩ h0.1 fun S106 => ?_
      refine t_iconst (pc := 42) dX11_once_42 ?_
      exact t_zret (pc := 43) dX11_once_43 rfl
    · refine t_iconst (pc := 24) dX11_once_24 ?_
      exact t_zret (pc := 25) dX11_once_25 rfl
theorem qX11_page1_0 {sc : Nat × (Nat → Int32)} {SH : List mCell} {S : mStore} {r : mR × mW} (h0 : sMod SH) {u1 : Option Value} {u2 : Option Value} : ((if I (S 90 40) ≤ I (S 90 48) then (∃ v101 S102, G sc MX11_wants 0 [some (.ref 90), some (.int (I 0)), some (.int (I 2))] [] SH S (rI v101 SH S102) ∧ (if I v101 = I 0 then r = rV SH S102 else (∃ S103, G sc MX11_go 0 [some (.ref 90), none] [] SH S102 (rV SH S103) ∧ (∃ v104 S105, G sc MX11_pageHere 0 [some (.ref 90), some (.int (I (S103 90 46))), none] [] SH S103 (rI v104 SH S105) ∧ (if I (S105 90 39) = I 0 then ((0 ≤ v104 ∧ v104 < 48) ∧ (if I (S105 104 v104) = I (-1) then (∃ v109 S110, G sc MX11_wants 0 [some (.ref 90), some (.int (I 1)), some (.int (I 4))] [] SH S105 (rI v109 SH S110) ∧ (if I v109 = I 0 then r = rV SH S110 else (∃ S111, G sc MX11_go 0 [some (.ref 90), none] [] SH S110 (rV SH S111) ∧ G sc MX11_page1 75 [some (.ref 90), some (.int (I v104)), some (.int (I 0))] [] SH S111 r))) else (∃ v106 S107, G sc MX11_wants 0 [some (.ref 90), some (.int (I 0)), some (.int (I 4))] [] SH S105 (rI v106 SH S107) ∧ (if I v106 = I 0 then r = rV SH S107 else (∃ S108, G sc MX11_go 0 [some (.ref 90), none] [] SH S107 (rV SH S108) ∧ G sc MX11_page1 75 [some (.ref 90), some (.int (I v104)), some (.int (I 0))] [] SH S108 r))))) else r = rV SH S105))))) else (∃ v112 S113, G sc MX11_wants 0 [some (.ref 90), some (.int (I 1)), some (.int (I 2))] [] SH S (rI v112 SH S113) ∧ (if I v112 = I 0 then r = rV SH S113 else (∃ S114, G sc MX11_go 0 [some (.ref 90), none] [] SH S113 (rV SH S114) ∧ (∃ v115 S116, G sc MX11_pageHere 0 [some (.ref 90), some (.int (I (S114 90 46))), none] [] SH S114 (rI v115 SH S116) ∧ (if I (S116 90 39) = I 0 then ((0 ≤ v115 ∧ v115 < 48) ∧ (if I (S116 104 v115) = I (-1) then (∃ v120 S121, G sc MX11_wants 0 [some (.ref 90), some (.int (I 1)), some (.int (I 4))] [] SH S116 (rI v120 SH S121) ∧ (if I v120 = I 0 then r = rV SH S121 else (∃ S122, G sc MX11_go 0 [some (.ref 90), none] [] SH S121 (rV SH S122) ∧ G sc MX11_page1 75 [some (.ref 90), some (.int (I v115)), some (.int (I 0))] [] SH S122 r))) else (∃ v117 S118, G sc MX11_wants 0 [some (.ref 90), some (.int (I 0)), some (.int (I 4))] [] SH S116 (rI v117 SH S118) ∧ (if I v117 = I 0 then r = rV SH S118 else (∃ S119, G sc MX11_go 0 [some (.ref 90), none] [] SH S118 (rV SH S119) ∧ G sc MX11_page1 75 [some (.ref 90), some (.int (I v115)), some (.int (I 0))] [] SH S119 r))))) else r = rV SH S116))))))) → G sc MX11_page1 0 [some (.ref 90), u1, u2] [] SH S r := by
  refine t_ld (pc := 0) dX11_page1_0 rfl rfl rfl rfl rfl ?_
  refine t_ld (pc := 1) dX11_page1_1 rfl rfl rfl rfl rfl ?_
  refine t_getI (pc := 2) dX11_page1_2 rfl h0.1 rfl ?_
  refine t_ld (pc := 5) dX11_page1_5 rfl rfl rfl rfl rfl ?_
  refine t_getI (pc := 6) dX11_page1_6 rfl h0.1 rfl ?_
  refine t_ic_ge (pc := 9) 16 dX11_page1_9 rfl ?_ ?_
  · refine t_iconst (pc := 16) dX11_page1_16 ?_
    refine t_iconst (pc := 17) dX11_page1_17 ?_
    refine t_vcIN (pc := 18) dX11_page1_18 rfl rfl [] rfl rfl ⟨rfl, by decide, Nat.le_of_ble_eq_true rfl⟩ h0.1 fun v101 S102 => ?_
    refine t_if_ne (pc := 21) 25 dX11_page1_21 rfl ?_ ?_
    · refine t_ld (pc := 25) dX11_page1_25 rfl rfl rfl rfl rfl ?_
      refine t_vcVN (pc := 26) dX11_page1_26 rfl rfl [] rfl rfl ⟨rfl, by decide, Nat.le_of_ble_eq_true rfl⟩ h0.1 fun S103 => ?_
      refine t_ld (pc := 29) dX11_page1_29 rfl rfl rfl rfl rfl ?_
      refine t_ld (pc := 30) dX11_page1_30 rfl rfl rfl rfl rfl ?_
      refine t_getI (pc := 31) dX11_page1_31 rfl h0.1 rfl ?_
      refine t_vcIN (pc := 34) dX11_page1_34 rfl rfl [] rfl rfl ⟨rfl, by decide, Nat.le_of_ble_eq_true rfl⟩ h0.1 fun v104 S105 => ?_
      refine t_st (pc := 37) [some (.ref 90), some (.int (I v104)), u2] dX11_page1_37 rfl rfl rfl rfl rfl rfl ?_
      refine t_ld (pc := 38) dX11_page1_38 rfl rfl rfl rfl rfl ?_
      refine t_getI (pc := 39) dX11_page1_39 rfl h0.1 rfl ?_
      refine t_if_ne (pc := 42) 68 dX11_page1_42 rfl ?_ ?_
      · exact t_ret (pc := 68) dX11_page1_68 rfl
      · refine t_ld (pc := 45) dX11_page1_45 rfl rfl rfl rfl rfl ?_
        refine t_ld (pc := 46) dX11_page1_46 rfl rfl rfl rfl rfl ?_
        refine t_getR (pc := 47) dX11_page1_47 rfl h0.1 rfl ?_
        refine t_ld (pc := 50) dX11_page1_50 rfl rfl rfl rfl rfl ?_
        refine t_iaload (pc := 51) dX11_page1_51 h0.2.2.2.2.2.2.2.2.2.2.2.2.2.2.1 ?_
        refine t_iconst (pc := 52) dX11_page1_52 ?_
        refine t_ic_ne (pc := 53) 60 dX11_page1_53 rfl ?_ ?_
        · refine t_iconst (pc := 60) dX11_page1_60 ?_
          refine t_iconst (pc := 61) dX11_page1_61 ?_
          refine t_vcIN (pc := 62) dX11_page1_62 rfl rfl [] rfl rfl ⟨rfl, by decide, Nat.le_of_ble_eq_true rfl⟩ h0.1 fun v106 S107 => ?_
          refine t_if_ne (pc := 65) 69 dX11_page1_65 rfl ?_ ?_
          · refine t_ld (pc := 69) dX11_page1_69 rfl rfl rfl rfl rfl ?_
            refine t_vcVN (pc := 70) dX11_page1_70 rfl rfl [] rfl rfl ⟨rfl, by decide, Nat.le_of_ble_eq_true rfl⟩ h0.1 fun S108 => ?_
            refine t_iconst (pc := 73) dX11_page1_73 ?_
            refine t_st (pc := 74) [some (.ref 90), some (.int (I v104)), some (.int (I 0))] dX11_page1_74 rfl rfl rfl rfl rfl rfl ?_
            exact id
          · exact t_ret (pc := 68) dX11_page1_68 rfl
        · refine t_iconst (pc := 56) dX11_page1_56 ?_
          refine t_goto (pc := 57) 61 dX11_page1_57 rfl ?_
          refine t_iconst (pc := 61) dX11_page1_61 ?_
          refine t_vcIN (pc := 62) dX11_page1_62 rfl rfl [] rfl rfl ⟨rfl, by decide, Nat.le_of_ble_eq_true rfl⟩ h0.1 fun v109 S110 => ?_
          refine t_if_ne (pc := 65) 69 dX11_page1_65 rfl ?_ ?_
          · refine t_ld (pc := 69) dX11_page1_69 rfl rfl rfl rfl rfl ?_
            refine t_vcVN (pc := 70) dX11_page1_70 rfl rfl [] rfl rfl ⟨rfl, by decide, Nat.le_of_ble_eq_true rfl⟩ h0.1 fun S111 => ?_
            refine t_iconst (pc := 73) dX11_page1_73 ?_
            refine t_st (pc := 74) [some (.ref 90), some (.int (I v104)), some (.int (I 0))] dX11_page1_74 rfl rfl rfl rfl rfl rfl ?_
            exact id
          · exact t_ret (pc := 68) dX11_page1_68 rfl
    · exact t_ret (pc := 24) dX11_page1_24 rfl
  · refine t_iconst (pc := 12) dX11_page1_12 ?_
    refine t_goto (pc := 13) 17 dX11_page1_13 rfl ?_
    refine t_iconst (pc := 17) dX11_page1_17 ?_
    refine t_vcIN (pc := 18) dX11_page1_18 rfl rfl [] rfl rfl ⟨rfl, by decide, Nat.le_of_ble_eq_true rfl⟩ h0.1 fun v112 S113 => ?_
    refine t_if_ne (pc := 21) 25 dX11_page1_21 rfl ?_ ?_
    · refine t_ld (pc := 25) dX11_page1_25 rfl rfl rfl rfl rfl ?_
      refine t_vcVN (pc := 26) dX11_page1_26 rfl rfl [] rfl rfl ⟨rfl, by decide, Nat.le_of_ble_eq_true rfl⟩ h0.1 fun S114 => ?_
      refine t_ld (pc := 29) dX11_page1_29 rfl rfl rfl rfl rfl ?_
      refine t_ld (pc := 30) dX11_page1_30 rfl rfl rfl rfl rfl ?_
      refine t_getI (pc := 31) dX11_page1_31 rfl h0.1 rfl ?_
      refine t_vcIN (pc := 34) dX11_page1_34 rfl rfl [] rfl rfl ⟨rfl, by decide, Nat.le_of_ble_eq_true rfl⟩ h0.1 fun v115 S116 => ?_
      refine t_st (pc := 37) [some (.ref 90), some (.int (I v115)), u2] dX11_page1_37 rfl rfl rfl rfl rfl rfl ?_
      refine t_ld (pc := 38) dX11_page1_38 rfl rfl rfl rfl rfl ?_
      refine t_getI (pc := 39) dX11_page1_39 rfl h0.1 rfl ?_
      refine t_if_ne (pc := 42) 68 dX11_page1_42 rfl ?_ ?_
      · exact t_ret (pc := 68) dX11_page1_68 rfl
      · refine t_ld (pc := 45) dX11_page1_45 rfl rfl rfl rfl rfl ?_
        refine t_ld (pc := 46) dX11_page1_46 rfl rfl rfl rfl rfl ?_
        refine t_getR (pc := 47) dX11_page1_47 rfl h0.1 rfl ?_
        refine t_ld (pc := 50) dX11_page1_50 rfl rfl rfl rfl rfl ?_
        refine t_iaload (pc := 51) dX11_page1_51 h0.2.2.2.2.2.2.2.2.2.2.2.2.2.2.1 ?_
        refine t_iconst (pc := 52) dX11_page1_52 ?_
        refine t_ic_ne (pc := 53) 60 dX11_page1_53 rfl ?_ ?_
        · refine t_iconst (pc := 60) dX11_page1_60 ?_
          refine t_iconst (pc := 61) dX11_page1_61 ?_
          refine t_vcIN (pc := 62) dX11_page1_62 rfl rfl [] rfl rfl ⟨rfl, by decide, Nat.le_of_ble_eq_true rfl⟩ h0.1 fun v117 S118 => ?_
          refine t_if_ne (pc := 65) 69 dX11_page1_65 rfl ?_ ?_
          · refine t_ld (pc := 69) dX11_page1_69 rfl rfl rfl rfl rfl ?_
            refine t_vcVN (pc := 70) dX11_page1_70 rfl rfl [] rfl rfl ⟨rfl, by decide, Nat.le_of_ble_eq_true rfl⟩ h0.1 fun S119 => ?_
            refine t_iconst (pc := 73) dX11_page1_73 ?_
            refine t_st (pc := 74) [some (.ref 90), some (.int (I v115)), some (.int (I 0))] dX11_page1_74 rfl rfl rfl rfl rfl rfl ?_
            exact id
          · exact t_ret (pc := 68) dX11_page1_68 rfl
        · refine t_iconst (pc := 56) dX11_page1_56 ?_
          refine t_goto (pc := 57) 61 dX11_page1_57 rfl ?_
          refine t_iconst (pc := 61) dX11_page1_61 ?_
          refine t_vcIN (pc := 62) dX11_page1_62 rfl rfl [] rfl rfl ⟨rfl, by decide, Nat.le_of_ble_eq_true rfl⟩ h0.1 fun v120 S121 => ?_
          refine t_if_ne (pc := 65) 69 dX11_page1_65 rfl ?_ ?_
          · refine t_ld (pc := 69) dX11_page1_69 rfl rfl rfl rfl rfl ?_
            refine t_vcVN (pc := 70) dX11_page1_70 rfl rfl [] rfl rfl ⟨rfl, by decide, Nat.le_of_ble_eq_true rfl⟩ h0.1 fun S122 => ?_
            refine t_iconst (pc := 73) dX11_page1_73 ?_
            refine t_st (pc := 74) [some (.ref 90), some (.int (I v115)), some (.int (I 0))] dX11_page1_74 rfl rfl rfl rfl rfl rfl ?_
            exact id
          · exact t_ret (pc := 68) dX11_page1_68 rfl
    · exact t_ret (pc := 24) dX11_page1_24 rfl
theorem qX11_page1_75 {sc : Nat × (Nat → Int32)} {SH : List mCell} {S : mStore} {r : mR × mW} (h0 : sMod SH) {l1 : Int} {l2 : Int} : ((if I 4 ≤ I l2 then ((0 ≤ l1 ∧ l1 < 48) ∧ r = rV SH (up (up S 104 l1 (S 90 48)) 90 48 (((up S 104 l1 (S 90 48)) 90 48) + 1))) else (if I (S 90 39) = I 0 then (∃ v101 S102, G sc MX11_number 0 [some (.ref 90), some (.int (I 0)), some (.int (I 15)), none] [] SH S (rI v101 SH S102) ∧ ((0 ≤ (4 * (S 90 48)) + l2 ∧ (4 * (S 90 48)) + l2 < 192) ∧ G sc MX11_page1 75 [some (.ref 90), some (.int (I l1)), some (.int (I (l2 + 1)))] [] SH (up S102 105 ((4 * (S 90 48)) + l2) v101) r)) else ((0 ≤ l1 ∧ l1 < 48) ∧ r = rV SH (up (up S 104 l1 (S 90 48)) 90 48 (((up S 104 l1 (S 90 48)) 90 48) + 1)))))) → G sc MX11_page1 75 [some (.ref 90), some (.int (I l1)), some (.int (I l2))] [] SH S r := by
  refine t_ld (pc := 75) dX11_page1_75 rfl rfl rfl rfl rfl ?_
  refine t_iconst (pc := 76) dX11_page1_76 ?_
  refine t_ic_ge (pc := 77) 113 dX11_page1_77 rfl ?_ ?_
  · refine t_ld (pc := 113) dX11_page1_113 rfl rfl rfl rfl rfl ?_
    refine t_getR (pc := 114) dX11_page1_114 rfl h0.1 rfl ?_
    refine t_ld (pc := 117) dX11_page1_117 rfl rfl rfl rfl rfl ?_
    refine t_ld (pc := 118) dX11_page1_118 rfl rfl rfl rfl rfl ?_
    refine t_getI (pc := 119) dX11_page1_119 rfl h0.1 rfl ?_
    refine t_iastore (pc := 122) dX11_page1_122 h0.2.2.2.2.2.2.2.2.2.2.2.2.2.2.1 ?_
    refine t_ld (pc := 123) dX11_page1_123 rfl rfl rfl rfl rfl ?_
    refine t_dup (pc := 124) dX11_page1_124 rfl ?_
    refine t_getI (pc := 125) dX11_page1_125 rfl h0.1 rfl ?_
    refine t_iconst (pc := 128) dX11_page1_128 ?_
    refine t_iadd (pc := 129) dX11_page1_129 ?_
    refine t_putI (pc := 130) dX11_page1_130 rfl rfl (Or.inl rfl) h0.1 rfl ?_
    exact t_ret (pc := 133) dX11_page1_133 rfl
  · refine t_ld (pc := 80) dX11_page1_80 rfl rfl rfl rfl rfl ?_
    refine t_getI (pc := 81) dX11_page1_81 rfl h0.1 rfl ?_
    refine t_if_ne (pc := 84) 113 dX11_page1_84 rfl ?_ ?_
    · refine t_ld (pc := 113) dX11_page1_113 rfl rfl rfl rfl rfl ?_
      refine t_getR (pc := 114) dX11_page1_114 rfl h0.1 rfl ?_
      refine t_ld (pc := 117) dX11_page1_117 rfl rfl rfl rfl rfl ?_
      refine t_ld (pc := 118) dX11_page1_118 rfl rfl rfl rfl rfl ?_
      refine t_getI (pc := 119) dX11_page1_119 rfl h0.1 rfl ?_
      refine t_iastore (pc := 122) dX11_page1_122 h0.2.2.2.2.2.2.2.2.2.2.2.2.2.2.1 ?_
      refine t_ld (pc := 123) dX11_page1_123 rfl rfl rfl rfl rfl ?_
      refine t_dup (pc := 124) dX11_page1_124 rfl ?_
      refine t_getI (pc := 125) dX11_page1_125 rfl h0.1 rfl ?_
      refine t_iconst (pc := 128) dX11_page1_128 ?_
      refine t_iadd (pc := 129) dX11_page1_129 ?_
      refine t_putI (pc := 130) dX11_page1_130 rfl rfl (Or.inl rfl) h0.1 rfl ?_
      exact t_ret (pc := 133) dX11_page1_133 rfl
    · refine t_ld (pc := 87) dX11_page1_87 rfl rfl rfl rfl rfl ?_
      refine t_getR (pc := 88) dX11_page1_88 rfl h0.1 rfl ?_
      refine t_iconst (pc := 91) dX11_page1_91 ?_
      refine t_ld (pc := 92) dX11_page1_92 rfl rfl rfl rfl rfl ?_
      refine t_getI (pc := 93) dX11_page1_93 rfl h0.1 rfl ?_
      refine t_imul (pc := 96) dX11_page1_96 ?_
      refine t_ld (pc := 97) dX11_page1_97 rfl rfl rfl rfl rfl ?_
      refine t_iadd (pc := 98) dX11_page1_98 ?_
      refine t_ld (pc := 99) dX11_page1_99 rfl rfl rfl rfl rfl ?_
      refine t_iconst (pc := 100) dX11_page1_100 ?_
      refine t_bipush (pc := 101) dX11_page1_101 (by decide) ?_
      refine t_vcIN (pc := 103) dX11_page1_103 rfl rfl [.int (I ((4 * (S 90 48)) + l2)), .ref 105] rfl rfl ⟨rfl, by decide, Nat.le_of_ble_eq_true rfl⟩ h0.1 fun v101 S102 => ?_
      refine t_iastore (pc := 106) dX11_page1_106 h0.2.2.2.2.2.2.2.2.2.2.2.2.2.2.2.1 ?_
      refine t_iinc (pc := 107) [some (.ref 90), some (.int (I l1)), some (.int (I (l2 + 1)))] dX11_page1_107 rfl rfl ?_
      refine t_goto (pc := 110) 75 dX11_page1_110 rfl ?_
      exact id
theorem qX11_advise1_0 {sc : Nat × (Nat → Int32)} {SH : List mCell} {S : mStore} {r : mR × mW} (h0 : sMod SH) {u1 : Option Value} {u2 : Option Value} {u3 : Option Value} : ((∃ S101, G sc MX11_go 0 [some (.ref 90), none] [] SH S (rV SH S101) ∧ (∃ v102 S103, G sc MX11_pageHere 0 [some (.ref 90), some (.int (I (S101 90 46))), none] [] SH S101 (rI v102 SH S103) ∧ (if I (S103 90 39) = I 0 then (∃ S104, G sc MX11_go 0 [some (.ref 90), none] [] SH S103 (rV SH S104) ∧ (∃ v105 S106, G sc MX11_pageOf 0 [some (.ref 90), some (.int (I (idv v102 12)))] [] SH S104 (rI v105 SH S106) ∧ (if I (S106 90 39) = I 0 then (if I v105 < I v102 then (∃ v107 S108, G sc MX11_wants 0 [some (.ref 90), some (.int (I 0)), some (.int (I 3))] [] SH S106 (rI v107 SH S108) ∧ (if I v107 = I 0 then r = rV SH S108 else (∃ S109, G sc MX11_go 0 [some (.ref 90), none] [] SH S108 (rV SH S109) ∧ G sc MX11_advise1 66 [some (.ref 90), some (.int (I v102)), some (.int (I v105)), some (.int (I v102))] [] SH S109 r))) else (∃ v110 S111, G sc MX11_wants 0 [some (.ref 90), some (.int (I 1)), some (.int (I 3))] [] SH S106 (rI v110 SH S111) ∧ (if I v110 = I 0 then r = rV SH S111 else (∃ S112, G sc MX11_go 0 [some (.ref 90), none] [] SH S111 (rV SH S112) ∧ G sc MX11_advise1 66 [some (.ref 90), some (.int (I v102)), some (.int (I v105)), some (.int (I v102))] [] SH S112 r)))) else r = rV SH S106))) else r = rV SH S103)))) → G sc MX11_advise1 0 [some (.ref 90), u1, u2, u3] [] SH S r := by
  refine t_ld (pc := 0) dX11_advise1_0 rfl rfl rfl rfl rfl ?_
  refine t_vcVN (pc := 1) dX11_advise1_1 rfl rfl [] rfl rfl ⟨rfl, by decide, Nat.le_of_ble_eq_true rfl⟩ h0.1 fun S101 => ?_
  refine t_ld (pc := 4) dX11_advise1_4 rfl rfl rfl rfl rfl ?_
  refine t_ld (pc := 5) dX11_advise1_5 rfl rfl rfl rfl rfl ?_
  refine t_getI (pc := 6) dX11_advise1_6 rfl h0.1 rfl ?_
  refine t_vcIN (pc := 9) dX11_advise1_9 rfl rfl [] rfl rfl ⟨rfl, by decide, Nat.le_of_ble_eq_true rfl⟩ h0.1 fun v102 S103 => ?_
  refine t_st (pc := 12) [some (.ref 90), some (.int (I v102)), u2, u3] dX11_advise1_12 rfl rfl rfl rfl rfl rfl ?_
  refine t_ld (pc := 13) dX11_advise1_13 rfl rfl rfl rfl rfl ?_
  refine t_getI (pc := 14) dX11_advise1_14 rfl h0.1 rfl ?_
  refine t_if_eq (pc := 17) 21 dX11_advise1_17 rfl ?_ ?_
  · refine t_ld (pc := 21) dX11_advise1_21 rfl rfl rfl rfl rfl ?_
    refine t_vcVN (pc := 22) dX11_advise1_22 rfl rfl [] rfl rfl ⟨rfl, by decide, Nat.le_of_ble_eq_true rfl⟩ h0.1 fun S104 => ?_
    refine t_ld (pc := 25) dX11_advise1_25 rfl rfl rfl rfl rfl ?_
    refine t_ld (pc := 26) dX11_advise1_26 rfl rfl rfl rfl rfl ?_
    refine t_bipush (pc := 27) dX11_advise1_27 (by decide) ?_
    refine t_idiv (pc := 29) dX11_advise1_29 (by decide) ?_
    refine t_vcIN (pc := 30) dX11_advise1_30 rfl rfl [] rfl rfl ⟨rfl, by decide, Nat.le_of_ble_eq_true rfl⟩ h0.1 fun v105 S106 => ?_
    refine t_st (pc := 33) [some (.ref 90), some (.int (I v102)), some (.int (I v105)), u3] dX11_advise1_33 rfl rfl rfl rfl rfl rfl ?_
    refine t_ld (pc := 34) dX11_advise1_34 rfl rfl rfl rfl rfl ?_
    refine t_getI (pc := 35) dX11_advise1_35 rfl h0.1 rfl ?_
    refine t_if_ne (pc := 38) 59 dX11_advise1_38 rfl ?_ ?_
    · exact t_ret (pc := 59) dX11_advise1_59 rfl
    · refine t_ld (pc := 41) dX11_advise1_41 rfl rfl rfl rfl rfl ?_
      refine t_ld (pc := 42) dX11_advise1_42 rfl rfl rfl rfl rfl ?_
      refine t_ld (pc := 43) dX11_advise1_43 rfl rfl rfl rfl rfl ?_
      refine t_ic_lt (pc := 44) 51 dX11_advise1_44 rfl ?_ ?_
      · refine t_iconst (pc := 51) dX11_advise1_51 ?_
        refine t_iconst (pc := 52) dX11_advise1_52 ?_
        refine t_vcIN (pc := 53) dX11_advise1_53 rfl rfl [] rfl rfl ⟨rfl, by decide, Nat.le_of_ble_eq_true rfl⟩ h0.1 fun v107 S108 => ?_
        refine t_if_ne (pc := 56) 60 dX11_advise1_56 rfl ?_ ?_
        · refine t_ld (pc := 60) dX11_advise1_60 rfl rfl rfl rfl rfl ?_
          refine t_vcVN (pc := 61) dX11_advise1_61 rfl rfl [] rfl rfl ⟨rfl, by decide, Nat.le_of_ble_eq_true rfl⟩ h0.1 fun S109 => ?_
          refine t_ld (pc := 64) dX11_advise1_64 rfl rfl rfl rfl rfl ?_
          refine t_st (pc := 65) [some (.ref 90), some (.int (I v102)), some (.int (I v105)), some (.int (I v102))] dX11_advise1_65 rfl rfl rfl rfl rfl rfl ?_
          exact id
        · exact t_ret (pc := 59) dX11_advise1_59 rfl
      · refine t_iconst (pc := 47) dX11_advise1_47 ?_
        refine t_goto (pc := 48) 52 dX11_advise1_48 rfl ?_
        refine t_iconst (pc := 52) dX11_advise1_52 ?_
        refine t_vcIN (pc := 53) dX11_advise1_53 rfl rfl [] rfl rfl ⟨rfl, by decide, Nat.le_of_ble_eq_true rfl⟩ h0.1 fun v110 S111 => ?_
        refine t_if_ne (pc := 56) 60 dX11_advise1_56 rfl ?_ ?_
        · refine t_ld (pc := 60) dX11_advise1_60 rfl rfl rfl rfl rfl ?_
          refine t_vcVN (pc := 61) dX11_advise1_61 rfl rfl [] rfl rfl ⟨rfl, by decide, Nat.le_of_ble_eq_true rfl⟩ h0.1 fun S112 => ?_
          refine t_ld (pc := 64) dX11_advise1_64 rfl rfl rfl rfl rfl ?_
          refine t_st (pc := 65) [some (.ref 90), some (.int (I v102)), some (.int (I v105)), some (.int (I v102))] dX11_advise1_65 rfl rfl rfl rfl rfl rfl ?_
          exact id
        · exact t_ret (pc := 59) dX11_advise1_59 rfl
  · exact t_ret (pc := 20) dX11_advise1_20 rfl
theorem qX11_advise1_66 {sc : Nat × (Nat → Int32)} {SH : List mCell} {S : mStore} {r : mR × mW} (h0 : sMod SH) {l1 : Int} {l2 : Int} {l3 : Int} : ((if I l2 < I l3 then r = rV SH S else ((0 ≤ l3 ∧ l3 < 48) ∧ G sc MX11_advise1 66 [some (.ref 90), some (.int (I l1)), some (.int (I l2)), some (.int (I (l3 + 1)))] [] SH (up S 106 l3 1) r))) → G sc MX11_advise1 66 [some (.ref 90), some (.int (I l1)), some (.int (I l2)), some (.int (I l3))] [] SH S r := by
  refine t_ld (pc := 66) dX11_advise1_66 rfl rfl rfl rfl rfl ?_
  refine t_ld (pc := 67) dX11_advise1_67 rfl rfl rfl rfl rfl ?_
  refine t_ic_gt (pc := 68) 84 dX11_advise1_68 rfl ?_ ?_
  · exact t_ret (pc := 84) dX11_advise1_84 rfl
  · refine t_ld (pc := 71) dX11_advise1_71 rfl rfl rfl rfl rfl ?_
    refine t_getR (pc := 72) dX11_advise1_72 rfl h0.1 rfl ?_
    refine t_ld (pc := 75) dX11_advise1_75 rfl rfl rfl rfl rfl ?_
    refine t_iconst (pc := 76) dX11_advise1_76 ?_
    refine t_iastore (pc := 77) dX11_advise1_77 h0.2.2.2.2.2.2.2.2.2.2.2.2.2.2.2.2.1 ?_
    refine t_iinc (pc := 78) [some (.ref 90), some (.int (I l1)), some (.int (I l2)), some (.int (I (l3 + 1)))] dX11_advise1_78 rfl rfl ?_
    refine t_goto (pc := 81) 66 dX11_advise1_81 rfl ?_
    exact id
theorem qX11_guest1_0 {sc : Nat × (Nat → Int32)} {SH : List mCell} {S : mStore} {r : mR × mW} (h0 : sMod SH) : ((if I 4 ≤ I (S 90 46) then (∃ v101 S102, G sc MX11_wants 0 [some (.ref 90), some (.int (I 0)), some (.int (I 2))] [] SH S (rI v101 SH S102) ∧ (if I v101 = I 0 then r = rV SH S102 else (∃ S103, G sc MX11_go 0 [some (.ref 90), none] [] SH S102 (rV SH S103) ∧ (∃ v104 S105, G sc MX11_number 0 [some (.ref 90), some (.int (I 1)), some (.int (I 12)), none] [] SH S103 (rI v104 SH S105) ∧ ((0 ≤ S103 90 46 ∧ S103 90 46 < 4) ∧ ((0 ≤ (up S105 102 (S103 90 46) v104) 90 46 ∧ (up S105 102 (S103 90 46) v104) 90 46 < 4) ∧ (if I ((up (up S105 102 (S103 90 46) v104) 103 ((up S105 102 (S103 90 46) v104) 90 46) 0) 90 39) = I 0 then (if I ((up (up S105 102 (S103 90 46) v104) 103 ((up S105 102 (S103 90 46) v104) 90 46) 0) 90 36) = I 2 then (∃ v106 S107, G sc MX11_number 0 [some (.ref 90), some (.int (I 0)), some (.int (I 2)), none] [] SH (up (up S105 102 (S103 90 46) v104) 103 ((up S105 102 (S103 90 46) v104) 90 46) 0) (rI v106 SH S107) ∧ ((0 ≤ (up (up S105 102 (S103 90 46) v104) 103 ((up S105 102 (S103 90 46) v104) 90 46) 0) 90 46 ∧ (up (up S105 102 (S103 90 46) v104) 103 ((up S105 102 (S103 90 46) v104) 90 46) 0) 90 46 < 4) ∧ r = rV SH (up (up S107 103 ((up (up S105 102 (S103 90 46) v104) 103 ((up S105 102 (S103 90 46) v104) 90 46) 0) 90 46) v106) 90 46 (((up S107 103 ((up (up S105 102 (S103 90 46) v104) 103 ((up S105 102 (S103 90 46) v104) 90 46) 0) 90 46) v106) 90 46) + 1)))) else r = rV SH (up (up (up S105 102 (S103 90 46) v104) 103 ((up S105 102 (S103 90 46) v104) 90 46) 0) 90 46 (((up (up S105 102 (S103 90 46) v104) 103 ((up S105 102 (S103 90 46) v104) 90 46) 0) 90 46) + 1))) else r = rV SH (up (up (up S105 102 (S103 90 46) v104) 103 ((up S105 102 (S103 90 46) v104) 90 46) 0) 90 46 (((up (up S105 102 (S103 90 46) v104) 103 ((up S105 102 (S103 90 46) v104) 90 46) 0) 90 46) + 1))))))))) else (∃ v108 S109, G sc MX11_wants 0 [some (.ref 90), some (.int (I 1)), some (.int (I 2))] [] SH S (rI v108 SH S109) ∧ (if I v108 = I 0 then r = rV SH S109 else (∃ S110, G sc MX11_go 0 [some (.ref 90), none] [] SH S109 (rV SH S110) ∧ (∃ v111 S112, G sc MX11_number 0 [some (.ref 90), some (.int (I 1)), some (.int (I 12)), none] [] SH S110 (rI v111 SH S112) ∧ ((0 ≤ S110 90 46 ∧ S110 90 46 < 4) ∧ ((0 ≤ (up S112 102 (S110 90 46) v111) 90 46 ∧ (up S112 102 (S110 90 46) v111) 90 46 < 4) ∧ (if I ((up (up S112 102 (S110 90 46) v111) 103 ((up S112 102 (S110 90 46) v111) 90 46) 0) 90 39) = I 0 then (if I ((up (up S112 102 (S110 90 46) v111) 103 ((up S112 102 (S110 90 46) v111) 90 46) 0) 90 36) = I 2 then (∃ v113 S114, G sc MX11_number 0 [some (.ref 90), some (.int (I 0)), some (.int (I 2)), none] [] SH (up (up S112 102 (S110 90 46) v111) 103 ((up S112 102 (S110 90 46) v111) 90 46) 0) (rI v113 SH S114) ∧ ((0 ≤ (up (up S112 102 (S110 90 46) v111) 103 ((up S112 102 (S110 90 46) v111) 90 46) 0) 90 46 ∧ (up (up S112 102 (S110 90 46) v111) 103 ((up S112 102 (S110 90 46) v111) 90 46) 0) 90 46 < 4) ∧ r = rV SH (up (up S114 103 ((up (up S112 102 (S110 90 46) v111) 103 ((up S112 102 (S110 90 46) v111) 90 46) 0) 90 46) v113) 90 46 (((up S114 103 ((up (up S112 102 (S110 90 46) v111) 103 ((up S112 102 (S110 90 46) v111) 90 46) 0) 90 46) v113) 90 46) + 1)))) else r = rV SH (up (up (up S112 102 (S110 90 46) v111) 103 ((up S112 102 (S110 90 46) v111) 90 46) 0) 90 46 (((up (up S112 102 (S110 90 46) v111) 103 ((up S112 102 (S110 90 46) v111) 90 46) 0) 90 46) + 1))) else r = rV SH (up (up (up S112 102 (S110 90 46) v111) 103 ((up S112 102 (S110 90 46) v111) 90 46) 0) 90 46 (((up (up S112 102 (S110 90 46) v111) 103 ((up S112 102 (S110 90 46) v111) 90 46) 0) 90 46) + 1))))))))))) → G sc MX11_guest1 0 [some (.ref 90)] [] SH S r := by
  refine t_ld (pc := 0) dX11_guest1_0 rfl rfl rfl rfl rfl ?_
  refine t_ld (pc := 1) dX11_guest1_1 rfl rfl rfl rfl rfl ?_
  refine t_getI (pc := 2) dX11_guest1_2 rfl h0.1 rfl ?_
  refine t_iconst (pc := 5) dX11_guest1_5 ?_
  refine t_ic_ge (pc := 6) 13 dX11_guest1_6 rfl ?_ ?_
  · refine t_iconst (pc := 13) dX11_guest1_13 ?_
    refine t_iconst (pc := 14) dX11_guest1_14 ?_
    refine t_vcIN (pc := 15) dX11_guest1_15 rfl rfl [] rfl rfl ⟨rfl, by decide, Nat.le_of_ble_eq_true rfl⟩ h0.1 fun v101 S102 => ?_
    refine t_if_ne (pc := 18) 22 dX11_guest1_18 rfl ?_ ?_
    · refine t_ld (pc := 22) dX11_guest1_22 rfl rfl rfl rfl rfl ?_
      refine t_vcVN (pc := 23) dX11_guest1_23 rfl rfl [] rfl rfl ⟨rfl, by decide, Nat.le_of_ble_eq_true rfl⟩ h0.1 fun S103 => ?_
      refine t_ld (pc := 26) dX11_guest1_26 rfl rfl rfl rfl rfl ?_
      refine t_getR (pc := 27) dX11_guest1_27 rfl h0.1 rfl ?_
      refine t_ld (pc := 30) dX11_guest1_30 rfl rfl rfl rfl rfl ?_
      refine t_getI (pc := 31) dX11_guest1_31 rfl h0.1 rfl ?_
      refine t_ld (pc := 34) dX11_guest1_34 rfl rfl rfl rfl rfl ?_
      refine t_iconst (pc := 35) dX11_guest1_35 ?_
      refine t_bipush (pc := 36) dX11_guest1_36 (by decide) ?_
      refine t_vcIN (pc := 38) dX11_guest1_38 rfl rfl [.int (I (S103 90 46)), .ref 102] rfl rfl ⟨rfl, by decide, Nat.le_of_ble_eq_true rfl⟩ h0.1 fun v104 S105 => ?_
      refine t_iastore (pc := 41) dX11_guest1_41 h0.2.2.2.2.2.2.2.2.2.2.2.2.1 ?_
      refine t_ld (pc := 42) dX11_guest1_42 rfl rfl rfl rfl rfl ?_
      refine t_getR (pc := 43) dX11_guest1_43 rfl h0.1 rfl ?_
      refine t_ld (pc := 46) dX11_guest1_46 rfl rfl rfl rfl rfl ?_
      refine t_getI (pc := 47) dX11_guest1_47 rfl h0.1 rfl ?_
      refine t_iconst (pc := 50) dX11_guest1_50 ?_
      refine t_iastore (pc := 51) dX11_guest1_51 h0.2.2.2.2.2.2.2.2.2.2.2.2.2.1 ?_
      refine t_ld (pc := 52) dX11_guest1_52 rfl rfl rfl rfl rfl ?_
      refine t_getI (pc := 53) dX11_guest1_53 rfl h0.1 rfl ?_
      refine t_if_ne (pc := 56) 82 dX11_guest1_56 rfl ?_ ?_
      · refine t_ld (pc := 82) dX11_guest1_82 rfl rfl rfl rfl rfl ?_
        refine t_dup (pc := 83) dX11_guest1_83 rfl ?_
        refine t_getI (pc := 84) dX11_guest1_84 rfl h0.1 rfl ?_
        refine t_iconst (pc := 87) dX11_guest1_87 ?_
        refine t_iadd (pc := 88) dX11_guest1_88 ?_
        refine t_putI (pc := 89) dX11_guest1_89 rfl rfl (Or.inl rfl) h0.1 rfl ?_
        exact t_ret (pc := 92) dX11_guest1_92 rfl
      · refine t_ld (pc := 59) dX11_guest1_59 rfl rfl rfl rfl rfl ?_
        refine t_getI (pc := 60) dX11_guest1_60 rfl h0.1 rfl ?_
        refine t_iconst (pc := 63) dX11_guest1_63 ?_
        refine t_ic_ne (pc := 64) 82 dX11_guest1_64 rfl ?_ ?_
        · refine t_ld (pc := 82) dX11_guest1_82 rfl rfl rfl rfl rfl ?_
          refine t_dup (pc := 83) dX11_guest1_83 rfl ?_
          refine t_getI (pc := 84) dX11_guest1_84 rfl h0.1 rfl ?_
          refine t_iconst (pc := 87) dX11_guest1_87 ?_
          refine t_iadd (pc := 88) dX11_guest1_88 ?_
          refine t_putI (pc := 89) dX11_guest1_89 rfl rfl (Or.inl rfl) h0.1 rfl ?_
          exact t_ret (pc := 92) dX11_guest1_92 rfl
        · refine t_ld (pc := 67) dX11_guest1_67 rfl rfl rfl rfl rfl ?_
          refine t_getR (pc := 68) dX11_guest1_68 rfl h0.1 rfl ?_
          refine t_ld (pc := 71) dX11_guest1_71 rfl rfl rfl rfl rfl ?_
          refine t_getI (pc := 72) dX11_guest1_72 rfl h0.1 rfl ?_
          refine t_ld (pc := 75) dX11_guest1_75 rfl rfl rfl rfl rfl ?_
          refine t_iconst (pc := 76) dX11_guest1_76 ?_
          refine t_iconst (pc := 77) dX11_guest1_77 ?_
          refine t_vcIN (pc := 78) dX11_guest1_78 rfl rfl [.int (I ((up (up S105 102 (S103 90 46) v104) 103 ((up S105 102 (S103 90 46) v104) 90 46) 0) 90 46)), .ref 103] rfl rfl ⟨rfl, by decide, Nat.le_of_ble_eq_true rfl⟩ h0.1 fun v106 S107 => ?_
          refine t_iastore (pc := 81) dX11_guest1_81 h0.2.2.2.2.2.2.2.2.2.2.2.2.2.1 ?_
          refine t_ld (pc := 82) dX11_guest1_82 rfl rfl rfl rfl rfl ?_
          refine t_dup (pc := 83) dX11_guest1_83 rfl ?_
          refine t_getI (pc := 84) dX11_guest1_84 rfl h0.1 rfl ?_
          refine t_iconst (pc := 87) dX11_guest1_87 ?_
          refine t_iadd (pc := 88) dX11_guest1_88 ?_
          refine t_putI (pc := 89) dX11_guest1_89 rfl rfl (Or.inl rfl) h0.1 rfl ?_
          exact t_ret (pc := 92) dX11_guest1_92 rfl
    · exact t_ret (pc := 21) dX11_guest1_21 rfl
  · refine t_iconst (pc := 9) dX11_guest1_9 ?_
    refine t_goto (pc := 10) 14 dX11_guest1_10 rfl ?_
    refine t_iconst (pc := 14) dX11_guest1_14 ?_
    refine t_vcIN (pc := 15) dX11_guest1_15 rfl rfl [] rfl rfl ⟨rfl, by decide, Nat.le_of_ble_eq_true rfl⟩ h0.1 fun v108 S109 => ?_
    refine t_if_ne (pc := 18) 22 dX11_guest1_18 rfl ?_ ?_
    · refine t_ld (pc := 22) dX11_guest1_22 rfl rfl rfl rfl rfl ?_
      refine t_vcVN (pc := 23) dX11_guest1_23 rfl rfl [] rfl rfl ⟨rfl, by decide, Nat.le_of_ble_eq_true rfl⟩ h0.1 fun S110 => ?_
      refine t_ld (pc := 26) dX11_guest1_26 rfl rfl rfl rfl rfl ?_
      refine t_getR (pc := 27) dX11_guest1_27 rfl h0.1 rfl ?_
      refine t_ld (pc := 30) dX11_guest1_30 rfl rfl rfl rfl rfl ?_
      refine t_getI (pc := 31) dX11_guest1_31 rfl h0.1 rfl ?_
      refine t_ld (pc := 34) dX11_guest1_34 rfl rfl rfl rfl rfl ?_
      refine t_iconst (pc := 35) dX11_guest1_35 ?_
      refine t_bipush (pc := 36) dX11_guest1_36 (by decide) ?_
      refine t_vcIN (pc := 38) dX11_guest1_38 rfl rfl [.int (I (S110 90 46)), .ref 102] rfl rfl ⟨rfl, by decide, Nat.le_of_ble_eq_true rfl⟩ h0.1 fun v111 S112 => ?_
      refine t_iastore (pc := 41) dX11_guest1_41 h0.2.2.2.2.2.2.2.2.2.2.2.2.1 ?_
      refine t_ld (pc := 42) dX11_guest1_42 rfl rfl rfl rfl rfl ?_
      refine t_getR (pc := 43) dX11_guest1_43 rfl h0.1 rfl ?_
      refine t_ld (pc := 46) dX11_guest1_46 rfl rfl rfl rfl rfl ?_
      refine t_getI (pc := 47) dX11_guest1_47 rfl h0.1 rfl ?_
      refine t_iconst (pc := 50) dX11_guest1_50 ?_
      refine t_iastore (pc := 51) dX11_guest1_51 h0.2.2.2.2.2.2.2.2.2.2.2.2.2.1 ?_
      refine t_ld (pc := 52) dX11_guest1_52 rfl rfl rfl rfl rfl ?_
      refine t_getI (pc := 53) dX11_guest1_53 rfl h0.1 rfl ?_
      refine t_if_ne (pc := 56) 82 dX11_guest1_56 rfl ?_ ?_
      · refine t_ld (pc := 82) dX11_guest1_82 rfl rfl rfl rfl rfl ?_
        refine t_dup (pc := 83) dX11_guest1_83 rfl ?_
        refine t_getI (pc := 84) dX11_guest1_84 rfl h0.1 rfl ?_
        refine t_iconst (pc := 87) dX11_guest1_87 ?_
        refine t_iadd (pc := 88) dX11_guest1_88 ?_
        refine t_putI (pc := 89) dX11_guest1_89 rfl rfl (Or.inl rfl) h0.1 rfl ?_
        exact t_ret (pc := 92) dX11_guest1_92 rfl
      · refine t_ld (pc := 59) dX11_guest1_59 rfl rfl rfl rfl rfl ?_
        refine t_getI (pc := 60) dX11_guest1_60 rfl h0.1 rfl ?_
        refine t_iconst (pc := 63) dX11_guest1_63 ?_
        refine t_ic_ne (pc := 64) 82 dX11_guest1_64 rfl ?_ ?_
        · refine t_ld (pc := 82) dX11_guest1_82 rfl rfl rfl rfl rfl ?_
          refine t_dup (pc := 83) dX11_guest1_83 rfl ?_
          refine t_getI (pc := 84) dX11_guest1_84 rfl h0.1 rfl ?_
          refine t_iconst (pc := 87) dX11_guest1_87 ?_
          refine t_iadd (pc := 88) dX11_guest1_88 ?_
          refine t_putI (pc := 89) dX11_guest1_89 rfl rfl (Or.inl rfl) h0.1 rfl ?_
          exact t_ret (pc := 92) dX11_guest1_92 rfl
        · refine t_ld (pc := 67) dX11_guest1_67 rfl rfl rfl rfl rfl ?_
          refine t_getR (pc := 68) dX11_guest1_68 rfl h0.1 rfl ?_
          refine t_ld (pc := 71) dX11_guest1_71 rfl rfl rfl rfl rfl ?_
          refine t_getI (pc := 72) dX11_guest1_72 rfl h0.1 rfl ?_
          refine t_ld (pc := 75) dX11_guest1_75 rfl rfl rfl rfl rfl ?_
          refine t_iconst (pc := 76) dX11_guest1_76 ?_
          refine t_iconst (pc := 77) dX11_guest1_77 ?_
          refine t_vcIN (pc := 78) dX11_guest1_78 rfl rfl [.int (I ((up (up S112 102 (S110 90 46) v111) 103 ((up S112 102 (S110 90 46) v111) 90 46) 0) 90 46)), .ref 103] rfl rfl ⟨rfl, by decide, Nat.le_of_ble_eq_true rfl⟩ h0.1 fun v113 S114 => ?_
          refine t_iastore (pc := 81) dX11_guest1_81 h0.2.2.2.2.2.2.2.2.2.2.2.2.2.1 ?_
          refine t_ld (pc := 82) dX11_guest1_82 rfl rfl rfl rfl rfl ?_
          refine t_dup (pc := 83) dX11_guest1_83 rfl ?_
          refine t_getI (pc := 84) dX11_guest1_84 rfl h0.1 rfl ?_
          refine t_iconst (pc := 87) dX11_guest1_87 ?_
          refine t_iadd (pc := 88) dX11_guest1_88 ?_
          refine t_putI (pc := 89) dX11_guest1_89 rfl rfl (Or.inl rfl) h0.1 rfl ?_
          exact t_ret (pc := 92) dX11_guest1_92 rfl
    · exact t_ret (pc := 21) dX11_guest1_21 rfl
theorem qX11_clause1_0 {sc : Nat × (Nat → Int32)} {SH : List mCell} {S : mStore} {r : mR × mW} (h0 : sMod SH) : ((if I (S 90 36) = I 1 then G sc MX11_clause1 16 [some (.ref 90)] [.int (I (S 90 38))] SH S r else G sc MX11_clause1 16 [some (.ref 90)] [.int (I (-1))] SH S r)) → G sc MX11_clause1 0 [some (.ref 90)] [] SH S r := by
  refine t_ld (pc := 0) dX11_clause1_0 rfl rfl rfl rfl rfl ?_
  refine t_getI (pc := 1) dX11_clause1_1 rfl h0.1 rfl ?_
  refine t_iconst (pc := 4) dX11_clause1_4 ?_
  refine t_ic_ne (pc := 5) 15 dX11_clause1_5 rfl ?_ ?_
  · refine t_iconst (pc := 15) dX11_clause1_15 ?_
    exact id
  · refine t_ld (pc := 8) dX11_clause1_8 rfl rfl rfl rfl rfl ?_
    refine t_getI (pc := 9) dX11_clause1_9 rfl h0.1 rfl ?_
    refine t_goto (pc := 12) 16 dX11_clause1_12 rfl ?_
    exact id
theorem qX11_clause1_16 {sc : Nat × (Nat → Int32)} {SH : List mCell} {S : mStore} {r : mR × mW} (h0 : sMod SH) {s0 : Int} : ((swp s0 0 (∃ v101 S102, G sc MX11_wants 0 [some (.ref 90), some (.int (I 0)), some (.int (I 1))] [] SH S (rI v101 SH S102) ∧ G sc MX11_clause1 234 [some (.ref 90)] [] SH S102 r) [(if I (S 90 48) = I 0 then G sc MX11_clause1 77 [some (.ref 90)] [.int (I 1), .ref 90] SH S r else G sc MX11_clause1 77 [some (.ref 90)] [.int (I 0), .ref 90] SH S r), (∃ v103 S104, G sc MX11_once 0 [some (.ref 90), some (.int (I 1))] [] SH S (rI v103 SH S104) ∧ (if I v103 = I 0 then G sc MX11_clause1 234 [some (.ref 90)] [] SH S104 r else (∃ v105 S106, G sc MX11_number 0 [some (.ref 90), some (.int (I 2)), some (.int (I 8)), none] [] SH S104 (rI v105 SH S106) ∧ G sc MX11_clause1 234 [some (.ref 90)] [] SH (up S106 90 41 v105) r))), (∃ v107 S108, G sc MX11_once 0 [some (.ref 90), some (.int (I 2))] [] SH S (rI v107 SH S108) ∧ (if I v107 = I 0 then G sc MX11_clause1 234 [some (.ref 90)] [] SH S108 r else (∃ v109 S110, G sc MX11_number 0 [some (.ref 90), some (.int (I 1)), some (.int (I 16)), none] [] SH S108 (rI v109 SH S110) ∧ (if I ((up S110 90 42 v109) 90 39) = I 0 then (∃ v111 S112, G sc MX11_number 0 [some (.ref 90), some (.int (I ((up S110 90 42 v109) 90 42))), some (.int (I 16)), none] [] SH (up S110 90 42 v109) (rI v111 SH S112) ∧ G sc MX11_clause1 234 [some (.ref 90)] [] SH (up S112 90 43 v111) r) else G sc MX11_clause1 234 [some (.ref 90)] [] SH (up S110 90 42 v109) r)))), (∃ v113 S114, G sc MX11_once 0 [some (.ref 90), some (.int (I 3))] [] SH S (rI v113 SH S114) ∧ (if I v113 = I 0 then G sc MX11_clause1 234 [some (.ref 90)] [] SH S114 r else G sc MX11_clause1 234 [some (.ref 90)] [] SH (up S114 90 44 1) r)), (∃ v115 S116, G sc MX11_once 0 [some (.ref 90), some (.int (I 4))] [] SH S (rI v115 SH S116) ∧ (if I v115 = I 0 then G sc MX11_clause1 234 [some (.ref 90)] [] SH S116 r else G sc MX11_clause1 234 [some (.ref 90)] [] SH (up S116 90 45 1) r)), (∃ S117, G sc MX11_guest1 0 [some (.ref 90)] [] SH S (rV SH S117) ∧ G sc MX11_clause1 234 [some (.ref 90)] [] SH S117 r), (∃ S118, G sc MX11_page1 0 [some (.ref 90), none, none] [] SH S (rV SH S118) ∧ G sc MX11_clause1 234 [some (.ref 90)] [] SH S118 r), (∃ S119, G sc MX11_advise1 0 [some (.ref 90), none, none, none] [] SH S (rV SH S119) ∧ G sc MX11_clause1 234 [some (.ref 90)] [] SH S119 r)])) → G sc MX11_clause1 16 [some (.ref 90)] [.int (I s0)] SH S r := by
  refine t_switch (pc := 16) 227 dX11_clause1_16 (by decide) rfl rfl ?_ ?_
  · refine t_ld (pc := 227) dX11_clause1_227 rfl rfl rfl rfl rfl ?_
    refine t_iconst (pc := 228) dX11_clause1_228 ?_
    refine t_iconst (pc := 229) dX11_clause1_229 ?_
    refine t_vcIN (pc := 230) dX11_clause1_230 rfl rfl [] rfl rfl ⟨rfl, by decide, Nat.le_of_ble_eq_true rfl⟩ h0.1 fun v101 S102 => ?_
    refine t_pop (pc := 233) dX11_clause1_233 rfl ?_
    exact id
  · refine ⟨⟨64, rfl, ?_⟩, ⟨⟨106, rfl, ?_⟩, ⟨⟨128, rfl, ?_⟩, ⟨⟨174, rfl, ?_⟩, ⟨⟨190, rfl, ?_⟩, ⟨⟨206, rfl, ?_⟩, ⟨⟨213, rfl, ?_⟩, ⟨⟨220, rfl, ?_⟩, trivial⟩⟩⟩⟩⟩⟩⟩⟩
    · refine t_ld (pc := 64) dX11_clause1_64 rfl rfl rfl rfl rfl ?_
      refine t_ld (pc := 65) dX11_clause1_65 rfl rfl rfl rfl rfl ?_
      refine t_getI (pc := 66) dX11_clause1_66 rfl h0.1 rfl ?_
      refine t_if_ne (pc := 69) 76 dX11_clause1_69 rfl ?_ ?_
      · refine t_iconst (pc := 76) dX11_clause1_76 ?_
        exact id
      · refine t_iconst (pc := 72) dX11_clause1_72 ?_
        refine t_goto (pc := 73) 77 dX11_clause1_73 rfl ?_
        exact id
    · refine t_ld (pc := 106) dX11_clause1_106 rfl rfl rfl rfl rfl ?_
      refine t_iconst (pc := 107) dX11_clause1_107 ?_
      refine t_vcIN (pc := 108) dX11_clause1_108 rfl rfl [] rfl rfl ⟨rfl, by decide, Nat.le_of_ble_eq_true rfl⟩ h0.1 fun v103 S104 => ?_
      refine t_if_eq (pc := 111) 234 dX11_clause1_111 rfl ?_ ?_
      · exact id
      · refine t_ld (pc := 114) dX11_clause1_114 rfl rfl rfl rfl rfl ?_
        refine t_ld (pc := 115) dX11_clause1_115 rfl rfl rfl rfl rfl ?_
        refine t_iconst (pc := 116) dX11_clause1_116 ?_
        refine t_bipush (pc := 117) dX11_clause1_117 (by decide) ?_
        refine t_vcIN (pc := 119) dX11_clause1_119 rfl rfl [.ref 90] rfl rfl ⟨rfl, by decide, Nat.le_of_ble_eq_true rfl⟩ h0.1 fun v105 S106 => ?_
        refine t_putI (pc := 122) dX11_clause1_122 rfl rfl (Or.inl rfl) h0.1 rfl ?_
        refine t_goto (pc := 125) 234 dX11_clause1_125 rfl ?_
        exact id
    · refine t_ld (pc := 128) dX11_clause1_128 rfl rfl rfl rfl rfl ?_
      refine t_iconst (pc := 129) dX11_clause1_129 ?_
      refine t_vcIN (pc := 130) dX11_clause1_130 rfl rfl [] rfl rfl ⟨rfl, by decide, Nat.le_of_ble_eq_true rfl⟩ h0.1 fun v107 S108 => ?_
      refine t_if_ne (pc := 133) 139 dX11_clause1_133 rfl ?_ ?_
      · refine t_ld (pc := 139) dX11_clause1_139 rfl rfl rfl rfl rfl ?_
        refine t_ld (pc := 140) dX11_clause1_140 rfl rfl rfl rfl rfl ?_
        refine t_iconst (pc := 141) dX11_clause1_141 ?_
        refine t_bipush (pc := 142) dX11_clause1_142 (by decide) ?_
        refine t_vcIN (pc := 144) dX11_clause1_144 rfl rfl [.ref 90] rfl rfl ⟨rfl, by decide, Nat.le_of_ble_eq_true rfl⟩ h0.1 fun v109 S110 => ?_
        refine t_putI (pc := 147) dX11_clause1_147 rfl rfl (Or.inl rfl) h0.1 rfl ?_
        refine t_ld (pc := 150) dX11_clause1_150 rfl rfl rfl rfl rfl ?_
        refine t_getI (pc := 151) dX11_clause1_151 rfl h0.1 rfl ?_
        refine t_if_ne (pc := 154) 234 dX11_clause1_154 rfl ?_ ?_
        · exact id
        · refine t_ld (pc := 157) dX11_clause1_157 rfl rfl rfl rfl rfl ?_
          refine t_ld (pc := 158) dX11_clause1_158 rfl rfl rfl rfl rfl ?_
          refine t_ld (pc := 159) dX11_clause1_159 rfl rfl rfl rfl rfl ?_
          refine t_getI (pc := 160) dX11_clause1_160 rfl h0.1 rfl ?_
          refine t_bipush (pc := 163) dX11_clause1_163 (by decide) ?_
          refine t_vcIN (pc := 165) dX11_clause1_165 rfl rfl [.ref 90] rfl rfl ⟨rfl, by decide, Nat.le_of_ble_eq_true rfl⟩ h0.1 fun v111 S112 => ?_
          refine t_putI (pc := 168) dX11_clause1_168 rfl rfl (Or.inl rfl) h0.1 rfl ?_
          refine t_goto (pc := 171) 234 dX11_clause1_171 rfl ?_
          exact id
      · refine t_goto (pc := 136) 234 dX11_clause1_136 rfl ?_
        exact id
    · refine t_ld (pc := 174) dX11_clause1_174 rfl rfl rfl rfl rfl ?_
      refine t_iconst (pc := 175) dX11_clause1_175 ?_
      refine t_vcIN (pc := 176) dX11_clause1_176 rfl rfl [] rfl rfl ⟨rfl, by decide, Nat.le_of_ble_eq_true rfl⟩ h0.1 fun v113 S114 => ?_
      refine t_if_eq (pc := 179) 234 dX11_clause1_179 rfl ?_ ?_
      · exact id
      · refine t_ld (pc := 182) dX11_clause1_182 rfl rfl rfl rfl rfl ?_
        refine t_iconst (pc := 183) dX11_clause1_183 ?_
        refine t_putI (pc := 184) dX11_clause1_184 rfl rfl (Or.inl rfl) h0.1 rfl ?_
        refine t_goto (pc := 187) 234 dX11_clause1_187 rfl ?_
        exact id
    · refine t_ld (pc := 190) dX11_clause1_190 rfl rfl rfl rfl rfl ?_
      refine t_iconst (pc := 191) dX11_clause1_191 ?_
      refine t_vcIN (pc := 192) dX11_clause1_192 rfl rfl [] rfl rfl ⟨rfl, by decide, Nat.le_of_ble_eq_true rfl⟩ h0.1 fun v115 S116 => ?_
      refine t_if_eq (pc := 195) 234 dX11_clause1_195 rfl ?_ ?_
      · exact id
      · refine t_ld (pc := 198) dX11_clause1_198 rfl rfl rfl rfl rfl ?_
        refine t_iconst (pc := 199) dX11_clause1_199 ?_
        refine t_putI (pc := 200) dX11_clause1_200 rfl rfl (Or.inl rfl) h0.1 rfl ?_
        refine t_goto (pc := 203) 234 dX11_clause1_203 rfl ?_
        exact id
    · refine t_ld (pc := 206) dX11_clause1_206 rfl rfl rfl rfl rfl ?_
      refine t_vcVN (pc := 207) dX11_clause1_207 rfl rfl [] rfl rfl ⟨rfl, by decide, Nat.le_of_ble_eq_true rfl⟩ h0.1 fun S117 => ?_
      refine t_goto (pc := 210) 234 dX11_clause1_210 rfl ?_
      exact id
    · refine t_ld (pc := 213) dX11_clause1_213 rfl rfl rfl rfl rfl ?_
      refine t_vcVN (pc := 214) dX11_clause1_214 rfl rfl [] rfl rfl ⟨rfl, by decide, Nat.le_of_ble_eq_true rfl⟩ h0.1 fun S118 => ?_
      refine t_goto (pc := 217) 234 dX11_clause1_217 rfl ?_
      exact id
    · refine t_ld (pc := 220) dX11_clause1_220 rfl rfl rfl rfl rfl ?_
      refine t_vcVN (pc := 221) dX11_clause1_221 rfl rfl [] rfl rfl ⟨rfl, by decide, Nat.le_of_ble_eq_true rfl⟩ h0.1 fun S119 => ?_
      refine t_goto (pc := 224) 234 dX11_clause1_224 rfl ?_
      exact id
theorem qX11_clause1_77 {sc : Nat × (Nat → Int32)} {SH : List mCell} {S : mStore} {r : mR × mW} (h0 : sMod SH) {s0 : Int} : ((∃ v101 S102, G sc MX11_wants 0 [some (.ref 90), some (.int (I s0)), some (.int (I 4))] [] SH S (rI v101 SH S102) ∧ (if I v101 = I 0 then G sc MX11_clause1 234 [some (.ref 90)] [] SH S102 r else (∃ v103 S104, G sc MX11_once 0 [some (.ref 90), some (.int (I 0))] [] SH S102 (rI v103 SH S104) ∧ (if I v103 = I 0 then G sc MX11_clause1 234 [some (.ref 90)] [] SH S104 r else (∃ v105 S106, G sc MX11_number 0 [some (.ref 90), some (.int (I 1)), some (.int (I 48)), none] [] SH S104 (rI v105 SH S106) ∧ G sc MX11_clause1 234 [some (.ref 90)] [] SH (up S106 90 40 v105) r)))))) → G sc MX11_clause1 77 [some (.ref 90)] [.int (I s0), .ref 90] SH S r := by
  refine t_iconst (pc := 77) dX11_clause1_77 ?_
  refine t_vcIN (pc := 78) dX11_clause1_78 rfl rfl [] rfl rfl ⟨rfl, by decide, Nat.le_of_ble_eq_true rfl⟩ h0.1 fun v101 S102 => ?_
  refine t_if_eq (pc := 81) 234 dX11_clause1_81 rfl ?_ ?_
  · exact id
  · refine t_ld (pc := 84) dX11_clause1_84 rfl rfl rfl rfl rfl ?_
    refine t_iconst (pc := 85) dX11_clause1_85 ?_
    refine t_vcIN (pc := 86) dX11_clause1_86 rfl rfl [] rfl rfl ⟨rfl, by decide, Nat.le_of_ble_eq_true rfl⟩ h0.1 fun v103 S104 => ?_
    refine t_if_eq (pc := 89) 234 dX11_clause1_89 rfl ?_ ?_
    · exact id
    · refine t_ld (pc := 92) dX11_clause1_92 rfl rfl rfl rfl rfl ?_
      refine t_ld (pc := 93) dX11_clause1_93 rfl rfl rfl rfl rfl ?_
      refine t_iconst (pc := 94) dX11_clause1_94 ?_
      refine t_bipush (pc := 95) dX11_clause1_95 (by decide) ?_
      refine t_vcIN (pc := 97) dX11_clause1_97 rfl rfl [.ref 90] rfl rfl ⟨rfl, by decide, Nat.le_of_ble_eq_true rfl⟩ h0.1 fun v105 S106 => ?_
      refine t_putI (pc := 100) dX11_clause1_100 rfl rfl (Or.inl rfl) h0.1 rfl ?_
      refine t_goto (pc := 103) 234 dX11_clause1_103 rfl ?_
      exact id
theorem qX11_clause1_234 {sc : Nat × (Nat → Int32)} {SH : List mCell} {S : mStore} {r : mR × mW} (h0 : sMod SH) : (r = rV SH S) → G sc MX11_clause1 234 [some (.ref 90)] [] SH S r := by
  exact t_ret (pc := 234) dX11_clause1_234 rfl
theorem qX11_ends_0 {sc : Nat × (Nat → Int32)} {SH : List mCell} {S : mStore} {r : mR × mW} (h0 : sMod SH) : ((if I (S 90 39) = I 0 then (if I (S 90 36) = I 3 then (∃ v104 S105, G sc MX11_wants 0 [some (.ref 90), some (.int (I 1)), some (.int (I 1))] [] SH S (rI v104 SH S105) ∧ (if I v104 = I 0 then r = rV SH S105 else (∃ S106, G sc MX11_go 0 [some (.ref 90), none] [] SH S105 (rV SH S106) ∧ r = rV SH S106))) else (∃ v101 S102, G sc MX11_wants 0 [some (.ref 90), some (.int (I 0)), some (.int (I 1))] [] SH S (rI v101 SH S102) ∧ (if I v101 = I 0 then r = rV SH S102 else (∃ S103, G sc MX11_go 0 [some (.ref 90), none] [] SH S102 (rV SH S103) ∧ r = rV SH S103)))) else r = rV SH S)) → G sc MX11_ends 0 [some (.ref 90)] [] SH S r := by
  refine t_ld (pc := 0) dX11_ends_0 rfl rfl rfl rfl rfl ?_
  refine t_getI (pc := 1) dX11_ends_1 rfl h0.1 rfl ?_
  refine t_if_ne (pc := 4) 32 dX11_ends_4 rfl ?_ ?_
  · exact t_ret (pc := 32) dX11_ends_32 rfl
  · refine t_ld (pc := 7) dX11_ends_7 rfl rfl rfl rfl rfl ?_
    refine t_ld (pc := 8) dX11_ends_8 rfl rfl rfl rfl rfl ?_
    refine t_getI (pc := 9) dX11_ends_9 rfl h0.1 rfl ?_
    refine t_iconst (pc := 12) dX11_ends_12 ?_
    refine t_ic_ne (pc := 13) 20 dX11_ends_13 rfl ?_ ?_
    · refine t_iconst (pc := 20) dX11_ends_20 ?_
      refine t_iconst (pc := 21) dX11_ends_21 ?_
      refine t_vcIN (pc := 22) dX11_ends_22 rfl rfl [] rfl rfl ⟨rfl, by decide, Nat.le_of_ble_eq_true rfl⟩ h0.1 fun v101 S102 => ?_
      refine t_if_eq (pc := 25) 32 dX11_ends_25 rfl ?_ ?_
      · exact t_ret (pc := 32) dX11_ends_32 rfl
      · refine t_ld (pc := 28) dX11_ends_28 rfl rfl rfl rfl rfl ?_
        refine t_vcVN (pc := 29) dX11_ends_29 rfl rfl [] rfl rfl ⟨rfl, by decide, Nat.le_of_ble_eq_true rfl⟩ h0.1 fun S103 => ?_
        exact t_ret (pc := 32) dX11_ends_32 rfl
    · refine t_iconst (pc := 16) dX11_ends_16 ?_
      refine t_goto (pc := 17) 21 dX11_ends_17 rfl ?_
      refine t_iconst (pc := 21) dX11_ends_21 ?_
      refine t_vcIN (pc := 22) dX11_ends_22 rfl rfl [] rfl rfl ⟨rfl, by decide, Nat.le_of_ble_eq_true rfl⟩ h0.1 fun v104 S105 => ?_
      refine t_if_eq (pc := 25) 32 dX11_ends_25 rfl ?_ ?_
      · exact t_ret (pc := 32) dX11_ends_32 rfl
      · refine t_ld (pc := 28) dX11_ends_28 rfl rfl rfl rfl rfl ?_
        refine t_vcVN (pc := 29) dX11_ends_29 rfl rfl [] rfl rfl ⟨rfl, by decide, Nat.le_of_ble_eq_true rfl⟩ h0.1 fun S106 => ?_
        exact t_ret (pc := 32) dX11_ends_32 rfl
theorem qX11_without1_0 {sc : Nat × (Nat → Int32)} {SH : List mCell} {S : mStore} {r : mR × mW} (h0 : sMod SH) {u1 : Option Value} : (G sc MX11_without1 49 [some (.ref 90), some (.int (I 0))] [] SH (up (up (up (up (up (up (up (up (up S 90 40 24) 90 41 4) 90 42 1) 90 43 8) 90 48 0) 90 47 0) 90 46 0) 90 45 0) 90 44 0) r) → G sc MX11_without1 0 [some (.ref 90), u1] [] SH S r := by
  refine t_ld (pc := 0) dX11_without1_0 rfl rfl rfl rfl rfl ?_
  refine t_bipush (pc := 1) dX11_without1_1 (by decide) ?_
  refine t_putI (pc := 3) dX11_without1_3 rfl rfl (Or.inl rfl) h0.1 rfl ?_
  refine t_ld (pc := 6) dX11_without1_6 rfl rfl rfl rfl rfl ?_
  refine t_iconst (pc := 7) dX11_without1_7 ?_
  refine t_putI (pc := 8) dX11_without1_8 rfl rfl (Or.inl rfl) h0.1 rfl ?_
  refine t_ld (pc := 11) dX11_without1_11 rfl rfl rfl rfl rfl ?_
  refine t_iconst (pc := 12) dX11_without1_12 ?_
  refine t_putI (pc := 13) dX11_without1_13 rfl rfl (Or.inl rfl) h0.1 rfl ?_
  refine t_ld (pc := 16) dX11_without1_16 rfl rfl rfl rfl rfl ?_
  refine t_bipush (pc := 17) dX11_without1_17 (by decide) ?_
  refine t_putI (pc := 19) dX11_without1_19 rfl rfl (Or.inl rfl) h0.1 rfl ?_
  refine t_ld (pc := 22) dX11_without1_22 rfl rfl rfl rfl rfl ?_
  refine t_ld (pc := 23) dX11_without1_23 rfl rfl rfl rfl rfl ?_
  refine t_ld (pc := 24) dX11_without1_24 rfl rfl rfl rfl rfl ?_
  refine t_ld (pc := 25) dX11_without1_25 rfl rfl rfl rfl rfl ?_
  refine t_ld (pc := 26) dX11_without1_26 rfl rfl rfl rfl rfl ?_
  refine t_iconst (pc := 27) dX11_without1_27 ?_
  refine t_dup_x1 (pc := 28) dX11_without1_28 rfl rfl ?_
  refine t_putI (pc := 29) dX11_without1_29 rfl rfl (Or.inl rfl) h0.1 rfl ?_
  refine t_dup_x1 (pc := 32) dX11_without1_32 rfl rfl ?_
  refine t_putI (pc := 33) dX11_without1_33 rfl rfl (Or.inl rfl) h0.1 rfl ?_
  refine t_dup_x1 (pc := 36) dX11_without1_36 rfl rfl ?_
  refine t_putI (pc := 37) dX11_without1_37 rfl rfl (Or.inl rfl) h0.1 rfl ?_
  refine t_dup_x1 (pc := 40) dX11_without1_40 rfl rfl ?_
  refine t_putI (pc := 41) dX11_without1_41 rfl rfl (Or.inl rfl) h0.1 rfl ?_
  refine t_putI (pc := 44) dX11_without1_44 rfl rfl (Or.inl rfl) h0.1 rfl ?_
  refine t_iconst (pc := 47) dX11_without1_47 ?_
  refine t_st (pc := 48) [some (.ref 90), some (.int (I 0))] dX11_without1_48 rfl rfl rfl rfl rfl rfl ?_
  exact id
theorem qX11_without1_49 {sc : Nat × (Nat → Int32)} {SH : List mCell} {S : mStore} {r : mR × mW} (h0 : sMod SH) {l1 : Int} : ((if I 48 ≤ I l1 then r = rV SH S else ((0 ≤ l1 ∧ l1 < 48) ∧ ((0 ≤ l1 ∧ l1 < 48) ∧ G sc MX11_without1 49 [some (.ref 90), some (.int (I (l1 + 1)))] [] SH (up (up S 104 l1 (-1)) 106 l1 0) r)))) → G sc MX11_without1 49 [some (.ref 90), some (.int (I l1))] [] SH S r := by
  refine t_ld (pc := 49) dX11_without1_49 rfl rfl rfl rfl rfl ?_
  refine t_bipush (pc := 50) dX11_without1_50 (by decide) ?_
  refine t_ic_ge (pc := 52) 75 dX11_without1_52 rfl ?_ ?_
  · exact t_ret (pc := 75) dX11_without1_75 rfl
  · refine t_ld (pc := 55) dX11_without1_55 rfl rfl rfl rfl rfl ?_
    refine t_getR (pc := 56) dX11_without1_56 rfl h0.1 rfl ?_
    refine t_ld (pc := 59) dX11_without1_59 rfl rfl rfl rfl rfl ?_
    refine t_iconst (pc := 60) dX11_without1_60 ?_
    refine t_iastore (pc := 61) dX11_without1_61 h0.2.2.2.2.2.2.2.2.2.2.2.2.2.2.1 ?_
    refine t_ld (pc := 62) dX11_without1_62 rfl rfl rfl rfl rfl ?_
    refine t_getR (pc := 63) dX11_without1_63 rfl h0.1 rfl ?_
    refine t_ld (pc := 66) dX11_without1_66 rfl rfl rfl rfl rfl ?_
    refine t_iconst (pc := 67) dX11_without1_67 ?_
    refine t_iastore (pc := 68) dX11_without1_68 h0.2.2.2.2.2.2.2.2.2.2.2.2.2.2.2.2.1 ?_
    refine t_iinc (pc := 69) [some (.ref 90), some (.int (I (l1 + 1)))] dX11_without1_69 rfl rfl ?_
    refine t_goto (pc := 72) 49 dX11_without1_72 rfl ?_
    exact id
