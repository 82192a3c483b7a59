-- needs: 43.tshape
/-! ===== the program as conditions (gen_vc.py) ===== -/
theorem qX10_drop_0 {sc : Nat × (Nat → Int32)} {SH : List mCell} {S : mStore} {r : mR × mW} (h0 : sGP SH) {l1 : Int} {l2 : Int} {u3 : Option Value} : (((∃ v101 S102, G sc MX10_placeOf 0 [some (.ref 0), some (.int (I l1)), some (.int (I l2)), none] [] SH S (rI v101 SH S102) ∧ (∃ SH104 S103, sGP SH104 ∧ G sc MX0_ahead 0 [some (.ref 37), some (.ref 17)] [] SH S102 (rV SH104 S103) ∧ (∃ v105 S106, G sc MX7_dropPage 0 [some (.ref 17), some (.int (I v101)), none] [] SH104 S103 (rI v105 SH104 S106) ∧ (∃ v107 S108, G sc MX10_acted 0 [some (.ref 0), some (.int (I v105))] [] SH104 S106 (rI v107 SH104 S108) ∧ r = rI v107 SH104 S108)))) ∨ (∃ e SH1 S1, G sc MX10_placeOf 0 [some (.ref 0), some (.int (I l1)), some (.int (I l2)), none] [] SH S (rX e SH1 S1) ∧ r = rX e SH1 S1))) → G sc MX10_drop 0 [some (.ref 0), some (.int (I l1)), some (.int (I l2)), u3] [] SH S r := by
  refine t_ld (pc := 0) dX10_drop_0 rfl rfl rfl rfl rfl ?_
  refine t_ld (pc := 1) dX10_drop_1 rfl rfl rfl rfl rfl ?_
  refine t_ld (pc := 2) dX10_drop_2 rfl rfl rfl rfl rfl ?_
  refine t_vcI (pc := 3) dX10_drop_3 rfl rfl [] rfl rfl ⟨rfl, by decide, Nat.le_of_ble_eq_true rfl⟩ h0.1 rfl fun v101 S102 => ?_
  refine t_st (pc := 6) [some (.ref 0), some (.int (I l1)), some (.int (I l2)), some (.int (I v101))] dX10_drop_6 rfl rfl rfl rfl rfl rfl ?_
  refine t_ld (pc := 7) dX10_drop_7 rfl rfl rfl rfl rfl ?_
  refine t_getR (pc := 8) dX10_drop_8 rfl h0.1 rfl ?_
  refine t_getR (pc := 11) dX10_drop_11 rfl h0.2.2.2.1.1 rfl ?_
  refine t_ld (pc := 14) dX10_drop_14 rfl rfl rfl rfl rfl ?_
  refine t_getR (pc := 15) dX10_drop_15 rfl h0.1 rfl ?_
  refine t_getR (pc := 18) dX10_drop_18 rfl h0.2.2.2.1.1 rfl ?_
  refine t_vcVA (Q := (fun SH => sGP SH)) (pc := 21) dX10_drop_21 rfl rfl [] rfl rfl ⟨rfl, by decide, Nat.le_of_ble_eq_true rfl⟩ h0.2.2.2.1.2.2.2.2.2 fun SH104 S103 hSH104 => ?_
  refine t_ld (pc := 24) dX10_drop_24 rfl rfl rfl rfl rfl ?_
  refine t_ld (pc := 25) dX10_drop_25 rfl rfl rfl rfl rfl ?_
  refine t_getR (pc := 26) dX10_drop_26 rfl hSH104.1 rfl ?_
  refine t_getR (pc := 29) dX10_drop_29 rfl hSH104.2.2.2.1.1 rfl ?_
  refine t_ld (pc := 32) dX10_drop_32 rfl rfl rfl rfl rfl ?_
  refine t_vcIN (pc := 33) dX10_drop_33 rfl rfl [.ref 0] rfl rfl ⟨rfl, by decide, Nat.le_of_ble_eq_true rfl⟩ hSH104.2.2.2.1.2.2.2.2.1.1 fun v105 S106 => ?_
  refine t_vcIN (pc := 36) dX10_drop_36 rfl rfl [] rfl rfl ⟨rfl, by decide, Nat.le_of_ble_eq_true rfl⟩ hSH104.1 fun v107 S108 => ?_
  exact t_iret (pc := 39) dX10_drop_39 rfl
theorem qX10_advise_0 {sc : Nat × (Nat → Int32)} {SH : List mCell} {S : mStore} {r : mR × mW} (h0 : sGP SH) {l1 : Int} {l2 : Int} {l3 : Int} {l4 : Int} {u5 : Option Value} {u6 : Option Value} {u7 : Option Value} : (((∃ v101 S102, G sc MX10_placeOf 0 [some (.ref 0), some (.int (I l1)), some (.int (I l2)), none] [] SH S (rI v101 SH S102) ∧ ((∃ v103 S104, G sc MX10_placeOf 0 [some (.ref 0), some (.int (I l1)), some (.int (I l3)), none] [] SH S102 (rI v103 SH S104) ∧ (∃ SH106 S105, sGP SH106 ∧ G sc MX0_ahead 0 [some (.ref 37), some (.ref 17)] [] SH S104 (rV SH106 S105) ∧ (if I l4 = I 0 then (∃ v107 S108, G sc MX7_adviseNoMore 0 [some (.ref 17), some (.int (I v101)), some (.int (I v103)), none, none] [] SH106 S105 (rI v107 SH106 S108) ∧ (if I v107 = I 0 then (∃ v111 S112, G sc MX10_acted 0 [some (.ref 0), some (.int (I (-1)))] [] SH106 S108 (rI v111 SH106 S112) ∧ r = rI v111 SH106 S112) else (∃ v109 S110, G sc MX10_acted 0 [some (.ref 0), some (.int (I v107))] [] SH106 S108 (rI v109 SH106 S110) ∧ r = rI v109 SH106 S110))) else (∃ v113 S114, G sc MX7_adviseAll 0 [some (.ref 17), some (.int (I v101)), some (.int (I v103)), none, none] [] SH106 S105 (rI v113 SH106 S114) ∧ (if I v113 = I 0 then (∃ v117 S118, G sc MX10_acted 0 [some (.ref 0), some (.int (I (-1)))] [] SH106 S114 (rI v117 SH106 S118) ∧ r = rI v117 SH106 S118) else (∃ v115 S116, G sc MX10_acted 0 [some (.ref 0), some (.int (I v113))] [] SH106 S114 (rI v115 SH106 S116) ∧ r = rI v115 SH106 S116)))))) ∨ (∃ e SH1 S1, G sc MX10_placeOf 0 [some (.ref 0), some (.int (I l1)), some (.int (I l3)), none] [] SH S102 (rX e SH1 S1) ∧ r = rX e SH1 S1))) ∨ (∃ e SH1 S1, G sc MX10_placeOf 0 [some (.ref 0), some (.int (I l1)), some (.int (I l2)), none] [] SH S (rX e SH1 S1) ∧ r = rX e SH1 S1))) → G sc MX10_advise 0 [some (.ref 0), some (.int (I l1)), some (.int (I l2)), some (.int (I l3)), some (.int (I l4)), u5, u6, u7] [] SH S r := by
  refine t_ld (pc := 0) dX10_advise_0 rfl rfl rfl rfl rfl ?_
  refine t_ld (pc := 1) dX10_advise_1 rfl rfl rfl rfl rfl ?_
  refine t_ld (pc := 2) dX10_advise_2 rfl rfl rfl rfl rfl ?_
  refine t_vcI (pc := 3) dX10_advise_3 rfl rfl [] rfl rfl ⟨rfl, by decide, Nat.le_of_ble_eq_true rfl⟩ h0.1 rfl fun v101 S102 => ?_
  refine t_st (pc := 6) [some (.ref 0), some (.int (I l1)), some (.int (I l2)), some (.int (I l3)), some (.int (I l4)), some (.int (I v101)), u6, u7] dX10_advise_6 rfl rfl rfl rfl rfl rfl ?_
  refine t_ld (pc := 8) dX10_advise_8 rfl rfl rfl rfl rfl ?_
  refine t_ld (pc := 9) dX10_advise_9 rfl rfl rfl rfl rfl ?_
  refine t_ld (pc := 10) dX10_advise_10 rfl rfl rfl rfl rfl ?_
  refine t_vcI (pc := 11) dX10_advise_11 rfl rfl [] rfl rfl ⟨rfl, by decide, Nat.le_of_ble_eq_true rfl⟩ h0.1 rfl fun v103 S104 => ?_
  refine t_st (pc := 14) [some (.ref 0), some (.int (I l1)), some (.int (I l2)), some (.int (I l3)), some (.int (I l4)), some (.int (I v101)), some (.int (I v103)), u7] dX10_advise_14 rfl rfl rfl rfl rfl rfl ?_
  refine t_ld (pc := 16) dX10_advise_16 rfl rfl rfl rfl rfl ?_
  refine t_getR (pc := 17) dX10_advise_17 rfl h0.1 rfl ?_
  refine t_getR (pc := 20) dX10_advise_20 rfl h0.2.2.2.1.1 rfl ?_
  refine t_ld (pc := 23) dX10_advise_23 rfl rfl rfl rfl rfl ?_
  refine t_getR (pc := 24) dX10_advise_24 rfl h0.1 rfl ?_
  refine t_getR (pc := 27) dX10_advise_27 rfl h0.2.2.2.1.1 rfl ?_
  refine t_vcVA (Q := (fun SH => sGP SH)) (pc := 30) dX10_advise_30 rfl rfl [] rfl rfl ⟨rfl, by decide, Nat.le_of_ble_eq_true rfl⟩ h0.2.2.2.1.2.2.2.2.2 fun SH106 S105 hSH106 => ?_
  refine t_ld (pc := 33) dX10_advise_33 rfl rfl rfl rfl rfl ?_
  refine t_if_eq (pc := 35) 55 dX10_advise_35 rfl ?_ ?_
  · refine t_ld (pc := 55) dX10_advise_55 rfl rfl rfl rfl rfl ?_
    refine t_getR (pc := 56) dX10_advise_56 rfl hSH106.1 rfl ?_
    refine t_getR (pc := 59) dX10_advise_59 rfl hSH106.2.2.2.1.1 rfl ?_
    refine t_ld (pc := 62) dX10_advise_62 rfl rfl rfl rfl rfl ?_
    refine t_ld (pc := 64) dX10_advise_64 rfl rfl rfl rfl rfl ?_
    refine t_vcIN (pc := 66) dX10_advise_66 rfl rfl [] rfl rfl ⟨rfl, by decide, Nat.le_of_ble_eq_true rfl⟩ hSH106.2.2.2.1.2.2.2.2.1.1 fun v107 S108 => ?_
    refine t_st (pc := 69) [some (.ref 0), some (.int (I l1)), some (.int (I l2)), some (.int (I l3)), some (.int (I l4)), some (.int (I v101)), some (.int (I v103)), some (.int (I v107))] dX10_advise_69 rfl rfl rfl rfl rfl rfl ?_
    refine t_ld (pc := 71) dX10_advise_71 rfl rfl rfl rfl rfl ?_
    refine t_ld (pc := 72) dX10_advise_72 rfl rfl rfl rfl rfl ?_
    refine t_if_ne (pc := 74) 81 dX10_advise_74 rfl ?_ ?_
    · refine t_ld (pc := 81) dX10_advise_81 rfl rfl rfl rfl rfl ?_
      refine t_vcIN (pc := 83) dX10_advise_83 rfl rfl [] rfl rfl ⟨rfl, by decide, Nat.le_of_ble_eq_true rfl⟩ hSH106.1 fun v109 S110 => ?_
      exact t_iret (pc := 86) dX10_advise_86 rfl
    · refine t_iconst (pc := 77) dX10_advise_77 ?_
      refine t_goto (pc := 78) 83 dX10_advise_78 rfl ?_
      refine t_vcIN (pc := 83) dX10_advise_83 rfl rfl [] rfl rfl ⟨rfl, by decide, Nat.le_of_ble_eq_true rfl⟩ hSH106.1 fun v111 S112 => ?_
      exact t_iret (pc := 86) dX10_advise_86 rfl
  · refine t_ld (pc := 38) dX10_advise_38 rfl rfl rfl rfl rfl ?_
    refine t_getR (pc := 39) dX10_advise_39 rfl hSH106.1 rfl ?_
    refine t_getR (pc := 42) dX10_advise_42 rfl hSH106.2.2.2.1.1 rfl ?_
    refine t_ld (pc := 45) dX10_advise_45 rfl rfl rfl rfl rfl ?_
    refine t_ld (pc := 47) dX10_advise_47 rfl rfl rfl rfl rfl ?_
    refine t_vcIN (pc := 49) dX10_advise_49 rfl rfl [] rfl rfl ⟨rfl, by decide, Nat.le_of_ble_eq_true rfl⟩ hSH106.2.2.2.1.2.2.2.2.1.1 fun v113 S114 => ?_
    refine t_goto (pc := 52) 69 dX10_advise_52 rfl ?_
    refine t_st (pc := 69) [some (.ref 0), some (.int (I l1)), some (.int (I l2)), some (.int (I l3)), some (.int (I l4)), some (.int (I v101)), some (.int (I v103)), some (.int (I v113))] dX10_advise_69 rfl rfl rfl rfl rfl rfl ?_
    refine t_ld (pc := 71) dX10_advise_71 rfl rfl rfl rfl rfl ?_
    refine t_ld (pc := 72) dX10_advise_72 rfl rfl rfl rfl rfl ?_
    refine t_if_ne (pc := 74) 81 dX10_advise_74 rfl ?_ ?_
    · refine t_ld (pc := 81) dX10_advise_81 rfl rfl rfl rfl rfl ?_
      refine t_vcIN (pc := 83) dX10_advise_83 rfl rfl [] rfl rfl ⟨rfl, by decide, Nat.le_of_ble_eq_true rfl⟩ hSH106.1 fun v115 S116 => ?_
      exact t_iret (pc := 86) dX10_advise_86 rfl
    · refine t_iconst (pc := 77) dX10_advise_77 ?_
      refine t_goto (pc := 78) 83 dX10_advise_78 rfl ?_
      refine t_vcIN (pc := 83) dX10_advise_83 rfl rfl [] rfl rfl ⟨rfl, by decide, Nat.le_of_ble_eq_true rfl⟩ hSH106.1 fun v117 S118 => ?_
      exact t_iret (pc := 86) dX10_advise_86 rfl
theorem qX10_scan_0 {sc : Nat × (Nat → Int32)} {SH : List mCell} {S : mStore} {r : mR × mW} (h0 : sGP SH) {l1 : Int} : ((if I l1 < I 1 then (∃ v101 S102, G sc MX10_refused 0 [some (.ref 0)] [] SH S (rI v101 SH S102) ∧ r = rI v101 SH S102) else (if I l1 ≤ I 100 then (∃ SH104 S103, sGP SH104 ∧ G sc MX0_ahead 0 [some (.ref 37), some (.ref 17)] [] SH S (rV SH104 S103) ∧ (∃ v105 S106, G sc MX7_scanMany 0 [some (.ref 17), some (.int (I l1)), none, none] [] SH104 S103 (rI v105 SH104 S106) ∧ (∃ v107 S108, G sc MX10_acted 0 [some (.ref 0), some (.int (I v105))] [] SH104 S106 (rI v107 SH104 S108) ∧ r = rI v107 SH104 S108))) else (∃ v109 S110, G sc MX10_refused 0 [some (.ref 0)] [] SH S (rI v109 SH S110) ∧ r = rI v109 SH S110)))) → G sc MX10_scan 0 [some (.ref 0), some (.int (I l1))] [] SH S r := by
  refine t_ld (pc := 0) dX10_scan_0 rfl rfl rfl rfl rfl ?_
  refine t_iconst (pc := 1) dX10_scan_1 ?_
  refine t_ic_lt (pc := 2) 11 dX10_scan_2 rfl ?_ ?_
  · refine t_ld (pc := 11) dX10_scan_11 rfl rfl rfl rfl rfl ?_
    refine t_vcIN (pc := 12) dX10_scan_12 rfl rfl [] rfl rfl ⟨rfl, by decide, Nat.le_of_ble_eq_true rfl⟩ h0.1 fun v101 S102 => ?_
    exact t_iret (pc := 15) dX10_scan_15 rfl
  · refine t_ld (pc := 5) dX10_scan_5 rfl rfl rfl rfl rfl ?_
    refine t_bipush (pc := 6) dX10_scan_6 (by decide) ?_
    refine t_ic_le (pc := 8) 16 dX10_scan_8 rfl ?_ ?_
    · refine t_ld (pc := 16) dX10_scan_16 rfl rfl rfl rfl rfl ?_
      refine t_getR (pc := 17) dX10_scan_17 rfl h0.1 rfl ?_
      refine t_getR (pc := 20) dX10_scan_20 rfl h0.2.2.2.1.1 rfl ?_
      refine t_ld (pc := 23) dX10_scan_23 rfl rfl rfl rfl rfl ?_
      refine t_getR (pc := 24) dX10_scan_24 rfl h0.1 rfl ?_
      refine t_getR (pc := 27) dX10_scan_27 rfl h0.2.2.2.1.1 rfl ?_
      refine t_vcVA (Q := (fun SH => sGP SH)) (pc := 30) dX10_scan_30 rfl rfl [] rfl rfl ⟨rfl, by decide, Nat.le_of_ble_eq_true rfl⟩ h0.2.2.2.1.2.2.2.2.2 fun SH104 S103 hSH104 => ?_
      refine t_ld (pc := 33) dX10_scan_33 rfl rfl rfl rfl rfl ?_
      refine t_ld (pc := 34) dX10_scan_34 rfl rfl rfl rfl rfl ?_
      refine t_getR (pc := 35) dX10_scan_35 rfl hSH104.1 rfl ?_
      refine t_getR (pc := 38) dX10_scan_38 rfl hSH104.2.2.2.1.1 rfl ?_
      refine t_ld (pc := 41) dX10_scan_41 rfl rfl rfl rfl rfl ?_
      refine t_vcIN (pc := 42) dX10_scan_42 rfl rfl [.ref 0] rfl rfl ⟨rfl, by decide, Nat.le_of_ble_eq_true rfl⟩ hSH104.2.2.2.1.2.2.2.2.1.1 fun v105 S106 => ?_
      refine t_vcIN (pc := 45) dX10_scan_45 rfl rfl [] rfl rfl ⟨rfl, by decide, Nat.le_of_ble_eq_true rfl⟩ hSH104.1 fun v107 S108 => ?_
      exact t_iret (pc := 48) dX10_scan_48 rfl
    · refine t_ld (pc := 11) dX10_scan_11 rfl rfl rfl rfl rfl ?_
      refine t_vcIN (pc := 12) dX10_scan_12 rfl rfl [] rfl rfl ⟨rfl, by decide, Nat.le_of_ble_eq_true rfl⟩ h0.1 fun v109 S110 => ?_
      exact t_iret (pc := 15) dX10_scan_15 rfl
theorem qX10_ticks_0 {sc : Nat × (Nat → Int32)} {SH : List mCell} {S : mStore} {r : mR × mW} (h0 : sGP SH) {l1 : Int} : ((if I l1 < I 1 then (∃ v101 S102, G sc MX10_refused 0 [some (.ref 0)] [] SH S (rI v101 SH S102) ∧ r = rI v101 SH S102) else (if I 20 < I l1 then (∃ v103 S104, G sc MX10_refused 0 [some (.ref 0)] [] SH S (rI v103 SH S104) ∧ r = rI v103 SH S104) else (∃ v105 S106, G sc MX7_hasTimeFor 0 [some (.ref 17), some (.int (I l1))] [] SH S (rI v105 SH S106) ∧ (if I v105 = I 0 then (∃ v113 S114, G sc MX10_refused 0 [some (.ref 0)] [] SH S106 (rI v113 SH S114) ∧ r = rI v113 SH S114) else (∃ SH108 S107, sGP SH108 ∧ G sc MX0_ahead 0 [some (.ref 37), some (.ref 17)] [] SH S106 (rV SH108 S107) ∧ (∃ v109 S110, G sc MX7_tick 0 [some (.ref 17), some (.int (I l1)), none, none, none, none] [] SH108 S107 (rI v109 SH108 S110) ∧ ((0 ≤ 2 ∧ 2 < 12) ∧ (∃ v111 S112, G sc MX10_acted 0 [some (.ref 0), some (.int (I (S110 (17 + 19) 2)))] [] SH108 S110 (rI v111 SH108 S112) ∧ r = rI v111 SH108 S112))))))))) → G sc MX10_ticks 0 [some (.ref 0), some (.int (I l1))] [] SH S r := by
  refine t_ld (pc := 0) dX10_ticks_0 rfl rfl rfl rfl rfl ?_
  refine t_iconst (pc := 1) dX10_ticks_1 ?_
  refine t_ic_lt (pc := 2) 25 dX10_ticks_2 rfl ?_ ?_
  · refine t_ld (pc := 25) dX10_ticks_25 rfl rfl rfl rfl rfl ?_
    refine t_vcIN (pc := 26) dX10_ticks_26 rfl rfl [] rfl rfl ⟨rfl, by decide, Nat.le_of_ble_eq_true rfl⟩ h0.1 fun v101 S102 => ?_
    exact t_iret (pc := 29) dX10_ticks_29 rfl
  · refine t_ld (pc := 5) dX10_ticks_5 rfl rfl rfl rfl rfl ?_
    refine t_bipush (pc := 6) dX10_ticks_6 (by decide) ?_
    refine t_ic_gt (pc := 8) 25 dX10_ticks_8 rfl ?_ ?_
    · refine t_ld (pc := 25) dX10_ticks_25 rfl rfl rfl rfl rfl ?_
      refine t_vcIN (pc := 26) dX10_ticks_26 rfl rfl [] rfl rfl ⟨rfl, by decide, Nat.le_of_ble_eq_true rfl⟩ h0.1 fun v103 S104 => ?_
      exact t_iret (pc := 29) dX10_ticks_29 rfl
    · refine t_ld (pc := 11) dX10_ticks_11 rfl rfl rfl rfl rfl ?_
      refine t_getR (pc := 12) dX10_ticks_12 rfl h0.1 rfl ?_
      refine t_getR (pc := 15) dX10_ticks_15 rfl h0.2.2.2.1.1 rfl ?_
      refine t_ld (pc := 18) dX10_ticks_18 rfl rfl rfl rfl rfl ?_
      refine t_vcIN (pc := 19) dX10_ticks_19 rfl rfl [] rfl rfl ⟨rfl, by decide, Nat.le_of_ble_eq_true rfl⟩ h0.2.2.2.1.2.2.2.2.1.1 fun v105 S106 => ?_
      refine t_if_ne (pc := 22) 30 dX10_ticks_22 rfl ?_ ?_
      · refine t_ld (pc := 30) dX10_ticks_30 rfl rfl rfl rfl rfl ?_
        refine t_getR (pc := 31) dX10_ticks_31 rfl h0.1 rfl ?_
        refine t_getR (pc := 34) dX10_ticks_34 rfl h0.2.2.2.1.1 rfl ?_
        refine t_ld (pc := 37) dX10_ticks_37 rfl rfl rfl rfl rfl ?_
        refine t_getR (pc := 38) dX10_ticks_38 rfl h0.1 rfl ?_
        refine t_getR (pc := 41) dX10_ticks_41 rfl h0.2.2.2.1.1 rfl ?_
        refine t_vcVA (Q := (fun SH => sGP SH)) (pc := 44) dX10_ticks_44 rfl rfl [] rfl rfl ⟨rfl, by decide, Nat.le_of_ble_eq_true rfl⟩ h0.2.2.2.1.2.2.2.2.2 fun SH108 S107 hSH108 => ?_
        refine t_ld (pc := 47) dX10_ticks_47 rfl rfl rfl rfl rfl ?_
        refine t_getR (pc := 48) dX10_ticks_48 rfl hSH108.1 rfl ?_
        refine t_getR (pc := 51) dX10_ticks_51 rfl hSH108.2.2.2.1.1 rfl ?_
        refine t_ld (pc := 54) dX10_ticks_54 rfl rfl rfl rfl rfl ?_
        refine t_vcIN (pc := 55) dX10_ticks_55 rfl rfl [] rfl rfl ⟨rfl, by decide, Nat.le_of_ble_eq_true rfl⟩ hSH108.2.2.2.1.2.2.2.2.1.1 fun v109 S110 => ?_
        refine t_pop (pc := 58) dX10_ticks_58 rfl ?_
        refine t_ld (pc := 59) dX10_ticks_59 rfl rfl rfl rfl rfl ?_
        refine t_ld (pc := 60) dX10_ticks_60 rfl rfl rfl rfl rfl ?_
        refine t_getR (pc := 61) dX10_ticks_61 rfl hSH108.1 rfl ?_
        refine t_getR (pc := 64) dX10_ticks_64 rfl hSH108.2.2.2.1.1 rfl ?_
        refine t_getR (pc := 67) dX10_ticks_67 rfl hSH108.2.2.2.1.2.2.2.2.1.1 rfl ?_
        refine t_iconst (pc := 70) dX10_ticks_70 ?_
        refine t_iaload (pc := 71) dX10_ticks_71 hSH108.2.2.2.1.2.2.2.2.1.2.2.2.2.2.2.2.2.2.2.2.1 ?_
        refine t_vcIN (pc := 72) dX10_ticks_72 rfl rfl [] rfl rfl ⟨rfl, by decide, Nat.le_of_ble_eq_true rfl⟩ hSH108.1 fun v111 S112 => ?_
        exact t_iret (pc := 75) dX10_ticks_75 rfl
      · refine t_ld (pc := 25) dX10_ticks_25 rfl rfl rfl rfl rfl ?_
        refine t_vcIN (pc := 26) dX10_ticks_26 rfl rfl [] rfl rfl ⟨rfl, by decide, Nat.le_of_ble_eq_true rfl⟩ h0.1 fun v113 S114 => ?_
        exact t_iret (pc := 29) dX10_ticks_29 rfl
theorem qX10_rate_0 {sc : Nat × (Nat → Int32)} {SH : List mCell} {S : mStore} {r : mR × mW} (h0 : sGP SH) {l1 : Int} {u2 : Option Value} : (((0 ≤ 0 ∧ 0 < 12) ∧ (if I l1 < I (S 1 2) then (∃ v101 S102, G sc MX10_refused 0 [some (.ref 0)] [] SH S (rI v101 SH S102) ∧ r = rI v101 SH S102) else (if I (S 1 3) < I l1 then (∃ v103 S104, G sc MX10_refused 0 [some (.ref 0)] [] SH S (rI v103 SH S104) ∧ r = rI v103 SH S104) else (if I l1 = I (S (17 + 19) 0) then (∃ v109 S110, G sc MX10_refused 0 [some (.ref 0)] [] SH S (rI v109 SH S110) ∧ r = rI v109 SH S110) else (∃ SH106 S105, sGP SH106 ∧ G sc MX0_ahead 0 [some (.ref 37), some (.ref 17)] [] SH S (rV SH106 S105) ∧ ((0 ≤ 0 ∧ 0 < 12) ∧ (∃ v107 S108, G sc MX10_acted 0 [some (.ref 0), some (.int (I (S (17 + 19) 0)))] [] SH106 (up S105 (17 + 19) 0 l1) (rI v107 SH106 S108) ∧ r = rI v107 SH106 S108)))))))) → G sc MX10_rate 0 [some (.ref 0), some (.int (I l1)), u2] [] SH S r := by
  refine t_ld (pc := 0) dX10_rate_0 rfl rfl rfl rfl rfl ?_
  refine t_getR (pc := 1) dX10_rate_1 rfl h0.1 rfl ?_
  refine t_getR (pc := 4) dX10_rate_4 rfl h0.2.2.2.1.1 rfl ?_
  refine t_getR (pc := 7) dX10_rate_7 rfl h0.2.2.2.1.2.2.2.2.1.1 rfl ?_
  refine t_iconst (pc := 10) dX10_rate_10 ?_
  refine t_iaload (pc := 11) dX10_rate_11 h0.2.2.2.1.2.2.2.2.1.2.2.2.2.2.2.2.2.2.2.2.1 ?_
  refine t_st (pc := 12) [some (.ref 0), some (.int (I l1)), some (.int (I (S (17 + 19) 0)))] dX10_rate_12 rfl rfl rfl rfl rfl rfl ?_
  refine t_ld (pc := 13) dX10_rate_13 rfl rfl rfl rfl rfl ?_
  refine t_ld (pc := 14) dX10_rate_14 rfl rfl rfl rfl rfl ?_
  refine t_getR (pc := 15) dX10_rate_15 rfl h0.1 rfl ?_
  refine t_getI (pc := 18) dX10_rate_18 rfl h0.2.2.2.1.2.2.2.2.1.2.2.2.2.2.2.2.2.2.2.2.2.1 rfl ?_
  refine t_ic_lt (pc := 21) 40 dX10_rate_21 rfl ?_ ?_
  · refine t_ld (pc := 40) dX10_rate_40 rfl rfl rfl rfl rfl ?_
    refine t_vcIN (pc := 41) dX10_rate_41 rfl rfl [] rfl rfl ⟨rfl, by decide, Nat.le_of_ble_eq_true rfl⟩ h0.1 fun v101 S102 => ?_
    exact t_iret (pc := 44) dX10_rate_44 rfl
  · refine t_ld (pc := 24) dX10_rate_24 rfl rfl rfl rfl rfl ?_
    refine t_ld (pc := 25) dX10_rate_25 rfl rfl rfl rfl rfl ?_
    refine t_getR (pc := 26) dX10_rate_26 rfl h0.1 rfl ?_
    refine t_getI (pc := 29) dX10_rate_29 rfl h0.2.2.2.1.2.2.2.2.1.2.2.2.2.2.2.2.2.2.2.2.2.1 rfl ?_
    refine t_ic_gt (pc := 32) 40 dX10_rate_32 rfl ?_ ?_
    · refine t_ld (pc := 40) dX10_rate_40 rfl rfl rfl rfl rfl ?_
      refine t_vcIN (pc := 41) dX10_rate_41 rfl rfl [] rfl rfl ⟨rfl, by decide, Nat.le_of_ble_eq_true rfl⟩ h0.1 fun v103 S104 => ?_
      exact t_iret (pc := 44) dX10_rate_44 rfl
    · refine t_ld (pc := 35) dX10_rate_35 rfl rfl rfl rfl rfl ?_
      refine t_ld (pc := 36) dX10_rate_36 rfl rfl rfl rfl rfl ?_
      refine t_ic_ne (pc := 37) 45 dX10_rate_37 rfl ?_ ?_
      · refine t_ld (pc := 45) dX10_rate_45 rfl rfl rfl rfl rfl ?_
        refine t_getR (pc := 46) dX10_rate_46 rfl h0.1 rfl ?_
        refine t_getR (pc := 49) dX10_rate_49 rfl h0.2.2.2.1.1 rfl ?_
        refine t_ld (pc := 52) dX10_rate_52 rfl rfl rfl rfl rfl ?_
        refine t_getR (pc := 53) dX10_rate_53 rfl h0.1 rfl ?_
        refine t_getR (pc := 56) dX10_rate_56 rfl h0.2.2.2.1.1 rfl ?_
        refine t_vcVA (Q := (fun SH => sGP SH)) (pc := 59) dX10_rate_59 rfl rfl [] rfl rfl ⟨rfl, by decide, Nat.le_of_ble_eq_true rfl⟩ h0.2.2.2.1.2.2.2.2.2 fun SH106 S105 hSH106 => ?_
        refine t_ld (pc := 62) dX10_rate_62 rfl rfl rfl rfl rfl ?_
        refine t_getR (pc := 63) dX10_rate_63 rfl hSH106.1 rfl ?_
        refine t_getR (pc := 66) dX10_rate_66 rfl hSH106.2.2.2.1.1 rfl ?_
        refine t_getR (pc := 69) dX10_rate_69 rfl hSH106.2.2.2.1.2.2.2.2.1.1 rfl ?_
        refine t_iconst (pc := 72) dX10_rate_72 ?_
        refine t_ld (pc := 73) dX10_rate_73 rfl rfl rfl rfl rfl ?_
        refine t_iastore (pc := 74) dX10_rate_74 hSH106.2.2.2.1.2.2.2.2.1.2.2.2.2.2.2.2.2.2.2.2.1 ?_
        refine t_ld (pc := 75) dX10_rate_75 rfl rfl rfl rfl rfl ?_
        refine t_ld (pc := 76) dX10_rate_76 rfl rfl rfl rfl rfl ?_
        refine t_vcIN (pc := 77) dX10_rate_77 rfl rfl [] rfl rfl ⟨rfl, by decide, Nat.le_of_ble_eq_true rfl⟩ hSH106.1 fun v107 S108 => ?_
        exact t_iret (pc := 80) dX10_rate_80 rfl
      · refine t_ld (pc := 40) dX10_rate_40 rfl rfl rfl rfl rfl ?_
        refine t_vcIN (pc := 41) dX10_rate_41 rfl rfl [] rfl rfl ⟨rfl, by decide, Nat.le_of_ble_eq_true rfl⟩ h0.1 fun v109 S110 => ?_
        exact t_iret (pc := 44) dX10_rate_44 rfl
theorem qX10_undo_0 {sc : Nat × (Nat → Int32)} {SH : List mCell} {S : mStore} {r : mR × mW} (h0 : sGP SH) : ((∃ v101 SH103 S102, sGP SH103 ∧ G sc MX0_back 0 [some (.ref 37), some (.ref 17)] [] SH S (rI v101 SH103 S102) ∧ (if I v101 = I 0 then r = rI (-1) SH103 S102 else r = rI (S102 37 3) SH103 S102))) → G sc MX10_undo 0 [some (.ref 0)] [] SH S r := by
  refine t_ld (pc := 0) dX10_undo_0 rfl rfl rfl rfl rfl ?_
  refine t_getR (pc := 1) dX10_undo_1 rfl h0.1 rfl ?_
  refine t_getR (pc := 4) dX10_undo_4 rfl h0.2.2.2.1.1 rfl ?_
  refine t_ld (pc := 7) dX10_undo_7 rfl rfl rfl rfl rfl ?_
  refine t_getR (pc := 8) dX10_undo_8 rfl h0.1 rfl ?_
  refine t_getR (pc := 11) dX10_undo_11 rfl h0.2.2.2.1.1 rfl ?_
  refine t_vcIA (Q := (fun SH => sGP SH)) (pc := 14) dX10_undo_14 rfl rfl [] rfl rfl ⟨rfl, by decide, Nat.le_of_ble_eq_true rfl⟩ h0.2.2.2.1.2.2.2.2.2 fun v101 SH103 S102 hSH103 => ?_
  refine t_if_eq (pc := 17) 33 dX10_undo_17 rfl ?_ ?_
  · refine t_iconst (pc := 33) dX10_undo_33 ?_
    exact t_iret (pc := 34) dX10_undo_34 rfl
  · refine t_ld (pc := 20) dX10_undo_20 rfl rfl rfl rfl rfl ?_
    refine t_getR (pc := 21) dX10_undo_21 rfl hSH103.1 rfl ?_
    refine t_getR (pc := 24) dX10_undo_24 rfl hSH103.2.2.2.1.1 rfl ?_
    refine t_getI (pc := 27) dX10_undo_27 rfl hSH103.2.2.2.1.2.2.2.2.2 rfl ?_
    refine t_goto (pc := 30) 34 dX10_undo_30 rfl ?_
    exact t_iret (pc := 34) dX10_undo_34 rfl
theorem qX10_then_0 {sc : Nat × (Nat → Int32)} {SH : List mCell} {S : mStore} {r : mR × mW} (h0 : sGP SH) {l1 : Int} {l2 : Int} : ((if I l2 < I 0 then ((∃ S101, G sc MX10_mustBe 0 [some (.int (I 0))] [] SH S (rV SH S101) ∧ (if I l1 < I 0 then G sc MX10_then 32 [some (.ref 0), some (.int (I l1)), some (.int (I l2))] [.int (I 0)] SH S101 r else (if I 60 < I l1 then G sc MX10_then 32 [some (.ref 0), some (.int (I l1)), some (.int (I l2))] [.int (I 0)] SH S101 r else G sc MX10_then 32 [some (.ref 0), some (.int (I l1)), some (.int (I l2))] [.int (I 1)] SH S101 r))) ∨ (∃ e SH1 S1, G sc MX10_mustBe 0 [some (.int (I 0))] [] SH S (rX e SH1 S1) ∧ r = rX e SH1 S1)) else (if I 5 < I l2 then ((∃ S102, G sc MX10_mustBe 0 [some (.int (I 0))] [] SH S (rV SH S102) ∧ (if I l1 < I 0 then G sc MX10_then 32 [some (.ref 0), some (.int (I l1)), some (.int (I l2))] [.int (I 0)] SH S102 r else (if I 60 < I l1 then G sc MX10_then 32 [some (.ref 0), some (.int (I l1)), some (.int (I l2))] [.int (I 0)] SH S102 r else G sc MX10_then 32 [some (.ref 0), some (.int (I l1)), some (.int (I l2))] [.int (I 1)] SH S102 r))) ∨ (∃ e SH1 S1, G sc MX10_mustBe 0 [some (.int (I 0))] [] SH S (rX e SH1 S1) ∧ r = rX e SH1 S1)) else ((∃ S103, G sc MX10_mustBe 0 [some (.int (I 1))] [] SH S (rV SH S103) ∧ (if I l1 < I 0 then G sc MX10_then 32 [some (.ref 0), some (.int (I l1)), some (.int (I l2))] [.int (I 0)] SH S103 r else (if I 60 < I l1 then G sc MX10_then 32 [some (.ref 0), some (.int (I l1)), some (.int (I l2))] [.int (I 0)] SH S103 r else G sc MX10_then 32 [some (.ref 0), some (.int (I l1)), some (.int (I l2))] [.int (I 1)] SH S103 r))) ∨ (∃ e SH1 S1, G sc MX10_mustBe 0 [some (.int (I 1))] [] SH S (rX e SH1 S1) ∧ r = rX e SH1 S1))))) → G sc MX10_then 0 [some (.ref 0), some (.int (I l1)), some (.int (I l2))] [] SH S r := by
  refine t_ld (pc := 0) dX10_then_0 rfl rfl rfl rfl rfl ?_
  refine t_if_lt (pc := 1) 13 dX10_then_1 rfl ?_ ?_
  · refine t_iconst (pc := 13) dX10_then_13 ?_
    refine t_scV (pc := 14) dX10_then_14 rfl [] rfl rfl ⟨rfl, by decide, Nat.le_of_ble_eq_true rfl⟩ rfl fun S101 => ?_
    refine t_ld (pc := 17) dX10_then_17 rfl rfl rfl rfl rfl ?_
    refine t_if_lt (pc := 18) 31 dX10_then_18 rfl ?_ ?_
    · refine t_iconst (pc := 31) dX10_then_31 ?_
      exact id
    · refine t_ld (pc := 21) dX10_then_21 rfl rfl rfl rfl rfl ?_
      refine t_bipush (pc := 22) dX10_then_22 (by decide) ?_
      refine t_ic_gt (pc := 24) 31 dX10_then_24 rfl ?_ ?_
      · refine t_iconst (pc := 31) dX10_then_31 ?_
        exact id
      · refine t_iconst (pc := 27) dX10_then_27 ?_
        refine t_goto (pc := 28) 32 dX10_then_28 rfl ?_
        exact id
  · refine t_ld (pc := 4) dX10_then_4 rfl rfl rfl rfl rfl ?_
    refine t_iconst (pc := 5) dX10_then_5 ?_
    refine t_ic_gt (pc := 6) 13 dX10_then_6 rfl ?_ ?_
    · refine t_iconst (pc := 13) dX10_then_13 ?_
      refine t_scV (pc := 14) dX10_then_14 rfl [] rfl rfl ⟨rfl, by decide, Nat.le_of_ble_eq_true rfl⟩ rfl fun S102 => ?_
      refine t_ld (pc := 17) dX10_then_17 rfl rfl rfl rfl rfl ?_
      refine t_if_lt (pc := 18) 31 dX10_then_18 rfl ?_ ?_
      · refine t_iconst (pc := 31) dX10_then_31 ?_
        exact id
      · refine t_ld (pc := 21) dX10_then_21 rfl rfl rfl rfl rfl ?_
        refine t_bipush (pc := 22) dX10_then_22 (by decide) ?_
        refine t_ic_gt (pc := 24) 31 dX10_then_24 rfl ?_ ?_
        · refine t_iconst (pc := 31) dX10_then_31 ?_
          exact id
        · refine t_iconst (pc := 27) dX10_then_27 ?_
          refine t_goto (pc := 28) 32 dX10_then_28 rfl ?_
          exact id
    · refine t_iconst (pc := 9) dX10_then_9 ?_
      refine t_goto (pc := 10) 14 dX10_then_10 rfl ?_
      refine t_scV (pc := 14) dX10_then_14 rfl [] rfl rfl ⟨rfl, by decide, Nat.le_of_ble_eq_true rfl⟩ rfl fun S103 => ?_
      refine t_ld (pc := 17) dX10_then_17 rfl rfl rfl rfl rfl ?_
      refine t_if_lt (pc := 18) 31 dX10_then_18 rfl ?_ ?_
      · refine t_iconst (pc := 31) dX10_then_31 ?_
        exact id
      · refine t_ld (pc := 21) dX10_then_21 rfl rfl rfl rfl rfl ?_
        refine t_bipush (pc := 22) dX10_then_22 (by decide) ?_
        refine t_ic_gt (pc := 24) 31 dX10_then_24 rfl ?_ ?_
        · refine t_iconst (pc := 31) dX10_then_31 ?_
          exact id
        · refine t_iconst (pc := 27) dX10_then_27 ?_
          refine t_goto (pc := 28) 32 dX10_then_28 rfl ?_
          exact id
theorem qX10_then_32 {sc : Nat × (Nat → Int32)} {SH : List mCell} {S : mStore} {r : mR × mW} (h0 : sGP SH) {l1 : Int} {l2 : Int} {s0 : Int} : (((∃ S101, G sc MX10_mustFit 0 [some (.int (I s0))] [] SH S (rV SH S101) ∧ (∃ S102, G sc MX7_become 0 [some (.ref 65), some (.ref 17)] [] SH S101 (rV SH S102) ∧ (∃ v103 S104, G sc MX7_tick 0 [some (.ref 65), some (.int (I l1)), none, none, none, none] [] SH S102 (rI v103 SH S104) ∧ (swp l2 0 ((0 ≤ 1 ∧ 1 < 12) ∧ r = rI (S104 (65 + 19) 1) SH S104) [(∃ v105 S106, G sc MX7_used 0 [some (.ref 65), none, none] [] SH S104 (rI v105 SH S106) ∧ r = rI v105 SH S106), (∃ v107 S108, G sc MX7_mergedPages 0 [some (.ref 65), some (.int (I 0)), some (.int (I (S104 1 7))), none, none] [] SH S104 (rI v107 SH S108) ∧ r = rI v107 SH S108), (∃ v109 S110, G sc MX9_size 0 [some (.ref (65 + 11)), none, none] [] SH S104 (rI v109 SH S110) ∧ r = rI v109 SH S110), ((0 ≤ 0 ∧ 0 < 12) ∧ r = rI (S104 (65 + 19) 0) SH S104), ((0 ≤ 3 ∧ 3 < 12) ∧ r = rI (S104 (65 + 19) 3) SH S104)])))) ∨ (∃ e SH1 S1, G sc MX10_mustFit 0 [some (.int (I s0))] [] SH S (rX e SH1 S1) ∧ r = rX e SH1 S1))) → G sc MX10_then 32 [some (.ref 0), some (.int (I l1)), some (.int (I l2))] [.int (I s0)] SH S r := by
  refine t_scV (pc := 32) dX10_then_32 rfl [] rfl rfl ⟨rfl, by decide, Nat.le_of_ble_eq_true rfl⟩ rfl fun S101 => ?_
  refine t_ld (pc := 35) dX10_then_35 rfl rfl rfl rfl rfl ?_
  refine t_getR (pc := 36) dX10_then_36 rfl h0.1 rfl ?_
  refine t_ld (pc := 39) dX10_then_39 rfl rfl rfl rfl rfl ?_
  refine t_getR (pc := 40) dX10_then_40 rfl h0.1 rfl ?_
  refine t_getR (pc := 43) dX10_then_43 rfl h0.2.2.2.1.1 rfl ?_
  refine t_vcVN (pc := 46) dX10_then_46 rfl rfl [] rfl rfl ⟨rfl, by decide, Nat.le_of_ble_eq_true rfl⟩ h0.2.2.2.2.2.1.1 fun S102 => ?_
  refine t_ld (pc := 49) dX10_then_49 rfl rfl rfl rfl rfl ?_
  refine t_getR (pc := 50) dX10_then_50 rfl h0.1 rfl ?_
  refine t_ld (pc := 53) dX10_then_53 rfl rfl rfl rfl rfl ?_
  refine t_vcIN (pc := 54) dX10_then_54 rfl rfl [] rfl rfl ⟨rfl, by decide, Nat.le_of_ble_eq_true rfl⟩ h0.2.2.2.2.2.1.1 fun v103 S104 => ?_
  refine t_pop (pc := 57) dX10_then_57 rfl ?_
  refine t_ld (pc := 58) dX10_then_58 rfl rfl rfl rfl rfl ?_
  refine t_switch (pc := 59) 147 dX10_then_59 (by decide) rfl rfl ?_ ?_
  · refine t_ld (pc := 147) dX10_then_147 rfl rfl rfl rfl rfl ?_
    refine t_getR (pc := 148) dX10_then_148 rfl h0.1 rfl ?_
    refine t_getR (pc := 151) dX10_then_151 rfl h0.2.2.2.2.2.1.1 rfl ?_
    refine t_iconst (pc := 154) dX10_then_154 ?_
    refine t_iaload (pc := 155) dX10_then_155 h0.2.2.2.2.2.1.2.2.2.2.2.2.2.2.2.2.2.1 ?_
    exact t_iret (pc := 156) dX10_then_156 rfl
  · refine ⟨⟨92, rfl, ?_⟩, ⟨⟨100, rfl, ?_⟩, ⟨⟨116, rfl, ?_⟩, ⟨⟨127, rfl, ?_⟩, ⟨⟨137, rfl, ?_⟩, trivial⟩⟩⟩⟩⟩
    · refine t_ld (pc := 92) dX10_then_92 rfl rfl rfl rfl rfl ?_
      refine t_getR (pc := 93) dX10_then_93 rfl h0.1 rfl ?_
      refine t_vcIN (pc := 96) dX10_then_96 rfl rfl [] rfl rfl ⟨rfl, by decide, Nat.le_of_ble_eq_true rfl⟩ h0.2.2.2.2.2.1.1 fun v105 S106 => ?_
      exact t_iret (pc := 99) dX10_then_99 rfl
    · refine t_ld (pc := 100) dX10_then_100 rfl rfl rfl rfl rfl ?_
      refine t_getR (pc := 101) dX10_then_101 rfl h0.1 rfl ?_
      refine t_iconst (pc := 104) dX10_then_104 ?_
      refine t_ld (pc := 105) dX10_then_105 rfl rfl rfl rfl rfl ?_
      refine t_getR (pc := 106) dX10_then_106 rfl h0.1 rfl ?_
      refine t_getI (pc := 109) dX10_then_109 rfl h0.2.2.2.1.2.2.2.2.1.2.2.2.2.2.2.2.2.2.2.2.2.1 rfl ?_
      refine t_vcIN (pc := 112) dX10_then_112 rfl rfl [] rfl rfl ⟨rfl, by decide, Nat.le_of_ble_eq_true rfl⟩ h0.2.2.2.2.2.1.1 fun v107 S108 => ?_
      exact t_iret (pc := 115) dX10_then_115 rfl
    · refine t_ld (pc := 116) dX10_then_116 rfl rfl rfl rfl rfl ?_
      refine t_getR (pc := 117) dX10_then_117 rfl h0.1 rfl ?_
      refine t_getR (pc := 120) dX10_then_120 rfl h0.2.2.2.2.2.1.1 rfl ?_
      refine t_vcIN (pc := 123) dX10_then_123 rfl rfl [] rfl rfl ⟨rfl, by decide, Nat.le_of_ble_eq_true rfl⟩ h0.2.2.2.2.2.1.2.2.2.2.1.1 fun v109 S110 => ?_
      exact t_iret (pc := 126) dX10_then_126 rfl
    · refine t_ld (pc := 127) dX10_then_127 rfl rfl rfl rfl rfl ?_
      refine t_getR (pc := 128) dX10_then_128 rfl h0.1 rfl ?_
      refine t_getR (pc := 131) dX10_then_131 rfl h0.2.2.2.2.2.1.1 rfl ?_
      refine t_iconst (pc := 134) dX10_then_134 ?_
      refine t_iaload (pc := 135) dX10_then_135 h0.2.2.2.2.2.1.2.2.2.2.2.2.2.2.2.2.2.1 ?_
      exact t_iret (pc := 136) dX10_then_136 rfl
    · refine t_ld (pc := 137) dX10_then_137 rfl rfl rfl rfl rfl ?_
      refine t_getR (pc := 138) dX10_then_138 rfl h0.1 rfl ?_
      refine t_getR (pc := 141) dX10_then_141 rfl h0.2.2.2.2.2.1.1 rfl ?_
      refine t_iconst (pc := 144) dX10_then_144 ?_
      refine t_iaload (pc := 145) dX10_then_145 h0.2.2.2.2.2.1.2.2.2.2.2.2.2.2.2.2.2.1 ?_
      exact t_iret (pc := 146) dX10_then_146 rfl
theorem qX10_quiet_0 {sc : Nat × (Nat → Int32)} {SH : List mCell} {S : mStore} {r : mR × mW} (h0 : sGP SH) {u1 : Option Value} {u2 : Option Value} : ((∃ S101, G sc MX7_become 0 [some (.ref 65), some (.ref 17)] [] SH S (rV SH S101) ∧ G sc MX10_quiet 18 [some (.ref 0), some (.int (I 0)), some (.int (I 1))] [] SH S101 r)) → G sc MX10_quiet 0 [some (.ref 0), u1, u2] [] SH S r := by
  refine t_ld (pc := 0) dX10_quiet_0 rfl rfl rfl rfl rfl ?_
  refine t_getR (pc := 1) dX10_quiet_1 rfl h0.1 rfl ?_
  refine t_ld (pc := 4) dX10_quiet_4 rfl rfl rfl rfl rfl ?_
  refine t_getR (pc := 5) dX10_quiet_5 rfl h0.1 rfl ?_
  refine t_getR (pc := 8) dX10_quiet_8 rfl h0.2.2.2.1.1 rfl ?_
  refine t_vcVN (pc := 11) dX10_quiet_11 rfl rfl [] rfl rfl ⟨rfl, by decide, Nat.le_of_ble_eq_true rfl⟩ h0.2.2.2.2.2.1.1 fun S101 => ?_
  refine t_iconst (pc := 14) dX10_quiet_14 ?_
  refine t_st (pc := 15) [some (.ref 0), some (.int (I 0)), u2] dX10_quiet_15 rfl rfl rfl rfl rfl rfl ?_
  refine t_iconst (pc := 16) dX10_quiet_16 ?_
  refine t_st (pc := 17) [some (.ref 0), some (.int (I 0)), some (.int (I 1))] dX10_quiet_17 rfl rfl rfl rfl rfl rfl ?_
  exact id
theorem qX10_quiet_18 {sc : Nat × (Nat → Int32)} {SH : List mCell} {S : mStore} {r : mR × mW} (h0 : sGP SH) {l1 : Int} {l2 : Int} : ((if I 60 < I l2 then r = rI l1 SH S else (∃ v101 S102, G sc MX7_tick 0 [some (.ref 65), some (.int (I 1)), none, none, none, none] [] SH S (rI v101 SH S102) ∧ (if I v101 ≤ I 0 then G sc MX10_quiet 18 [some (.ref 0), some (.int (I l1)), some (.int (I (l2 + 1)))] [] SH S102 r else G sc MX10_quiet 18 [some (.ref 0), some (.int (I l2)), some (.int (I (l2 + 1)))] [] SH S102 r)))) → G sc MX10_quiet 18 [some (.ref 0), some (.int (I l1)), some (.int (I l2))] [] SH S r := by
  refine t_ld (pc := 18) dX10_quiet_18 rfl rfl rfl rfl rfl ?_
  refine t_bipush (pc := 19) dX10_quiet_19 (by decide) ?_
  refine t_ic_gt (pc := 21) 43 dX10_quiet_21 rfl ?_ ?_
  · refine t_ld (pc := 43) dX10_quiet_43 rfl rfl rfl rfl rfl ?_
    exact t_iret (pc := 44) dX10_quiet_44 rfl
  · refine t_ld (pc := 24) dX10_quiet_24 rfl rfl rfl rfl rfl ?_
    refine t_getR (pc := 25) dX10_quiet_25 rfl h0.1 rfl ?_
    refine t_iconst (pc := 28) dX10_quiet_28 ?_
    refine t_vcIN (pc := 29) dX10_quiet_29 rfl rfl [] rfl rfl ⟨rfl, by decide, Nat.le_of_ble_eq_true rfl⟩ h0.2.2.2.2.2.1.1 fun v101 S102 => ?_
    refine t_if_le (pc := 32) 37 dX10_quiet_32 rfl ?_ ?_
    · refine t_iinc (pc := 37) [some (.ref 0), some (.int (I l1)), some (.int (I (l2 + 1)))] dX10_quiet_37 rfl rfl ?_
      refine t_goto (pc := 40) 18 dX10_quiet_40 rfl ?_
      exact id
    · refine t_ld (pc := 35) dX10_quiet_35 rfl rfl rfl rfl rfl ?_
      refine t_st (pc := 36) [some (.ref 0), some (.int (I l2)), some (.int (I l2))] dX10_quiet_36 rfl rfl rfl rfl rfl rfl ?_
      refine t_iinc (pc := 37) [some (.ref 0), some (.int (I l2)), some (.int (I (l2 + 1)))] dX10_quiet_37 rfl rfl ?_
      refine t_goto (pc := 40) 18 dX10_quiet_40 rfl ?_
      exact id
theorem qX10_merges_0 {sc : Nat × (Nat → Int32)} {SH : List mCell} {S : mStore} {r : mR × mW} (h0 : sGP SH) {l1 : Int} {l2 : Int} {u3 : Option Value} {u4 : Option Value} : (((∃ v101 S102, G sc MX10_placeOf 0 [some (.ref 0), some (.int (I l1)), some (.int (I l2)), none] [] SH S (rI v101 SH S102) ∧ (∃ S103, G sc MX7_become 0 [some (.ref 65), some (.ref 17)] [] SH S102 (rV SH S103) ∧ G sc MX10_merges 24 [some (.ref 0), some (.int (I l1)), some (.int (I l2)), some (.int (I v101)), some (.int (I 0))] [] SH S103 r)) ∨ (∃ e SH1 S1, G sc MX10_placeOf 0 [some (.ref 0), some (.int (I l1)), some (.int (I l2)), none] [] SH S (rX e SH1 S1) ∧ r = rX e SH1 S1))) → G sc MX10_merges 0 [some (.ref 0), some (.int (I l1)), some (.int (I l2)), u3, u4] [] SH S r := by
  refine t_ld (pc := 0) dX10_merges_0 rfl rfl rfl rfl rfl ?_
  refine t_ld (pc := 1) dX10_merges_1 rfl rfl rfl rfl rfl ?_
  refine t_ld (pc := 2) dX10_merges_2 rfl rfl rfl rfl rfl ?_
  refine t_vcI (pc := 3) dX10_merges_3 rfl rfl [] rfl rfl ⟨rfl, by decide, Nat.le_of_ble_eq_true rfl⟩ h0.1 rfl fun v101 S102 => ?_
  refine t_st (pc := 6) [some (.ref 0), some (.int (I l1)), some (.int (I l2)), some (.int (I v101)), u4] dX10_merges_6 rfl rfl rfl rfl rfl rfl ?_
  refine t_ld (pc := 7) dX10_merges_7 rfl rfl rfl rfl rfl ?_
  refine t_getR (pc := 8) dX10_merges_8 rfl h0.1 rfl ?_
  refine t_ld (pc := 11) dX10_merges_11 rfl rfl rfl rfl rfl ?_
  refine t_getR (pc := 12) dX10_merges_12 rfl h0.1 rfl ?_
  refine t_getR (pc := 15) dX10_merges_15 rfl h0.2.2.2.1.1 rfl ?_
  refine t_vcVN (pc := 18) dX10_merges_18 rfl rfl [] rfl rfl ⟨rfl, by decide, Nat.le_of_ble_eq_true rfl⟩ h0.2.2.2.2.2.1.1 fun S103 => ?_
  refine t_iconst (pc := 21) dX10_merges_21 ?_
  refine t_st (pc := 22) [some (.ref 0), some (.int (I l1)), some (.int (I l2)), some (.int (I v101)), some (.int (I 0))] dX10_merges_22 rfl rfl rfl rfl rfl rfl ?_
  exact id
theorem qX10_merges_24 {sc : Nat × (Nat → Int32)} {SH : List mCell} {S : mStore} {r : mR × mW} (h0 : sGP SH) {l1 : Int} {l2 : Int} {l3 : Int} {l4 : Int} : ((if I 400 < I l4 then r = rI (-1) SH S else (∃ v101 S102, G sc MX7_isMerged 0 [some (.ref 65), some (.int (I l3)), none] [] SH S (rI v101 SH S102) ∧ (if I v101 = I 0 then (∃ v103 S104, G sc MX7_scanNext 0 [some (.ref 65), none, none] [] SH S102 (rI v103 SH S104) ∧ G sc MX10_merges 24 [some (.ref 0), some (.int (I l1)), some (.int (I l2)), some (.int (I l3)), some (.int (I (l4 + 1)))] [] SH S104 r) else r = rI l4 SH S102)))) → G sc MX10_merges 24 [some (.ref 0), some (.int (I l1)), some (.int (I l2)), some (.int (I l3)), some (.int (I l4))] [] SH S r := by
  refine t_ld (pc := 24) dX10_merges_24 rfl rfl rfl rfl rfl ?_
  refine t_sipush (pc := 26) dX10_merges_26 (by decide) ?_
  refine t_ic_gt (pc := 29) 60 dX10_merges_29 rfl ?_ ?_
  · refine t_iconst (pc := 60) dX10_merges_60 ?_
    exact t_iret (pc := 61) dX10_merges_61 rfl
  · refine t_ld (pc := 32) dX10_merges_32 rfl rfl rfl rfl rfl ?_
    refine t_getR (pc := 33) dX10_merges_33 rfl h0.1 rfl ?_
    refine t_ld (pc := 36) dX10_merges_36 rfl rfl rfl rfl rfl ?_
    refine t_vcIN (pc := 37) dX10_merges_37 rfl rfl [] rfl rfl ⟨rfl, by decide, Nat.le_of_ble_eq_true rfl⟩ h0.2.2.2.2.2.1.1 fun v101 S102 => ?_
    refine t_if_eq (pc := 40) 46 dX10_merges_40 rfl ?_ ?_
    · refine t_ld (pc := 46) dX10_merges_46 rfl rfl rfl rfl rfl ?_
      refine t_getR (pc := 47) dX10_merges_47 rfl h0.1 rfl ?_
      refine t_vcIN (pc := 50) dX10_merges_50 rfl rfl [] rfl rfl ⟨rfl, by decide, Nat.le_of_ble_eq_true rfl⟩ h0.2.2.2.2.2.1.1 fun v103 S104 => ?_
      refine t_pop (pc := 53) dX10_merges_53 rfl ?_
      refine t_iinc (pc := 54) [some (.ref 0), some (.int (I l1)), some (.int (I l2)), some (.int (I l3)), some (.int (I (l4 + 1)))] dX10_merges_54 rfl rfl ?_
      refine t_goto (pc := 57) 24 dX10_merges_57 rfl ?_
      exact id
    · refine t_ld (pc := 43) dX10_merges_43 rfl rfl rfl rfl rfl ?_
      exact t_iret (pc := 45) dX10_merges_45 rfl
theorem qX10_ideal_0 {sc : Nat × (Nat → Int32)} {SH : List mCell} {S : mStore} {r : mR × mW} (h0 : sGP SH) {l1 : Int} : ((swp l1 0 (r = rX 0 (SH ++ [mO (12 + 0) []]) S) [(∃ v101 S102, G sc MX7_fewest 0 [some (.ref 17), none, none] [] SH S (rI v101 SH S102) ∧ r = rI v101 SH S102), (∃ v103 S104, G sc MX7_used 0 [some (.ref 17), none, none] [] SH S (rI v103 SH S104) ∧ (∃ v105 S106, G sc MX7_fewest 0 [some (.ref 17), none, none] [] SH S104 (rI v105 SH S106) ∧ r = rI (v103 - v105) SH S106)), (∃ v107 S108, G sc MX7_risk 0 [some (.ref 17), none, none, none] [] SH S (rI v107 SH S108) ∧ r = rI v107 SH S108)])) → G sc MX10_ideal 0 [some (.ref 0), some (.int (I l1))] [] SH S r := by
  refine t_ld (pc := 0) dX10_ideal_0 rfl rfl rfl rfl rfl ?_
  refine t_switch (pc := 1) 72 dX10_ideal_1 (by decide) rfl rfl ?_ ?_
  · exact t_throw (pc := 72) 0 dX10_ideal_72 rfl rfl dX10_ideal_75 dX10_ideal_76 dX10_ideal_79 ⟨rfl, rfl, by decide, rfl⟩
  · refine ⟨⟨28, rfl, ?_⟩, ⟨⟨39, rfl, ?_⟩, ⟨⟨61, rfl, ?_⟩, trivial⟩⟩⟩
    · refine t_ld (pc := 28) dX10_ideal_28 rfl rfl rfl rfl rfl ?_
      refine t_getR (pc := 29) dX10_ideal_29 rfl h0.1 rfl ?_
      refine t_getR (pc := 32) dX10_ideal_32 rfl h0.2.2.2.1.1 rfl ?_
      refine t_vcIN (pc := 35) dX10_ideal_35 rfl rfl [] rfl rfl ⟨rfl, by decide, Nat.le_of_ble_eq_true rfl⟩ h0.2.2.2.1.2.2.2.2.1.1 fun v101 S102 => ?_
      exact t_iret (pc := 38) dX10_ideal_38 rfl
    · refine t_ld (pc := 39) dX10_ideal_39 rfl rfl rfl rfl rfl ?_
      refine t_getR (pc := 40) dX10_ideal_40 rfl h0.1 rfl ?_
      refine t_getR (pc := 43) dX10_ideal_43 rfl h0.2.2.2.1.1 rfl ?_
      refine t_vcIN (pc := 46) dX10_ideal_46 rfl rfl [] rfl rfl ⟨rfl, by decide, Nat.le_of_ble_eq_true rfl⟩ h0.2.2.2.1.2.2.2.2.1.1 fun v103 S104 => ?_
      refine t_ld (pc := 49) dX10_ideal_49 rfl rfl rfl rfl rfl ?_
      refine t_getR (pc := 50) dX10_ideal_50 rfl h0.1 rfl ?_
      refine t_getR (pc := 53) dX10_ideal_53 rfl h0.2.2.2.1.1 rfl ?_
      refine t_vcIN (pc := 56) dX10_ideal_56 rfl rfl [.int (I v103)] rfl rfl ⟨rfl, by decide, Nat.le_of_ble_eq_true rfl⟩ h0.2.2.2.1.2.2.2.2.1.1 fun v105 S106 => ?_
      refine t_isub (pc := 59) dX10_ideal_59 ?_
      exact t_iret (pc := 60) dX10_ideal_60 rfl
    · refine t_ld (pc := 61) dX10_ideal_61 rfl rfl rfl rfl rfl ?_
      refine t_getR (pc := 62) dX10_ideal_62 rfl h0.1 rfl ?_
      refine t_getR (pc := 65) dX10_ideal_65 rfl h0.2.2.2.1.1 rfl ?_
      refine t_vcIN (pc := 68) dX10_ideal_68 rfl rfl [] rfl rfl ⟨rfl, by decide, Nat.le_of_ble_eq_true rfl⟩ h0.2.2.2.1.2.2.2.2.1.1 fun v107 S108 => ?_
      exact t_iret (pc := 71) dX10_ideal_71 rfl
theorem qX10_probe_0 {sc : Nat × (Nat → Int32)} {SH : List mCell} {S : mStore} {r : mR × mW} (h0 : sGP SH) {l1 : Int} {l2 : Int} {l3 : Int} {l4 : Int} {u5 : Option Value} {u6 : Option Value} : (((∃ v101 S102, G sc MX10_placeOf 0 [some (.ref 0), some (.int (I l1)), some (.int (I l2)), none] [] SH S (rI v101 SH S102) ∧ (if I l3 < I 0 then G sc MX10_probe 36 [some (.ref 0), some (.int (I l1)), some (.int (I l2)), some (.int (I l3)), some (.int (I l4)), some (.int (I v101)), u6] [.int (I 0)] SH S102 r else (if I 65535 < I l3 then G sc MX10_probe 36 [some (.ref 0), some (.int (I l1)), some (.int (I l2)), some (.int (I l3)), some (.int (I l4)), some (.int (I v101)), u6] [.int (I 0)] SH S102 r else (if I l4 < I 0 then G sc MX10_probe 36 [some (.ref 0), some (.int (I l1)), some (.int (I l2)), some (.int (I l3)), some (.int (I l4)), some (.int (I v101)), u6] [.int (I 0)] SH S102 r else (if I 40 < I l4 then G sc MX10_probe 36 [some (.ref 0), some (.int (I l1)), some (.int (I l2)), some (.int (I l3)), some (.int (I l4)), some (.int (I v101)), u6] [.int (I 0)] SH S102 r else G sc MX10_probe 36 [some (.ref 0), some (.int (I l1)), some (.int (I l2)), some (.int (I l3)), some (.int (I l4)), some (.int (I v101)), u6] [.int (I 1)] SH S102 r))))) ∨ (∃ e SH1 S1, G sc MX10_placeOf 0 [some (.ref 0), some (.int (I l1)), some (.int (I l2)), none] [] SH S (rX e SH1 S1) ∧ r = rX e SH1 S1))) → G sc MX10_probe 0 [some (.ref 0), some (.int (I l1)), some (.int (I l2)), some (.int (I l3)), some (.int (I l4)), u5, u6] [] SH S r := by
  refine t_ld (pc := 0) dX10_probe_0 rfl rfl rfl rfl rfl ?_
  refine t_ld (pc := 1) dX10_probe_1 rfl rfl rfl rfl rfl ?_
  refine t_ld (pc := 2) dX10_probe_2 rfl rfl rfl rfl rfl ?_
  refine t_vcI (pc := 3) dX10_probe_3 rfl rfl [] rfl rfl ⟨rfl, by decide, Nat.le_of_ble_eq_true rfl⟩ h0.1 rfl fun v101 S102 => ?_
  refine t_st (pc := 6) [some (.ref 0), some (.int (I l1)), some (.int (I l2)), some (.int (I l3)), some (.int (I l4)), some (.int (I v101)), u6] dX10_probe_6 rfl rfl rfl rfl rfl rfl ?_
  refine t_ld (pc := 8) dX10_probe_8 rfl rfl rfl rfl rfl ?_
  refine t_if_lt (pc := 9) 35 dX10_probe_9 rfl ?_ ?_
  · refine t_iconst (pc := 35) dX10_probe_35 ?_
    exact id
  · refine t_ld (pc := 12) dX10_probe_12 rfl rfl rfl rfl rfl ?_
    refine t_push (pc := 13) 65535 dX10_probe_13 rfl (by decide +kernel) ?_
    refine t_ic_gt (pc := 16) 35 dX10_probe_16 rfl ?_ ?_
    · refine t_iconst (pc := 35) dX10_probe_35 ?_
      exact id
    · refine t_ld (pc := 19) dX10_probe_19 rfl rfl rfl rfl rfl ?_
      refine t_if_lt (pc := 21) 35 dX10_probe_21 rfl ?_ ?_
      · refine t_iconst (pc := 35) dX10_probe_35 ?_
        exact id
      · refine t_ld (pc := 24) dX10_probe_24 rfl rfl rfl rfl rfl ?_
        refine t_bipush (pc := 26) dX10_probe_26 (by decide) ?_
        refine t_ic_gt (pc := 28) 35 dX10_probe_28 rfl ?_ ?_
        · refine t_iconst (pc := 35) dX10_probe_35 ?_
          exact id
        · refine t_iconst (pc := 31) dX10_probe_31 ?_
          refine t_goto (pc := 32) 36 dX10_probe_32 rfl ?_
          exact id
theorem qX10_probe_36 {sc : Nat × (Nat → Int32)} {SH : List mCell} {S : mStore} {r : mR × mW} (h0 : sGP SH) {l1 : Int} {l2 : Int} {l3 : Int} {l4 : Int} {l5 : Int} {u6 : Option Value} {s0 : Int} : (((∃ S101, G sc MX10_mustFit 0 [some (.int (I s0))] [] SH S (rV SH S101) ∧ (∃ S102, G sc MX7_become 0 [some (.ref 65), some (.ref 17)] [] SH S101 (rV SH S102) ∧ (∃ v103 S104, G sc MX7_put 0 [some (.ref 65), some (.int (I l5)), some (.int (I l3)), none, none] [] SH S102 (rI v103 SH S104) ∧ (if I v103 = I (-1) then r = rI (-1) SH S104 else (∃ v105 S106, G sc MX7_tick 0 [some (.ref 65), some (.int (I l4)), none, none, none, none] [] SH S104 (rI v105 SH S106) ∧ ((0 ≤ l5 ∧ l5 < 48) ∧ (if I (S106 (65 + 2) l5) = I (-1) then G sc MX10_probe 118 [some (.ref 0), some (.int (I l1)), some (.int (I l2)), some (.int (I l3)), some (.int (I l4)), some (.int (I l5)), some (.int (I (S106 (65 + 2) l5)))] [.int (I 0)] SH S106 r else (∃ v107 S108, G sc MX6_sizeOf 0 [some (.ref (65 + 1)), some (.int (I (S106 (65 + 2) l5))), none, none] [] SH S106 (rI v107 SH S108) ∧ G sc MX10_probe 118 [some (.ref 0), some (.int (I l1)), some (.int (I l2)), some (.int (I l3)), some (.int (I l4)), some (.int (I l5)), some (.int (I (S106 (65 + 2) l5)))] [.int (I (v107 - 1))] SH S108 r)))))))) ∨ (∃ e SH1 S1, G sc MX10_mustFit 0 [some (.int (I s0))] [] SH S (rX e SH1 S1) ∧ r = rX e SH1 S1))) → G sc MX10_probe 36 [some (.ref 0), some (.int (I l1)), some (.int (I l2)), some (.int (I l3)), some (.int (I l4)), some (.int (I l5)), u6] [.int (I s0)] SH S r := by
  refine t_scV (pc := 36) dX10_probe_36 rfl [] rfl rfl ⟨rfl, by decide, Nat.le_of_ble_eq_true rfl⟩ rfl fun S101 => ?_
  refine t_ld (pc := 39) dX10_probe_39 rfl rfl rfl rfl rfl ?_
  refine t_getR (pc := 40) dX10_probe_40 rfl h0.1 rfl ?_
  refine t_ld (pc := 43) dX10_probe_43 rfl rfl rfl rfl rfl ?_
  refine t_getR (pc := 44) dX10_probe_44 rfl h0.1 rfl ?_
  refine t_getR (pc := 47) dX10_probe_47 rfl h0.2.2.2.1.1 rfl ?_
  refine t_vcVN (pc := 50) dX10_probe_50 rfl rfl [] rfl rfl ⟨rfl, by decide, Nat.le_of_ble_eq_true rfl⟩ h0.2.2.2.2.2.1.1 fun S102 => ?_
  refine t_ld (pc := 53) dX10_probe_53 rfl rfl rfl rfl rfl ?_
  refine t_getR (pc := 54) dX10_probe_54 rfl h0.1 rfl ?_
  refine t_ld (pc := 57) dX10_probe_57 rfl rfl rfl rfl rfl ?_
  refine t_ld (pc := 59) dX10_probe_59 rfl rfl rfl rfl rfl ?_
  refine t_vcIN (pc := 60) dX10_probe_60 rfl rfl [] rfl rfl ⟨rfl, by decide, Nat.le_of_ble_eq_true rfl⟩ h0.2.2.2.2.2.1.1 fun v103 S104 => ?_
  refine t_iconst (pc := 63) dX10_probe_63 ?_
  refine t_ic_ne (pc := 64) 69 dX10_probe_64 rfl ?_ ?_
  · refine t_ld (pc := 69) dX10_probe_69 rfl rfl rfl rfl rfl ?_
    refine t_getR (pc := 70) dX10_probe_70 rfl h0.1 rfl ?_
    refine t_ld (pc := 73) dX10_probe_73 rfl rfl rfl rfl rfl ?_
    refine t_vcIN (pc := 75) dX10_probe_75 rfl rfl [] rfl rfl ⟨rfl, by decide, Nat.le_of_ble_eq_true rfl⟩ h0.2.2.2.2.2.1.1 fun v105 S106 => ?_
    refine t_pop (pc := 78) dX10_probe_78 rfl ?_
    refine t_ld (pc := 79) dX10_probe_79 rfl rfl rfl rfl rfl ?_
    refine t_getR (pc := 80) dX10_probe_80 rfl h0.1 rfl ?_
    refine t_getR (pc := 83) dX10_probe_83 rfl h0.2.2.2.2.2.1.1 rfl ?_
    refine t_getR (pc := 86) dX10_probe_86 rfl h0.2.2.2.2.2.1.2.1.1 rfl ?_
    refine t_ld (pc := 89) dX10_probe_89 rfl rfl rfl rfl rfl ?_
    refine t_iaload (pc := 91) dX10_probe_91 h0.2.2.2.2.2.1.2.1.2.1 ?_
    refine t_st (pc := 92) [some (.ref 0), some (.int (I l1)), some (.int (I l2)), some (.int (I l3)), some (.int (I l4)), some (.int (I l5)), some (.int (I (S106 (65 + 2) l5)))] dX10_probe_92 rfl rfl rfl rfl rfl rfl ?_
    refine t_ld (pc := 94) dX10_probe_94 rfl rfl rfl rfl rfl ?_
    refine t_iconst (pc := 96) dX10_probe_96 ?_
    refine t_ic_ne (pc := 97) 104 dX10_probe_97 rfl ?_ ?_
    · refine t_ld (pc := 104) dX10_probe_104 rfl rfl rfl rfl rfl ?_
      refine t_getR (pc := 105) dX10_probe_105 rfl h0.1 rfl ?_
      refine t_getR (pc := 108) dX10_probe_108 rfl h0.2.2.2.2.2.1.1 rfl ?_
      refine t_ld (pc := 111) dX10_probe_111 rfl rfl rfl rfl rfl ?_
      refine t_vcIN (pc := 113) dX10_probe_113 rfl rfl [] rfl rfl ⟨rfl, by decide, Nat.le_of_ble_eq_true rfl⟩ h0.2.2.2.2.2.1.2.1.1 fun v107 S108 => ?_
      refine t_iconst (pc := 116) dX10_probe_116 ?_
      refine t_isub (pc := 117) dX10_probe_117 ?_
      exact id
    · refine t_iconst (pc := 100) dX10_probe_100 ?_
      refine t_goto (pc := 101) 118 dX10_probe_101 rfl ?_
      exact id
  · refine t_iconst (pc := 67) dX10_probe_67 ?_
    exact t_iret (pc := 68) dX10_probe_68 rfl
theorem qX10_probe_118 {sc : Nat × (Nat → Int32)} {SH : List mCell} {S : mStore} {r : mR × mW} (h0 : sGP SH) {l1 : Int} {l2 : Int} {l3 : Int} {l4 : Int} {l5 : Int} {l6 : Int} {s0 : Int} : (r = rI s0 SH S) → G sc MX10_probe 118 [some (.ref 0), some (.int (I l1)), some (.int (I l2)), some (.int (I l3)), some (.int (I l4)), some (.int (I l5)), some (.int (I l6))] [.int (I s0)] SH S r := by
  exact t_iret (pc := 118) dX10_probe_118 rfl
theorem qX10_toAdvise_0 {sc : Nat × (Nat → Int32)} {SH : List mCell} {S : mStore} {r : mR × mW} (h0 : sGP SH) {l1 : Int} {l2 : Int} {u3 : Option Value} {u4 : Option Value} {u5 : Option Value} {u6 : Option Value} : ((if I l2 = I 0 then ((∃ S101, G sc MX10_mustBe 0 [some (.int (I 1))] [] SH S (rV SH S101) ∧ (if I l1 < I 0 then ((∃ S102, G sc MX10_mustFit 0 [some (.int (I 0))] [] SH S101 (rV SH S102) ∧ G sc MX10_toAdvise 43 [some (.ref 0), some (.int (I l1)), some (.int (I l2)), some (.int (I (-1))), some (.int (I (-1))), some (.int (I 0)), u6] [] SH S102 r) ∨ (∃ e SH1 S1, G sc MX10_mustFit 0 [some (.int (I 0))] [] SH S101 (rX e SH1 S1) ∧ r = rX e SH1 S1)) else (if I 40 < I l1 then ((∃ S103, G sc MX10_mustFit 0 [some (.int (I 0))] [] SH S101 (rV SH S103) ∧ G sc MX10_toAdvise 43 [some (.ref 0), some (.int (I l1)), some (.int (I l2)), some (.int (I (-1))), some (.int (I (-1))), some (.int (I 0)), u6] [] SH S103 r) ∨ (∃ e SH1 S1, G sc MX10_mustFit 0 [some (.int (I 0))] [] SH S101 (rX e SH1 S1) ∧ r = rX e SH1 S1)) else ((∃ S104, G sc MX10_mustFit 0 [some (.int (I 1))] [] SH S101 (rV SH S104) ∧ G sc MX10_toAdvise 43 [some (.ref 0), some (.int (I l1)), some (.int (I l2)), some (.int (I (-1))), some (.int (I (-1))), some (.int (I 0)), u6] [] SH S104 r) ∨ (∃ e SH1 S1, G sc MX10_mustFit 0 [some (.int (I 1))] [] SH S101 (rX e SH1 S1) ∧ r = rX e SH1 S1))))) ∨ (∃ e SH1 S1, G sc MX10_mustBe 0 [some (.int (I 1))] [] SH S (rX e SH1 S1) ∧ r = rX e SH1 S1)) else (if I l2 = I 1 then ((∃ S109, G sc MX10_mustBe 0 [some (.int (I 1))] [] SH S (rV SH S109) ∧ (if I l1 < I 0 then ((∃ S110, G sc MX10_mustFit 0 [some (.int (I 0))] [] SH S109 (rV SH S110) ∧ G sc MX10_toAdvise 43 [some (.ref 0), some (.int (I l1)), some (.int (I l2)), some (.int (I (-1))), some (.int (I (-1))), some (.int (I 0)), u6] [] SH S110 r) ∨ (∃ e SH1 S1, G sc MX10_mustFit 0 [some (.int (I 0))] [] SH S109 (rX e SH1 S1) ∧ r = rX e SH1 S1)) else (if I 40 < I l1 then ((∃ S111, G sc MX10_mustFit 0 [some (.int (I 0))] [] SH S109 (rV SH S111) ∧ G sc MX10_toAdvise 43 [some (.ref 0), some (.int (I l1)), some (.int (I l2)), some (.int (I (-1))), some (.int (I (-1))), some (.int (I 0)), u6] [] SH S111 r) ∨ (∃ e SH1 S1, G sc MX10_mustFit 0 [some (.int (I 0))] [] SH S109 (rX e SH1 S1) ∧ r = rX e SH1 S1)) else ((∃ S112, G sc MX10_mustFit 0 [some (.int (I 1))] [] SH S109 (rV SH S112) ∧ G sc MX10_toAdvise 43 [some (.ref 0), some (.int (I l1)), some (.int (I l2)), some (.int (I (-1))), some (.int (I (-1))), some (.int (I 0)), u6] [] SH S112 r) ∨ (∃ e SH1 S1, G sc MX10_mustFit 0 [some (.int (I 1))] [] SH S109 (rX e SH1 S1) ∧ r = rX e SH1 S1))))) ∨ (∃ e SH1 S1, G sc MX10_mustBe 0 [some (.int (I 1))] [] SH S (rX e SH1 S1) ∧ r = rX e SH1 S1)) else ((∃ S105, G sc MX10_mustBe 0 [some (.int (I 0))] [] SH S (rV SH S105) ∧ (if I l1 < I 0 then ((∃ S106, G sc MX10_mustFit 0 [some (.int (I 0))] [] SH S105 (rV SH S106) ∧ G sc MX10_toAdvise 43 [some (.ref 0), some (.int (I l1)), some (.int (I l2)), some (.int (I (-1))), some (.int (I (-1))), some (.int (I 0)), u6] [] SH S106 r) ∨ (∃ e SH1 S1, G sc MX10_mustFit 0 [some (.int (I 0))] [] SH S105 (rX e SH1 S1) ∧ r = rX e SH1 S1)) else (if I 40 < I l1 then ((∃ S107, G sc MX10_mustFit 0 [some (.int (I 0))] [] SH S105 (rV SH S107) ∧ G sc MX10_toAdvise 43 [some (.ref 0), some (.int (I l1)), some (.int (I l2)), some (.int (I (-1))), some (.int (I (-1))), some (.int (I 0)), u6] [] SH S107 r) ∨ (∃ e SH1 S1, G sc MX10_mustFit 0 [some (.int (I 0))] [] SH S105 (rX e SH1 S1) ∧ r = rX e SH1 S1)) else ((∃ S108, G sc MX10_mustFit 0 [some (.int (I 1))] [] SH S105 (rV SH S108) ∧ G sc MX10_toAdvise 43 [some (.ref 0), some (.int (I l1)), some (.int (I l2)), some (.int (I (-1))), some (.int (I (-1))), some (.int (I 0)), u6] [] SH S108 r) ∨ (∃ e SH1 S1, G sc MX10_mustFit 0 [some (.int (I 1))] [] SH S105 (rX e SH1 S1) ∧ r = rX e SH1 S1))))) ∨ (∃ e SH1 S1, G sc MX10_mustBe 0 [some (.int (I 0))] [] SH S (rX e SH1 S1) ∧ r = rX e SH1 S1))))) → G sc MX10_toAdvise 0 [some (.ref 0), some (.int (I l1)), some (.int (I l2)), u3, u4, u5, u6] [] SH S r := by
  refine t_ld (pc := 0) dX10_toAdvise_0 rfl rfl rfl rfl rfl ?_
  refine t_if_eq (pc := 1) 9 dX10_toAdvise_1 rfl ?_ ?_
  · refine t_iconst (pc := 9) dX10_toAdvise_9 ?_
    refine t_goto (pc := 10) 14 dX10_toAdvise_10 rfl ?_
    refine t_scV (pc := 14) dX10_toAdvise_14 rfl [] rfl rfl ⟨rfl, by decide, Nat.le_of_ble_eq_true rfl⟩ rfl fun S101 => ?_
    refine t_ld (pc := 17) dX10_toAdvise_17 rfl rfl rfl rfl rfl ?_
    refine t_if_lt (pc := 18) 31 dX10_toAdvise_18 rfl ?_ ?_
    · refine t_iconst (pc := 31) dX10_toAdvise_31 ?_
      refine t_scV (pc := 32) dX10_toAdvise_32 rfl [] rfl rfl ⟨rfl, by decide, Nat.le_of_ble_eq_true rfl⟩ rfl fun S102 => ?_
      refine t_iconst (pc := 35) dX10_toAdvise_35 ?_
      refine t_st (pc := 36) [some (.ref 0), some (.int (I l1)), some (.int (I l2)), some (.int (I (-1))), u4, u5, u6] dX10_toAdvise_36 rfl rfl rfl rfl rfl rfl ?_
      refine t_iconst (pc := 37) dX10_toAdvise_37 ?_
      refine t_st (pc := 38) [some (.ref 0), some (.int (I l1)), some (.int (I l2)), some (.int (I (-1))), some (.int (I (-1))), u5, u6] dX10_toAdvise_38 rfl rfl rfl rfl rfl rfl ?_
      refine t_iconst (pc := 40) dX10_toAdvise_40 ?_
      refine t_st (pc := 41) [some (.ref 0), some (.int (I l1)), some (.int (I l2)), some (.int (I (-1))), some (.int (I (-1))), some (.int (I 0)), u6] dX10_toAdvise_41 rfl rfl rfl rfl rfl rfl ?_
      exact id
    · refine t_ld (pc := 21) dX10_toAdvise_21 rfl rfl rfl rfl rfl ?_
      refine t_bipush (pc := 22) dX10_toAdvise_22 (by decide) ?_
      refine t_ic_gt (pc := 24) 31 dX10_toAdvise_24 rfl ?_ ?_
      · refine t_iconst (pc := 31) dX10_toAdvise_31 ?_
        refine t_scV (pc := 32) dX10_toAdvise_32 rfl [] rfl rfl ⟨rfl, by decide, Nat.le_of_ble_eq_true rfl⟩ rfl fun S103 => ?_
        refine t_iconst (pc := 35) dX10_toAdvise_35 ?_
        refine t_st (pc := 36) [some (.ref 0), some (.int (I l1)), some (.int (I l2)), some (.int (I (-1))), u4, u5, u6] dX10_toAdvise_36 rfl rfl rfl rfl rfl rfl ?_
        refine t_iconst (pc := 37) dX10_toAdvise_37 ?_
        refine t_st (pc := 38) [some (.ref 0), some (.int (I l1)), some (.int (I l2)), some (.int (I (-1))), some (.int (I (-1))), u5, u6] dX10_toAdvise_38 rfl rfl rfl rfl rfl rfl ?_
        refine t_iconst (pc := 40) dX10_toAdvise_40 ?_
        refine t_st (pc := 41) [some (.ref 0), some (.int (I l1)), some (.int (I l2)), some (.int (I (-1))), some (.int (I (-1))), some (.int (I 0)), u6] dX10_toAdvise_41 rfl rfl rfl rfl rfl rfl ?_
        exact id
      · refine t_iconst (pc := 27) dX10_toAdvise_27 ?_
        refine t_goto (pc := 28) 32 dX10_toAdvise_28 rfl ?_
        refine t_scV (pc := 32) dX10_toAdvise_32 rfl [] rfl rfl ⟨rfl, by decide, Nat.le_of_ble_eq_true rfl⟩ rfl fun S104 => ?_
        refine t_iconst (pc := 35) dX10_toAdvise_35 ?_
        refine t_st (pc := 36) [some (.ref 0), some (.int (I l1)), some (.int (I l2)), some (.int (I (-1))), u4, u5, u6] dX10_toAdvise_36 rfl rfl rfl rfl rfl rfl ?_
        refine t_iconst (pc := 37) dX10_toAdvise_37 ?_
        refine t_st (pc := 38) [some (.ref 0), some (.int (I l1)), some (.int (I l2)), some (.int (I (-1))), some (.int (I (-1))), u5, u6] dX10_toAdvise_38 rfl rfl rfl rfl rfl rfl ?_
        refine t_iconst (pc := 40) dX10_toAdvise_40 ?_
        refine t_st (pc := 41) [some (.ref 0), some (.int (I l1)), some (.int (I l2)), some (.int (I (-1))), some (.int (I (-1))), some (.int (I 0)), u6] dX10_toAdvise_41 rfl rfl rfl rfl rfl rfl ?_
        exact id
  · refine t_ld (pc := 4) dX10_toAdvise_4 rfl rfl rfl rfl rfl ?_
    refine t_iconst (pc := 5) dX10_toAdvise_5 ?_
    refine t_ic_ne (pc := 6) 13 dX10_toAdvise_6 rfl ?_ ?_
    · refine t_iconst (pc := 13) dX10_toAdvise_13 ?_
      refine t_scV (pc := 14) dX10_toAdvise_14 rfl [] rfl rfl ⟨rfl, by decide, Nat.le_of_ble_eq_true rfl⟩ rfl fun S105 => ?_
      refine t_ld (pc := 17) dX10_toAdvise_17 rfl rfl rfl rfl rfl ?_
      refine t_if_lt (pc := 18) 31 dX10_toAdvise_18 rfl ?_ ?_
      · refine t_iconst (pc := 31) dX10_toAdvise_31 ?_
        refine t_scV (pc := 32) dX10_toAdvise_32 rfl [] rfl rfl ⟨rfl, by decide, Nat.le_of_ble_eq_true rfl⟩ rfl fun S106 => ?_
        refine t_iconst (pc := 35) dX10_toAdvise_35 ?_
        refine t_st (pc := 36) [some (.ref 0), some (.int (I l1)), some (.int (I l2)), some (.int (I (-1))), u4, u5, u6] dX10_toAdvise_36 rfl rfl rfl rfl rfl rfl ?_
        refine t_iconst (pc := 37) dX10_toAdvise_37 ?_
        refine t_st (pc := 38) [some (.ref 0), some (.int (I l1)), some (.int (I l2)), some (.int (I (-1))), some (.int (I (-1))), u5, u6] dX10_toAdvise_38 rfl rfl rfl rfl rfl rfl ?_
        refine t_iconst (pc := 40) dX10_toAdvise_40 ?_
        refine t_st (pc := 41) [some (.ref 0), some (.int (I l1)), some (.int (I l2)), some (.int (I (-1))), some (.int (I (-1))), some (.int (I 0)), u6] dX10_toAdvise_41 rfl rfl rfl rfl rfl rfl ?_
        exact id
      · refine t_ld (pc := 21) dX10_toAdvise_21 rfl rfl rfl rfl rfl ?_
        refine t_bipush (pc := 22) dX10_toAdvise_22 (by decide) ?_
        refine t_ic_gt (pc := 24) 31 dX10_toAdvise_24 rfl ?_ ?_
        · refine t_iconst (pc := 31) dX10_toAdvise_31 ?_
          refine t_scV (pc := 32) dX10_toAdvise_32 rfl [] rfl rfl ⟨rfl, by decide, Nat.le_of_ble_eq_true rfl⟩ rfl fun S107 => ?_
          refine t_iconst (pc := 35) dX10_toAdvise_35 ?_
          refine t_st (pc := 36) [some (.ref 0), some (.int (I l1)), some (.int (I l2)), some (.int (I (-1))), u4, u5, u6] dX10_toAdvise_36 rfl rfl rfl rfl rfl rfl ?_
          refine t_iconst (pc := 37) dX10_toAdvise_37 ?_
          refine t_st (pc := 38) [some (.ref 0), some (.int (I l1)), some (.int (I l2)), some (.int (I (-1))), some (.int (I (-1))), u5, u6] dX10_toAdvise_38 rfl rfl rfl rfl rfl rfl ?_
          refine t_iconst (pc := 40) dX10_toAdvise_40 ?_
          refine t_st (pc := 41) [some (.ref 0), some (.int (I l1)), some (.int (I l2)), some (.int (I (-1))), some (.int (I (-1))), some (.int (I 0)), u6] dX10_toAdvise_41 rfl rfl rfl rfl rfl rfl ?_
          exact id
        · refine t_iconst (pc := 27) dX10_toAdvise_27 ?_
          refine t_goto (pc := 28) 32 dX10_toAdvise_28 rfl ?_
          refine t_scV (pc := 32) dX10_toAdvise_32 rfl [] rfl rfl ⟨rfl, by decide, Nat.le_of_ble_eq_true rfl⟩ rfl fun S108 => ?_
          refine t_iconst (pc := 35) dX10_toAdvise_35 ?_
          refine t_st (pc := 36) [some (.ref 0), some (.int (I l1)), some (.int (I l2)), some (.int (I (-1))), u4, u5, u6] dX10_toAdvise_36 rfl rfl rfl rfl rfl rfl ?_
          refine t_iconst (pc := 37) dX10_toAdvise_37 ?_
          refine t_st (pc := 38) [some (.ref 0), some (.int (I l1)), some (.int (I l2)), some (.int (I (-1))), some (.int (I (-1))), u5, u6] dX10_toAdvise_38 rfl rfl rfl rfl rfl rfl ?_
          refine t_iconst (pc := 40) dX10_toAdvise_40 ?_
          refine t_st (pc := 41) [some (.ref 0), some (.int (I l1)), some (.int (I l2)), some (.int (I (-1))), some (.int (I (-1))), some (.int (I 0)), u6] dX10_toAdvise_41 rfl rfl rfl rfl rfl rfl ?_
          exact id
    · refine t_iconst (pc := 9) dX10_toAdvise_9 ?_
      refine t_goto (pc := 10) 14 dX10_toAdvise_10 rfl ?_
      refine t_scV (pc := 14) dX10_toAdvise_14 rfl [] rfl rfl ⟨rfl, by decide, Nat.le_of_ble_eq_true rfl⟩ rfl fun S109 => ?_
      refine t_ld (pc := 17) dX10_toAdvise_17 rfl rfl rfl rfl rfl ?_
      refine t_if_lt (pc := 18) 31 dX10_toAdvise_18 rfl ?_ ?_
      · refine t_iconst (pc := 31) dX10_toAdvise_31 ?_
        refine t_scV (pc := 32) dX10_toAdvise_32 rfl [] rfl rfl ⟨rfl, by decide, Nat.le_of_ble_eq_true rfl⟩ rfl fun S110 => ?_
        refine t_iconst (pc := 35) dX10_toAdvise_35 ?_
        refine t_st (pc := 36) [some (.ref 0), some (.int (I l1)), some (.int (I l2)), some (.int (I (-1))), u4, u5, u6] dX10_toAdvise_36 rfl rfl rfl rfl rfl rfl ?_
        refine t_iconst (pc := 37) dX10_toAdvise_37 ?_
        refine t_st (pc := 38) [some (.ref 0), some (.int (I l1)), some (.int (I l2)), some (.int (I (-1))), some (.int (I (-1))), u5, u6] dX10_toAdvise_38 rfl rfl rfl rfl rfl rfl ?_
        refine t_iconst (pc := 40) dX10_toAdvise_40 ?_
        refine t_st (pc := 41) [some (.ref 0), some (.int (I l1)), some (.int (I l2)), some (.int (I (-1))), some (.int (I (-1))), some (.int (I 0)), u6] dX10_toAdvise_41 rfl rfl rfl rfl rfl rfl ?_
        exact id
      · refine t_ld (pc := 21) dX10_toAdvise_21 rfl rfl rfl rfl rfl ?_
        refine t_bipush (pc := 22) dX10_toAdvise_22 (by decide) ?_
        refine t_ic_gt (pc := 24) 31 dX10_toAdvise_24 rfl ?_ ?_
        · refine t_iconst (pc := 31) dX10_toAdvise_31 ?_
          refine t_scV (pc := 32) dX10_toAdvise_32 rfl [] rfl rfl ⟨rfl, by decide, Nat.le_of_ble_eq_true rfl⟩ rfl fun S111 => ?_
          refine t_iconst (pc := 35) dX10_toAdvise_35 ?_
          refine t_st (pc := 36) [some (.ref 0), some (.int (I l1)), some (.int (I l2)), some (.int (I (-1))), u4, u5, u6] dX10_toAdvise_36 rfl rfl rfl rfl rfl rfl ?_
          refine t_iconst (pc := 37) dX10_toAdvise_37 ?_
          refine t_st (pc := 38) [some (.ref 0), some (.int (I l1)), some (.int (I l2)), some (.int (I (-1))), some (.int (I (-1))), u5, u6] dX10_toAdvise_38 rfl rfl rfl rfl rfl rfl ?_
          refine t_iconst (pc := 40) dX10_toAdvise_40 ?_
          refine t_st (pc := 41) [some (.ref 0), some (.int (I l1)), some (.int (I l2)), some (.int (I (-1))), some (.int (I (-1))), some (.int (I 0)), u6] dX10_toAdvise_41 rfl rfl rfl rfl rfl rfl ?_
          exact id
        · refine t_iconst (pc := 27) dX10_toAdvise_27 ?_
          refine t_goto (pc := 28) 32 dX10_toAdvise_28 rfl ?_
          refine t_scV (pc := 32) dX10_toAdvise_32 rfl [] rfl rfl ⟨rfl, by decide, Nat.le_of_ble_eq_true rfl⟩ rfl fun S112 => ?_
          refine t_iconst (pc := 35) dX10_toAdvise_35 ?_
          refine t_st (pc := 36) [some (.ref 0), some (.int (I l1)), some (.int (I l2)), some (.int (I (-1))), u4, u5, u6] dX10_toAdvise_36 rfl rfl rfl rfl rfl rfl ?_
          refine t_iconst (pc := 37) dX10_toAdvise_37 ?_
          refine t_st (pc := 38) [some (.ref 0), some (.int (I l1)), some (.int (I l2)), some (.int (I (-1))), some (.int (I (-1))), u5, u6] dX10_toAdvise_38 rfl rfl rfl rfl rfl rfl ?_
          refine t_iconst (pc := 40) dX10_toAdvise_40 ?_
          refine t_st (pc := 41) [some (.ref 0), some (.int (I l1)), some (.int (I l2)), some (.int (I (-1))), some (.int (I (-1))), some (.int (I 0)), u6] dX10_toAdvise_41 rfl rfl rfl rfl rfl rfl ?_
          exact id
theorem qX10_toAdvise_43 {sc : Nat × (Nat → Int32)} {SH : List mCell} {S : mStore} {r : mR × mW} (h0 : sGP SH) {l1 : Int} {l2 : Int} {l3 : Int} {l4 : Int} {l5 : Int} {u6 : Option Value} : ((if I (S 1 6) ≤ I l5 then (if I l2 = I 0 then r = rI l3 SH S else r = rI l4 SH S) else (∃ S101, G sc MX7_become 0 [some (.ref 65), some (.ref 17)] [] SH S (rV SH S101) ∧ ((0 ≤ l5 ∧ l5 < 4) ∧ ((0 ≤ l5 ∧ l5 < 4) ∧ ((0 ≤ l5 ∧ l5 < 4) ∧ (∃ v102 S103, G sc MX7_adviseAll 0 [some (.ref 65), some (.int (I (S101 (1 + 3) l5))), some (.int (I (((S101 (1 + 3) l5) + (S101 (1 + 1) l5)) - 1))), none, none] [] SH S101 (rI v102 SH S103) ∧ (∃ v104 S105, G sc MX7_tick 0 [some (.ref 65), some (.int (I l1)), none, none, none, none] [] SH S103 (rI v104 SH S105) ∧ (∃ v106 S107, G sc MX7_used 0 [some (.ref 65), none, none] [] SH S105 (rI v106 SH S107) ∧ (if I l3 = I (-1) then G sc MX10_toAdvise 43 [some (.ref 0), some (.int (I l1)), some (.int (I l2)), some (.int (I l5)), some (.int (I v106)), some (.int (I (l5 + 1))), some (.int (I v106))] [] SH S107 r else (if I l4 ≤ I v106 then G sc MX10_toAdvise 43 [some (.ref 0), some (.int (I l1)), some (.int (I l2)), some (.int (I l3)), some (.int (I l4)), some (.int (I (l5 + 1))), some (.int (I v106))] [] SH S107 r else G sc MX10_toAdvise 43 [some (.ref 0), some (.int (I l1)), some (.int (I l2)), some (.int (I l5)), some (.int (I v106)), some (.int (I (l5 + 1))), some (.int (I v106))] [] SH S107 r))))))))))) → G sc MX10_toAdvise 43 [some (.ref 0), some (.int (I l1)), some (.int (I l2)), some (.int (I l3)), some (.int (I l4)), some (.int (I l5)), u6] [] SH S r := by
  refine t_ld (pc := 43) dX10_toAdvise_43 rfl rfl rfl rfl rfl ?_
  refine t_ld (pc := 45) dX10_toAdvise_45 rfl rfl rfl rfl rfl ?_
  refine t_getR (pc := 46) dX10_toAdvise_46 rfl h0.1 rfl ?_
  refine t_getI (pc := 49) dX10_toAdvise_49 rfl h0.2.2.2.1.2.2.2.2.1.2.2.2.2.2.2.2.2.2.2.2.2.1 rfl ?_
  refine t_ic_ge (pc := 52) 153 dX10_toAdvise_52 rfl ?_ ?_
  · refine t_ld (pc := 153) dX10_toAdvise_153 rfl rfl rfl rfl rfl ?_
    refine t_if_ne (pc := 154) 161 dX10_toAdvise_154 rfl ?_ ?_
    · refine t_ld (pc := 161) dX10_toAdvise_161 rfl rfl rfl rfl rfl ?_
      exact t_iret (pc := 163) dX10_toAdvise_163 rfl
    · refine t_ld (pc := 157) dX10_toAdvise_157 rfl rfl rfl rfl rfl ?_
      refine t_goto (pc := 158) 163 dX10_toAdvise_158 rfl ?_
      exact t_iret (pc := 163) dX10_toAdvise_163 rfl
  · refine t_ld (pc := 55) dX10_toAdvise_55 rfl rfl rfl rfl rfl ?_
    refine t_getR (pc := 56) dX10_toAdvise_56 rfl h0.1 rfl ?_
    refine t_ld (pc := 59) dX10_toAdvise_59 rfl rfl rfl rfl rfl ?_
    refine t_getR (pc := 60) dX10_toAdvise_60 rfl h0.1 rfl ?_
    refine t_getR (pc := 63) dX10_toAdvise_63 rfl h0.2.2.2.1.1 rfl ?_
    refine t_vcVN (pc := 66) dX10_toAdvise_66 rfl rfl [] rfl rfl ⟨rfl, by decide, Nat.le_of_ble_eq_true rfl⟩ h0.2.2.2.2.2.1.1 fun S101 => ?_
    refine t_ld (pc := 69) dX10_toAdvise_69 rfl rfl rfl rfl rfl ?_
    refine t_getR (pc := 70) dX10_toAdvise_70 rfl h0.1 rfl ?_
    refine t_ld (pc := 73) dX10_toAdvise_73 rfl rfl rfl rfl rfl ?_
    refine t_getR (pc := 74) dX10_toAdvise_74 rfl h0.1 rfl ?_
    refine t_getR (pc := 77) dX10_toAdvise_77 rfl h0.2.2.2.1.2.2.2.2.1.2.2.2.2.2.2.2.2.2.2.2.2.1 rfl ?_
    refine t_ld (pc := 80) dX10_toAdvise_80 rfl rfl rfl rfl rfl ?_
    refine t_iaload (pc := 82) dX10_toAdvise_82 h0.2.2.2.1.2.2.2.2.1.2.2.2.2.2.2.2.2.2.2.2.2.2.2.2.1 ?_
    refine t_ld (pc := 83) dX10_toAdvise_83 rfl rfl rfl rfl rfl ?_
    refine t_getR (pc := 84) dX10_toAdvise_84 rfl h0.1 rfl ?_
    refine t_getR (pc := 87) dX10_toAdvise_87 rfl h0.2.2.2.1.2.2.2.2.1.2.2.2.2.2.2.2.2.2.2.2.2.1 rfl ?_
    refine t_ld (pc := 90) dX10_toAdvise_90 rfl rfl rfl rfl rfl ?_
    refine t_iaload (pc := 92) dX10_toAdvise_92 h0.2.2.2.1.2.2.2.2.1.2.2.2.2.2.2.2.2.2.2.2.2.2.2.2.1 ?_
    refine t_ld (pc := 93) dX10_toAdvise_93 rfl rfl rfl rfl rfl ?_
    refine t_getR (pc := 94) dX10_toAdvise_94 rfl h0.1 rfl ?_
    refine t_getR (pc := 97) dX10_toAdvise_97 rfl h0.2.2.2.1.2.2.2.2.1.2.2.2.2.2.2.2.2.2.2.2.2.1 rfl ?_
    refine t_ld (pc := 100) dX10_toAdvise_100 rfl rfl rfl rfl rfl ?_
    refine t_iaload (pc := 102) dX10_toAdvise_102 h0.2.2.2.1.2.2.2.2.1.2.2.2.2.2.2.2.2.2.2.2.2.2.1 ?_
    refine t_iadd (pc := 103) dX10_toAdvise_103 ?_
    refine t_iconst (pc := 104) dX10_toAdvise_104 ?_
    refine t_isub (pc := 105) dX10_toAdvise_105 ?_
    refine t_vcIN (pc := 106) dX10_toAdvise_106 rfl rfl [] rfl rfl ⟨rfl, by decide, Nat.le_of_ble_eq_true rfl⟩ h0.2.2.2.2.2.1.1 fun v102 S103 => ?_
    refine t_pop (pc := 109) dX10_toAdvise_109 rfl ?_
    refine t_ld (pc := 110) dX10_toAdvise_110 rfl rfl rfl rfl rfl ?_
    refine t_getR (pc := 111) dX10_toAdvise_111 rfl h0.1 rfl ?_
    refine t_ld (pc := 114) dX10_toAdvise_114 rfl rfl rfl rfl rfl ?_
    refine t_vcIN (pc := 115) dX10_toAdvise_115 rfl rfl [] rfl rfl ⟨rfl, by decide, Nat.le_of_ble_eq_true rfl⟩ h0.2.2.2.2.2.1.1 fun v104 S105 => ?_
    refine t_pop (pc := 118) dX10_toAdvise_118 rfl ?_
    refine t_ld (pc := 119) dX10_toAdvise_119 rfl rfl rfl rfl rfl ?_
    refine t_getR (pc := 120) dX10_toAdvise_120 rfl h0.1 rfl ?_
    refine t_vcIN (pc := 123) dX10_toAdvise_123 rfl rfl [] rfl rfl ⟨rfl, by decide, Nat.le_of_ble_eq_true rfl⟩ h0.2.2.2.2.2.1.1 fun v106 S107 => ?_
    refine t_st (pc := 126) [some (.ref 0), some (.int (I l1)), some (.int (I l2)), some (.int (I l3)), some (.int (I l4)), some (.int (I l5)), some (.int (I v106))] dX10_toAdvise_126 rfl rfl rfl rfl rfl rfl ?_
    refine t_ld (pc := 128) dX10_toAdvise_128 rfl rfl rfl rfl rfl ?_
    refine t_iconst (pc := 129) dX10_toAdvise_129 ?_
    refine t_ic_eq (pc := 130) 140 dX10_toAdvise_130 rfl ?_ ?_
    · refine t_ld (pc := 140) dX10_toAdvise_140 rfl rfl rfl rfl rfl ?_
      refine t_st (pc := 142) [some (.ref 0), some (.int (I l1)), some (.int (I l2)), some (.int (I l5)), some (.int (I l4)), some (.int (I l5)), some (.int (I v106))] dX10_toAdvise_142 rfl rfl rfl rfl rfl rfl ?_
      refine t_ld (pc := 143) dX10_toAdvise_143 rfl rfl rfl rfl rfl ?_
      refine t_st (pc := 145) [some (.ref 0), some (.int (I l1)), some (.int (I l2)), some (.int (I l5)), some (.int (I v106)), some (.int (I l5)), some (.int (I v106))] dX10_toAdvise_145 rfl rfl rfl rfl rfl rfl ?_
      refine t_iinc (pc := 147) [some (.ref 0), some (.int (I l1)), some (.int (I l2)), some (.int (I l5)), some (.int (I v106)), some (.int (I (l5 + 1))), some (.int (I v106))] dX10_toAdvise_147 rfl rfl ?_
      refine t_goto (pc := 150) 43 dX10_toAdvise_150 rfl ?_
      exact id
    · refine t_ld (pc := 133) dX10_toAdvise_133 rfl rfl rfl rfl rfl ?_
      refine t_ld (pc := 135) dX10_toAdvise_135 rfl rfl rfl rfl rfl ?_
      refine t_ic_ge (pc := 137) 147 dX10_toAdvise_137 rfl ?_ ?_
      · refine t_iinc (pc := 147) [some (.ref 0), some (.int (I l1)), some (.int (I l2)), some (.int (I l3)), some (.int (I l4)), some (.int (I (l5 + 1))), some (.int (I v106))] dX10_toAdvise_147 rfl rfl ?_
        refine t_goto (pc := 150) 43 dX10_toAdvise_150 rfl ?_
        exact id
      · refine t_ld (pc := 140) dX10_toAdvise_140 rfl rfl rfl rfl rfl ?_
        refine t_st (pc := 142) [some (.ref 0), some (.int (I l1)), some (.int (I l2)), some (.int (I l5)), some (.int (I l4)), some (.int (I l5)), some (.int (I v106))] dX10_toAdvise_142 rfl rfl rfl rfl rfl rfl ?_
        refine t_ld (pc := 143) dX10_toAdvise_143 rfl rfl rfl rfl rfl ?_
        refine t_st (pc := 145) [some (.ref 0), some (.int (I l1)), some (.int (I l2)), some (.int (I l5)), some (.int (I v106)), some (.int (I l5)), some (.int (I v106))] dX10_toAdvise_145 rfl rfl rfl rfl rfl rfl ?_
        refine t_iinc (pc := 147) [some (.ref 0), some (.int (I l1)), some (.int (I l2)), some (.int (I l5)), some (.int (I v106)), some (.int (I (l5 + 1))), some (.int (I v106))] dX10_toAdvise_147 rfl rfl ?_
        refine t_goto (pc := 150) 43 dX10_toAdvise_150 rfl ?_
        exact id
theorem qX10_toRate_0 {sc : Nat × (Nat → Int32)} {SH : List mCell} {S : mStore} {r : mR × mW} (h0 : sGP SH) {l1 : Int} {l2 : Int} {u3 : Option Value} {u4 : Option Value} {u5 : Option Value} {u6 : Option Value} {u7 : Option Value} {u8 : Option Value} : ((if I l2 = I 0 then ((∃ S101, G sc MX10_mustBe 0 [some (.int (I 1))] [] SH S (rV SH S101) ∧ (if I l1 < I 1 then G sc MX10_toRate 33 [some (.ref 0), some (.int (I l1)), some (.int (I l2)), u3, u4, u5, u6, u7, u8] [.int (I 0)] SH S101 r else (if I 20 < I l1 then G sc MX10_toRate 33 [some (.ref 0), some (.int (I l1)), some (.int (I l2)), u3, u4, u5, u6, u7, u8] [.int (I 0)] SH S101 r else G sc MX10_toRate 33 [some (.ref 0), some (.int (I l1)), some (.int (I l2)), u3, u4, u5, u6, u7, u8] [.int (I 1)] SH S101 r))) ∨ (∃ e SH1 S1, G sc MX10_mustBe 0 [some (.int (I 1))] [] SH S (rX e SH1 S1) ∧ r = rX e SH1 S1)) else (if I l2 = I 1 then ((∃ S103, G sc MX10_mustBe 0 [some (.int (I 1))] [] SH S (rV SH S103) ∧ (if I l1 < I 1 then G sc MX10_toRate 33 [some (.ref 0), some (.int (I l1)), some (.int (I l2)), u3, u4, u5, u6, u7, u8] [.int (I 0)] SH S103 r else (if I 20 < I l1 then G sc MX10_toRate 33 [some (.ref 0), some (.int (I l1)), some (.int (I l2)), u3, u4, u5, u6, u7, u8] [.int (I 0)] SH S103 r else G sc MX10_toRate 33 [some (.ref 0), some (.int (I l1)), some (.int (I l2)), u3, u4, u5, u6, u7, u8] [.int (I 1)] SH S103 r))) ∨ (∃ e SH1 S1, G sc MX10_mustBe 0 [some (.int (I 1))] [] SH S (rX e SH1 S1) ∧ r = rX e SH1 S1)) else ((∃ S102, G sc MX10_mustBe 0 [some (.int (I 0))] [] SH S (rV SH S102) ∧ (if I l1 < I 1 then G sc MX10_toRate 33 [some (.ref 0), some (.int (I l1)), some (.int (I l2)), u3, u4, u5, u6, u7, u8] [.int (I 0)] SH S102 r else (if I 20 < I l1 then G sc MX10_toRate 33 [some (.ref 0), some (.int (I l1)), some (.int (I l2)), u3, u4, u5, u6, u7, u8] [.int (I 0)] SH S102 r else G sc MX10_toRate 33 [some (.ref 0), some (.int (I l1)), some (.int (I l2)), u3, u4, u5, u6, u7, u8] [.int (I 1)] SH S102 r))) ∨ (∃ e SH1 S1, G sc MX10_mustBe 0 [some (.int (I 0))] [] SH S (rX e SH1 S1) ∧ r = rX e SH1 S1))))) → G sc MX10_toRate 0 [some (.ref 0), some (.int (I l1)), some (.int (I l2)), u3, u4, u5, u6, u7, u8] [] SH S r := by
  refine t_ld (pc := 0) dX10_toRate_0 rfl rfl rfl rfl rfl ?_
  refine t_if_eq (pc := 1) 9 dX10_toRate_1 rfl ?_ ?_
  · refine t_iconst (pc := 9) dX10_toRate_9 ?_
    refine t_goto (pc := 10) 14 dX10_toRate_10 rfl ?_
    refine t_scV (pc := 14) dX10_toRate_14 rfl [] rfl rfl ⟨rfl, by decide, Nat.le_of_ble_eq_true rfl⟩ rfl fun S101 => ?_
    refine t_ld (pc := 17) dX10_toRate_17 rfl rfl rfl rfl rfl ?_
    refine t_iconst (pc := 18) dX10_toRate_18 ?_
    refine t_ic_lt (pc := 19) 32 dX10_toRate_19 rfl ?_ ?_
    · refine t_iconst (pc := 32) dX10_toRate_32 ?_
      exact id
    · refine t_ld (pc := 22) dX10_toRate_22 rfl rfl rfl rfl rfl ?_
      refine t_bipush (pc := 23) dX10_toRate_23 (by decide) ?_
      refine t_ic_gt (pc := 25) 32 dX10_toRate_25 rfl ?_ ?_
      · refine t_iconst (pc := 32) dX10_toRate_32 ?_
        exact id
      · refine t_iconst (pc := 28) dX10_toRate_28 ?_
        refine t_goto (pc := 29) 33 dX10_toRate_29 rfl ?_
        exact id
  · refine t_ld (pc := 4) dX10_toRate_4 rfl rfl rfl rfl rfl ?_
    refine t_iconst (pc := 5) dX10_toRate_5 ?_
    refine t_ic_ne (pc := 6) 13 dX10_toRate_6 rfl ?_ ?_
    · refine t_iconst (pc := 13) dX10_toRate_13 ?_
      refine t_scV (pc := 14) dX10_toRate_14 rfl [] rfl rfl ⟨rfl, by decide, Nat.le_of_ble_eq_true rfl⟩ rfl fun S102 => ?_
      refine t_ld (pc := 17) dX10_toRate_17 rfl rfl rfl rfl rfl ?_
      refine t_iconst (pc := 18) dX10_toRate_18 ?_
      refine t_ic_lt (pc := 19) 32 dX10_toRate_19 rfl ?_ ?_
      · refine t_iconst (pc := 32) dX10_toRate_32 ?_
        exact id
      · refine t_ld (pc := 22) dX10_toRate_22 rfl rfl rfl rfl rfl ?_
        refine t_bipush (pc := 23) dX10_toRate_23 (by decide) ?_
        refine t_ic_gt (pc := 25) 32 dX10_toRate_25 rfl ?_ ?_
        · refine t_iconst (pc := 32) dX10_toRate_32 ?_
          exact id
        · refine t_iconst (pc := 28) dX10_toRate_28 ?_
          refine t_goto (pc := 29) 33 dX10_toRate_29 rfl ?_
          exact id
    · refine t_iconst (pc := 9) dX10_toRate_9 ?_
      refine t_goto (pc := 10) 14 dX10_toRate_10 rfl ?_
      refine t_scV (pc := 14) dX10_toRate_14 rfl [] rfl rfl ⟨rfl, by decide, Nat.le_of_ble_eq_true rfl⟩ rfl fun S103 => ?_
      refine t_ld (pc := 17) dX10_toRate_17 rfl rfl rfl rfl rfl ?_
      refine t_iconst (pc := 18) dX10_toRate_18 ?_
      refine t_ic_lt (pc := 19) 32 dX10_toRate_19 rfl ?_ ?_
      · refine t_iconst (pc := 32) dX10_toRate_32 ?_
        exact id
      · refine t_ld (pc := 22) dX10_toRate_22 rfl rfl rfl rfl rfl ?_
        refine t_bipush (pc := 23) dX10_toRate_23 (by decide) ?_
        refine t_ic_gt (pc := 25) 32 dX10_toRate_25 rfl ?_ ?_
        · refine t_iconst (pc := 32) dX10_toRate_32 ?_
          exact id
        · refine t_iconst (pc := 28) dX10_toRate_28 ?_
          refine t_goto (pc := 29) 33 dX10_toRate_29 rfl ?_
          exact id
theorem qX10_toRate_33 {sc : Nat × (Nat → Int32)} {SH : List mCell} {S : mStore} {r : mR × mW} (h0 : sGP SH) {l1 : Int} {l2 : Int} {u3 : Option Value} {u4 : Option Value} {u5 : Option Value} {u6 : Option Value} {u7 : Option Value} {u8 : Option Value} {s0 : Int} : (((∃ S101, G sc MX10_mustFit 0 [some (.int (I s0))] [] SH S (rV SH S101) ∧ G sc MX10_toRate 53 [some (.ref 0), some (.int (I l1)), some (.int (I l2)), some (.int (I (-1))), some (.int (I (-1))), some (.int (I (-1))), some (.int (I (S101 1 2))), u7, u8] [] SH S101 r) ∨ (∃ e SH1 S1, G sc MX10_mustFit 0 [some (.int (I s0))] [] SH S (rX e SH1 S1) ∧ r = rX e SH1 S1))) → G sc MX10_toRate 33 [some (.ref 0), some (.int (I l1)), some (.int (I l2)), u3, u4, u5, u6, u7, u8] [.int (I s0)] SH S r := by
  refine t_scV (pc := 33) dX10_toRate_33 rfl [] rfl rfl ⟨rfl, by decide, Nat.le_of_ble_eq_true rfl⟩ rfl fun S101 => ?_
  refine t_iconst (pc := 36) dX10_toRate_36 ?_
  refine t_st (pc := 37) [some (.ref 0), some (.int (I l1)), some (.int (I l2)), some (.int (I (-1))), u4, u5, u6, u7, u8] dX10_toRate_37 rfl rfl rfl rfl rfl rfl ?_
  refine t_iconst (pc := 38) dX10_toRate_38 ?_
  refine t_st (pc := 39) [some (.ref 0), some (.int (I l1)), some (.int (I l2)), some (.int (I (-1))), some (.int (I (-1))), u5, u6, u7, u8] dX10_toRate_39 rfl rfl rfl rfl rfl rfl ?_
  refine t_iconst (pc := 41) dX10_toRate_41 ?_
  refine t_st (pc := 42) [some (.ref 0), some (.int (I l1)), some (.int (I l2)), some (.int (I (-1))), some (.int (I (-1))), some (.int (I (-1))), u6, u7, u8] dX10_toRate_42 rfl rfl rfl rfl rfl rfl ?_
  refine t_ld (pc := 44) dX10_toRate_44 rfl rfl rfl rfl rfl ?_
  refine t_getR (pc := 45) dX10_toRate_45 rfl h0.1 rfl ?_
  refine t_getI (pc := 48) dX10_toRate_48 rfl h0.2.2.2.1.2.2.2.2.1.2.2.2.2.2.2.2.2.2.2.2.2.1 rfl ?_
  refine t_st (pc := 51) [some (.ref 0), some (.int (I l1)), some (.int (I l2)), some (.int (I (-1))), some (.int (I (-1))), some (.int (I (-1))), some (.int (I (S101 1 2))), u7, u8] dX10_toRate_51 rfl rfl rfl rfl rfl rfl ?_
  exact id
theorem qX10_toRate_53 {sc : Nat × (Nat → Int32)} {SH : List mCell} {S : mStore} {r : mR × mW} (h0 : sGP SH) {l1 : Int} {l2 : Int} {l3 : Int} {l4 : Int} {l5 : Int} {l6 : Int} {u7 : Option Value} {u8 : Option Value} : ((if I (S 1 3) < I l6 then (if I l2 = I 0 then r = rI l3 SH S else r = rI l4 SH S) else (∃ S101, G sc MX7_become 0 [some (.ref 65), some (.ref 17)] [] SH S (rV SH S101) ∧ ((0 ≤ 0 ∧ 0 < 12) ∧ (∃ v102 S103, G sc MX7_tick 0 [some (.ref 65), some (.int (I l1)), none, none, none, none] [] SH (up S101 (65 + 19) 0 l6) (rI v102 SH S103) ∧ (∃ v104 S105, G sc MX7_used 0 [some (.ref 65), none, none] [] SH S103 (rI v104 SH S105) ∧ ((0 ≤ 3 ∧ 3 < 12) ∧ (if I l3 = I (-1) then G sc MX10_toRate 53 [some (.ref 0), some (.int (I l1)), some (.int (I l2)), some (.int (I l6)), some (.int (I v104)), some (.int (I (S105 (65 + 19) 3))), some (.int (I (l6 + 1))), some (.int (I v104)), some (.int (I (S105 (65 + 19) 3)))] [] SH S105 r else (if I v104 < I l4 then G sc MX10_toRate 53 [some (.ref 0), some (.int (I l1)), some (.int (I l2)), some (.int (I l6)), some (.int (I v104)), some (.int (I (S105 (65 + 19) 3))), some (.int (I (l6 + 1))), some (.int (I v104)), some (.int (I (S105 (65 + 19) 3)))] [] SH S105 r else (if I v104 = I l4 then (if I l5 ≤ I (S105 (65 + 19) 3) then G sc MX10_toRate 53 [some (.ref 0), some (.int (I l1)), some (.int (I l2)), some (.int (I l3)), some (.int (I l4)), some (.int (I l5)), some (.int (I (l6 + 1))), some (.int (I v104)), some (.int (I (S105 (65 + 19) 3)))] [] SH S105 r else G sc MX10_toRate 53 [some (.ref 0), some (.int (I l1)), some (.int (I l2)), some (.int (I l6)), some (.int (I v104)), some (.int (I (S105 (65 + 19) 3))), some (.int (I (l6 + 1))), some (.int (I v104)), some (.int (I (S105 (65 + 19) 3)))] [] SH S105 r) else G sc MX10_toRate 53 [some (.ref 0), some (.int (I l1)), some (.int (I l2)), some (.int (I l3)), some (.int (I l4)), some (.int (I l5)), some (.int (I (l6 + 1))), some (.int (I v104)), some (.int (I (S105 (65 + 19) 3)))] [] SH S105 r)))))))))) → G sc MX10_toRate 53 [some (.ref 0), some (.int (I l1)), some (.int (I l2)), some (.int (I l3)), some (.int (I l4)), some (.int (I l5)), some (.int (I l6)), u7, u8] [] SH S r := by
  refine t_ld (pc := 53) dX10_toRate_53 rfl rfl rfl rfl rfl ?_
  refine t_ld (pc := 55) dX10_toRate_55 rfl rfl rfl rfl rfl ?_
  refine t_getR (pc := 56) dX10_toRate_56 rfl h0.1 rfl ?_
  refine t_getI (pc := 59) dX10_toRate_59 rfl h0.2.2.2.1.2.2.2.2.1.2.2.2.2.2.2.2.2.2.2.2.2.1 rfl ?_
  refine t_ic_gt (pc := 62) 162 dX10_toRate_62 rfl ?_ ?_
  · refine t_ld (pc := 162) dX10_toRate_162 rfl rfl rfl rfl rfl ?_
    refine t_if_ne (pc := 163) 170 dX10_toRate_163 rfl ?_ ?_
    · refine t_ld (pc := 170) dX10_toRate_170 rfl rfl rfl rfl rfl ?_
      exact t_iret (pc := 172) dX10_toRate_172 rfl
    · refine t_ld (pc := 166) dX10_toRate_166 rfl rfl rfl rfl rfl ?_
      refine t_goto (pc := 167) 172 dX10_toRate_167 rfl ?_
      exact t_iret (pc := 172) dX10_toRate_172 rfl
  · refine t_ld (pc := 65) dX10_toRate_65 rfl rfl rfl rfl rfl ?_
    refine t_getR (pc := 66) dX10_toRate_66 rfl h0.1 rfl ?_
    refine t_ld (pc := 69) dX10_toRate_69 rfl rfl rfl rfl rfl ?_
    refine t_getR (pc := 70) dX10_toRate_70 rfl h0.1 rfl ?_
    refine t_getR (pc := 73) dX10_toRate_73 rfl h0.2.2.2.1.1 rfl ?_
    refine t_vcVN (pc := 76) dX10_toRate_76 rfl rfl [] rfl rfl ⟨rfl, by decide, Nat.le_of_ble_eq_true rfl⟩ h0.2.2.2.2.2.1.1 fun S101 => ?_
    refine t_ld (pc := 79) dX10_toRate_79 rfl rfl rfl rfl rfl ?_
    refine t_getR (pc := 80) dX10_toRate_80 rfl h0.1 rfl ?_
    refine t_getR (pc := 83) dX10_toRate_83 rfl h0.2.2.2.2.2.1.1 rfl ?_
    refine t_iconst (pc := 86) dX10_toRate_86 ?_
    refine t_ld (pc := 87) dX10_toRate_87 rfl rfl rfl rfl rfl ?_
    refine t_iastore (pc := 89) dX10_toRate_89 h0.2.2.2.2.2.1.2.2.2.2.2.2.2.2.2.2.2.1 ?_
    refine t_ld (pc := 90) dX10_toRate_90 rfl rfl rfl rfl rfl ?_
    refine t_getR (pc := 91) dX10_toRate_91 rfl h0.1 rfl ?_
    refine t_ld (pc := 94) dX10_toRate_94 rfl rfl rfl rfl rfl ?_
    refine t_vcIN (pc := 95) dX10_toRate_95 rfl rfl [] rfl rfl ⟨rfl, by decide, Nat.le_of_ble_eq_true rfl⟩ h0.2.2.2.2.2.1.1 fun v102 S103 => ?_
    refine t_pop (pc := 98) dX10_toRate_98 rfl ?_
    refine t_ld (pc := 99) dX10_toRate_99 rfl rfl rfl rfl rfl ?_
    refine t_getR (pc := 100) dX10_toRate_100 rfl h0.1 rfl ?_
    refine t_vcIN (pc := 103) dX10_toRate_103 rfl rfl [] rfl rfl ⟨rfl, by decide, Nat.le_of_ble_eq_true rfl⟩ h0.2.2.2.2.2.1.1 fun v104 S105 => ?_
    refine t_st (pc := 106) [some (.ref 0), some (.int (I l1)), some (.int (I l2)), some (.int (I l3)), some (.int (I l4)), some (.int (I l5)), some (.int (I l6)), some (.int (I v104)), u8] dX10_toRate_106 rfl rfl rfl rfl rfl rfl ?_
    refine t_ld (pc := 108) dX10_toRate_108 rfl rfl rfl rfl rfl ?_
    refine t_getR (pc := 109) dX10_toRate_109 rfl h0.1 rfl ?_
    refine t_getR (pc := 112) dX10_toRate_112 rfl h0.2.2.2.2.2.1.1 rfl ?_
    refine t_iconst (pc := 115) dX10_toRate_115 ?_
    refine t_iaload (pc := 116) dX10_toRate_116 h0.2.2.2.2.2.1.2.2.2.2.2.2.2.2.2.2.2.1 ?_
    refine t_st (pc := 117) [some (.ref 0), some (.int (I l1)), some (.int (I l2)), some (.int (I l3)), some (.int (I l4)), some (.int (I l5)), some (.int (I l6)), some (.int (I v104)), some (.int (I (S105 (65 + 19) 3)))] dX10_toRate_117 rfl rfl rfl rfl rfl rfl ?_
    refine t_ld (pc := 119) dX10_toRate_119 rfl rfl rfl rfl rfl ?_
    refine t_iconst (pc := 120) dX10_toRate_120 ?_
    refine t_ic_eq (pc := 121) 145 dX10_toRate_121 rfl ?_ ?_
    · refine t_ld (pc := 145) dX10_toRate_145 rfl rfl rfl rfl rfl ?_
      refine t_st (pc := 147) [some (.ref 0), some (.int (I l1)), some (.int (I l2)), some (.int (I l6)), some (.int (I l4)), some (.int (I l5)), some (.int (I l6)), some (.int (I v104)), some (.int (I (S105 (65 + 19) 3)))] dX10_toRate_147 rfl rfl rfl rfl rfl rfl ?_
      refine t_ld (pc := 148) dX10_toRate_148 rfl rfl rfl rfl rfl ?_
      refine t_st (pc := 150) [some (.ref 0), some (.int (I l1)), some (.int (I l2)), some (.int (I l6)), some (.int (I v104)), some (.int (I l5)), some (.int (I l6)), some (.int (I v104)), some (.int (I (S105 (65 + 19) 3)))] dX10_toRate_150 rfl rfl rfl rfl rfl rfl ?_
      refine t_ld (pc := 152) dX10_toRate_152 rfl rfl rfl rfl rfl ?_
      refine t_st (pc := 154) [some (.ref 0), some (.int (I l1)), some (.int (I l2)), some (.int (I l6)), some (.int (I v104)), some (.int (I (S105 (65 + 19) 3))), some (.int (I l6)), some (.int (I v104)), some (.int (I (S105 (65 + 19) 3)))] dX10_toRate_154 rfl rfl rfl rfl rfl rfl ?_
      refine t_iinc (pc := 156) [some (.ref 0), some (.int (I l1)), some (.int (I l2)), some (.int (I l6)), some (.int (I v104)), some (.int (I (S105 (65 + 19) 3))), some (.int (I (l6 + 1))), some (.int (I v104)), some (.int (I (S105 (65 + 19) 3)))] dX10_toRate_156 rfl rfl ?_
      refine t_goto (pc := 159) 53 dX10_toRate_159 rfl ?_
      exact id
    · refine t_ld (pc := 124) dX10_toRate_124 rfl rfl rfl rfl rfl ?_
      refine t_ld (pc := 126) dX10_toRate_126 rfl rfl rfl rfl rfl ?_
      refine t_ic_lt (pc := 128) 145 dX10_toRate_128 rfl ?_ ?_
      · refine t_ld (pc := 145) dX10_toRate_145 rfl rfl rfl rfl rfl ?_
        refine t_st (pc := 147) [some (.ref 0), some (.int (I l1)), some (.int (I l2)), some (.int (I l6)), some (.int (I l4)), some (.int (I l5)), some (.int (I l6)), some (.int (I v104)), some (.int (I (S105 (65 + 19) 3)))] dX10_toRate_147 rfl rfl rfl rfl rfl rfl ?_
        refine t_ld (pc := 148) dX10_toRate_148 rfl rfl rfl rfl rfl ?_
        refine t_st (pc := 150) [some (.ref 0), some (.int (I l1)), some (.int (I l2)), some (.int (I l6)), some (.int (I v104)), some (.int (I l5)), some (.int (I l6)), some (.int (I v104)), some (.int (I (S105 (65 + 19) 3)))] dX10_toRate_150 rfl rfl rfl rfl rfl rfl ?_
        refine t_ld (pc := 152) dX10_toRate_152 rfl rfl rfl rfl rfl ?_
        refine t_st (pc := 154) [some (.ref 0), some (.int (I l1)), some (.int (I l2)), some (.int (I l6)), some (.int (I v104)), some (.int (I (S105 (65 + 19) 3))), some (.int (I l6)), some (.int (I v104)), some (.int (I (S105 (65 + 19) 3)))] dX10_toRate_154 rfl rfl rfl rfl rfl rfl ?_
        refine t_iinc (pc := 156) [some (.ref 0), some (.int (I l1)), some (.int (I l2)), some (.int (I l6)), some (.int (I v104)), some (.int (I (S105 (65 + 19) 3))), some (.int (I (l6 + 1))), some (.int (I v104)), some (.int (I (S105 (65 + 19) 3)))] dX10_toRate_156 rfl rfl ?_
        refine t_goto (pc := 159) 53 dX10_toRate_159 rfl ?_
        exact id
      · refine t_ld (pc := 131) dX10_toRate_131 rfl rfl rfl rfl rfl ?_
        refine t_ld (pc := 133) dX10_toRate_133 rfl rfl rfl rfl rfl ?_
        refine t_ic_ne (pc := 135) 156 dX10_toRate_135 rfl ?_ ?_
        · refine t_iinc (pc := 156) [some (.ref 0), some (.int (I l1)), some (.int (I l2)), some (.int (I l3)), some (.int (I l4)), some (.int (I l5)), some (.int (I (l6 + 1))), some (.int (I v104)), some (.int (I (S105 (65 + 19) 3)))] dX10_toRate_156 rfl rfl ?_
          refine t_goto (pc := 159) 53 dX10_toRate_159 rfl ?_
          exact id
        · refine t_ld (pc := 138) dX10_toRate_138 rfl rfl rfl rfl rfl ?_
          refine t_ld (pc := 140) dX10_toRate_140 rfl rfl rfl rfl rfl ?_
          refine t_ic_ge (pc := 142) 156 dX10_toRate_142 rfl ?_ ?_
          · refine t_iinc (pc := 156) [some (.ref 0), some (.int (I l1)), some (.int (I l2)), some (.int (I l3)), some (.int (I l4)), some (.int (I l5)), some (.int (I (l6 + 1))), some (.int (I v104)), some (.int (I (S105 (65 + 19) 3)))] dX10_toRate_156 rfl rfl ?_
            refine t_goto (pc := 159) 53 dX10_toRate_159 rfl ?_
            exact id
          · refine t_ld (pc := 145) dX10_toRate_145 rfl rfl rfl rfl rfl ?_
            refine t_st (pc := 147) [some (.ref 0), some (.int (I l1)), some (.int (I l2)), some (.int (I l6)), some (.int (I l4)), some (.int (I l5)), some (.int (I l6)), some (.int (I v104)), some (.int (I (S105 (65 + 19) 3)))] dX10_toRate_147 rfl rfl rfl rfl rfl rfl ?_
            refine t_ld (pc := 148) dX10_toRate_148 rfl rfl rfl rfl rfl ?_
            refine t_st (pc := 150) [some (.ref 0), some (.int (I l1)), some (.int (I l2)), some (.int (I l6)), some (.int (I v104)), some (.int (I l5)), some (.int (I l6)), some (.int (I v104)), some (.int (I (S105 (65 + 19) 3)))] dX10_toRate_150 rfl rfl rfl rfl rfl rfl ?_
            refine t_ld (pc := 152) dX10_toRate_152 rfl rfl rfl rfl rfl ?_
            refine t_st (pc := 154) [some (.ref 0), some (.int (I l1)), some (.int (I l2)), some (.int (I l6)), some (.int (I v104)), some (.int (I (S105 (65 + 19) 3))), some (.int (I l6)), some (.int (I v104)), some (.int (I (S105 (65 + 19) 3)))] dX10_toRate_154 rfl rfl rfl rfl rfl rfl ?_
            refine t_iinc (pc := 156) [some (.ref 0), some (.int (I l1)), some (.int (I l2)), some (.int (I l6)), some (.int (I v104)), some (.int (I (S105 (65 + 19) 3))), some (.int (I (l6 + 1))), some (.int (I v104)), some (.int (I (S105 (65 + 19) 3)))] dX10_toRate_156 rfl rfl ?_
            refine t_goto (pc := 159) 53 dX10_toRate_159 rfl ?_
            exact id
theorem qX10_note_0 {sc : Nat × (Nat → Int32)} {SH : List mCell} {S : mStore} {r : mR × mW} (h0 : sGP SH) {l1 : Int} {l2 : Int} : ((if I 8 ≤ I (S 13 5) then ((0 ≤ 2 ∧ 2 < 3) ∧ ((0 ≤ 2 ∧ 2 < 3) ∧ r = rI (-1) SH (up S 16 2 ((S 16 2) + 1)))) else (if I l1 < I 0 then ((0 ≤ 2 ∧ 2 < 3) ∧ ((0 ≤ 2 ∧ 2 < 3) ∧ r = rI (-1) SH (up S 16 2 ((S 16 2) + 1)))) else (if I 20 < I l1 then ((0 ≤ 2 ∧ 2 < 3) ∧ ((0 ≤ 2 ∧ 2 < 3) ∧ r = rI (-1) SH (up S 16 2 ((S 16 2) + 1)))) else (if I l2 < I 0 then ((0 ≤ 2 ∧ 2 < 3) ∧ ((0 ≤ 2 ∧ 2 < 3) ∧ r = rI (-1) SH (up S 16 2 ((S 16 2) + 1)))) else (if I l2 ≤ I 48 then ((0 ≤ S 13 5 ∧ S 13 5 < 8) ∧ ((0 ≤ (up S 14 (S 13 5) l1) 13 5 ∧ (up S 14 (S 13 5) l1) 13 5 < 8) ∧ r = rI ((up (up (up S 14 (S 13 5) l1) 15 ((up S 14 (S 13 5) l1) 13 5) l2) 13 5 (((up (up S 14 (S 13 5) l1) 15 ((up S 14 (S 13 5) l1) 13 5) l2) 13 5) + 1)) 13 5) SH (up (up (up S 14 (S 13 5) l1) 15 ((up S 14 (S 13 5) l1) 13 5) l2) 13 5 (((up (up S 14 (S 13 5) l1) 15 ((up S 14 (S 13 5) l1) 13 5) l2) 13 5) + 1)))) else ((0 ≤ 2 ∧ 2 < 3) ∧ ((0 ≤ 2 ∧ 2 < 3) ∧ r = rI (-1) SH (up S 16 2 ((S 16 2) + 1)))))))))) → G sc MX10_note 0 [some (.ref 0), some (.int (I l1)), some (.int (I l2))] [] SH S r := by
  refine t_ld (pc := 0) dX10_note_0 rfl rfl rfl rfl rfl ?_
  refine t_getR (pc := 1) dX10_note_1 rfl h0.1 rfl ?_
  refine t_getI (pc := 4) dX10_note_4 rfl h0.2.2.2.1.1 rfl ?_
  refine t_bipush (pc := 7) dX10_note_7 (by decide) ?_
  refine t_ic_ge (pc := 9) 32 dX10_note_9 rfl ?_ ?_
  · refine t_ld (pc := 32) dX10_note_32 rfl rfl rfl rfl rfl ?_
    refine t_getR (pc := 33) dX10_note_33 rfl h0.1 rfl ?_
    refine t_getR (pc := 36) dX10_note_36 rfl h0.2.2.2.1.1 rfl ?_
    refine t_iconst (pc := 39) dX10_note_39 ?_
    refine t_dup2 (pc := 40) dX10_note_40 rfl rfl ?_
    refine t_iaload (pc := 41) dX10_note_41 h0.2.2.2.1.2.2.2.1 ?_
    refine t_iconst (pc := 42) dX10_note_42 ?_
    refine t_iadd (pc := 43) dX10_note_43 ?_
    refine t_iastore (pc := 44) dX10_note_44 h0.2.2.2.1.2.2.2.1 ?_
    refine t_iconst (pc := 45) dX10_note_45 ?_
    exact t_iret (pc := 46) dX10_note_46 rfl
  · refine t_ld (pc := 12) dX10_note_12 rfl rfl rfl rfl rfl ?_
    refine t_if_lt (pc := 13) 32 dX10_note_13 rfl ?_ ?_
    · refine t_ld (pc := 32) dX10_note_32 rfl rfl rfl rfl rfl ?_
      refine t_getR (pc := 33) dX10_note_33 rfl h0.1 rfl ?_
      refine t_getR (pc := 36) dX10_note_36 rfl h0.2.2.2.1.1 rfl ?_
      refine t_iconst (pc := 39) dX10_note_39 ?_
      refine t_dup2 (pc := 40) dX10_note_40 rfl rfl ?_
      refine t_iaload (pc := 41) dX10_note_41 h0.2.2.2.1.2.2.2.1 ?_
      refine t_iconst (pc := 42) dX10_note_42 ?_
      refine t_iadd (pc := 43) dX10_note_43 ?_
      refine t_iastore (pc := 44) dX10_note_44 h0.2.2.2.1.2.2.2.1 ?_
      refine t_iconst (pc := 45) dX10_note_45 ?_
      exact t_iret (pc := 46) dX10_note_46 rfl
    · refine t_ld (pc := 16) dX10_note_16 rfl rfl rfl rfl rfl ?_
      refine t_bipush (pc := 17) dX10_note_17 (by decide) ?_
      refine t_ic_gt (pc := 19) 32 dX10_note_19 rfl ?_ ?_
      · refine t_ld (pc := 32) dX10_note_32 rfl rfl rfl rfl rfl ?_
        refine t_getR (pc := 33) dX10_note_33 rfl h0.1 rfl ?_
        refine t_getR (pc := 36) dX10_note_36 rfl h0.2.2.2.1.1 rfl ?_
        refine t_iconst (pc := 39) dX10_note_39 ?_
        refine t_dup2 (pc := 40) dX10_note_40 rfl rfl ?_
        refine t_iaload (pc := 41) dX10_note_41 h0.2.2.2.1.2.2.2.1 ?_
        refine t_iconst (pc := 42) dX10_note_42 ?_
        refine t_iadd (pc := 43) dX10_note_43 ?_
        refine t_iastore (pc := 44) dX10_note_44 h0.2.2.2.1.2.2.2.1 ?_
        refine t_iconst (pc := 45) dX10_note_45 ?_
        exact t_iret (pc := 46) dX10_note_46 rfl
      · refine t_ld (pc := 22) dX10_note_22 rfl rfl rfl rfl rfl ?_
        refine t_if_lt (pc := 23) 32 dX10_note_23 rfl ?_ ?_
        · refine t_ld (pc := 32) dX10_note_32 rfl rfl rfl rfl rfl ?_
          refine t_getR (pc := 33) dX10_note_33 rfl h0.1 rfl ?_
          refine t_getR (pc := 36) dX10_note_36 rfl h0.2.2.2.1.1 rfl ?_
          refine t_iconst (pc := 39) dX10_note_39 ?_
          refine t_dup2 (pc := 40) dX10_note_40 rfl rfl ?_
          refine t_iaload (pc := 41) dX10_note_41 h0.2.2.2.1.2.2.2.1 ?_
          refine t_iconst (pc := 42) dX10_note_42 ?_
          refine t_iadd (pc := 43) dX10_note_43 ?_
          refine t_iastore (pc := 44) dX10_note_44 h0.2.2.2.1.2.2.2.1 ?_
          refine t_iconst (pc := 45) dX10_note_45 ?_
          exact t_iret (pc := 46) dX10_note_46 rfl
        · refine t_ld (pc := 26) dX10_note_26 rfl rfl rfl rfl rfl ?_
          refine t_bipush (pc := 27) dX10_note_27 (by decide) ?_
          refine t_ic_le (pc := 29) 47 dX10_note_29 rfl ?_ ?_
          · refine t_ld (pc := 47) dX10_note_47 rfl rfl rfl rfl rfl ?_
            refine t_getR (pc := 48) dX10_note_48 rfl h0.1 rfl ?_
            refine t_getR (pc := 51) dX10_note_51 rfl h0.2.2.2.1.1 rfl ?_
            refine t_ld (pc := 54) dX10_note_54 rfl rfl rfl rfl rfl ?_
            refine t_getR (pc := 55) dX10_note_55 rfl h0.1 rfl ?_
            refine t_getI (pc := 58) dX10_note_58 rfl h0.2.2.2.1.1 rfl ?_
            refine t_ld (pc := 61) dX10_note_61 rfl rfl rfl rfl rfl ?_
            refine t_iastore (pc := 62) dX10_note_62 h0.2.2.2.1.2.1 ?_
            refine t_ld (pc := 63) dX10_note_63 rfl rfl rfl rfl rfl ?_
            refine t_getR (pc := 64) dX10_note_64 rfl h0.1 rfl ?_
            refine t_getR (pc := 67) dX10_note_67 rfl h0.2.2.2.1.1 rfl ?_
            refine t_ld (pc := 70) dX10_note_70 rfl rfl rfl rfl rfl ?_
            refine t_getR (pc := 71) dX10_note_71 rfl h0.1 rfl ?_
            refine t_getI (pc := 74) dX10_note_74 rfl h0.2.2.2.1.1 rfl ?_
            refine t_ld (pc := 77) dX10_note_77 rfl rfl rfl rfl rfl ?_
            refine t_iastore (pc := 78) dX10_note_78 h0.2.2.2.1.2.2.1 ?_
            refine t_ld (pc := 79) dX10_note_79 rfl rfl rfl rfl rfl ?_
            refine t_getR (pc := 80) dX10_note_80 rfl h0.1 rfl ?_
            refine t_dup (pc := 83) dX10_note_83 rfl ?_
            refine t_getI (pc := 84) dX10_note_84 rfl h0.2.2.2.1.1 rfl ?_
            refine t_iconst (pc := 87) dX10_note_87 ?_
            refine t_iadd (pc := 88) dX10_note_88 ?_
            refine t_putI (pc := 89) dX10_note_89 rfl rfl (Or.inl rfl) h0.2.2.2.1.1 rfl ?_
            refine t_ld (pc := 92) dX10_note_92 rfl rfl rfl rfl rfl ?_
            refine t_getR (pc := 93) dX10_note_93 rfl h0.1 rfl ?_
            refine t_getI (pc := 96) dX10_note_96 rfl h0.2.2.2.1.1 rfl ?_
            exact t_iret (pc := 99) dX10_note_99 rfl
          · refine t_ld (pc := 32) dX10_note_32 rfl rfl rfl rfl rfl ?_
            refine t_getR (pc := 33) dX10_note_33 rfl h0.1 rfl ?_
            refine t_getR (pc := 36) dX10_note_36 rfl h0.2.2.2.1.1 rfl ?_
            refine t_iconst (pc := 39) dX10_note_39 ?_
            refine t_dup2 (pc := 40) dX10_note_40 rfl rfl ?_
            refine t_iaload (pc := 41) dX10_note_41 h0.2.2.2.1.2.2.2.1 ?_
            refine t_iconst (pc := 42) dX10_note_42 ?_
            refine t_iadd (pc := 43) dX10_note_43 ?_
            refine t_iastore (pc := 44) dX10_note_44 h0.2.2.2.1.2.2.2.1 ?_
            refine t_iconst (pc := 45) dX10_note_45 ?_
            exact t_iret (pc := 46) dX10_note_46 rfl
