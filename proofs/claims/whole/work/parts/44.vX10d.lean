-- needs: 43.tshape
/-! ===== the program as conditions (gen_vc.py) ===== -/
theorem qX10_forget_0 {sc : Nat × (Nat → Int32)} {SH : List mCell} {S : mStore} {r : mR × mW} (h0 : sGP SH) : (r = rV SH (up S 13 5 0)) → G sc MX10_forget 0 [some (.ref 0)] [] SH S r := by
  refine tt_ld (M := MX10_forget) (pc := 0) dX10_forget_0 rfl rfl rfl rfl rfl ?_
  refine tt_getR (M := MX10_forget) (pc := 1) dX10_forget_1 rfl h0.1 rfl ?_
  refine tt_iconst (M := MX10_forget) (pc := 4) dX10_forget_4 ?_
  refine tt_putI (M := MX10_forget) (pc := 5) dX10_forget_5 rfl rfl (Or.inl rfl) h0.2.2.2.1.1 rfl ?_
  exact tt_ret (M := MX10_forget) (pc := 8) dX10_forget_8 rfl
theorem qX10_dirt_0 {sc : Nat × (Nat → Int32)} {SH : List mCell} {S : mStore} {r : mR × mW} (h0 : sGP SH) {l1 : Int} {l2 : Int} {l3 : Int} {l4 : Int} {l5 : Int} {u6 : Option Value} {u7 : Option Value} {u8 : Option Value} {u9 : Option Value} {u10 : Option Value} : (((∃ v101 S102, G sc MX10_placeOf 0 [some (.ref 0), some (.int (I l1)), some (.int (I l2)), none] [] SH S (rI v101 SH S102) ∧ (if I l3 < I 1 then ((∃ S103, G sc MX10_mustFit 0 [some (.int (I 0))] [] SH S102 (rV SH S103) ∧ G sc MX10_dirt 44 [some (.ref 0), some (.int (I l1)), some (.int (I l2)), some (.int (I l3)), some (.int (I l4)), some (.int (I l5)), some (.int (I v101)), some (.int (I 0)), some (.int (I 0)), u9, u10] [] SH S103 r) ∨ (∃ e SH1 S1, G sc MX10_mustFit 0 [some (.int (I 0))] [] SH S102 (rX e SH1 S1) ∧ r = rX e SH1 S1)) else (if I 4 < I l3 then ((∃ S104, G sc MX10_mustFit 0 [some (.int (I 0))] [] SH S102 (rV SH S104) ∧ G sc MX10_dirt 44 [some (.ref 0), some (.int (I l1)), some (.int (I l2)), some (.int (I l3)), some (.int (I l4)), some (.int (I l5)), some (.int (I v101)), some (.int (I 0)), some (.int (I 0)), u9, u10] [] SH S104 r) ∨ (∃ e SH1 S1, G sc MX10_mustFit 0 [some (.int (I 0))] [] SH S102 (rX e SH1 S1) ∧ r = rX e SH1 S1)) else (if I l4 < I 0 then ((∃ S105, G sc MX10_mustFit 0 [some (.int (I 0))] [] SH S102 (rV SH S105) ∧ G sc MX10_dirt 44 [some (.ref 0), some (.int (I l1)), some (.int (I l2)), some (.int (I l3)), some (.int (I l4)), some (.int (I l5)), some (.int (I v101)), some (.int (I 0)), some (.int (I 0)), u9, u10] [] SH S105 r) ∨ (∃ e SH1 S1, G sc MX10_mustFit 0 [some (.int (I 0))] [] SH S102 (rX e SH1 S1) ∧ r = rX e SH1 S1)) else (if I 10 < I l4 then ((∃ S106, G sc MX10_mustFit 0 [some (.int (I 0))] [] SH S102 (rV SH S106) ∧ G sc MX10_dirt 44 [some (.ref 0), some (.int (I l1)), some (.int (I l2)), some (.int (I l3)), some (.int (I l4)), some (.int (I l5)), some (.int (I v101)), some (.int (I 0)), some (.int (I 0)), u9, u10] [] SH S106 r) ∨ (∃ e SH1 S1, G sc MX10_mustFit 0 [some (.int (I 0))] [] SH S102 (rX e SH1 S1) ∧ r = rX e SH1 S1)) else ((∃ S107, G sc MX10_mustFit 0 [some (.int (I 1))] [] SH S102 (rV SH S107) ∧ G sc MX10_dirt 44 [some (.ref 0), some (.int (I l1)), some (.int (I l2)), some (.int (I l3)), some (.int (I l4)), some (.int (I l5)), some (.int (I v101)), some (.int (I 0)), some (.int (I 0)), u9, u10] [] SH S107 r) ∨ (∃ e SH1 S1, G sc MX10_mustFit 0 [some (.int (I 1))] [] SH S102 (rX e SH1 S1) ∧ r = rX e SH1 S1))))))) ∨ (∃ e SH1 S1, G sc MX10_placeOf 0 [some (.ref 0), some (.int (I l1)), some (.int (I l2)), none] [] SH S (rX e SH1 S1) ∧ r = rX e SH1 S1))) → G sc MX10_dirt 0 [some (.ref 0), some (.int (I l1)), some (.int (I l2)), some (.int (I l3)), some (.int (I l4)), some (.int (I l5)), u6, u7, u8, u9, u10] [] SH S r := by
  refine tt_ld (M := MX10_dirt) (pc := 0) dX10_dirt_0 rfl rfl rfl rfl rfl ?_
  refine tt_ld (M := MX10_dirt) (pc := 1) dX10_dirt_1 rfl rfl rfl rfl rfl ?_
  refine tt_ld (M := MX10_dirt) (pc := 2) dX10_dirt_2 rfl rfl rfl rfl rfl ?_
  refine tt_vcI (M := MX10_dirt) (pc := 3) dX10_dirt_3 rfl rfl [] rfl rfl ⟨rfl, by decide, Nat.le_of_ble_eq_true rfl⟩ h0.1 rfl fun v101 S102 => ?_
  refine tt_st (M := MX10_dirt) (pc := 6) [some (.ref 0), some (.int (I l1)), some (.int (I l2)), some (.int (I l3)), some (.int (I l4)), some (.int (I l5)), some (.int (I v101)), u7, u8, u9, u10] dX10_dirt_6 rfl rfl rfl rfl rfl rfl ?_
  refine tt_ld (M := MX10_dirt) (pc := 8) dX10_dirt_8 rfl rfl rfl rfl rfl ?_
  refine tt_iconst (M := MX10_dirt) (pc := 9) dX10_dirt_9 ?_
  refine tt_ic_lt (M := MX10_dirt) (pc := 10) 34 dX10_dirt_10 rfl ?_ ?_
  · refine tt_iconst (M := MX10_dirt) (pc := 34) dX10_dirt_34 ?_
    refine tt_scV (M := MX10_dirt) (pc := 35) dX10_dirt_35 rfl [] rfl rfl ⟨rfl, by decide, Nat.le_of_ble_eq_true rfl⟩ rfl fun S103 => ?_
    refine tt_iconst (M := MX10_dirt) (pc := 38) dX10_dirt_38 ?_
    refine tt_st (M := MX10_dirt) (pc := 39) [some (.ref 0), some (.int (I l1)), some (.int (I l2)), some (.int (I l3)), some (.int (I l4)), some (.int (I l5)), some (.int (I v101)), some (.int (I 0)), u8, u9, u10] dX10_dirt_39 rfl rfl rfl rfl rfl rfl ?_
    refine tt_iconst (M := MX10_dirt) (pc := 41) dX10_dirt_41 ?_
    refine tt_st (M := MX10_dirt) (pc := 42) [some (.ref 0), some (.int (I l1)), some (.int (I l2)), some (.int (I l3)), some (.int (I l4)), some (.int (I l5)), some (.int (I v101)), some (.int (I 0)), some (.int (I 0)), u9, u10] dX10_dirt_42 rfl rfl rfl rfl rfl rfl ?_
    exact id
  · refine tt_ld (M := MX10_dirt) (pc := 13) dX10_dirt_13 rfl rfl rfl rfl rfl ?_
    refine tt_iconst (M := MX10_dirt) (pc := 14) dX10_dirt_14 ?_
    refine tt_ic_gt (M := MX10_dirt) (pc := 15) 34 dX10_dirt_15 rfl ?_ ?_
    · refine tt_iconst (M := MX10_dirt) (pc := 34) dX10_dirt_34 ?_
      refine tt_scV (M := MX10_dirt) (pc := 35) dX10_dirt_35 rfl [] rfl rfl ⟨rfl, by decide, Nat.le_of_ble_eq_true rfl⟩ rfl fun S104 => ?_
      refine tt_iconst (M := MX10_dirt) (pc := 38) dX10_dirt_38 ?_
      refine tt_st (M := MX10_dirt) (pc := 39) [some (.ref 0), some (.int (I l1)), some (.int (I l2)), some (.int (I l3)), some (.int (I l4)), some (.int (I l5)), some (.int (I v101)), some (.int (I 0)), u8, u9, u10] dX10_dirt_39 rfl rfl rfl rfl rfl rfl ?_
      refine tt_iconst (M := MX10_dirt) (pc := 41) dX10_dirt_41 ?_
      refine tt_st (M := MX10_dirt) (pc := 42) [some (.ref 0), some (.int (I l1)), some (.int (I l2)), some (.int (I l3)), some (.int (I l4)), some (.int (I l5)), some (.int (I v101)), some (.int (I 0)), some (.int (I 0)), u9, u10] dX10_dirt_42 rfl rfl rfl rfl rfl rfl ?_
      exact id
    · refine tt_ld (M := MX10_dirt) (pc := 18) dX10_dirt_18 rfl rfl rfl rfl rfl ?_
      refine tt_if_lt (M := MX10_dirt) (pc := 20) 34 dX10_dirt_20 rfl ?_ ?_
      · refine tt_iconst (M := MX10_dirt) (pc := 34) dX10_dirt_34 ?_
        refine tt_scV (M := MX10_dirt) (pc := 35) dX10_dirt_35 rfl [] rfl rfl ⟨rfl, by decide, Nat.le_of_ble_eq_true rfl⟩ rfl fun S105 => ?_
        refine tt_iconst (M := MX10_dirt) (pc := 38) dX10_dirt_38 ?_
        refine tt_st (M := MX10_dirt) (pc := 39) [some (.ref 0), some (.int (I l1)), some (.int (I l2)), some (.int (I l3)), some (.int (I l4)), some (.int (I l5)), some (.int (I v101)), some (.int (I 0)), u8, u9, u10] dX10_dirt_39 rfl rfl rfl rfl rfl rfl ?_
        refine tt_iconst (M := MX10_dirt) (pc := 41) dX10_dirt_41 ?_
        refine tt_st (M := MX10_dirt) (pc := 42) [some (.ref 0), some (.int (I l1)), some (.int (I l2)), some (.int (I l3)), some (.int (I l4)), some (.int (I l5)), some (.int (I v101)), some (.int (I 0)), some (.int (I 0)), u9, u10] dX10_dirt_42 rfl rfl rfl rfl rfl rfl ?_
        exact id
      · refine tt_ld (M := MX10_dirt) (pc := 23) dX10_dirt_23 rfl rfl rfl rfl rfl ?_
        refine tt_bipush (M := MX10_dirt) (pc := 25) dX10_dirt_25 (by decide) ?_
        refine tt_ic_gt (M := MX10_dirt) (pc := 27) 34 dX10_dirt_27 rfl ?_ ?_
        · refine tt_iconst (M := MX10_dirt) (pc := 34) dX10_dirt_34 ?_
          refine tt_scV (M := MX10_dirt) (pc := 35) dX10_dirt_35 rfl [] rfl rfl ⟨rfl, by decide, Nat.le_of_ble_eq_true rfl⟩ rfl fun S106 => ?_
          refine tt_iconst (M := MX10_dirt) (pc := 38) dX10_dirt_38 ?_
          refine tt_st (M := MX10_dirt) (pc := 39) [some (.ref 0), some (.int (I l1)), some (.int (I l2)), some (.int (I l3)), some (.int (I l4)), some (.int (I l5)), some (.int (I v101)), some (.int (I 0)), u8, u9, u10] dX10_dirt_39 rfl rfl rfl rfl rfl rfl ?_
          refine tt_iconst (M := MX10_dirt) (pc := 41) dX10_dirt_41 ?_
          refine tt_st (M := MX10_dirt) (pc := 42) [some (.ref 0), some (.int (I l1)), some (.int (I l2)), some (.int (I l3)), some (.int (I l4)), some (.int (I l5)), some (.int (I v101)), some (.int (I 0)), some (.int (I 0)), u9, u10] dX10_dirt_42 rfl rfl rfl rfl rfl rfl ?_
          exact id
        · refine tt_iconst (M := MX10_dirt) (pc := 30) dX10_dirt_30 ?_
          refine tt_goto (M := MX10_dirt) (pc := 31) 35 dX10_dirt_31 rfl ?_
          refine tt_scV (M := MX10_dirt) (pc := 35) dX10_dirt_35 rfl [] rfl rfl ⟨rfl, by decide, Nat.le_of_ble_eq_true rfl⟩ rfl fun S107 => ?_
          refine tt_iconst (M := MX10_dirt) (pc := 38) dX10_dirt_38 ?_
          refine tt_st (M := MX10_dirt) (pc := 39) [some (.ref 0), some (.int (I l1)), some (.int (I l2)), some (.int (I l3)), some (.int (I l4)), some (.int (I l5)), some (.int (I v101)), some (.int (I 0)), u8, u9, u10] dX10_dirt_39 rfl rfl rfl rfl rfl rfl ?_
          refine tt_iconst (M := MX10_dirt) (pc := 41) dX10_dirt_41 ?_
          refine tt_st (M := MX10_dirt) (pc := 42) [some (.ref 0), some (.int (I l1)), some (.int (I l2)), some (.int (I l3)), some (.int (I l4)), some (.int (I l5)), some (.int (I v101)), some (.int (I 0)), some (.int (I 0)), u9, u10] dX10_dirt_42 rfl rfl rfl rfl rfl rfl ?_
          exact id
theorem qX10_dirt_44 {sc : Nat × (Nat → Int32)} {SH : List mCell} {S : mStore} {r : mR × mW} (h0 : sGP SH) {l1 : Int} {l2 : Int} {l3 : Int} {l4 : Int} {l5 : Int} {l6 : Int} {l7 : Int} {l8 : Int} {u9 : Option Value} {u10 : Option Value} : ((if I (isl 1 l3) ≤ I l8 then r = rI l7 SH S else G sc MX10_dirt 58 [some (.ref 0), some (.int (I l1)), some (.int (I l2)), some (.int (I l3)), some (.int (I l4)), some (.int (I l5)), some (.int (I l6)), some (.int (I l7)), some (.int (I l8)), some (.int (I 1)), some (.int (I 0))] [] SH S r)) → G sc MX10_dirt 44 [some (.ref 0), some (.int (I l1)), some (.int (I l2)), some (.int (I l3)), some (.int (I l4)), some (.int (I l5)), some (.int (I l6)), some (.int (I l7)), some (.int (I l8)), u9, u10] [] SH S r := by
  refine tt_ld (M := MX10_dirt) (pc := 44) dX10_dirt_44 rfl rfl rfl rfl rfl ?_
  refine tt_iconst (M := MX10_dirt) (pc := 46) dX10_dirt_46 ?_
  refine tt_ld (M := MX10_dirt) (pc := 47) dX10_dirt_47 rfl rfl rfl rfl rfl ?_
  refine tt_ishl (M := MX10_dirt) (pc := 48) dX10_dirt_48 ?_
  refine tt_ic_ge (M := MX10_dirt) (pc := 49) 128 dX10_dirt_49 rfl ?_ ?_
  · refine tt_ld (M := MX10_dirt) (pc := 128) dX10_dirt_128 rfl rfl rfl rfl rfl ?_
    exact tt_iret (M := MX10_dirt) (pc := 130) dX10_dirt_130 rfl
  · refine tt_iconst (M := MX10_dirt) (pc := 52) dX10_dirt_52 ?_
    refine tt_st (M := MX10_dirt) (pc := 53) [some (.ref 0), some (.int (I l1)), some (.int (I l2)), some (.int (I l3)), some (.int (I l4)), some (.int (I l5)), some (.int (I l6)), some (.int (I l7)), some (.int (I l8)), some (.int (I 1)), u10] dX10_dirt_53 rfl rfl rfl rfl rfl rfl ?_
    refine tt_iconst (M := MX10_dirt) (pc := 55) dX10_dirt_55 ?_
    refine tt_st (M := MX10_dirt) (pc := 56) [some (.ref 0), some (.int (I l1)), some (.int (I l2)), some (.int (I l3)), some (.int (I l4)), some (.int (I l5)), some (.int (I l6)), some (.int (I l7)), some (.int (I l8)), some (.int (I 1)), some (.int (I 0))] dX10_dirt_56 rfl rfl rfl rfl rfl rfl ?_
    exact id
theorem qX10_dirt_58 {sc : Nat × (Nat → Int32)} {SH : List mCell} {S : mStore} {r : mR × mW} (h0 : sGP SH) {l1 : Int} {l2 : Int} {l3 : Int} {l4 : Int} {l5 : Int} {l6 : Int} {l7 : Int} {l8 : Int} {l9 : Int} {l10 : Int} : ((if I l3 ≤ I l10 then (if I l9 ≤ I 0 then G sc MX10_dirt 44 [some (.ref 0), some (.int (I l1)), some (.int (I l2)), some (.int (I l3)), some (.int (I l4)), some (.int (I l5)), some (.int (I l6)), some (.int (I l7)), some (.int (I (l8 + 1))), some (.int (I l9)), some (.int (I l10))] [] SH S r else (∃ v101 S102, G sc MX10_usedBy 0 [some (.ref 0), some (.int (I l6)), some (.int (I l3)), some (.int (I l8)), none] [] SH S (rI v101 SH S102) ∧ (if I l5 < I v101 then G sc MX10_dirt 44 [some (.ref 0), some (.int (I l1)), some (.int (I l2)), some (.int (I l3)), some (.int (I l4)), some (.int (I l5)), some (.int (I l6)), some (.int (I l7)), some (.int (I (l8 + 1))), some (.int (I l9)), some (.int (I l10))] [] SH S102 r else G sc MX10_dirt 44 [some (.ref 0), some (.int (I l1)), some (.int (I l2)), some (.int (I l3)), some (.int (I l4)), some (.int (I l5)), some (.int (I l6)), some (.int (I (l7 + l9))), some (.int (I (l8 + 1))), some (.int (I l9)), some (.int (I l10))] [] SH S102 r))) else (if I (ian (isr l8 l10) 1) = I 1 then G sc MX10_dirt 58 [some (.ref 0), some (.int (I l1)), some (.int (I l2)), some (.int (I l3)), some (.int (I l4)), some (.int (I l5)), some (.int (I l6)), some (.int (I l7)), some (.int (I l8)), some (.int (I (l9 * l4))), some (.int (I (l10 + 1)))] [] SH S r else G sc MX10_dirt 58 [some (.ref 0), some (.int (I l1)), some (.int (I l2)), some (.int (I l3)), some (.int (I l4)), some (.int (I l5)), some (.int (I l6)), some (.int (I l7)), some (.int (I l8)), some (.int (I (l9 * (10 - l4)))), some (.int (I (l10 + 1)))] [] SH S r))) → G sc MX10_dirt 58 [some (.ref 0), some (.int (I l1)), some (.int (I l2)), some (.int (I l3)), some (.int (I l4)), some (.int (I l5)), some (.int (I l6)), some (.int (I l7)), some (.int (I l8)), some (.int (I l9)), some (.int (I l10))] [] SH S r := by
  refine tt_ld (M := MX10_dirt) (pc := 58) dX10_dirt_58 rfl rfl rfl rfl rfl ?_
  refine tt_ld (M := MX10_dirt) (pc := 60) dX10_dirt_60 rfl rfl rfl rfl rfl ?_
  refine tt_ic_ge (M := MX10_dirt) (pc := 61) 96 dX10_dirt_61 rfl ?_ ?_
  · refine tt_ld (M := MX10_dirt) (pc := 96) dX10_dirt_96 rfl rfl rfl rfl rfl ?_
    refine tt_if_le (M := MX10_dirt) (pc := 98) 122 dX10_dirt_98 rfl ?_ ?_
    · refine tt_iinc (M := MX10_dirt) (pc := 122) [some (.ref 0), some (.int (I l1)), some (.int (I l2)), some (.int (I l3)), some (.int (I l4)), some (.int (I l5)), some (.int (I l6)), some (.int (I l7)), some (.int (I (l8 + 1))), some (.int (I l9)), some (.int (I l10))] dX10_dirt_122 rfl rfl ?_
      refine tt_goto (M := MX10_dirt) (pc := 125) 44 dX10_dirt_125 rfl ?_
      exact id
    · refine tt_ld (M := MX10_dirt) (pc := 101) dX10_dirt_101 rfl rfl rfl rfl rfl ?_
      refine tt_ld (M := MX10_dirt) (pc := 102) dX10_dirt_102 rfl rfl rfl rfl rfl ?_
      refine tt_ld (M := MX10_dirt) (pc := 104) dX10_dirt_104 rfl rfl rfl rfl rfl ?_
      refine tt_ld (M := MX10_dirt) (pc := 105) dX10_dirt_105 rfl rfl rfl rfl rfl ?_
      refine tt_vcIN (M := MX10_dirt) (pc := 107) dX10_dirt_107 rfl rfl [] rfl rfl ⟨rfl, by decide, Nat.le_of_ble_eq_true rfl⟩ h0.1 fun v101 S102 => ?_
      refine tt_ld (M := MX10_dirt) (pc := 110) dX10_dirt_110 rfl rfl rfl rfl rfl ?_
      refine tt_ic_gt (M := MX10_dirt) (pc := 112) 122 dX10_dirt_112 rfl ?_ ?_
      · refine tt_iinc (M := MX10_dirt) (pc := 122) [some (.ref 0), some (.int (I l1)), some (.int (I l2)), some (.int (I l3)), some (.int (I l4)), some (.int (I l5)), some (.int (I l6)), some (.int (I l7)), some (.int (I (l8 + 1))), some (.int (I l9)), some (.int (I l10))] dX10_dirt_122 rfl rfl ?_
        refine tt_goto (M := MX10_dirt) (pc := 125) 44 dX10_dirt_125 rfl ?_
        exact id
      · refine tt_ld (M := MX10_dirt) (pc := 115) dX10_dirt_115 rfl rfl rfl rfl rfl ?_
        refine tt_ld (M := MX10_dirt) (pc := 117) dX10_dirt_117 rfl rfl rfl rfl rfl ?_
        refine tt_iadd (M := MX10_dirt) (pc := 119) dX10_dirt_119 ?_
        refine tt_st (M := MX10_dirt) (pc := 120) [some (.ref 0), some (.int (I l1)), some (.int (I l2)), some (.int (I l3)), some (.int (I l4)), some (.int (I l5)), some (.int (I l6)), some (.int (I (l7 + l9))), some (.int (I l8)), some (.int (I l9)), some (.int (I l10))] dX10_dirt_120 rfl rfl rfl rfl rfl rfl ?_
        refine tt_iinc (M := MX10_dirt) (pc := 122) [some (.ref 0), some (.int (I l1)), some (.int (I l2)), some (.int (I l3)), some (.int (I l4)), some (.int (I l5)), some (.int (I l6)), some (.int (I (l7 + l9))), some (.int (I (l8 + 1))), some (.int (I l9)), some (.int (I l10))] dX10_dirt_122 rfl rfl ?_
        refine tt_goto (M := MX10_dirt) (pc := 125) 44 dX10_dirt_125 rfl ?_
        exact id
  · refine tt_ld (M := MX10_dirt) (pc := 64) dX10_dirt_64 rfl rfl rfl rfl rfl ?_
    refine tt_ld (M := MX10_dirt) (pc := 66) dX10_dirt_66 rfl rfl rfl rfl rfl ?_
    refine tt_ld (M := MX10_dirt) (pc := 68) dX10_dirt_68 rfl rfl rfl rfl rfl ?_
    refine tt_ishr (M := MX10_dirt) (pc := 70) dX10_dirt_70 ?_
    refine tt_iconst (M := MX10_dirt) (pc := 71) dX10_dirt_71 ?_
    refine tt_iand (M := MX10_dirt) (pc := 72) dX10_dirt_72 ?_
    refine tt_iconst (M := MX10_dirt) (pc := 73) dX10_dirt_73 ?_
    refine tt_ic_ne (M := MX10_dirt) (pc := 74) 82 dX10_dirt_74 rfl ?_ ?_
    · refine tt_bipush (M := MX10_dirt) (pc := 82) dX10_dirt_82 (by decide) ?_
      refine tt_ld (M := MX10_dirt) (pc := 84) dX10_dirt_84 rfl rfl rfl rfl rfl ?_
      refine tt_isub (M := MX10_dirt) (pc := 86) dX10_dirt_86 ?_
      refine tt_imul (M := MX10_dirt) (pc := 87) dX10_dirt_87 ?_
      refine tt_st (M := MX10_dirt) (pc := 88) [some (.ref 0), some (.int (I l1)), some (.int (I l2)), some (.int (I l3)), some (.int (I l4)), some (.int (I l5)), some (.int (I l6)), some (.int (I l7)), some (.int (I l8)), some (.int (I (l9 * (10 - l4)))), some (.int (I l10))] dX10_dirt_88 rfl rfl rfl rfl rfl rfl ?_
      refine tt_iinc (M := MX10_dirt) (pc := 90) [some (.ref 0), some (.int (I l1)), some (.int (I l2)), some (.int (I l3)), some (.int (I l4)), some (.int (I l5)), some (.int (I l6)), some (.int (I l7)), some (.int (I l8)), some (.int (I (l9 * (10 - l4)))), some (.int (I (l10 + 1)))] dX10_dirt_90 rfl rfl ?_
      refine tt_goto (M := MX10_dirt) (pc := 93) 58 dX10_dirt_93 rfl ?_
      exact id
    · refine tt_ld (M := MX10_dirt) (pc := 77) dX10_dirt_77 rfl rfl rfl rfl rfl ?_
      refine tt_goto (M := MX10_dirt) (pc := 79) 87 dX10_dirt_79 rfl ?_
      refine tt_imul (M := MX10_dirt) (pc := 87) dX10_dirt_87 ?_
      refine tt_st (M := MX10_dirt) (pc := 88) [some (.ref 0), some (.int (I l1)), some (.int (I l2)), some (.int (I l3)), some (.int (I l4)), some (.int (I l5)), some (.int (I l6)), some (.int (I l7)), some (.int (I l8)), some (.int (I (l9 * l4))), some (.int (I l10))] dX10_dirt_88 rfl rfl rfl rfl rfl rfl ?_
      refine tt_iinc (M := MX10_dirt) (pc := 90) [some (.ref 0), some (.int (I l1)), some (.int (I l2)), some (.int (I l3)), some (.int (I l4)), some (.int (I l5)), some (.int (I l6)), some (.int (I l7)), some (.int (I l8)), some (.int (I (l9 * l4))), some (.int (I (l10 + 1)))] dX10_dirt_90 rfl rfl ?_
      refine tt_goto (M := MX10_dirt) (pc := 93) 58 dX10_dirt_93 rfl ?_
      exact id
theorem qX10_years_0 {sc : Nat × (Nat → Int32)} {SH : List mCell} {S : mStore} {r : mR × mW} (h0 : sGP SH) {l1 : Int} {l2 : Int} {l3 : Int} {u4 : Option Value} {u5 : Option Value} {u6 : Option Value} : ((if I l3 < I 0 then ((∃ S101, G sc MX10_mustBe 0 [some (.int (I 0))] [] SH S (rV SH S101) ∧ (if I l2 < I 0 then G sc MX10_years 32 [some (.ref 0), some (.int (I l1)), some (.int (I l2)), some (.int (I l3)), u4, u5, u6] [.int (I 0)] SH S101 r else (if I 60 < I l2 then G sc MX10_years 32 [some (.ref 0), some (.int (I l1)), some (.int (I l2)), some (.int (I l3)), u4, u5, u6] [.int (I 0)] SH S101 r else G sc MX10_years 32 [some (.ref 0), some (.int (I l1)), some (.int (I l2)), some (.int (I l3)), u4, u5, u6] [.int (I 1)] SH S101 r))) ∨ (∃ e SH1 S1, G sc MX10_mustBe 0 [some (.int (I 0))] [] SH S (rX e SH1 S1) ∧ r = rX e SH1 S1)) else (if I 2 < I l3 then ((∃ S102, G sc MX10_mustBe 0 [some (.int (I 0))] [] SH S (rV SH S102) ∧ (if I l2 < I 0 then G sc MX10_years 32 [some (.ref 0), some (.int (I l1)), some (.int (I l2)), some (.int (I l3)), u4, u5, u6] [.int (I 0)] SH S102 r else (if I 60 < I l2 then G sc MX10_years 32 [some (.ref 0), some (.int (I l1)), some (.int (I l2)), some (.int (I l3)), u4, u5, u6] [.int (I 0)] SH S102 r else G sc MX10_years 32 [some (.ref 0), some (.int (I l1)), some (.int (I l2)), some (.int (I l3)), u4, u5, u6] [.int (I 1)] SH S102 r))) ∨ (∃ e SH1 S1, G sc MX10_mustBe 0 [some (.int (I 0))] [] SH S (rX e SH1 S1) ∧ r = rX e SH1 S1)) else ((∃ S103, G sc MX10_mustBe 0 [some (.int (I 1))] [] SH S (rV SH S103) ∧ (if I l2 < I 0 then G sc MX10_years 32 [some (.ref 0), some (.int (I l1)), some (.int (I l2)), some (.int (I l3)), u4, u5, u6] [.int (I 0)] SH S103 r else (if I 60 < I l2 then G sc MX10_years 32 [some (.ref 0), some (.int (I l1)), some (.int (I l2)), some (.int (I l3)), u4, u5, u6] [.int (I 0)] SH S103 r else G sc MX10_years 32 [some (.ref 0), some (.int (I l1)), some (.int (I l2)), some (.int (I l3)), u4, u5, u6] [.int (I 1)] SH S103 r))) ∨ (∃ e SH1 S1, G sc MX10_mustBe 0 [some (.int (I 1))] [] SH S (rX e SH1 S1) ∧ r = rX e SH1 S1))))) → G sc MX10_years 0 [some (.ref 0), some (.int (I l1)), some (.int (I l2)), some (.int (I l3)), u4, u5, u6] [] SH S r := by
  refine tt_ld (M := MX10_years) (pc := 0) dX10_years_0 rfl rfl rfl rfl rfl ?_
  refine tt_if_lt (M := MX10_years) (pc := 1) 13 dX10_years_1 rfl ?_ ?_
  · refine tt_iconst (M := MX10_years) (pc := 13) dX10_years_13 ?_
    refine tt_scV (M := MX10_years) (pc := 14) dX10_years_14 rfl [] rfl rfl ⟨rfl, by decide, Nat.le_of_ble_eq_true rfl⟩ rfl fun S101 => ?_
    refine tt_ld (M := MX10_years) (pc := 17) dX10_years_17 rfl rfl rfl rfl rfl ?_
    refine tt_if_lt (M := MX10_years) (pc := 18) 31 dX10_years_18 rfl ?_ ?_
    · refine tt_iconst (M := MX10_years) (pc := 31) dX10_years_31 ?_
      exact id
    · refine tt_ld (M := MX10_years) (pc := 21) dX10_years_21 rfl rfl rfl rfl rfl ?_
      refine tt_bipush (M := MX10_years) (pc := 22) dX10_years_22 (by decide) ?_
      refine tt_ic_gt (M := MX10_years) (pc := 24) 31 dX10_years_24 rfl ?_ ?_
      · refine tt_iconst (M := MX10_years) (pc := 31) dX10_years_31 ?_
        exact id
      · refine tt_iconst (M := MX10_years) (pc := 27) dX10_years_27 ?_
        refine tt_goto (M := MX10_years) (pc := 28) 32 dX10_years_28 rfl ?_
        exact id
  · refine tt_ld (M := MX10_years) (pc := 4) dX10_years_4 rfl rfl rfl rfl rfl ?_
    refine tt_iconst (M := MX10_years) (pc := 5) dX10_years_5 ?_
    refine tt_ic_gt (M := MX10_years) (pc := 6) 13 dX10_years_6 rfl ?_ ?_
    · refine tt_iconst (M := MX10_years) (pc := 13) dX10_years_13 ?_
      refine tt_scV (M := MX10_years) (pc := 14) dX10_years_14 rfl [] rfl rfl ⟨rfl, by decide, Nat.le_of_ble_eq_true rfl⟩ rfl fun S102 => ?_
      refine tt_ld (M := MX10_years) (pc := 17) dX10_years_17 rfl rfl rfl rfl rfl ?_
      refine tt_if_lt (M := MX10_years) (pc := 18) 31 dX10_years_18 rfl ?_ ?_
      · refine tt_iconst (M := MX10_years) (pc := 31) dX10_years_31 ?_
        exact id
      · refine tt_ld (M := MX10_years) (pc := 21) dX10_years_21 rfl rfl rfl rfl rfl ?_
        refine tt_bipush (M := MX10_years) (pc := 22) dX10_years_22 (by decide) ?_
        refine tt_ic_gt (M := MX10_years) (pc := 24) 31 dX10_years_24 rfl ?_ ?_
        · refine tt_iconst (M := MX10_years) (pc := 31) dX10_years_31 ?_
          exact id
        · refine tt_iconst (M := MX10_years) (pc := 27) dX10_years_27 ?_
          refine tt_goto (M := MX10_years) (pc := 28) 32 dX10_years_28 rfl ?_
          exact id
    · refine tt_iconst (M := MX10_years) (pc := 9) dX10_years_9 ?_
      refine tt_goto (M := MX10_years) (pc := 10) 14 dX10_years_10 rfl ?_
      refine tt_scV (M := MX10_years) (pc := 14) dX10_years_14 rfl [] rfl rfl ⟨rfl, by decide, Nat.le_of_ble_eq_true rfl⟩ rfl fun S103 => ?_
      refine tt_ld (M := MX10_years) (pc := 17) dX10_years_17 rfl rfl rfl rfl rfl ?_
      refine tt_if_lt (M := MX10_years) (pc := 18) 31 dX10_years_18 rfl ?_ ?_
      · refine tt_iconst (M := MX10_years) (pc := 31) dX10_years_31 ?_
        exact id
      · refine tt_ld (M := MX10_years) (pc := 21) dX10_years_21 rfl rfl rfl rfl rfl ?_
        refine tt_bipush (M := MX10_years) (pc := 22) dX10_years_22 (by decide) ?_
        refine tt_ic_gt (M := MX10_years) (pc := 24) 31 dX10_years_24 rfl ?_ ?_
        · refine tt_iconst (M := MX10_years) (pc := 31) dX10_years_31 ?_
          exact id
        · refine tt_iconst (M := MX10_years) (pc := 27) dX10_years_27 ?_
          refine tt_goto (M := MX10_years) (pc := 28) 32 dX10_years_28 rfl ?_
          exact id
theorem qX10_years_32 {sc : Nat × (Nat → Int32)} {SH : List mCell} {S : mStore} {r : mR × mW} (h0 : sGP SH) {l1 : Int} {l2 : Int} {l3 : Int} {u4 : Option Value} {u5 : Option Value} {u6 : Option Value} {s0 : Int} : (((∃ S101, G sc MX10_mustFit 0 [some (.int (I s0))] [] SH S (rV SH S101) ∧ (∃ S102, G sc MX7_become 0 [some (.ref 65), some (.ref 17)] [] SH S101 (rV SH S102) ∧ G sc MX10_years 66 [some (.ref 0), some (.int (I l1)), some (.int (I l2)), some (.int (I l3)), some (.int (I 0)), some (.int (I 0)), some (.int (I 0))] [] SH (up S102 87 0 l1) r)) ∨ (∃ e SH1 S1, G sc MX10_mustFit 0 [some (.int (I s0))] [] SH S (rX e SH1 S1) ∧ r = rX e SH1 S1))) → G sc MX10_years 32 [some (.ref 0), some (.int (I l1)), some (.int (I l2)), some (.int (I l3)), u4, u5, u6] [.int (I s0)] SH S r := by
  refine tt_scV (M := MX10_years) (pc := 32) dX10_years_32 rfl [] rfl rfl ⟨rfl, by decide, Nat.le_of_ble_eq_true rfl⟩ rfl fun S101 => ?_
  refine tt_ld (M := MX10_years) (pc := 35) dX10_years_35 rfl rfl rfl rfl rfl ?_
  refine tt_getR (M := MX10_years) (pc := 36) dX10_years_36 rfl h0.1 rfl ?_
  refine tt_ld (M := MX10_years) (pc := 39) dX10_years_39 rfl rfl rfl rfl rfl ?_
  refine tt_getR (M := MX10_years) (pc := 40) dX10_years_40 rfl h0.1 rfl ?_
  refine tt_getR (M := MX10_years) (pc := 43) dX10_years_43 rfl h0.2.2.2.1.1 rfl ?_
  refine tt_vcVN (M := MX10_years) (pc := 46) dX10_years_46 rfl rfl [] rfl rfl ⟨rfl, by decide, Nat.le_of_ble_eq_true rfl⟩ h0.2.2.2.2.2.1.1 fun S102 => ?_
  refine tt_ld (M := MX10_years) (pc := 49) dX10_years_49 rfl rfl rfl rfl rfl ?_
  refine tt_getR (M := MX10_years) (pc := 50) dX10_years_50 rfl h0.1 rfl ?_
  refine tt_ld (M := MX10_years) (pc := 53) dX10_years_53 rfl rfl rfl rfl rfl ?_
  refine tt_putI (M := MX10_years) (pc := 54) dX10_years_54 rfl rfl (Or.inl rfl) h0.2.2.2.2.2.2.2.2.1 rfl ?_
  refine tt_iconst (M := MX10_years) (pc := 57) dX10_years_57 ?_
  refine tt_st (M := MX10_years) (pc := 58) [some (.ref 0), some (.int (I l1)), some (.int (I l2)), some (.int (I l3)), some (.int (I 0)), u5, u6] dX10_years_58 rfl rfl rfl rfl rfl rfl ?_
  refine tt_iconst (M := MX10_years) (pc := 60) dX10_years_60 ?_
  refine tt_st (M := MX10_years) (pc := 61) [some (.ref 0), some (.int (I l1)), some (.int (I l2)), some (.int (I l3)), some (.int (I 0)), some (.int (I 0)), u6] dX10_years_61 rfl rfl rfl rfl rfl rfl ?_
  refine tt_iconst (M := MX10_years) (pc := 63) dX10_years_63 ?_
  refine tt_st (M := MX10_years) (pc := 64) [some (.ref 0), some (.int (I l1)), some (.int (I l2)), some (.int (I l3)), some (.int (I 0)), some (.int (I 0)), some (.int (I 0))] dX10_years_64 rfl rfl rfl rfl rfl rfl ?_
  exact id
theorem qX10_years_66 {sc : Nat × (Nat → Int32)} {SH : List mCell} {S : mStore} {r : mR × mW} (h0 : sGP SH) {l1 : Int} {l2 : Int} {l3 : Int} {l4 : Int} {l5 : Int} {l6 : Int} : ((if I l2 ≤ I l6 then (if I l3 = I 1 then (∃ v101 S102, G sc MX7_used 0 [some (.ref 65), none, none] [] SH S (rI v101 SH S102) ∧ r = rI v101 SH S102) else (if I l3 = I 0 then r = rI l4 SH S else r = rI l5 SH S)) else (∃ v103 S104, G sc MX10_befallsByChance 0 [some (.ref 0), none, none, none] [] SH S (rI v103 SH S104) ∧ (if I v103 = I (-1) then (∃ v107 S108, G sc MX7_tick 0 [some (.ref 65), some (.int (I 1)), none, none, none, none] [] SH S104 (rI v107 SH S108) ∧ G sc MX10_years 66 [some (.ref 0), some (.int (I l1)), some (.int (I l2)), some (.int (I l3)), some (.int (I (l4 + v107))), some (.int (I (l5 + 1))), some (.int (I (l6 + 1)))] [] SH S108 r) else (∃ v105 S106, G sc MX7_tick 0 [some (.ref 65), some (.int (I 1)), none, none, none, none] [] SH S104 (rI v105 SH S106) ∧ G sc MX10_years 66 [some (.ref 0), some (.int (I l1)), some (.int (I l2)), some (.int (I l3)), some (.int (I (l4 + v105))), some (.int (I l5)), some (.int (I (l6 + 1)))] [] SH S106 r))))) → G sc MX10_years 66 [some (.ref 0), some (.int (I l1)), some (.int (I l2)), some (.int (I l3)), some (.int (I l4)), some (.int (I l5)), some (.int (I l6))] [] SH S r := by
  refine tt_ld (M := MX10_years) (pc := 66) dX10_years_66 rfl rfl rfl rfl rfl ?_
  refine tt_ld (M := MX10_years) (pc := 68) dX10_years_68 rfl rfl rfl rfl rfl ?_
  refine tt_ic_ge (M := MX10_years) (pc := 69) 102 dX10_years_69 rfl ?_ ?_
  · refine tt_ld (M := MX10_years) (pc := 102) dX10_years_102 rfl rfl rfl rfl rfl ?_
    refine tt_iconst (M := MX10_years) (pc := 103) dX10_years_103 ?_
    refine tt_ic_ne (M := MX10_years) (pc := 104) 115 dX10_years_104 rfl ?_ ?_
    · refine tt_ld (M := MX10_years) (pc := 115) dX10_years_115 rfl rfl rfl rfl rfl ?_
      refine tt_if_ne (M := MX10_years) (pc := 116) 124 dX10_years_116 rfl ?_ ?_
      · refine tt_ld (M := MX10_years) (pc := 124) dX10_years_124 rfl rfl rfl rfl rfl ?_
        exact tt_iret (M := MX10_years) (pc := 126) dX10_years_126 rfl
      · refine tt_ld (M := MX10_years) (pc := 119) dX10_years_119 rfl rfl rfl rfl rfl ?_
        refine tt_goto (M := MX10_years) (pc := 121) 126 dX10_years_121 rfl ?_
        exact tt_iret (M := MX10_years) (pc := 126) dX10_years_126 rfl
    · refine tt_ld (M := MX10_years) (pc := 107) dX10_years_107 rfl rfl rfl rfl rfl ?_
      refine tt_getR (M := MX10_years) (pc := 108) dX10_years_108 rfl h0.1 rfl ?_
      refine tt_vcIN (M := MX10_years) (pc := 111) dX10_years_111 rfl rfl [] rfl rfl ⟨rfl, by decide, Nat.le_of_ble_eq_true rfl⟩ h0.2.2.2.2.2.1.1 fun v101 S102 => ?_
      exact tt_iret (M := MX10_years) (pc := 114) dX10_years_114 rfl
  · refine tt_ld (M := MX10_years) (pc := 72) dX10_years_72 rfl rfl rfl rfl rfl ?_
    refine tt_vcIN (M := MX10_years) (pc := 73) dX10_years_73 rfl rfl [] rfl rfl ⟨rfl, by decide, Nat.le_of_ble_eq_true rfl⟩ h0.1 fun v103 S104 => ?_
    refine tt_iconst (M := MX10_years) (pc := 76) dX10_years_76 ?_
    refine tt_ic_ne (M := MX10_years) (pc := 77) 83 dX10_years_77 rfl ?_ ?_
    · refine tt_ld (M := MX10_years) (pc := 83) dX10_years_83 rfl rfl rfl rfl rfl ?_
      refine tt_ld (M := MX10_years) (pc := 85) dX10_years_85 rfl rfl rfl rfl rfl ?_
      refine tt_getR (M := MX10_years) (pc := 86) dX10_years_86 rfl h0.1 rfl ?_
      refine tt_iconst (M := MX10_years) (pc := 89) dX10_years_89 ?_
      refine tt_vcIN (M := MX10_years) (pc := 90) dX10_years_90 rfl rfl [.int (I l4)] rfl rfl ⟨rfl, by decide, Nat.le_of_ble_eq_true rfl⟩ h0.2.2.2.2.2.1.1 fun v105 S106 => ?_
      refine tt_iadd (M := MX10_years) (pc := 93) dX10_years_93 ?_
      refine tt_st (M := MX10_years) (pc := 94) [some (.ref 0), some (.int (I l1)), some (.int (I l2)), some (.int (I l3)), some (.int (I (l4 + v105))), some (.int (I l5)), some (.int (I l6))] dX10_years_94 rfl rfl rfl rfl rfl rfl ?_
      refine tt_iinc (M := MX10_years) (pc := 96) [some (.ref 0), some (.int (I l1)), some (.int (I l2)), some (.int (I l3)), some (.int (I (l4 + v105))), some (.int (I l5)), some (.int (I (l6 + 1)))] dX10_years_96 rfl rfl ?_
      refine tt_goto (M := MX10_years) (pc := 99) 66 dX10_years_99 rfl ?_
      exact id
    · refine tt_iinc (M := MX10_years) (pc := 80) [some (.ref 0), some (.int (I l1)), some (.int (I l2)), some (.int (I l3)), some (.int (I l4)), some (.int (I (l5 + 1))), some (.int (I l6))] dX10_years_80 rfl rfl ?_
      refine tt_ld (M := MX10_years) (pc := 83) dX10_years_83 rfl rfl rfl rfl rfl ?_
      refine tt_ld (M := MX10_years) (pc := 85) dX10_years_85 rfl rfl rfl rfl rfl ?_
      refine tt_getR (M := MX10_years) (pc := 86) dX10_years_86 rfl h0.1 rfl ?_
      refine tt_iconst (M := MX10_years) (pc := 89) dX10_years_89 ?_
      refine tt_vcIN (M := MX10_years) (pc := 90) dX10_years_90 rfl rfl [.int (I l4)] rfl rfl ⟨rfl, by decide, Nat.le_of_ble_eq_true rfl⟩ h0.2.2.2.2.2.1.1 fun v107 S108 => ?_
      refine tt_iadd (M := MX10_years) (pc := 93) dX10_years_93 ?_
      refine tt_st (M := MX10_years) (pc := 94) [some (.ref 0), some (.int (I l1)), some (.int (I l2)), some (.int (I l3)), some (.int (I (l4 + v107))), some (.int (I (l5 + 1))), some (.int (I l6))] dX10_years_94 rfl rfl rfl rfl rfl rfl ?_
      refine tt_iinc (M := MX10_years) (pc := 96) [some (.ref 0), some (.int (I l1)), some (.int (I l2)), some (.int (I l3)), some (.int (I (l4 + v107))), some (.int (I (l5 + 1))), some (.int (I (l6 + 1)))] dX10_years_96 rfl rfl ?_
      refine tt_goto (M := MX10_years) (pc := 99) 66 dX10_years_99 rfl ?_
      exact id
theorem qX10_image_0 {sc : Nat × (Nat → Int32)} {SH : List mCell} {S : mStore} {r : mR × mW} (h0 : sGP SH) : ((∃ SH102 S101, sGP SH102 ∧ G sc MX1_become 0 [some (.ref 39), some (.ref 13)] [] SH S (rV SH102 S101) ∧ ((I 1 = I 0 ∨ I 1 = I 1) ∧ r = rV SH102 (up S101 0 11 1)))) → G sc MX10_image 0 [some (.ref 0)] [] SH S r := by
  refine tt_ld (M := MX10_image) (pc := 0) dX10_image_0 rfl rfl rfl rfl rfl ?_
  refine tt_getR (M := MX10_image) (pc := 1) dX10_image_1 rfl h0.1 rfl ?_
  refine tt_ld (M := MX10_image) (pc := 4) dX10_image_4 rfl rfl rfl rfl rfl ?_
  refine tt_getR (M := MX10_image) (pc := 5) dX10_image_5 rfl h0.1 rfl ?_
  refine tt_vcVA (Q := (fun SH => sGP SH)) (M := MX10_image) (pc := 8) dX10_image_8 rfl rfl [] rfl rfl ⟨rfl, by decide, Nat.le_of_ble_eq_true rfl⟩ h0.2.2.2.2.1.1 fun SH102 S101 hSH102 => ?_
  refine tt_ld (M := MX10_image) (pc := 11) dX10_image_11 rfl rfl rfl rfl rfl ?_
  refine tt_iconst (M := MX10_image) (pc := 12) dX10_image_12 ?_
  refine tt_putZ (M := MX10_image) (pc := 13) dX10_image_13 rfl rfl (Or.inl rfl) hSH102.1 rfl ?_
  exact tt_ret (M := MX10_image) (pc := 16) dX10_image_16 rfl
theorem qX10_restore_0 {sc : Nat × (Nat → Int32)} {SH : List mCell} {S : mStore} {r : mR × mW} (h0 : sGP SH) : ((if I (S 0 11) = I 0 then ((I 0 = I 0 ∨ I 0 = I 1) ∧ r = rI 0 SH S) else (∃ SH102 S101, sGP SH102 ∧ G sc MX1_become 0 [some (.ref 13), some (.ref 39)] [] SH S (rV SH102 S101) ∧ ((I 1 = I 0 ∨ I 1 = I 1) ∧ r = rI 1 SH102 S101)))) → G sc MX10_restore 0 [some (.ref 0)] [] SH S r := by
  refine tt_ld (M := MX10_restore) (pc := 0) dX10_restore_0 rfl rfl rfl rfl rfl ?_
  refine tt_getI (M := MX10_restore) (pc := 1) dX10_restore_1 rfl h0.1 rfl ?_
  refine tt_if_ne (M := MX10_restore) (pc := 4) 9 dX10_restore_4 rfl ?_ ?_
  · refine tt_ld (M := MX10_restore) (pc := 9) dX10_restore_9 rfl rfl rfl rfl rfl ?_
    refine tt_getR (M := MX10_restore) (pc := 10) dX10_restore_10 rfl h0.1 rfl ?_
    refine tt_ld (M := MX10_restore) (pc := 13) dX10_restore_13 rfl rfl rfl rfl rfl ?_
    refine tt_getR (M := MX10_restore) (pc := 14) dX10_restore_14 rfl h0.1 rfl ?_
    refine tt_vcVA (Q := (fun SH => sGP SH)) (M := MX10_restore) (pc := 17) dX10_restore_17 rfl rfl [] rfl rfl ⟨rfl, by decide, Nat.le_of_ble_eq_true rfl⟩ h0.2.2.2.1.1 fun SH102 S101 hSH102 => ?_
    refine tt_iconst (M := MX10_restore) (pc := 20) dX10_restore_20 ?_
    exact tt_zret (M := MX10_restore) (pc := 21) dX10_restore_21 rfl
  · refine tt_iconst (M := MX10_restore) (pc := 7) dX10_restore_7 ?_
    exact tt_zret (M := MX10_restore) (pc := 8) dX10_restore_8 rfl
theorem qX10_mustBe_0 {sc : Nat × (Nat → Int32)} {SH : List mCell} {S : mStore} {r : mR × mW} {l0 : Int} : ((if I l0 = I 0 then r = rX 0 (SH ++ [mO (12 + 0) []]) S else r = rV SH S)) → G sc MX10_mustBe 0 [some (.int (I l0))] [] SH S r := by
  refine tt_ld (M := MX10_mustBe) (pc := 0) dX10_mustBe_0 rfl rfl rfl rfl rfl ?_
  refine tt_if_ne (M := MX10_mustBe) (pc := 1) 12 dX10_mustBe_1 rfl ?_ ?_
  · exact tt_ret (M := MX10_mustBe) (pc := 12) dX10_mustBe_12 rfl
  · exact tt_throw (M := MX10_mustBe) (pc := 4) 0 dX10_mustBe_4 rfl rfl dX10_mustBe_7 dX10_mustBe_8 dX10_mustBe_11 ⟨rfl, rfl, by decide, rfl⟩
theorem qX10_mustFit_0 {sc : Nat × (Nat → Int32)} {SH : List mCell} {S : mStore} {r : mR × mW} {l0 : Int} : ((if I l0 = I 0 then r = rX 1 (SH ++ [mO (12 + 1) []]) S else r = rV SH S)) → G sc MX10_mustFit 0 [some (.int (I l0))] [] SH S r := by
  refine tt_ld (M := MX10_mustFit) (pc := 0) dX10_mustFit_0 rfl rfl rfl rfl rfl ?_
  refine tt_if_ne (M := MX10_mustFit) (pc := 1) 12 dX10_mustFit_1 rfl ?_ ?_
  · exact tt_ret (M := MX10_mustFit) (pc := 12) dX10_mustFit_12 rfl
  · exact tt_throw (M := MX10_mustFit) (pc := 4) 1 dX10_mustFit_4 rfl rfl dX10_mustFit_7 dX10_mustFit_8 dX10_mustFit_11 ⟨rfl, rfl, by decide, rfl⟩
theorem qX10_mustBeCell_0 {sc : Nat × (Nat → Int32)} {SH : List mCell} {S : mStore} {r : mR × mW} {l0 : Int} : ((if I l0 < I 0 then ((∃ S101, G sc MX10_mustBe 0 [some (.int (I 0))] [] SH S (rV SH S101) ∧ r = rV SH S101) ∨ (∃ e SH1 S1, G sc MX10_mustBe 0 [some (.int (I 0))] [] SH S (rX e SH1 S1) ∧ r = rX e SH1 S1)) else (if I 4 ≤ I l0 then ((∃ S102, G sc MX10_mustBe 0 [some (.int (I 0))] [] SH S (rV SH S102) ∧ r = rV SH S102) ∨ (∃ e SH1 S1, G sc MX10_mustBe 0 [some (.int (I 0))] [] SH S (rX e SH1 S1) ∧ r = rX e SH1 S1)) else ((∃ S103, G sc MX10_mustBe 0 [some (.int (I 1))] [] SH S (rV SH S103) ∧ r = rV SH S103) ∨ (∃ e SH1 S1, G sc MX10_mustBe 0 [some (.int (I 1))] [] SH S (rX e SH1 S1) ∧ r = rX e SH1 S1))))) → G sc MX10_mustBeCell 0 [some (.int (I l0))] [] SH S r := by
  refine tt_ld (M := MX10_mustBeCell) (pc := 0) dX10_mustBeCell_0 rfl rfl rfl rfl rfl ?_
  refine tt_if_lt (M := MX10_mustBeCell) (pc := 1) 13 dX10_mustBeCell_1 rfl ?_ ?_
  · refine tt_iconst (M := MX10_mustBeCell) (pc := 13) dX10_mustBeCell_13 ?_
    refine tt_scV (M := MX10_mustBeCell) (pc := 14) dX10_mustBeCell_14 rfl [] rfl rfl ⟨rfl, by decide, Nat.le_of_ble_eq_true rfl⟩ rfl fun S101 => ?_
    exact tt_ret (M := MX10_mustBeCell) (pc := 17) dX10_mustBeCell_17 rfl
  · refine tt_ld (M := MX10_mustBeCell) (pc := 4) dX10_mustBeCell_4 rfl rfl rfl rfl rfl ?_
    refine tt_iconst (M := MX10_mustBeCell) (pc := 5) dX10_mustBeCell_5 ?_
    refine tt_ic_ge (M := MX10_mustBeCell) (pc := 6) 13 dX10_mustBeCell_6 rfl ?_ ?_
    · refine tt_iconst (M := MX10_mustBeCell) (pc := 13) dX10_mustBeCell_13 ?_
      refine tt_scV (M := MX10_mustBeCell) (pc := 14) dX10_mustBeCell_14 rfl [] rfl rfl ⟨rfl, by decide, Nat.le_of_ble_eq_true rfl⟩ rfl fun S102 => ?_
      exact tt_ret (M := MX10_mustBeCell) (pc := 17) dX10_mustBeCell_17 rfl
    · refine tt_iconst (M := MX10_mustBeCell) (pc := 9) dX10_mustBeCell_9 ?_
      refine tt_goto (M := MX10_mustBeCell) (pc := 10) 14 dX10_mustBeCell_10 rfl ?_
      refine tt_scV (M := MX10_mustBeCell) (pc := 14) dX10_mustBeCell_14 rfl [] rfl rfl ⟨rfl, by decide, Nat.le_of_ble_eq_true rfl⟩ rfl fun S103 => ?_
      exact tt_ret (M := MX10_mustBeCell) (pc := 17) dX10_mustBeCell_17 rfl
theorem qX10_placeOf_0 {sc : Nat × (Nat → Int32)} {SH : List mCell} {S : mStore} {r : mR × mW} (h0 : sGP SH) {l1 : Int} {l2 : Int} {u3 : Option Value} : ((∃ v101 S102, G sc MX5_placeAt 0 [some (.ref 1), some (.int (I l1)), some (.int (I l2))] [] SH S (rI v101 SH S102) ∧ (if I v101 = I (-1) then ((∃ S103, G sc MX10_mustBe 0 [some (.int (I 0))] [] SH S102 (rV SH S103) ∧ r = rI v101 SH S103) ∨ (∃ e SH1 S1, G sc MX10_mustBe 0 [some (.int (I 0))] [] SH S102 (rX e SH1 S1) ∧ r = rX e SH1 S1)) else ((∃ S104, G sc MX10_mustBe 0 [some (.int (I 1))] [] SH S102 (rV SH S104) ∧ r = rI v101 SH S104) ∨ (∃ e SH1 S1, G sc MX10_mustBe 0 [some (.int (I 1))] [] SH S102 (rX e SH1 S1) ∧ r = rX e SH1 S1))))) → G sc MX10_placeOf 0 [some (.ref 0), some (.int (I l1)), some (.int (I l2)), u3] [] SH S r := by
  refine tt_ld (M := MX10_placeOf) (pc := 0) dX10_placeOf_0 rfl rfl rfl rfl rfl ?_
  refine tt_getR (M := MX10_placeOf) (pc := 1) dX10_placeOf_1 rfl h0.1 rfl ?_
  refine tt_ld (M := MX10_placeOf) (pc := 4) dX10_placeOf_4 rfl rfl rfl rfl rfl ?_
  refine tt_ld (M := MX10_placeOf) (pc := 5) dX10_placeOf_5 rfl rfl rfl rfl rfl ?_
  refine tt_vcIN (M := MX10_placeOf) (pc := 6) dX10_placeOf_6 rfl rfl [] rfl rfl ⟨rfl, by decide, Nat.le_of_ble_eq_true rfl⟩ h0.2.2.2.1.2.2.2.2.1.2.2.2.2.2.2.2.2.2.2.2.2.1 fun v101 S102 => ?_
  refine tt_st (M := MX10_placeOf) (pc := 9) [some (.ref 0), some (.int (I l1)), some (.int (I l2)), some (.int (I v101))] dX10_placeOf_9 rfl rfl rfl rfl rfl rfl ?_
  refine tt_ld (M := MX10_placeOf) (pc := 10) dX10_placeOf_10 rfl rfl rfl rfl rfl ?_
  refine tt_iconst (M := MX10_placeOf) (pc := 11) dX10_placeOf_11 ?_
  refine tt_ic_eq (M := MX10_placeOf) (pc := 12) 19 dX10_placeOf_12 rfl ?_ ?_
  · refine tt_iconst (M := MX10_placeOf) (pc := 19) dX10_placeOf_19 ?_
    refine tt_scV (M := MX10_placeOf) (pc := 20) dX10_placeOf_20 rfl [] rfl rfl ⟨rfl, by decide, Nat.le_of_ble_eq_true rfl⟩ rfl fun S103 => ?_
    refine tt_ld (M := MX10_placeOf) (pc := 23) dX10_placeOf_23 rfl rfl rfl rfl rfl ?_
    exact tt_iret (M := MX10_placeOf) (pc := 24) dX10_placeOf_24 rfl
  · refine tt_iconst (M := MX10_placeOf) (pc := 15) dX10_placeOf_15 ?_
    refine tt_goto (M := MX10_placeOf) (pc := 16) 20 dX10_placeOf_16 rfl ?_
    refine tt_scV (M := MX10_placeOf) (pc := 20) dX10_placeOf_20 rfl [] rfl rfl ⟨rfl, by decide, Nat.le_of_ble_eq_true rfl⟩ rfl fun S104 => ?_
    refine tt_ld (M := MX10_placeOf) (pc := 23) dX10_placeOf_23 rfl rfl rfl rfl rfl ?_
    exact tt_iret (M := MX10_placeOf) (pc := 24) dX10_placeOf_24 rfl
theorem qX10_cellOf_0 {sc : Nat × (Nat → Int32)} {SH : List mCell} {S : mStore} {r : mR × mW} {l0 : Int} {l1 : Int} : (r = rI (ian (isr l0 (12 - (4 * l1))) 15) SH S) → G sc MX10_cellOf 0 [some (.int (I l0)), some (.int (I l1))] [] SH S r := by
  refine tt_ld (M := MX10_cellOf) (pc := 0) dX10_cellOf_0 rfl rfl rfl rfl rfl ?_
  refine tt_bipush (M := MX10_cellOf) (pc := 1) dX10_cellOf_1 (by decide) ?_
  refine tt_iconst (M := MX10_cellOf) (pc := 3) dX10_cellOf_3 ?_
  refine tt_ld (M := MX10_cellOf) (pc := 4) dX10_cellOf_4 rfl rfl rfl rfl rfl ?_
  refine tt_imul (M := MX10_cellOf) (pc := 5) dX10_cellOf_5 ?_
  refine tt_isub (M := MX10_cellOf) (pc := 6) dX10_cellOf_6 ?_
  refine tt_ishr (M := MX10_cellOf) (pc := 7) dX10_cellOf_7 ?_
  refine tt_bipush (M := MX10_cellOf) (pc := 8) dX10_cellOf_8 (by decide) ?_
  refine tt_iand (M := MX10_cellOf) (pc := 10) dX10_cellOf_10 ?_
  exact tt_iret (M := MX10_cellOf) (pc := 11) dX10_cellOf_11 rfl
theorem qX10_refused_0 {sc : Nat × (Nat → Int32)} {SH : List mCell} {S : mStore} {r : mR × mW} (h0 : sGP SH) : ((((0 : Int) ≤ 1 ∧ (1 : Int) < 3) ∧ (((0 : Int) ≤ 1 ∧ (1 : Int) < 3) ∧ r = rI (-1) SH (up S 16 1 ((S 16 1) + 1))))) → G sc MX10_refused 0 [some (.ref 0)] [] SH S r := by
  refine tt_ld (M := MX10_refused) (pc := 0) dX10_refused_0 rfl rfl rfl rfl rfl ?_
  refine tt_getR (M := MX10_refused) (pc := 1) dX10_refused_1 rfl h0.1 rfl ?_
  refine tt_getR (M := MX10_refused) (pc := 4) dX10_refused_4 rfl h0.2.2.2.1.1 rfl ?_
  refine tt_iconst (M := MX10_refused) (pc := 7) dX10_refused_7 ?_
  refine tt_dup2 (M := MX10_refused) (pc := 8) dX10_refused_8 rfl rfl ?_
  refine tt_iaload (M := MX10_refused) (pc := 9) dX10_refused_9 h0.2.2.2.1.2.2.2.1 rfl ?_
  refine tt_iconst (M := MX10_refused) (pc := 10) dX10_refused_10 ?_
  refine tt_iadd (M := MX10_refused) (pc := 11) dX10_refused_11 ?_
  refine tt_iastore (M := MX10_refused) (pc := 12) dX10_refused_12 h0.2.2.2.1.2.2.2.1 rfl ?_
  refine tt_iconst (M := MX10_refused) (pc := 13) dX10_refused_13 ?_
  exact tt_iret (M := MX10_refused) (pc := 14) dX10_refused_14 rfl
theorem qX10_acted_0 {sc : Nat × (Nat → Int32)} {SH : List mCell} {S : mStore} {r : mR × mW} (h0 : sGP SH) {l1 : Int} : ((if I l1 = I (-1) then (∃ v102 S103, G sc MX10_refused 0 [some (.ref 0)] [] SH S (rI v102 SH S103) ∧ r = rI v102 SH S103) else (∃ S101, G sc MX0_stand 0 [some (.ref 37)] [] SH S (rV SH S101) ∧ r = rI l1 SH S101))) → G sc MX10_acted 0 [some (.ref 0), some (.int (I l1))] [] SH S r := by
  refine tt_ld (M := MX10_acted) (pc := 0) dX10_acted_0 rfl rfl rfl rfl rfl ?_
  refine tt_iconst (M := MX10_acted) (pc := 1) dX10_acted_1 ?_
  refine tt_ic_ne (M := MX10_acted) (pc := 2) 10 dX10_acted_2 rfl ?_ ?_
  · refine tt_ld (M := MX10_acted) (pc := 10) dX10_acted_10 rfl rfl rfl rfl rfl ?_
    refine tt_getR (M := MX10_acted) (pc := 11) dX10_acted_11 rfl h0.1 rfl ?_
    refine tt_getR (M := MX10_acted) (pc := 14) dX10_acted_14 rfl h0.2.2.2.1.1 rfl ?_
    refine tt_vcVN (M := MX10_acted) (pc := 17) dX10_acted_17 rfl rfl [] rfl rfl ⟨rfl, by decide, Nat.le_of_ble_eq_true rfl⟩ h0.2.2.2.1.2.2.2.2.2 fun S101 => ?_
    refine tt_ld (M := MX10_acted) (pc := 20) dX10_acted_20 rfl rfl rfl rfl rfl ?_
    exact tt_iret (M := MX10_acted) (pc := 21) dX10_acted_21 rfl
  · refine tt_ld (M := MX10_acted) (pc := 5) dX10_acted_5 rfl rfl rfl rfl rfl ?_
    refine tt_vcIN (M := MX10_acted) (pc := 6) dX10_acted_6 rfl rfl [] rfl rfl ⟨rfl, by decide, Nat.le_of_ble_eq_true rfl⟩ h0.1 fun v102 S103 => ?_
    exact tt_iret (M := MX10_acted) (pc := 9) dX10_acted_9 rfl
theorem qX10_openText_0 {sc : Nat × (Nat → Int32)} {SH : List mCell} {S : mStore} {r : mR × mW} (h0 : sGP SH) {l1 : Int} : ((if I l1 < I 0 then ((∃ S101, G sc MX10_mustFit 0 [some (.int (I 0))] [] SH S (rV SH S101) ∧ (∃ S102, G sc MX8_begin 0 [some (.ref 11), some (.int (I l1))] [] SH S101 (rV SH S102) ∧ r = rV SH S102)) ∨ (∃ e SH1 S1, G sc MX10_mustFit 0 [some (.int (I 0))] [] SH S (rX e SH1 S1) ∧ r = rX e SH1 S1)) else (if I (S 11 1) < I l1 then ((∃ S103, G sc MX10_mustFit 0 [some (.int (I 0))] [] SH S (rV SH S103) ∧ (∃ S104, G sc MX8_begin 0 [some (.ref 11), some (.int (I l1))] [] SH S103 (rV SH S104) ∧ r = rV SH S104)) ∨ (∃ e SH1 S1, G sc MX10_mustFit 0 [some (.int (I 0))] [] SH S (rX e SH1 S1) ∧ r = rX e SH1 S1)) else ((∃ S105, G sc MX10_mustFit 0 [some (.int (I 1))] [] SH S (rV SH S105) ∧ (∃ S106, G sc MX8_begin 0 [some (.ref 11), some (.int (I l1))] [] SH S105 (rV SH S106) ∧ r = rV SH S106)) ∨ (∃ e SH1 S1, G sc MX10_mustFit 0 [some (.int (I 1))] [] SH S (rX e SH1 S1) ∧ r = rX e SH1 S1))))) → G sc MX10_openText 0 [some (.ref 0), some (.int (I l1))] [] SH S r := by
  refine tt_ld (M := MX10_openText) (pc := 0) dX10_openText_0 rfl rfl rfl rfl rfl ?_
  refine tt_if_lt (M := MX10_openText) (pc := 1) 19 dX10_openText_1 rfl ?_ ?_
  · refine tt_iconst (M := MX10_openText) (pc := 19) dX10_openText_19 ?_
    refine tt_scV (M := MX10_openText) (pc := 20) dX10_openText_20 rfl [] rfl rfl ⟨rfl, by decide, Nat.le_of_ble_eq_true rfl⟩ rfl fun S101 => ?_
    refine tt_ld (M := MX10_openText) (pc := 23) dX10_openText_23 rfl rfl rfl rfl rfl ?_
    refine tt_getR (M := MX10_openText) (pc := 24) dX10_openText_24 rfl h0.1 rfl ?_
    refine tt_ld (M := MX10_openText) (pc := 27) dX10_openText_27 rfl rfl rfl rfl rfl ?_
    refine tt_vcVN (M := MX10_openText) (pc := 28) dX10_openText_28 rfl rfl [] rfl rfl ⟨rfl, by decide, Nat.le_of_ble_eq_true rfl⟩ h0.2.2.1.1 fun S102 => ?_
    exact tt_ret (M := MX10_openText) (pc := 31) dX10_openText_31 rfl
  · refine tt_ld (M := MX10_openText) (pc := 4) dX10_openText_4 rfl rfl rfl rfl rfl ?_
    refine tt_ld (M := MX10_openText) (pc := 5) dX10_openText_5 rfl rfl rfl rfl rfl ?_
    refine tt_getR (M := MX10_openText) (pc := 6) dX10_openText_6 rfl h0.1 rfl ?_
    refine tt_getI (M := MX10_openText) (pc := 9) dX10_openText_9 rfl h0.2.2.1.1 rfl ?_
    refine tt_ic_gt (M := MX10_openText) (pc := 12) 19 dX10_openText_12 rfl ?_ ?_
    · refine tt_iconst (M := MX10_openText) (pc := 19) dX10_openText_19 ?_
      refine tt_scV (M := MX10_openText) (pc := 20) dX10_openText_20 rfl [] rfl rfl ⟨rfl, by decide, Nat.le_of_ble_eq_true rfl⟩ rfl fun S103 => ?_
      refine tt_ld (M := MX10_openText) (pc := 23) dX10_openText_23 rfl rfl rfl rfl rfl ?_
      refine tt_getR (M := MX10_openText) (pc := 24) dX10_openText_24 rfl h0.1 rfl ?_
      refine tt_ld (M := MX10_openText) (pc := 27) dX10_openText_27 rfl rfl rfl rfl rfl ?_
      refine tt_vcVN (M := MX10_openText) (pc := 28) dX10_openText_28 rfl rfl [] rfl rfl ⟨rfl, by decide, Nat.le_of_ble_eq_true rfl⟩ h0.2.2.1.1 fun S104 => ?_
      exact tt_ret (M := MX10_openText) (pc := 31) dX10_openText_31 rfl
    · refine tt_iconst (M := MX10_openText) (pc := 15) dX10_openText_15 ?_
      refine tt_goto (M := MX10_openText) (pc := 16) 20 dX10_openText_16 rfl ?_
      refine tt_scV (M := MX10_openText) (pc := 20) dX10_openText_20 rfl [] rfl rfl ⟨rfl, by decide, Nat.le_of_ble_eq_true rfl⟩ rfl fun S105 => ?_
      refine tt_ld (M := MX10_openText) (pc := 23) dX10_openText_23 rfl rfl rfl rfl rfl ?_
      refine tt_getR (M := MX10_openText) (pc := 24) dX10_openText_24 rfl h0.1 rfl ?_
      refine tt_ld (M := MX10_openText) (pc := 27) dX10_openText_27 rfl rfl rfl rfl rfl ?_
      refine tt_vcVN (M := MX10_openText) (pc := 28) dX10_openText_28 rfl rfl [] rfl rfl ⟨rfl, by decide, Nat.le_of_ble_eq_true rfl⟩ h0.2.2.1.1 fun S106 => ?_
      exact tt_ret (M := MX10_openText) (pc := 31) dX10_openText_31 rfl
theorem qX10_closeText_0 {sc : Nat × (Nat → Int32)} {SH : List mCell} {S : mStore} {r : mR × mW} (h0 : sGP SH) : ((if I ((up (up S 11 1 0) 0 12 (-1)) 11 6) = I 0 then r = rV SH (up (up S 11 1 0) 0 12 (-1)) else (((0 : Int) ≤ 0 ∧ (0 : Int) < 3) ∧ (((0 : Int) ≤ 0 ∧ (0 : Int) < 3) ∧ r = rV SH (up (up (up (up S 11 1 0) 0 12 (-1)) 0 12 ((up (up S 11 1 0) 0 12 (-1)) 11 7)) 16 0 (((up (up (up S 11 1 0) 0 12 (-1)) 0 12 ((up (up S 11 1 0) 0 12 (-1)) 11 7)) 16 0) + 1)))))) → G sc MX10_closeText 0 [some (.ref 0)] [] SH S r := by
  refine tt_ld (M := MX10_closeText) (pc := 0) dX10_closeText_0 rfl rfl rfl rfl rfl ?_
  refine tt_getR (M := MX10_closeText) (pc := 1) dX10_closeText_1 rfl h0.1 rfl ?_
  refine tt_iconst (M := MX10_closeText) (pc := 4) dX10_closeText_4 ?_
  refine tt_putI (M := MX10_closeText) (pc := 5) dX10_closeText_5 rfl rfl (Or.inl rfl) h0.2.2.1.1 rfl ?_
  refine tt_ld (M := MX10_closeText) (pc := 8) dX10_closeText_8 rfl rfl rfl rfl rfl ?_
  refine tt_iconst (M := MX10_closeText) (pc := 9) dX10_closeText_9 ?_
  refine tt_putI (M := MX10_closeText) (pc := 10) dX10_closeText_10 rfl rfl (Or.inl rfl) h0.1 rfl ?_
  refine tt_ld (M := MX10_closeText) (pc := 13) dX10_closeText_13 rfl rfl rfl rfl rfl ?_
  refine tt_getR (M := MX10_closeText) (pc := 14) dX10_closeText_14 rfl h0.1 rfl ?_
  refine tt_getI (M := MX10_closeText) (pc := 17) dX10_closeText_17 rfl h0.2.2.1.1 rfl ?_
  refine tt_if_eq (M := MX10_closeText) (pc := 20) 47 dX10_closeText_20 rfl ?_ ?_
  · exact tt_ret (M := MX10_closeText) (pc := 47) dX10_closeText_47 rfl
  · refine tt_ld (M := MX10_closeText) (pc := 23) dX10_closeText_23 rfl rfl rfl rfl rfl ?_
    refine tt_ld (M := MX10_closeText) (pc := 24) dX10_closeText_24 rfl rfl rfl rfl rfl ?_
    refine tt_getR (M := MX10_closeText) (pc := 25) dX10_closeText_25 rfl h0.1 rfl ?_
    refine tt_getI (M := MX10_closeText) (pc := 28) dX10_closeText_28 rfl h0.2.2.1.1 rfl ?_
    refine tt_putI (M := MX10_closeText) (pc := 31) dX10_closeText_31 rfl rfl (Or.inl rfl) h0.1 rfl ?_
    refine tt_ld (M := MX10_closeText) (pc := 34) dX10_closeText_34 rfl rfl rfl rfl rfl ?_
    refine tt_getR (M := MX10_closeText) (pc := 35) dX10_closeText_35 rfl h0.1 rfl ?_
    refine tt_getR (M := MX10_closeText) (pc := 38) dX10_closeText_38 rfl h0.2.2.2.1.1 rfl ?_
    refine tt_iconst (M := MX10_closeText) (pc := 41) dX10_closeText_41 ?_
    refine tt_dup2 (M := MX10_closeText) (pc := 42) dX10_closeText_42 rfl rfl ?_
    refine tt_iaload (M := MX10_closeText) (pc := 43) dX10_closeText_43 h0.2.2.2.1.2.2.2.1 rfl ?_
    refine tt_iconst (M := MX10_closeText) (pc := 44) dX10_closeText_44 ?_
    refine tt_iadd (M := MX10_closeText) (pc := 45) dX10_closeText_45 ?_
    refine tt_iastore (M := MX10_closeText) (pc := 46) dX10_closeText_46 h0.2.2.2.1.2.2.2.1 rfl ?_
    exact tt_ret (M := MX10_closeText) (pc := 47) dX10_closeText_47 rfl
theorem qX10_obey_0 {sc : Nat × (Nat → Int32)} {SH : List mCell} {S : mStore} {r : mR × mW} (h0 : sGP SH) {u1 : Option Value} : ((swp (S 86 2) 0 (r = rI (-1) SH S) [(∃ v101 S102, G sc MX7_putCell 0 [some (.ref 17), some (.int (I (S 86 3))), some (.int (I (S 86 5))), some (.int (I (S 86 6))), none] [] SH S (rI v101 SH S102) ∧ r = rI v101 SH S102), (∃ v103 S104, G sc MX7_cellsAt 0 [some (.ref 17), some (.int (I (S 86 4))), none] [] SH S (rI v103 SH S104) ∧ (∃ v105 S106, G sc MX7_put 0 [some (.ref 17), some (.int (I (S 86 3))), some (.int (I v103)), none, none] [] SH S104 (rI v105 SH S106) ∧ r = rI v105 SH S106)), (∃ v107 S108, G sc MX7_dropPage 0 [some (.ref 17), some (.int (I (S 86 3))), none] [] SH S (rI v107 SH S108) ∧ r = rI v107 SH S108), (∃ v109 S110, G sc MX7_scanMany 0 [some (.ref 17), some (.int (I (S 86 5))), none, none] [] SH S (rI v109 SH S110) ∧ r = rI v109 SH S110), (∃ v111 S112, G sc MX7_hasTimeFor 0 [some (.ref 17), some (.int (I (S 86 5)))] [] SH S (rI v111 SH S112) ∧ (if I v111 = I 0 then r = rI (-1) SH S112 else (∃ v113 S114, G sc MX7_tick 0 [some (.ref 17), some (.int (I (S112 86 5))), none, none, none, none] [] SH S112 (rI v113 SH S114) ∧ r = rI v113 SH S114)))])) → G sc MX10_obey 0 [some (.ref 0), u1] [] SH S r := by
  refine tt_ld (M := MX10_obey) (pc := 0) dX10_obey_0 rfl rfl rfl rfl rfl ?_
  refine tt_getR (M := MX10_obey) (pc := 1) dX10_obey_1 rfl h0.1 rfl ?_
  refine tt_getR (M := MX10_obey) (pc := 4) dX10_obey_4 rfl h0.2.2.2.1.1 rfl ?_
  refine tt_st (M := MX10_obey) (pc := 7) [some (.ref 0), some (.ref 17)] dX10_obey_7 rfl rfl rfl rfl rfl rfl ?_
  refine tt_ld (M := MX10_obey) (pc := 8) dX10_obey_8 rfl rfl rfl rfl rfl ?_
  refine tt_getR (M := MX10_obey) (pc := 9) dX10_obey_9 rfl h0.1 rfl ?_
  refine tt_getI (M := MX10_obey) (pc := 12) dX10_obey_12 rfl h0.2.2.2.2.2.2.2.1 rfl ?_
  refine tt_switch (M := MX10_obey) (pc := 15) 151 dX10_obey_15 ⟨by decide, by simp only [List.length_cons, List.length_nil]; omega⟩ rfl rfl ?_ ?_
  · refine tt_iconst (M := MX10_obey) (pc := 151) dX10_obey_151 ?_
    exact tt_iret (M := MX10_obey) (pc := 152) dX10_obey_152 rfl
  · refine ⟨⟨48, rfl, ?_⟩, ⟨⟨74, rfl, ?_⟩, ⟨⟨97, rfl, ?_⟩, ⟨⟨109, rfl, ?_⟩, ⟨⟨121, rfl, ?_⟩, trivial⟩⟩⟩⟩⟩
    · refine tt_ld (M := MX10_obey) (pc := 48) dX10_obey_48 rfl rfl rfl rfl rfl ?_
      refine tt_ld (M := MX10_obey) (pc := 49) dX10_obey_49 rfl rfl rfl rfl rfl ?_
      refine tt_getR (M := MX10_obey) (pc := 50) dX10_obey_50 rfl h0.1 rfl ?_
      refine tt_getI (M := MX10_obey) (pc := 53) dX10_obey_53 rfl h0.2.2.2.2.2.2.2.1 rfl ?_
      refine tt_ld (M := MX10_obey) (pc := 56) dX10_obey_56 rfl rfl rfl rfl rfl ?_
      refine tt_getR (M := MX10_obey) (pc := 57) dX10_obey_57 rfl h0.1 rfl ?_
      refine tt_getI (M := MX10_obey) (pc := 60) dX10_obey_60 rfl h0.2.2.2.2.2.2.2.1 rfl ?_
      refine tt_ld (M := MX10_obey) (pc := 63) dX10_obey_63 rfl rfl rfl rfl rfl ?_
      refine tt_getR (M := MX10_obey) (pc := 64) dX10_obey_64 rfl h0.1 rfl ?_
      refine tt_getI (M := MX10_obey) (pc := 67) dX10_obey_67 rfl h0.2.2.2.2.2.2.2.1 rfl ?_
      refine tt_vcIN (M := MX10_obey) (pc := 70) dX10_obey_70 rfl rfl [] rfl rfl ⟨rfl, by decide, Nat.le_of_ble_eq_true rfl⟩ h0.2.2.2.1.2.2.2.2.1.1 fun v101 S102 => ?_
      exact tt_iret (M := MX10_obey) (pc := 73) dX10_obey_73 rfl
    · refine tt_ld (M := MX10_obey) (pc := 74) dX10_obey_74 rfl rfl rfl rfl rfl ?_
      refine tt_ld (M := MX10_obey) (pc := 75) dX10_obey_75 rfl rfl rfl rfl rfl ?_
      refine tt_getR (M := MX10_obey) (pc := 76) dX10_obey_76 rfl h0.1 rfl ?_
      refine tt_getI (M := MX10_obey) (pc := 79) dX10_obey_79 rfl h0.2.2.2.2.2.2.2.1 rfl ?_
      refine tt_ld (M := MX10_obey) (pc := 82) dX10_obey_82 rfl rfl rfl rfl rfl ?_
      refine tt_ld (M := MX10_obey) (pc := 83) dX10_obey_83 rfl rfl rfl rfl rfl ?_
      refine tt_getR (M := MX10_obey) (pc := 84) dX10_obey_84 rfl h0.1 rfl ?_
      refine tt_getI (M := MX10_obey) (pc := 87) dX10_obey_87 rfl h0.2.2.2.2.2.2.2.1 rfl ?_
      refine tt_vcIN (M := MX10_obey) (pc := 90) dX10_obey_90 rfl rfl [.int (I (S 86 3)), .ref 17] rfl rfl ⟨rfl, by decide, Nat.le_of_ble_eq_true rfl⟩ h0.2.2.2.1.2.2.2.2.1.1 fun v103 S104 => ?_
      refine tt_vcIN (M := MX10_obey) (pc := 93) dX10_obey_93 rfl rfl [] rfl rfl ⟨rfl, by decide, Nat.le_of_ble_eq_true rfl⟩ h0.2.2.2.1.2.2.2.2.1.1 fun v105 S106 => ?_
      exact tt_iret (M := MX10_obey) (pc := 96) dX10_obey_96 rfl
    · refine tt_ld (M := MX10_obey) (pc := 97) dX10_obey_97 rfl rfl rfl rfl rfl ?_
      refine tt_ld (M := MX10_obey) (pc := 98) dX10_obey_98 rfl rfl rfl rfl rfl ?_
      refine tt_getR (M := MX10_obey) (pc := 99) dX10_obey_99 rfl h0.1 rfl ?_
      refine tt_getI (M := MX10_obey) (pc := 102) dX10_obey_102 rfl h0.2.2.2.2.2.2.2.1 rfl ?_
      refine tt_vcIN (M := MX10_obey) (pc := 105) dX10_obey_105 rfl rfl [] rfl rfl ⟨rfl, by decide, Nat.le_of_ble_eq_true rfl⟩ h0.2.2.2.1.2.2.2.2.1.1 fun v107 S108 => ?_
      exact tt_iret (M := MX10_obey) (pc := 108) dX10_obey_108 rfl
    · refine tt_ld (M := MX10_obey) (pc := 109) dX10_obey_109 rfl rfl rfl rfl rfl ?_
      refine tt_ld (M := MX10_obey) (pc := 110) dX10_obey_110 rfl rfl rfl rfl rfl ?_
      refine tt_getR (M := MX10_obey) (pc := 111) dX10_obey_111 rfl h0.1 rfl ?_
      refine tt_getI (M := MX10_obey) (pc := 114) dX10_obey_114 rfl h0.2.2.2.2.2.2.2.1 rfl ?_
      refine tt_vcIN (M := MX10_obey) (pc := 117) dX10_obey_117 rfl rfl [] rfl rfl ⟨rfl, by decide, Nat.le_of_ble_eq_true rfl⟩ h0.2.2.2.1.2.2.2.2.1.1 fun v109 S110 => ?_
      exact tt_iret (M := MX10_obey) (pc := 120) dX10_obey_120 rfl
    · refine tt_ld (M := MX10_obey) (pc := 121) dX10_obey_121 rfl rfl rfl rfl rfl ?_
      refine tt_ld (M := MX10_obey) (pc := 122) dX10_obey_122 rfl rfl rfl rfl rfl ?_
      refine tt_getR (M := MX10_obey) (pc := 123) dX10_obey_123 rfl h0.1 rfl ?_
      refine tt_getI (M := MX10_obey) (pc := 126) dX10_obey_126 rfl h0.2.2.2.2.2.2.2.1 rfl ?_
      refine tt_vcIN (M := MX10_obey) (pc := 129) dX10_obey_129 rfl rfl [] rfl rfl ⟨rfl, by decide, Nat.le_of_ble_eq_true rfl⟩ h0.2.2.2.1.2.2.2.2.1.1 fun v111 S112 => ?_
      refine tt_if_eq (M := MX10_obey) (pc := 132) 149 dX10_obey_132 rfl ?_ ?_
      · refine tt_iconst (M := MX10_obey) (pc := 149) dX10_obey_149 ?_
        exact tt_iret (M := MX10_obey) (pc := 150) dX10_obey_150 rfl
      · refine tt_ld (M := MX10_obey) (pc := 135) dX10_obey_135 rfl rfl rfl rfl rfl ?_
        refine tt_ld (M := MX10_obey) (pc := 136) dX10_obey_136 rfl rfl rfl rfl rfl ?_
        refine tt_getR (M := MX10_obey) (pc := 137) dX10_obey_137 rfl h0.1 rfl ?_
        refine tt_getI (M := MX10_obey) (pc := 140) dX10_obey_140 rfl h0.2.2.2.2.2.2.2.1 rfl ?_
        refine tt_vcIN (M := MX10_obey) (pc := 143) dX10_obey_143 rfl rfl [] rfl rfl ⟨rfl, by decide, Nat.le_of_ble_eq_true rfl⟩ h0.2.2.2.1.2.2.2.2.1.1 fun v113 S114 => ?_
        refine tt_goto (M := MX10_obey) (pc := 146) 150 dX10_obey_146 rfl ?_
        exact tt_iret (M := MX10_obey) (pc := 150) dX10_obey_150 rfl
theorem qX10_fits_0 {sc : Nat × (Nat → Int32)} {SH : List mCell} {S : mStore} {r : mR × mW} (h0 : sGP SH) {l1 : Int} {l2 : Int} {l3 : Int} {l4 : Int} {u5 : Option Value} : ((∃ S101, G sc MX7_become 0 [some (.ref 65), some (.ref 17)] [] SH S (rV SH S101) ∧ (if I l3 = I (-1) then G sc MX10_fits 38 [some (.ref 0), some (.int (I l1)), some (.int (I l2)), some (.int (I l3)), some (.int (I l4)), some (.int (I 0))] [] SH S101 r else (∃ v102 S103, G sc MX7_putCell 0 [some (.ref 65), some (.int (I l1)), some (.int (I l2)), some (.int (I l3)), none] [] SH S101 (rI v102 SH S103) ∧ (if I v102 = I (-1) then ((I 0 = I 0 ∨ I 0 = I 1) ∧ r = rI 0 SH S103) else G sc MX10_fits 38 [some (.ref 0), some (.int (I l1)), some (.int (I l2)), some (.int (I l3)), some (.int (I l4)), some (.int (I 0))] [] SH S103 r))))) → G sc MX10_fits 0 [some (.ref 0), some (.int (I l1)), some (.int (I l2)), some (.int (I l3)), some (.int (I l4)), u5] [] SH S r := by
  refine tt_ld (M := MX10_fits) (pc := 0) dX10_fits_0 rfl rfl rfl rfl rfl ?_
  refine tt_getR (M := MX10_fits) (pc := 1) dX10_fits_1 rfl h0.1 rfl ?_
  refine tt_ld (M := MX10_fits) (pc := 4) dX10_fits_4 rfl rfl rfl rfl rfl ?_
  refine tt_getR (M := MX10_fits) (pc := 5) dX10_fits_5 rfl h0.1 rfl ?_
  refine tt_getR (M := MX10_fits) (pc := 8) dX10_fits_8 rfl h0.2.2.2.1.1 rfl ?_
  refine tt_vcVN (M := MX10_fits) (pc := 11) dX10_fits_11 rfl rfl [] rfl rfl ⟨rfl, by decide, Nat.le_of_ble_eq_true rfl⟩ h0.2.2.2.2.2.1.1 fun S101 => ?_
  refine tt_ld (M := MX10_fits) (pc := 14) dX10_fits_14 rfl rfl rfl rfl rfl ?_
  refine tt_iconst (M := MX10_fits) (pc := 15) dX10_fits_15 ?_
  refine tt_ic_eq (M := MX10_fits) (pc := 16) 35 dX10_fits_16 rfl ?_ ?_
  · refine tt_iconst (M := MX10_fits) (pc := 35) dX10_fits_35 ?_
    refine tt_st (M := MX10_fits) (pc := 36) [some (.ref 0), some (.int (I l1)), some (.int (I l2)), some (.int (I l3)), some (.int (I l4)), some (.int (I 0))] dX10_fits_36 rfl rfl rfl rfl rfl rfl ?_
    exact id
  · refine tt_ld (M := MX10_fits) (pc := 19) dX10_fits_19 rfl rfl rfl rfl rfl ?_
    refine tt_getR (M := MX10_fits) (pc := 20) dX10_fits_20 rfl h0.1 rfl ?_
    refine tt_ld (M := MX10_fits) (pc := 23) dX10_fits_23 rfl rfl rfl rfl rfl ?_
    refine tt_ld (M := MX10_fits) (pc := 24) dX10_fits_24 rfl rfl rfl rfl rfl ?_
    refine tt_ld (M := MX10_fits) (pc := 25) dX10_fits_25 rfl rfl rfl rfl rfl ?_
    refine tt_vcIN (M := MX10_fits) (pc := 26) dX10_fits_26 rfl rfl [] rfl rfl ⟨rfl, by decide, Nat.le_of_ble_eq_true rfl⟩ h0.2.2.2.2.2.1.1 fun v102 S103 => ?_
    refine tt_iconst (M := MX10_fits) (pc := 29) dX10_fits_29 ?_
    refine tt_ic_ne (M := MX10_fits) (pc := 30) 35 dX10_fits_30 rfl ?_ ?_
    · refine tt_iconst (M := MX10_fits) (pc := 35) dX10_fits_35 ?_
      refine tt_st (M := MX10_fits) (pc := 36) [some (.ref 0), some (.int (I l1)), some (.int (I l2)), some (.int (I l3)), some (.int (I l4)), some (.int (I 0))] dX10_fits_36 rfl rfl rfl rfl rfl rfl ?_
      exact id
    · refine tt_iconst (M := MX10_fits) (pc := 33) dX10_fits_33 ?_
      exact tt_zret (M := MX10_fits) (pc := 34) dX10_fits_34 rfl
theorem qX10_fits_38 {sc : Nat × (Nat → Int32)} {SH : List mCell} {S : mStore} {r : mR × mW} (h0 : sGP SH) {l1 : Int} {l2 : Int} {l3 : Int} {l4 : Int} {l5 : Int} : ((if I l4 < I l5 then G sc MX10_fits 89 [some (.ref 0), some (.int (I l1)), some (.int (I l2)), some (.int (I l3)), some (.int (I l4)), some (.int (I l5))] [] SH S r else (if I 21 ≤ I l5 then G sc MX10_fits 89 [some (.ref 0), some (.int (I l1)), some (.int (I l2)), some (.int (I l3)), some (.int (I l4)), some (.int (I l5))] [] SH S r else (if I l5 ≤ I 0 then (∃ v101 S102, G sc MX7_used 0 [some (.ref 65), none, none] [] SH S (rI v101 SH S102) ∧ (((0 : Int) ≤ l5 ∧ l5 < 21) ∧ G sc MX10_fits 38 [some (.ref 0), some (.int (I l1)), some (.int (I l2)), some (.int (I l3)), some (.int (I l4)), some (.int (I (l5 + 1)))] [] SH (up S102 88 l5 v101) r)) else (∃ v103 S104, G sc MX7_tick 0 [some (.ref 65), some (.int (I 1)), none, none, none, none] [] SH S (rI v103 SH S104) ∧ (∃ v105 S106, G sc MX7_used 0 [some (.ref 65), none, none] [] SH S104 (rI v105 SH S106) ∧ (((0 : Int) ≤ l5 ∧ l5 < 21) ∧ G sc MX10_fits 38 [some (.ref 0), some (.int (I l1)), some (.int (I l2)), some (.int (I l3)), some (.int (I l4)), some (.int (I (l5 + 1)))] [] SH (up S106 88 l5 v105) r))))))) → G sc MX10_fits 38 [some (.ref 0), some (.int (I l1)), some (.int (I l2)), some (.int (I l3)), some (.int (I l4)), some (.int (I l5))] [] SH S r := by
  refine tt_ld (M := MX10_fits) (pc := 38) dX10_fits_38 rfl rfl rfl rfl rfl ?_
  refine tt_ld (M := MX10_fits) (pc := 40) dX10_fits_40 rfl rfl rfl rfl rfl ?_
  refine tt_ic_gt (M := MX10_fits) (pc := 42) 89 dX10_fits_42 rfl ?_ ?_
  · exact id
  · refine tt_ld (M := MX10_fits) (pc := 45) dX10_fits_45 rfl rfl rfl rfl rfl ?_
    refine tt_ld (M := MX10_fits) (pc := 47) dX10_fits_47 rfl rfl rfl rfl rfl ?_
    refine tt_getR (M := MX10_fits) (pc := 48) dX10_fits_48 rfl h0.1 rfl ?_
    refine tt_len (M := MX10_fits) (pc := 51) dX10_fits_51 h0.2.2.2.2.2.2.2.2.2.1 ?_
    refine tt_ic_ge (M := MX10_fits) (pc := 52) 89 dX10_fits_52 rfl ?_ ?_
    · exact id
    · refine tt_ld (M := MX10_fits) (pc := 55) dX10_fits_55 rfl rfl rfl rfl rfl ?_
      refine tt_if_le (M := MX10_fits) (pc := 57) 69 dX10_fits_57 rfl ?_ ?_
      · refine tt_ld (M := MX10_fits) (pc := 69) dX10_fits_69 rfl rfl rfl rfl rfl ?_
        refine tt_getR (M := MX10_fits) (pc := 70) dX10_fits_70 rfl h0.1 rfl ?_
        refine tt_ld (M := MX10_fits) (pc := 73) dX10_fits_73 rfl rfl rfl rfl rfl ?_
        refine tt_ld (M := MX10_fits) (pc := 75) dX10_fits_75 rfl rfl rfl rfl rfl ?_
        refine tt_getR (M := MX10_fits) (pc := 76) dX10_fits_76 rfl h0.1 rfl ?_
        refine tt_vcIN (M := MX10_fits) (pc := 79) dX10_fits_79 rfl rfl [.int (I l5), .ref 88] rfl rfl ⟨rfl, by decide, Nat.le_of_ble_eq_true rfl⟩ h0.2.2.2.2.2.1.1 fun v101 S102 => ?_
        refine tt_iastore (M := MX10_fits) (pc := 82) dX10_fits_82 h0.2.2.2.2.2.2.2.2.2.1 rfl ?_
        refine tt_iinc (M := MX10_fits) (pc := 83) [some (.ref 0), some (.int (I l1)), some (.int (I l2)), some (.int (I l3)), some (.int (I l4)), some (.int (I (l5 + 1)))] dX10_fits_83 rfl rfl ?_
        refine tt_goto (M := MX10_fits) (pc := 86) 38 dX10_fits_86 rfl ?_
        exact id
      · refine tt_ld (M := MX10_fits) (pc := 60) dX10_fits_60 rfl rfl rfl rfl rfl ?_
        refine tt_getR (M := MX10_fits) (pc := 61) dX10_fits_61 rfl h0.1 rfl ?_
        refine tt_iconst (M := MX10_fits) (pc := 64) dX10_fits_64 ?_
        refine tt_vcIN (M := MX10_fits) (pc := 65) dX10_fits_65 rfl rfl [] rfl rfl ⟨rfl, by decide, Nat.le_of_ble_eq_true rfl⟩ h0.2.2.2.2.2.1.1 fun v103 S104 => ?_
        refine tt_pop (M := MX10_fits) (pc := 68) dX10_fits_68 rfl ?_
        refine tt_ld (M := MX10_fits) (pc := 69) dX10_fits_69 rfl rfl rfl rfl rfl ?_
        refine tt_getR (M := MX10_fits) (pc := 70) dX10_fits_70 rfl h0.1 rfl ?_
        refine tt_ld (M := MX10_fits) (pc := 73) dX10_fits_73 rfl rfl rfl rfl rfl ?_
        refine tt_ld (M := MX10_fits) (pc := 75) dX10_fits_75 rfl rfl rfl rfl rfl ?_
        refine tt_getR (M := MX10_fits) (pc := 76) dX10_fits_76 rfl h0.1 rfl ?_
        refine tt_vcIN (M := MX10_fits) (pc := 79) dX10_fits_79 rfl rfl [.int (I l5), .ref 88] rfl rfl ⟨rfl, by decide, Nat.le_of_ble_eq_true rfl⟩ h0.2.2.2.2.2.1.1 fun v105 S106 => ?_
        refine tt_iastore (M := MX10_fits) (pc := 82) dX10_fits_82 h0.2.2.2.2.2.2.2.2.2.1 rfl ?_
        refine tt_iinc (M := MX10_fits) (pc := 83) [some (.ref 0), some (.int (I l1)), some (.int (I l2)), some (.int (I l3)), some (.int (I l4)), some (.int (I (l5 + 1)))] dX10_fits_83 rfl rfl ?_
        refine tt_goto (M := MX10_fits) (pc := 86) 38 dX10_fits_86 rfl ?_
        exact id
theorem qX10_fits_89 {sc : Nat × (Nat → Int32)} {SH : List mCell} {S : mStore} {r : mR × mW} (h0 : sGP SH) {l1 : Int} {l2 : Int} {l3 : Int} {l4 : Int} {l5 : Int} : (G sc MX10_fits 92 [some (.ref 0), some (.int (I l1)), some (.int (I l2)), some (.int (I l3)), some (.int (I l4)), some (.int (I 0))] [] SH S r) → G sc MX10_fits 89 [some (.ref 0), some (.int (I l1)), some (.int (I l2)), some (.int (I l3)), some (.int (I l4)), some (.int (I l5))] [] SH S r := by
  refine tt_iconst (M := MX10_fits) (pc := 89) dX10_fits_89 ?_
  refine tt_st (M := MX10_fits) (pc := 90) [some (.ref 0), some (.int (I l1)), some (.int (I l2)), some (.int (I l3)), some (.int (I l4)), some (.int (I 0))] dX10_fits_90 rfl rfl rfl rfl rfl rfl ?_
  exact id
theorem qX10_fits_92 {sc : Nat × (Nat → Int32)} {SH : List mCell} {S : mStore} {r : mR × mW} (h0 : sGP SH) {l1 : Int} {l2 : Int} {l3 : Int} {l4 : Int} {l5 : Int} : ((if I (S 13 5) ≤ I l5 then ((I 1 = I 0 ∨ I 1 = I 1) ∧ r = rI 1 SH S) else (((0 : Int) ≤ l5 ∧ l5 < 8) ∧ (((0 : Int) ≤ S 14 l5 ∧ S 14 l5 < 21) ∧ (((0 : Int) ≤ l5 ∧ l5 < 8) ∧ (if I (S 88 (S 14 l5)) = I (S 15 l5) then G sc MX10_fits 92 [some (.ref 0), some (.int (I l1)), some (.int (I l2)), some (.int (I l3)), some (.int (I l4)), some (.int (I (l5 + 1)))] [] SH S r else ((I 0 = I 0 ∨ I 0 = I 1) ∧ r = rI 0 SH S))))))) → G sc MX10_fits 92 [some (.ref 0), some (.int (I l1)), some (.int (I l2)), some (.int (I l3)), some (.int (I l4)), some (.int (I l5))] [] SH S r := by
  refine tt_ld (M := MX10_fits) (pc := 92) dX10_fits_92 rfl rfl rfl rfl rfl ?_
  refine tt_ld (M := MX10_fits) (pc := 94) dX10_fits_94 rfl rfl rfl rfl rfl ?_
  refine tt_getR (M := MX10_fits) (pc := 95) dX10_fits_95 rfl h0.1 rfl ?_
  refine tt_getI (M := MX10_fits) (pc := 98) dX10_fits_98 rfl h0.2.2.2.1.1 rfl ?_
  refine tt_ic_ge (M := MX10_fits) (pc := 101) 140 dX10_fits_101 rfl ?_ ?_
  · refine tt_iconst (M := MX10_fits) (pc := 140) dX10_fits_140 ?_
    exact tt_zret (M := MX10_fits) (pc := 141) dX10_fits_141 rfl
  · refine tt_ld (M := MX10_fits) (pc := 104) dX10_fits_104 rfl rfl rfl rfl rfl ?_
    refine tt_getR (M := MX10_fits) (pc := 105) dX10_fits_105 rfl h0.1 rfl ?_
    refine tt_ld (M := MX10_fits) (pc := 108) dX10_fits_108 rfl rfl rfl rfl rfl ?_
    refine tt_getR (M := MX10_fits) (pc := 109) dX10_fits_109 rfl h0.1 rfl ?_
    refine tt_getR (M := MX10_fits) (pc := 112) dX10_fits_112 rfl h0.2.2.2.1.1 rfl ?_
    refine tt_ld (M := MX10_fits) (pc := 115) dX10_fits_115 rfl rfl rfl rfl rfl ?_
    refine tt_iaload (M := MX10_fits) (pc := 117) dX10_fits_117 h0.2.2.2.1.2.1 rfl ?_
    refine tt_iaload (M := MX10_fits) (pc := 118) dX10_fits_118 h0.2.2.2.2.2.2.2.2.2.1 rfl ?_
    refine tt_ld (M := MX10_fits) (pc := 119) dX10_fits_119 rfl rfl rfl rfl rfl ?_
    refine tt_getR (M := MX10_fits) (pc := 120) dX10_fits_120 rfl h0.1 rfl ?_
    refine tt_getR (M := MX10_fits) (pc := 123) dX10_fits_123 rfl h0.2.2.2.1.1 rfl ?_
    refine tt_ld (M := MX10_fits) (pc := 126) dX10_fits_126 rfl rfl rfl rfl rfl ?_
    refine tt_iaload (M := MX10_fits) (pc := 128) dX10_fits_128 h0.2.2.2.1.2.2.1 rfl ?_
    refine tt_ic_eq (M := MX10_fits) (pc := 129) 134 dX10_fits_129 rfl ?_ ?_
    · refine tt_iinc (M := MX10_fits) (pc := 134) [some (.ref 0), some (.int (I l1)), some (.int (I l2)), some (.int (I l3)), some (.int (I l4)), some (.int (I (l5 + 1)))] dX10_fits_134 rfl rfl ?_
      refine tt_goto (M := MX10_fits) (pc := 137) 92 dX10_fits_137 rfl ?_
      exact id
    · refine tt_iconst (M := MX10_fits) (pc := 132) dX10_fits_132 ?_
      exact tt_zret (M := MX10_fits) (pc := 133) dX10_fits_133 rfl
theorem qX10_usedBy_0 {sc : Nat × (Nat → Int32)} {SH : List mCell} {S : mStore} {r : mR × mW} (h0 : sGP SH) {l1 : Int} {l2 : Int} {l3 : Int} {u4 : Option Value} : ((∃ S101, G sc MX7_become 0 [some (.ref 65), some (.ref 17)] [] SH S (rV SH S101) ∧ G sc MX10_usedBy 17 [some (.ref 0), some (.int (I l1)), some (.int (I l2)), some (.int (I l3)), some (.int (I 0))] [] SH S101 r)) → G sc MX10_usedBy 0 [some (.ref 0), some (.int (I l1)), some (.int (I l2)), some (.int (I l3)), u4] [] SH S r := by
  refine tt_ld (M := MX10_usedBy) (pc := 0) dX10_usedBy_0 rfl rfl rfl rfl rfl ?_
  refine tt_getR (M := MX10_usedBy) (pc := 1) dX10_usedBy_1 rfl h0.1 rfl ?_
  refine tt_ld (M := MX10_usedBy) (pc := 4) dX10_usedBy_4 rfl rfl rfl rfl rfl ?_
  refine tt_getR (M := MX10_usedBy) (pc := 5) dX10_usedBy_5 rfl h0.1 rfl ?_
  refine tt_getR (M := MX10_usedBy) (pc := 8) dX10_usedBy_8 rfl h0.2.2.2.1.1 rfl ?_
  refine tt_vcVN (M := MX10_usedBy) (pc := 11) dX10_usedBy_11 rfl rfl [] rfl rfl ⟨rfl, by decide, Nat.le_of_ble_eq_true rfl⟩ h0.2.2.2.2.2.1.1 fun S101 => ?_
  refine tt_iconst (M := MX10_usedBy) (pc := 14) dX10_usedBy_14 ?_
  refine tt_st (M := MX10_usedBy) (pc := 15) [some (.ref 0), some (.int (I l1)), some (.int (I l2)), some (.int (I l3)), some (.int (I 0))] dX10_usedBy_15 rfl rfl rfl rfl rfl rfl ?_
  exact id
theorem qX10_usedBy_17 {sc : Nat × (Nat → Int32)} {SH : List mCell} {S : mStore} {r : mR × mW} (h0 : sGP SH) {l1 : Int} {l2 : Int} {l3 : Int} {l4 : Int} : ((if I l2 ≤ I l4 then (∃ v101 S102, G sc MX7_used 0 [some (.ref 65), none, none] [] SH S (rI v101 SH S102) ∧ r = rI v101 SH S102) else (if I (ian (isr l3 l4) 1) = I 1 then (∃ v105 S106, G sc MX7_cellsAt 0 [some (.ref 65), some (.int (I l1)), none] [] SH S (rI v105 SH S106) ∧ (∃ v107 S108, G sc MX10_cellOf 0 [some (.int (I v105)), some (.int (I 0))] [] SH S106 (rI v107 SH S108) ∧ (∃ v109 S110, G sc MX7_putCell 0 [some (.ref 65), some (.int (I l1)), some (.int (I 0)), some (.int (I (ian (v107 + 1) 15))), none] [] SH S108 (rI v109 SH S110) ∧ (∃ v111 S112, G sc MX7_tick 0 [some (.ref 65), some (.int (I 1)), none, none, none, none] [] SH S110 (rI v111 SH S112) ∧ G sc MX10_usedBy 17 [some (.ref 0), some (.int (I l1)), some (.int (I l2)), some (.int (I l3)), some (.int (I (l4 + 1)))] [] SH S112 r)))) else (∃ v103 S104, G sc MX7_tick 0 [some (.ref 65), some (.int (I 1)), none, none, none, none] [] SH S (rI v103 SH S104) ∧ G sc MX10_usedBy 17 [some (.ref 0), some (.int (I l1)), some (.int (I l2)), some (.int (I l3)), some (.int (I (l4 + 1)))] [] SH S104 r)))) → G sc MX10_usedBy 17 [some (.ref 0), some (.int (I l1)), some (.int (I l2)), some (.int (I l3)), some (.int (I l4))] [] SH S r := by
  refine tt_ld (M := MX10_usedBy) (pc := 17) dX10_usedBy_17 rfl rfl rfl rfl rfl ?_
  refine tt_ld (M := MX10_usedBy) (pc := 19) dX10_usedBy_19 rfl rfl rfl rfl rfl ?_
  refine tt_ic_ge (M := MX10_usedBy) (pc := 20) 75 dX10_usedBy_20 rfl ?_ ?_
  · refine tt_ld (M := MX10_usedBy) (pc := 75) dX10_usedBy_75 rfl rfl rfl rfl rfl ?_
    refine tt_getR (M := MX10_usedBy) (pc := 76) dX10_usedBy_76 rfl h0.1 rfl ?_
    refine tt_vcIN (M := MX10_usedBy) (pc := 79) dX10_usedBy_79 rfl rfl [] rfl rfl ⟨rfl, by decide, Nat.le_of_ble_eq_true rfl⟩ h0.2.2.2.2.2.1.1 fun v101 S102 => ?_
    exact tt_iret (M := MX10_usedBy) (pc := 82) dX10_usedBy_82 rfl
  · refine tt_ld (M := MX10_usedBy) (pc := 23) dX10_usedBy_23 rfl rfl rfl rfl rfl ?_
    refine tt_ld (M := MX10_usedBy) (pc := 24) dX10_usedBy_24 rfl rfl rfl rfl rfl ?_
    refine tt_ishr (M := MX10_usedBy) (pc := 26) dX10_usedBy_26 ?_
    refine tt_iconst (M := MX10_usedBy) (pc := 27) dX10_usedBy_27 ?_
    refine tt_iand (M := MX10_usedBy) (pc := 28) dX10_usedBy_28 ?_
    refine tt_iconst (M := MX10_usedBy) (pc := 29) dX10_usedBy_29 ?_
    refine tt_ic_ne (M := MX10_usedBy) (pc := 30) 60 dX10_usedBy_30 rfl ?_ ?_
    · refine tt_ld (M := MX10_usedBy) (pc := 60) dX10_usedBy_60 rfl rfl rfl rfl rfl ?_
      refine tt_getR (M := MX10_usedBy) (pc := 61) dX10_usedBy_61 rfl h0.1 rfl ?_
      refine tt_iconst (M := MX10_usedBy) (pc := 64) dX10_usedBy_64 ?_
      refine tt_vcIN (M := MX10_usedBy) (pc := 65) dX10_usedBy_65 rfl rfl [] rfl rfl ⟨rfl, by decide, Nat.le_of_ble_eq_true rfl⟩ h0.2.2.2.2.2.1.1 fun v103 S104 => ?_
      refine tt_pop (M := MX10_usedBy) (pc := 68) dX10_usedBy_68 rfl ?_
      refine tt_iinc (M := MX10_usedBy) (pc := 69) [some (.ref 0), some (.int (I l1)), some (.int (I l2)), some (.int (I l3)), some (.int (I (l4 + 1)))] dX10_usedBy_69 rfl rfl ?_
      refine tt_goto (M := MX10_usedBy) (pc := 72) 17 dX10_usedBy_72 rfl ?_
      exact id
    · refine tt_ld (M := MX10_usedBy) (pc := 33) dX10_usedBy_33 rfl rfl rfl rfl rfl ?_
      refine tt_getR (M := MX10_usedBy) (pc := 34) dX10_usedBy_34 rfl h0.1 rfl ?_
      refine tt_ld (M := MX10_usedBy) (pc := 37) dX10_usedBy_37 rfl rfl rfl rfl rfl ?_
      refine tt_iconst (M := MX10_usedBy) (pc := 38) dX10_usedBy_38 ?_
      refine tt_ld (M := MX10_usedBy) (pc := 39) dX10_usedBy_39 rfl rfl rfl rfl rfl ?_
      refine tt_getR (M := MX10_usedBy) (pc := 40) dX10_usedBy_40 rfl h0.1 rfl ?_
      refine tt_ld (M := MX10_usedBy) (pc := 43) dX10_usedBy_43 rfl rfl rfl rfl rfl ?_
      refine tt_vcIN (M := MX10_usedBy) (pc := 44) dX10_usedBy_44 rfl rfl [.int (I 0), .int (I l1), .ref 65] rfl rfl ⟨rfl, by decide, Nat.le_of_ble_eq_true rfl⟩ h0.2.2.2.2.2.1.1 fun v105 S106 => ?_
      refine tt_iconst (M := MX10_usedBy) (pc := 47) dX10_usedBy_47 ?_
      refine tt_scIN (M := MX10_usedBy) (pc := 48) dX10_usedBy_48 rfl [.int (I 0), .int (I l1), .ref 65] rfl rfl ⟨rfl, by decide, Nat.le_of_ble_eq_true rfl⟩ fun v107 S108 => ?_
      refine tt_iconst (M := MX10_usedBy) (pc := 51) dX10_usedBy_51 ?_
      refine tt_iadd (M := MX10_usedBy) (pc := 52) dX10_usedBy_52 ?_
      refine tt_bipush (M := MX10_usedBy) (pc := 53) dX10_usedBy_53 (by decide) ?_
      refine tt_iand (M := MX10_usedBy) (pc := 55) dX10_usedBy_55 ?_
      refine tt_vcIN (M := MX10_usedBy) (pc := 56) dX10_usedBy_56 rfl rfl [] rfl rfl ⟨rfl, by decide, Nat.le_of_ble_eq_true rfl⟩ h0.2.2.2.2.2.1.1 fun v109 S110 => ?_
      refine tt_pop (M := MX10_usedBy) (pc := 59) dX10_usedBy_59 rfl ?_
      refine tt_ld (M := MX10_usedBy) (pc := 60) dX10_usedBy_60 rfl rfl rfl rfl rfl ?_
      refine tt_getR (M := MX10_usedBy) (pc := 61) dX10_usedBy_61 rfl h0.1 rfl ?_
      refine tt_iconst (M := MX10_usedBy) (pc := 64) dX10_usedBy_64 ?_
      refine tt_vcIN (M := MX10_usedBy) (pc := 65) dX10_usedBy_65 rfl rfl [] rfl rfl ⟨rfl, by decide, Nat.le_of_ble_eq_true rfl⟩ h0.2.2.2.2.2.1.1 fun v111 S112 => ?_
      refine tt_pop (M := MX10_usedBy) (pc := 68) dX10_usedBy_68 rfl ?_
      refine tt_iinc (M := MX10_usedBy) (pc := 69) [some (.ref 0), some (.int (I l1)), some (.int (I l2)), some (.int (I l3)), some (.int (I (l4 + 1)))] dX10_usedBy_69 rfl rfl ?_
      refine tt_goto (M := MX10_usedBy) (pc := 72) 17 dX10_usedBy_72 rfl ?_
      exact id
theorem qX10_befallsByChance_0 {sc : Nat × (Nat → Int32)} {SH : List mCell} {S : mStore} {r : mR × mW} (h0 : sGP SH) {u1 : Option Value} {u2 : Option Value} {u3 : Option Value} : ((∃ v101 S102, G sc MX2_drawOf 0 [some (.ref 87), some (.int (I 4))] [] SH S (rI v101 SH S102) ∧ (if I v101 = I 3 then r = rI 0 SH S102 else (if I (S102 1 7) = I 0 then r = rI 0 SH S102 else (∃ v103 S104, G sc MX2_drawOf 0 [some (.ref 87), some (.int (I (S102 1 7)))] [] SH S102 (rI v103 SH S104) ∧ (if I v101 = I 0 then (∃ v113 S114, G sc MX2_drawOf 0 [some (.ref 87), some (.int (I 4))] [] SH S104 (rI v113 SH S114) ∧ (∃ v115 S116, G sc MX2_drawOf 0 [some (.ref 87), some (.int (I 4))] [] SH S114 (rI v115 SH S116) ∧ (∃ v117 S118, G sc MX7_putCell 0 [some (.ref 65), some (.int (I v103)), some (.int (I v113)), some (.int (I v115)), none] [] SH S116 (rI v117 SH S118) ∧ r = rI v117 SH S118))) else (if I v101 = I 1 then (∃ v107 S108, G sc MX2_drawOf 0 [some (.ref 87), some (.int (I (S104 1 7)))] [] SH S104 (rI v107 SH S108) ∧ (∃ v109 S110, G sc MX7_cellsAt 0 [some (.ref 65), some (.int (I v107)), none] [] SH S108 (rI v109 SH S110) ∧ (∃ v111 S112, G sc MX7_put 0 [some (.ref 65), some (.int (I v103)), some (.int (I v109)), none, none] [] SH S110 (rI v111 SH S112) ∧ r = rI v111 SH S112))) else (∃ v105 S106, G sc MX7_dropPage 0 [some (.ref 65), some (.int (I v103)), none] [] SH S104 (rI v105 SH S106) ∧ r = rI 0 SH S106)))))))) → G sc MX10_befallsByChance 0 [some (.ref 0), u1, u2, u3] [] SH S r := by
  refine tt_ld (M := MX10_befallsByChance) (pc := 0) dX10_befallsByChance_0 rfl rfl rfl rfl rfl ?_
  refine tt_getR (M := MX10_befallsByChance) (pc := 1) dX10_befallsByChance_1 rfl h0.1 rfl ?_
  refine tt_iconst (M := MX10_befallsByChance) (pc := 4) dX10_befallsByChance_4 ?_
  refine tt_vcIN (M := MX10_befallsByChance) (pc := 5) dX10_befallsByChance_5 rfl rfl [] rfl rfl ⟨rfl, by decide, Nat.le_of_ble_eq_true rfl⟩ h0.2.2.2.2.2.2.2.2.1 fun v101 S102 => ?_
  refine tt_st (M := MX10_befallsByChance) (pc := 8) [some (.ref 0), some (.int (I v101)), u2, u3] dX10_befallsByChance_8 rfl rfl rfl rfl rfl rfl ?_
  refine tt_ld (M := MX10_befallsByChance) (pc := 9) dX10_befallsByChance_9 rfl rfl rfl rfl rfl ?_
  refine tt_iconst (M := MX10_befallsByChance) (pc := 10) dX10_befallsByChance_10 ?_
  refine tt_ic_eq (M := MX10_befallsByChance) (pc := 11) 24 dX10_befallsByChance_11 rfl ?_ ?_
  · refine tt_iconst (M := MX10_befallsByChance) (pc := 24) dX10_befallsByChance_24 ?_
    exact tt_iret (M := MX10_befallsByChance) (pc := 25) dX10_befallsByChance_25 rfl
  · refine tt_ld (M := MX10_befallsByChance) (pc := 14) dX10_befallsByChance_14 rfl rfl rfl rfl rfl ?_
    refine tt_getR (M := MX10_befallsByChance) (pc := 15) dX10_befallsByChance_15 rfl h0.1 rfl ?_
    refine tt_getI (M := MX10_befallsByChance) (pc := 18) dX10_befallsByChance_18 rfl h0.2.2.2.1.2.2.2.2.1.2.2.2.2.2.2.2.2.2.2.2.2.1 rfl ?_
    refine tt_if_ne (M := MX10_befallsByChance) (pc := 21) 26 dX10_befallsByChance_21 rfl ?_ ?_
    · refine tt_ld (M := MX10_befallsByChance) (pc := 26) dX10_befallsByChance_26 rfl rfl rfl rfl rfl ?_
      refine tt_getR (M := MX10_befallsByChance) (pc := 27) dX10_befallsByChance_27 rfl h0.1 rfl ?_
      refine tt_ld (M := MX10_befallsByChance) (pc := 30) dX10_befallsByChance_30 rfl rfl rfl rfl rfl ?_
      refine tt_getR (M := MX10_befallsByChance) (pc := 31) dX10_befallsByChance_31 rfl h0.1 rfl ?_
      refine tt_getI (M := MX10_befallsByChance) (pc := 34) dX10_befallsByChance_34 rfl h0.2.2.2.1.2.2.2.2.1.2.2.2.2.2.2.2.2.2.2.2.2.1 rfl ?_
      refine tt_vcIN (M := MX10_befallsByChance) (pc := 37) dX10_befallsByChance_37 rfl rfl [] rfl rfl ⟨rfl, by decide, Nat.le_of_ble_eq_true rfl⟩ h0.2.2.2.2.2.2.2.2.1 fun v103 S104 => ?_
      refine tt_st (M := MX10_befallsByChance) (pc := 40) [some (.ref 0), some (.int (I v101)), some (.int (I v103)), u3] dX10_befallsByChance_40 rfl rfl rfl rfl rfl rfl ?_
      refine tt_ld (M := MX10_befallsByChance) (pc := 41) dX10_befallsByChance_41 rfl rfl rfl rfl rfl ?_
      refine tt_if_ne (M := MX10_befallsByChance) (pc := 42) 72 dX10_befallsByChance_42 rfl ?_ ?_
      · refine tt_ld (M := MX10_befallsByChance) (pc := 72) dX10_befallsByChance_72 rfl rfl rfl rfl rfl ?_
        refine tt_iconst (M := MX10_befallsByChance) (pc := 73) dX10_befallsByChance_73 ?_
        refine tt_ic_ne (M := MX10_befallsByChance) (pc := 74) 107 dX10_befallsByChance_74 rfl ?_ ?_
        · refine tt_ld (M := MX10_befallsByChance) (pc := 107) dX10_befallsByChance_107 rfl rfl rfl rfl rfl ?_
          refine tt_getR (M := MX10_befallsByChance) (pc := 108) dX10_befallsByChance_108 rfl h0.1 rfl ?_
          refine tt_ld (M := MX10_befallsByChance) (pc := 111) dX10_befallsByChance_111 rfl rfl rfl rfl rfl ?_
          refine tt_vcIN (M := MX10_befallsByChance) (pc := 112) dX10_befallsByChance_112 rfl rfl [] rfl rfl ⟨rfl, by decide, Nat.le_of_ble_eq_true rfl⟩ h0.2.2.2.2.2.1.1 fun v105 S106 => ?_
          refine tt_pop (M := MX10_befallsByChance) (pc := 115) dX10_befallsByChance_115 rfl ?_
          refine tt_iconst (M := MX10_befallsByChance) (pc := 116) dX10_befallsByChance_116 ?_
          exact tt_iret (M := MX10_befallsByChance) (pc := 117) dX10_befallsByChance_117 rfl
        · refine tt_ld (M := MX10_befallsByChance) (pc := 77) dX10_befallsByChance_77 rfl rfl rfl rfl rfl ?_
          refine tt_getR (M := MX10_befallsByChance) (pc := 78) dX10_befallsByChance_78 rfl h0.1 rfl ?_
          refine tt_ld (M := MX10_befallsByChance) (pc := 81) dX10_befallsByChance_81 rfl rfl rfl rfl rfl ?_
          refine tt_ld (M := MX10_befallsByChance) (pc := 82) dX10_befallsByChance_82 rfl rfl rfl rfl rfl ?_
          refine tt_getR (M := MX10_befallsByChance) (pc := 83) dX10_befallsByChance_83 rfl h0.1 rfl ?_
          refine tt_ld (M := MX10_befallsByChance) (pc := 86) dX10_befallsByChance_86 rfl rfl rfl rfl rfl ?_
          refine tt_getR (M := MX10_befallsByChance) (pc := 87) dX10_befallsByChance_87 rfl h0.1 rfl ?_
          refine tt_ld (M := MX10_befallsByChance) (pc := 90) dX10_befallsByChance_90 rfl rfl rfl rfl rfl ?_
          refine tt_getR (M := MX10_befallsByChance) (pc := 91) dX10_befallsByChance_91 rfl h0.1 rfl ?_
          refine tt_getI (M := MX10_befallsByChance) (pc := 94) dX10_befallsByChance_94 rfl h0.2.2.2.1.2.2.2.2.1.2.2.2.2.2.2.2.2.2.2.2.2.1 rfl ?_
          refine tt_vcIN (M := MX10_befallsByChance) (pc := 97) dX10_befallsByChance_97 rfl rfl [.ref 65, .int (I v103), .ref 65] rfl rfl ⟨rfl, by decide, Nat.le_of_ble_eq_true rfl⟩ h0.2.2.2.2.2.2.2.2.1 fun v107 S108 => ?_
          refine tt_vcIN (M := MX10_befallsByChance) (pc := 100) dX10_befallsByChance_100 rfl rfl [.int (I v103), .ref 65] rfl rfl ⟨rfl, by decide, Nat.le_of_ble_eq_true rfl⟩ h0.2.2.2.2.2.1.1 fun v109 S110 => ?_
          refine tt_vcIN (M := MX10_befallsByChance) (pc := 103) dX10_befallsByChance_103 rfl rfl [] rfl rfl ⟨rfl, by decide, Nat.le_of_ble_eq_true rfl⟩ h0.2.2.2.2.2.1.1 fun v111 S112 => ?_
          exact tt_iret (M := MX10_befallsByChance) (pc := 106) dX10_befallsByChance_106 rfl
      · refine tt_ld (M := MX10_befallsByChance) (pc := 45) dX10_befallsByChance_45 rfl rfl rfl rfl rfl ?_
        refine tt_getR (M := MX10_befallsByChance) (pc := 46) dX10_befallsByChance_46 rfl h0.1 rfl ?_
        refine tt_iconst (M := MX10_befallsByChance) (pc := 49) dX10_befallsByChance_49 ?_
        refine tt_vcIN (M := MX10_befallsByChance) (pc := 50) dX10_befallsByChance_50 rfl rfl [] rfl rfl ⟨rfl, by decide, Nat.le_of_ble_eq_true rfl⟩ h0.2.2.2.2.2.2.2.2.1 fun v113 S114 => ?_
        refine tt_st (M := MX10_befallsByChance) (pc := 53) [some (.ref 0), some (.int (I v101)), some (.int (I v103)), some (.int (I v113))] dX10_befallsByChance_53 rfl rfl rfl rfl rfl rfl ?_
        refine tt_ld (M := MX10_befallsByChance) (pc := 54) dX10_befallsByChance_54 rfl rfl rfl rfl rfl ?_
        refine tt_getR (M := MX10_befallsByChance) (pc := 55) dX10_befallsByChance_55 rfl h0.1 rfl ?_
        refine tt_ld (M := MX10_befallsByChance) (pc := 58) dX10_befallsByChance_58 rfl rfl rfl rfl rfl ?_
        refine tt_ld (M := MX10_befallsByChance) (pc := 59) dX10_befallsByChance_59 rfl rfl rfl rfl rfl ?_
        refine tt_ld (M := MX10_befallsByChance) (pc := 60) dX10_befallsByChance_60 rfl rfl rfl rfl rfl ?_
        refine tt_getR (M := MX10_befallsByChance) (pc := 61) dX10_befallsByChance_61 rfl h0.1 rfl ?_
        refine tt_iconst (M := MX10_befallsByChance) (pc := 64) dX10_befallsByChance_64 ?_
        refine tt_vcIN (M := MX10_befallsByChance) (pc := 65) dX10_befallsByChance_65 rfl rfl [.int (I v113), .int (I v103), .ref 65] rfl rfl ⟨rfl, by decide, Nat.le_of_ble_eq_true rfl⟩ h0.2.2.2.2.2.2.2.2.1 fun v115 S116 => ?_
        refine tt_vcIN (M := MX10_befallsByChance) (pc := 68) dX10_befallsByChance_68 rfl rfl [] rfl rfl ⟨rfl, by decide, Nat.le_of_ble_eq_true rfl⟩ h0.2.2.2.2.2.1.1 fun v117 S118 => ?_
        exact tt_iret (M := MX10_befallsByChance) (pc := 71) dX10_befallsByChance_71 rfl
    · refine tt_iconst (M := MX10_befallsByChance) (pc := 24) dX10_befallsByChance_24 ?_
      exact tt_iret (M := MX10_befallsByChance) (pc := 25) dX10_befallsByChance_25 rfl
