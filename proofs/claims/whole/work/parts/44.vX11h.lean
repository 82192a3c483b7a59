-- needs: 43.tshape
/-! ===== the program as conditions (gen_vc.py) ===== -/
theorem qX11_areLike_0 {sc : Nat × (Nat → Int32)} {SH : List mCell} {S : mStore} {r : mR × mW} (h0 : sMod SH) {l1 : Int} {l2 : Int} {u3 : Option Value} : (G sc MX11_areLike 2 [some (.ref 90), some (.int (I l1)), some (.int (I l2)), some (.int (I 0))] [] SH S r) → G sc MX11_areLike 0 [some (.ref 90), some (.int (I l1)), some (.int (I l2)), u3] [] SH S r := by
  refine tt_iconst (M := MX11_areLike) (pc := 0) dX11_areLike_0 ?_
  refine tt_st (M := MX11_areLike) (pc := 1) [some (.ref 90), some (.int (I l1)), some (.int (I l2)), some (.int (I 0))] dX11_areLike_1 rfl rfl rfl rfl rfl rfl ?_
  exact id
theorem qX11_areLike_2 {sc : Nat × (Nat → Int32)} {SH : List mCell} {S : mStore} {r : mR × mW} (h0 : sMod SH) {l1 : Int} {l2 : Int} {l3 : Int} : ((if I 4 ≤ I l3 then ((I 1 = I 0 ∨ I 1 = I 1) ∧ r = rI 1 SH S) else (∃ v101 S102, G sc MX11_cellOf 0 [some (.ref 90), some (.int (I 0)), some (.int (I l1)), some (.int (I l3)), none] [] SH S (rI v101 SH S102) ∧ (∃ v103 S104, G sc MX11_cellOf 0 [some (.ref 90), some (.int (I 0)), some (.int (I l2)), some (.int (I l3)), none] [] SH S102 (rI v103 SH S104) ∧ (if I v101 = I v103 then G sc MX11_areLike 2 [some (.ref 90), some (.int (I l1)), some (.int (I l2)), some (.int (I (l3 + 1)))] [] SH S104 r else ((I 0 = I 0 ∨ I 0 = I 1) ∧ r = rI 0 SH S104)))))) → G sc MX11_areLike 2 [some (.ref 90), some (.int (I l1)), some (.int (I l2)), some (.int (I l3))] [] SH S r := by
  refine tt_ld (M := MX11_areLike) (pc := 2) dX11_areLike_2 rfl rfl rfl rfl rfl ?_
  refine tt_iconst (M := MX11_areLike) (pc := 3) dX11_areLike_3 ?_
  refine tt_ic_ge (M := MX11_areLike) (pc := 4) 32 dX11_areLike_4 rfl ?_ ?_
  · refine tt_iconst (M := MX11_areLike) (pc := 32) dX11_areLike_32 ?_
    exact tt_zret (M := MX11_areLike) (pc := 33) dX11_areLike_33 rfl
  · refine tt_ld (M := MX11_areLike) (pc := 7) dX11_areLike_7 rfl rfl rfl rfl rfl ?_
    refine tt_iconst (M := MX11_areLike) (pc := 8) dX11_areLike_8 ?_
    refine tt_ld (M := MX11_areLike) (pc := 9) dX11_areLike_9 rfl rfl rfl rfl rfl ?_
    refine tt_ld (M := MX11_areLike) (pc := 10) dX11_areLike_10 rfl rfl rfl rfl rfl ?_
    refine tt_vcIN (M := MX11_areLike) (pc := 11) dX11_areLike_11 rfl rfl [] rfl rfl ⟨rfl, by decide, Nat.le_of_ble_eq_true rfl⟩ h0.1 fun v101 S102 => ?_
    refine tt_ld (M := MX11_areLike) (pc := 14) dX11_areLike_14 rfl rfl rfl rfl rfl ?_
    refine tt_iconst (M := MX11_areLike) (pc := 15) dX11_areLike_15 ?_
    refine tt_ld (M := MX11_areLike) (pc := 16) dX11_areLike_16 rfl rfl rfl rfl rfl ?_
    refine tt_ld (M := MX11_areLike) (pc := 17) dX11_areLike_17 rfl rfl rfl rfl rfl ?_
    refine tt_vcIN (M := MX11_areLike) (pc := 18) dX11_areLike_18 rfl rfl [.int (I v101)] rfl rfl ⟨rfl, by decide, Nat.le_of_ble_eq_true rfl⟩ h0.1 fun v103 S104 => ?_
    refine tt_ic_eq (M := MX11_areLike) (pc := 21) 26 dX11_areLike_21 rfl ?_ ?_
    · refine tt_iinc (M := MX11_areLike) (pc := 26) [some (.ref 90), some (.int (I l1)), some (.int (I l2)), some (.int (I (l3 + 1)))] dX11_areLike_26 rfl rfl ?_
      refine tt_goto (M := MX11_areLike) (pc := 29) 2 dX11_areLike_29 rfl ?_
      exact id
    · refine tt_iconst (M := MX11_areLike) (pc := 24) dX11_areLike_24 ?_
      exact tt_zret (M := MX11_areLike) (pc := 25) dX11_areLike_25 rfl
theorem qX11_like_0 {sc : Nat × (Nat → Int32)} {SH : List mCell} {S : mStore} {r : mR × mW} (h0 : sMod SH) {l1 : Int} {l2 : Int} {l3 : Int} {u4 : Option Value} {u5 : Option Value} {u6 : Option Value} : ((∃ v101 S102, G sc MX11_isPage 0 [some (.ref 90), some (.int (I l1)), some (.int (I l2))] [] SH (up S 90 4 0) (rI v101 SH S102) ∧ (if I v101 = I 0 then r = rI 0 SH S102 else (((0 : Int) ≤ l1 ∧ l1 < 5) ∧ G sc MX11_like 32 [some (.ref 90), some (.int (I l1)), some (.int (I l2)), some (.int (I l3)), some (.int (I ((S102 97 l1) + l2))), some (.int (I 0)), some (.int (I 0))] [] SH S102 r)))) → G sc MX11_like 0 [some (.ref 90), some (.int (I l1)), some (.int (I l2)), some (.int (I l3)), u4, u5, u6] [] SH S r := by
  refine tt_ld (M := MX11_like) (pc := 0) dX11_like_0 rfl rfl rfl rfl rfl ?_
  refine tt_iconst (M := MX11_like) (pc := 1) dX11_like_1 ?_
  refine tt_putI (M := MX11_like) (pc := 2) dX11_like_2 rfl rfl (Or.inl rfl) h0.1 rfl ?_
  refine tt_ld (M := MX11_like) (pc := 5) dX11_like_5 rfl rfl rfl rfl rfl ?_
  refine tt_ld (M := MX11_like) (pc := 6) dX11_like_6 rfl rfl rfl rfl rfl ?_
  refine tt_ld (M := MX11_like) (pc := 7) dX11_like_7 rfl rfl rfl rfl rfl ?_
  refine tt_vcIN (M := MX11_like) (pc := 8) dX11_like_8 rfl rfl [] rfl rfl ⟨rfl, by decide, Nat.le_of_ble_eq_true rfl⟩ h0.1 fun v101 S102 => ?_
  refine tt_if_ne (M := MX11_like) (pc := 11) 16 dX11_like_11 rfl ?_ ?_
  · refine tt_ld (M := MX11_like) (pc := 16) dX11_like_16 rfl rfl rfl rfl rfl ?_
    refine tt_getR (M := MX11_like) (pc := 17) dX11_like_17 rfl h0.1 rfl ?_
    refine tt_ld (M := MX11_like) (pc := 20) dX11_like_20 rfl rfl rfl rfl rfl ?_
    refine tt_iaload (M := MX11_like) (pc := 21) dX11_like_21 h0.2.2.2.2.2.2.2.1 rfl ?_
    refine tt_ld (M := MX11_like) (pc := 22) dX11_like_22 rfl rfl rfl rfl rfl ?_
    refine tt_iadd (M := MX11_like) (pc := 23) dX11_like_23 ?_
    refine tt_st (M := MX11_like) (pc := 24) [some (.ref 90), some (.int (I l1)), some (.int (I l2)), some (.int (I l3)), some (.int (I ((S102 97 l1) + l2))), u5, u6] dX11_like_24 rfl rfl rfl rfl rfl rfl ?_
    refine tt_iconst (M := MX11_like) (pc := 26) dX11_like_26 ?_
    refine tt_st (M := MX11_like) (pc := 27) [some (.ref 90), some (.int (I l1)), some (.int (I l2)), some (.int (I l3)), some (.int (I ((S102 97 l1) + l2))), some (.int (I 0)), u6] dX11_like_27 rfl rfl rfl rfl rfl rfl ?_
    refine tt_iconst (M := MX11_like) (pc := 29) dX11_like_29 ?_
    refine tt_st (M := MX11_like) (pc := 30) [some (.ref 90), some (.int (I l1)), some (.int (I l2)), some (.int (I l3)), some (.int (I ((S102 97 l1) + l2))), some (.int (I 0)), some (.int (I 0))] dX11_like_30 rfl rfl rfl rfl rfl rfl ?_
    exact id
  · refine tt_iconst (M := MX11_like) (pc := 14) dX11_like_14 ?_
    exact tt_iret (M := MX11_like) (pc := 15) dX11_like_15 rfl
theorem qX11_like_32 {sc : Nat × (Nat → Int32)} {SH : List mCell} {S : mStore} {r : mR × mW} (h0 : sMod SH) {l1 : Int} {l2 : Int} {l3 : Int} {l4 : Int} {l5 : Int} {l6 : Int} : ((if I (S 90 19) ≤ I l6 then (if I l3 = I (-1) then (∃ v103 S104, G sc MX11_right 0 [some (.ref 90), some (.int (I 1)), some (.int (I 1))] [] SH S (rI v103 SH S104) ∧ (if I v103 = I 0 then r = rI 0 SH S104 else r = rI l5 SH S104)) else (∃ v101 S102, G sc MX11_right 0 [some (.ref 90), some (.int (I 0)), some (.int (I 1))] [] SH S (rI v101 SH S102) ∧ (if I v101 = I 0 then r = rI 0 SH S102 else r = rI l5 SH S102))) else (if I l6 = I l4 then G sc MX11_like 32 [some (.ref 90), some (.int (I l1)), some (.int (I l2)), some (.int (I l3)), some (.int (I l4)), some (.int (I l5)), some (.int (I (l6 + 1)))] [] SH S r else (∃ v105 S106, G sc MX11_areLike 0 [some (.ref 90), some (.int (I l4)), some (.int (I l6)), none] [] SH S (rI v105 SH S106) ∧ (if I v105 = I 0 then G sc MX11_like 32 [some (.ref 90), some (.int (I l1)), some (.int (I l2)), some (.int (I l3)), some (.int (I l4)), some (.int (I l5)), some (.int (I (l6 + 1)))] [] SH S106 r else (if I l5 = I l3 then (∃ v107 S108, G sc MX11_told 0 [some (.ref 90), some (.int (I l6))] [] SH S106 (rI v107 SH S108) ∧ r = rI v107 SH S108) else G sc MX11_like 32 [some (.ref 90), some (.int (I l1)), some (.int (I l2)), some (.int (I l3)), some (.int (I l4)), some (.int (I (l5 + 1))), some (.int (I (l6 + 1)))] [] SH S106 r)))))) → G sc MX11_like 32 [some (.ref 90), some (.int (I l1)), some (.int (I l2)), some (.int (I l3)), some (.int (I l4)), some (.int (I l5)), some (.int (I l6))] [] SH S r := by
  refine tt_ld (M := MX11_like) (pc := 32) dX11_like_32 rfl rfl rfl rfl rfl ?_
  refine tt_ld (M := MX11_like) (pc := 34) dX11_like_34 rfl rfl rfl rfl rfl ?_
  refine tt_getI (M := MX11_like) (pc := 35) dX11_like_35 rfl h0.1 rfl ?_
  refine tt_ic_ge (M := MX11_like) (pc := 38) 84 dX11_like_38 rfl ?_ ?_
  · refine tt_ld (M := MX11_like) (pc := 84) dX11_like_84 rfl rfl rfl rfl rfl ?_
    refine tt_ld (M := MX11_like) (pc := 85) dX11_like_85 rfl rfl rfl rfl rfl ?_
    refine tt_iconst (M := MX11_like) (pc := 86) dX11_like_86 ?_
    refine tt_ic_ne (M := MX11_like) (pc := 87) 94 dX11_like_87 rfl ?_ ?_
    · refine tt_iconst (M := MX11_like) (pc := 94) dX11_like_94 ?_
      refine tt_iconst (M := MX11_like) (pc := 95) dX11_like_95 ?_
      refine tt_vcIN (M := MX11_like) (pc := 96) dX11_like_96 rfl rfl [] rfl rfl ⟨rfl, by decide, Nat.le_of_ble_eq_true rfl⟩ h0.1 fun v101 S102 => ?_
      refine tt_if_eq (M := MX11_like) (pc := 99) 107 dX11_like_99 rfl ?_ ?_
      · refine tt_iconst (M := MX11_like) (pc := 107) dX11_like_107 ?_
        exact tt_iret (M := MX11_like) (pc := 108) dX11_like_108 rfl
      · refine tt_ld (M := MX11_like) (pc := 102) dX11_like_102 rfl rfl rfl rfl rfl ?_
        refine tt_goto (M := MX11_like) (pc := 104) 108 dX11_like_104 rfl ?_
        exact tt_iret (M := MX11_like) (pc := 108) dX11_like_108 rfl
    · refine tt_iconst (M := MX11_like) (pc := 90) dX11_like_90 ?_
      refine tt_goto (M := MX11_like) (pc := 91) 95 dX11_like_91 rfl ?_
      refine tt_iconst (M := MX11_like) (pc := 95) dX11_like_95 ?_
      refine tt_vcIN (M := MX11_like) (pc := 96) dX11_like_96 rfl rfl [] rfl rfl ⟨rfl, by decide, Nat.le_of_ble_eq_true rfl⟩ h0.1 fun v103 S104 => ?_
      refine tt_if_eq (M := MX11_like) (pc := 99) 107 dX11_like_99 rfl ?_ ?_
      · refine tt_iconst (M := MX11_like) (pc := 107) dX11_like_107 ?_
        exact tt_iret (M := MX11_like) (pc := 108) dX11_like_108 rfl
      · refine tt_ld (M := MX11_like) (pc := 102) dX11_like_102 rfl rfl rfl rfl rfl ?_
        refine tt_goto (M := MX11_like) (pc := 104) 108 dX11_like_104 rfl ?_
        exact tt_iret (M := MX11_like) (pc := 108) dX11_like_108 rfl
  · refine tt_ld (M := MX11_like) (pc := 41) dX11_like_41 rfl rfl rfl rfl rfl ?_
    refine tt_ld (M := MX11_like) (pc := 43) dX11_like_43 rfl rfl rfl rfl rfl ?_
    refine tt_ic_eq (M := MX11_like) (pc := 45) 78 dX11_like_45 rfl ?_ ?_
    · refine tt_iinc (M := MX11_like) (pc := 78) [some (.ref 90), some (.int (I l1)), some (.int (I l2)), some (.int (I l3)), some (.int (I l4)), some (.int (I l5)), some (.int (I (l6 + 1)))] dX11_like_78 rfl rfl ?_
      refine tt_goto (M := MX11_like) (pc := 81) 32 dX11_like_81 rfl ?_
      exact id
    · refine tt_ld (M := MX11_like) (pc := 48) dX11_like_48 rfl rfl rfl rfl rfl ?_
      refine tt_ld (M := MX11_like) (pc := 49) dX11_like_49 rfl rfl rfl rfl rfl ?_
      refine tt_ld (M := MX11_like) (pc := 51) dX11_like_51 rfl rfl rfl rfl rfl ?_
      refine tt_vcIN (M := MX11_like) (pc := 53) dX11_like_53 rfl rfl [] rfl rfl ⟨rfl, by decide, Nat.le_of_ble_eq_true rfl⟩ h0.1 fun v105 S106 => ?_
      refine tt_if_ne (M := MX11_like) (pc := 56) 62 dX11_like_56 rfl ?_ ?_
      · refine tt_ld (M := MX11_like) (pc := 62) dX11_like_62 rfl rfl rfl rfl rfl ?_
        refine tt_ld (M := MX11_like) (pc := 64) dX11_like_64 rfl rfl rfl rfl rfl ?_
        refine tt_ic_ne (M := MX11_like) (pc := 65) 75 dX11_like_65 rfl ?_ ?_
        · refine tt_iinc (M := MX11_like) (pc := 75) [some (.ref 90), some (.int (I l1)), some (.int (I l2)), some (.int (I l3)), some (.int (I l4)), some (.int (I (l5 + 1))), some (.int (I l6))] dX11_like_75 rfl rfl ?_
          refine tt_iinc (M := MX11_like) (pc := 78) [some (.ref 90), some (.int (I l1)), some (.int (I l2)), some (.int (I l3)), some (.int (I l4)), some (.int (I (l5 + 1))), some (.int (I (l6 + 1)))] dX11_like_78 rfl rfl ?_
          refine tt_goto (M := MX11_like) (pc := 81) 32 dX11_like_81 rfl ?_
          exact id
        · refine tt_ld (M := MX11_like) (pc := 68) dX11_like_68 rfl rfl rfl rfl rfl ?_
          refine tt_ld (M := MX11_like) (pc := 69) dX11_like_69 rfl rfl rfl rfl rfl ?_
          refine tt_vcIN (M := MX11_like) (pc := 71) dX11_like_71 rfl rfl [] rfl rfl ⟨rfl, by decide, Nat.le_of_ble_eq_true rfl⟩ h0.1 fun v107 S108 => ?_
          exact tt_iret (M := MX11_like) (pc := 74) dX11_like_74 rfl
      · refine tt_goto (M := MX11_like) (pc := 59) 78 dX11_like_59 rfl ?_
        refine tt_iinc (M := MX11_like) (pc := 78) [some (.ref 90), some (.int (I l1)), some (.int (I l2)), some (.int (I l3)), some (.int (I l4)), some (.int (I l5)), some (.int (I (l6 + 1)))] dX11_like_78 rfl rfl ?_
        refine tt_goto (M := MX11_like) (pc := 81) 32 dX11_like_81 rfl ?_
        exact id
theorem qX11_keptAt_0 {sc : Nat × (Nat → Int32)} {SH : List mCell} {S : mStore} {r : mR × mW} {l0 : Int} {l1 : Int} : (r = rI (1654 * (2 + ((l0 + l1) - idv (l0 + l1) 40 * 40))) SH S) → G sc MX11_keptAt 0 [some (.int (I l0)), some (.int (I l1))] [] SH S r := by
  refine tt_sipush (M := MX11_keptAt) (pc := 0) dX11_keptAt_0 (by decide) ?_
  refine tt_iconst (M := MX11_keptAt) (pc := 3) dX11_keptAt_3 ?_
  refine tt_ld (M := MX11_keptAt) (pc := 4) dX11_keptAt_4 rfl rfl rfl rfl rfl ?_
  refine tt_ld (M := MX11_keptAt) (pc := 5) dX11_keptAt_5 rfl rfl rfl rfl rfl ?_
  refine tt_iadd (M := MX11_keptAt) (pc := 6) dX11_keptAt_6 ?_
  refine tt_bipush (M := MX11_keptAt) (pc := 7) dX11_keptAt_7 (by decide) ?_
  refine tt_irem (M := MX11_keptAt) (pc := 9) dX11_keptAt_9 (by decide) ?_
  refine tt_iadd (M := MX11_keptAt) (pc := 10) dX11_keptAt_10 ?_
  refine tt_imul (M := MX11_keptAt) (pc := 11) dX11_keptAt_11 ?_
  exact tt_iret (M := MX11_keptAt) (pc := 12) dX11_keptAt_12 rfl
theorem qX11_keeps_0 {sc : Nat × (Nat → Int32)} {SH : List mCell} {S : mStore} {r : mR × mW} (h0 : sMod SH) {l1 : Int} : ((if I (S 90 5) = I 40 then (∃ v104 S105, G sc MX11_keptAt 0 [some (.int (I ((up (up S 90 6 (((S 90 6) + 1) - idv ((S 90 6) + 1) 40 * 40)) 90 5 (((up S 90 6 (((S 90 6) + 1) - idv ((S 90 6) + 1) 40 * 40)) 90 5) - 1)) 90 6))), some (.int (I ((up (up S 90 6 (((S 90 6) + 1) - idv ((S 90 6) + 1) 40 * 40)) 90 5 (((up S 90 6 (((S 90 6) + 1) - idv ((S 90 6) + 1) 40 * 40)) 90 5) - 1)) 90 5)))] [] SH (up (up S 90 6 (((S 90 6) + 1) - idv ((S 90 6) + 1) 40 * 40)) 90 5 (((up S 90 6 (((S 90 6) + 1) - idv ((S 90 6) + 1) 40 * 40)) 90 5) - 1)) (rI v104 SH S105) ∧ (∃ S106, G sc MX11_copies 0 [some (.ref 90), some (.int (I l1)), some (.int (I v104)), some (.int (I 1654)), none] [] SH S105 (rV SH S106) ∧ r = rV SH (up S106 90 5 ((S106 90 5) + 1)))) else (∃ v101 S102, G sc MX11_keptAt 0 [some (.int (I (S 90 6))), some (.int (I (S 90 5)))] [] SH S (rI v101 SH S102) ∧ (∃ S103, G sc MX11_copies 0 [some (.ref 90), some (.int (I l1)), some (.int (I v101)), some (.int (I 1654)), none] [] SH S102 (rV SH S103) ∧ r = rV SH (up S103 90 5 ((S103 90 5) + 1)))))) → G sc MX11_keeps 0 [some (.ref 90), some (.int (I l1))] [] SH S r := by
  refine tt_ld (M := MX11_keeps) (pc := 0) dX11_keeps_0 rfl rfl rfl rfl rfl ?_
  refine tt_getI (M := MX11_keeps) (pc := 1) dX11_keeps_1 rfl h0.1 rfl ?_
  refine tt_bipush (M := MX11_keeps) (pc := 4) dX11_keeps_4 (by decide) ?_
  refine tt_ic_ne (M := MX11_keeps) (pc := 6) 32 dX11_keeps_6 rfl ?_ ?_
  · refine tt_ld (M := MX11_keeps) (pc := 32) dX11_keeps_32 rfl rfl rfl rfl rfl ?_
    refine tt_ld (M := MX11_keeps) (pc := 33) dX11_keeps_33 rfl rfl rfl rfl rfl ?_
    refine tt_ld (M := MX11_keeps) (pc := 34) dX11_keeps_34 rfl rfl rfl rfl rfl ?_
    refine tt_getI (M := MX11_keeps) (pc := 35) dX11_keeps_35 rfl h0.1 rfl ?_
    refine tt_ld (M := MX11_keeps) (pc := 38) dX11_keeps_38 rfl rfl rfl rfl rfl ?_
    refine tt_getI (M := MX11_keeps) (pc := 39) dX11_keeps_39 rfl h0.1 rfl ?_
    refine tt_scIN (M := MX11_keeps) (pc := 42) dX11_keeps_42 rfl [.int (I l1), .ref 90] rfl rfl ⟨rfl, by decide, Nat.le_of_ble_eq_true rfl⟩ fun v101 S102 => ?_
    refine tt_sipush (M := MX11_keeps) (pc := 45) dX11_keeps_45 (by decide) ?_
    refine tt_vcVN (M := MX11_keeps) (pc := 48) dX11_keeps_48 rfl rfl [] rfl rfl ⟨rfl, by decide, Nat.le_of_ble_eq_true rfl⟩ h0.1 fun S103 => ?_
    refine tt_ld (M := MX11_keeps) (pc := 51) dX11_keeps_51 rfl rfl rfl rfl rfl ?_
    refine tt_dup (M := MX11_keeps) (pc := 52) dX11_keeps_52 rfl ?_
    refine tt_getI (M := MX11_keeps) (pc := 53) dX11_keeps_53 rfl h0.1 rfl ?_
    refine tt_iconst (M := MX11_keeps) (pc := 56) dX11_keeps_56 ?_
    refine tt_iadd (M := MX11_keeps) (pc := 57) dX11_keeps_57 ?_
    refine tt_putI (M := MX11_keeps) (pc := 58) dX11_keeps_58 rfl rfl (Or.inl rfl) h0.1 rfl ?_
    exact tt_ret (M := MX11_keeps) (pc := 61) dX11_keeps_61 rfl
  · refine tt_ld (M := MX11_keeps) (pc := 9) dX11_keeps_9 rfl rfl rfl rfl rfl ?_
    refine tt_ld (M := MX11_keeps) (pc := 10) dX11_keeps_10 rfl rfl rfl rfl rfl ?_
    refine tt_getI (M := MX11_keeps) (pc := 11) dX11_keeps_11 rfl h0.1 rfl ?_
    refine tt_iconst (M := MX11_keeps) (pc := 14) dX11_keeps_14 ?_
    refine tt_iadd (M := MX11_keeps) (pc := 15) dX11_keeps_15 ?_
    refine tt_bipush (M := MX11_keeps) (pc := 16) dX11_keeps_16 (by decide) ?_
    refine tt_irem (M := MX11_keeps) (pc := 18) dX11_keeps_18 (by decide) ?_
    refine tt_putI (M := MX11_keeps) (pc := 19) dX11_keeps_19 rfl rfl (Or.inl rfl) h0.1 rfl ?_
    refine tt_ld (M := MX11_keeps) (pc := 22) dX11_keeps_22 rfl rfl rfl rfl rfl ?_
    refine tt_dup (M := MX11_keeps) (pc := 23) dX11_keeps_23 rfl ?_
    refine tt_getI (M := MX11_keeps) (pc := 24) dX11_keeps_24 rfl h0.1 rfl ?_
    refine tt_iconst (M := MX11_keeps) (pc := 27) dX11_keeps_27 ?_
    refine tt_isub (M := MX11_keeps) (pc := 28) dX11_keeps_28 ?_
    refine tt_putI (M := MX11_keeps) (pc := 29) dX11_keeps_29 rfl rfl (Or.inl rfl) h0.1 rfl ?_
    refine tt_ld (M := MX11_keeps) (pc := 32) dX11_keeps_32 rfl rfl rfl rfl rfl ?_
    refine tt_ld (M := MX11_keeps) (pc := 33) dX11_keeps_33 rfl rfl rfl rfl rfl ?_
    refine tt_ld (M := MX11_keeps) (pc := 34) dX11_keeps_34 rfl rfl rfl rfl rfl ?_
    refine tt_getI (M := MX11_keeps) (pc := 35) dX11_keeps_35 rfl h0.1 rfl ?_
    refine tt_ld (M := MX11_keeps) (pc := 38) dX11_keeps_38 rfl rfl rfl rfl rfl ?_
    refine tt_getI (M := MX11_keeps) (pc := 39) dX11_keeps_39 rfl h0.1 rfl ?_
    refine tt_scIN (M := MX11_keeps) (pc := 42) dX11_keeps_42 rfl [.int (I l1), .ref 90] rfl rfl ⟨rfl, by decide, Nat.le_of_ble_eq_true rfl⟩ fun v104 S105 => ?_
    refine tt_sipush (M := MX11_keeps) (pc := 45) dX11_keeps_45 (by decide) ?_
    refine tt_vcVN (M := MX11_keeps) (pc := 48) dX11_keeps_48 rfl rfl [] rfl rfl ⟨rfl, by decide, Nat.le_of_ble_eq_true rfl⟩ h0.1 fun S106 => ?_
    refine tt_ld (M := MX11_keeps) (pc := 51) dX11_keeps_51 rfl rfl rfl rfl rfl ?_
    refine tt_dup (M := MX11_keeps) (pc := 52) dX11_keeps_52 rfl ?_
    refine tt_getI (M := MX11_keeps) (pc := 53) dX11_keeps_53 rfl h0.1 rfl ?_
    refine tt_iconst (M := MX11_keeps) (pc := 56) dX11_keeps_56 ?_
    refine tt_iadd (M := MX11_keeps) (pc := 57) dX11_keeps_57 ?_
    refine tt_putI (M := MX11_keeps) (pc := 58) dX11_keeps_58 rfl rfl (Or.inl rfl) h0.1 rfl ?_
    exact tt_ret (M := MX11_keeps) (pc := 61) dX11_keeps_61 rfl
theorem qX11_refuses_0 {sc : Nat × (Nat → Int32)} {SH : List mCell} {S : mStore} {r : mR × mW} (h0 : sMod SH) {l1 : Int} : ((((0 : Int) ≤ l1 ∧ l1 < 6) ∧ (((0 : Int) ≤ l1 ∧ l1 < 6) ∧ r = rI (-1) SH (up S 94 l1 ((S 94 l1) + 1))))) → G sc MX11_refuses 0 [some (.ref 90), some (.int (I l1))] [] SH S r := by
  refine tt_ld (M := MX11_refuses) (pc := 0) dX11_refuses_0 rfl rfl rfl rfl rfl ?_
  refine tt_getR (M := MX11_refuses) (pc := 1) dX11_refuses_1 rfl h0.1 rfl ?_
  refine tt_ld (M := MX11_refuses) (pc := 4) dX11_refuses_4 rfl rfl rfl rfl rfl ?_
  refine tt_dup2 (M := MX11_refuses) (pc := 5) dX11_refuses_5 rfl rfl ?_
  refine tt_iaload (M := MX11_refuses) (pc := 6) dX11_refuses_6 h0.2.2.2.2.1 rfl ?_
  refine tt_iconst (M := MX11_refuses) (pc := 7) dX11_refuses_7 ?_
  refine tt_iadd (M := MX11_refuses) (pc := 8) dX11_refuses_8 ?_
  refine tt_iastore (M := MX11_refuses) (pc := 9) dX11_refuses_9 h0.2.2.2.2.1 rfl ?_
  refine tt_iconst (M := MX11_refuses) (pc := 10) dX11_refuses_10 ?_
  exact tt_iret (M := MX11_refuses) (pc := 11) dX11_refuses_11 rfl
theorem qX11_does_0 {sc : Nat × (Nat → Int32)} {SH : List mCell} {S : mStore} {r : mR × mW} (h0 : sMod SH) {l1 : Int} : ((if I l1 = I (-1) then (∃ v103 S104, G sc MX11_refuses 0 [some (.ref 90), some (.int (I 1))] [] SH S (rI v103 SH S104) ∧ r = rI v103 SH S104) else (∃ S101, G sc MX11_keeps 0 [some (.ref 90), some (.int (I 0))] [] SH S (rV SH S101) ∧ (∃ S102, G sc MX11_copies 0 [some (.ref 90), some (.int (I 1654)), some (.int (I 0)), some (.int (I 1654)), none] [] SH S101 (rV SH S102) ∧ r = rI l1 SH S102)))) → G sc MX11_does 0 [some (.ref 90), some (.int (I l1))] [] SH S r := by
  refine tt_ld (M := MX11_does) (pc := 0) dX11_does_0 rfl rfl rfl rfl rfl ?_
  refine tt_iconst (M := MX11_does) (pc := 1) dX11_does_1 ?_
  refine tt_ic_ne (M := MX11_does) (pc := 2) 11 dX11_does_2 rfl ?_ ?_
  · refine tt_ld (M := MX11_does) (pc := 11) dX11_does_11 rfl rfl rfl rfl rfl ?_
    refine tt_iconst (M := MX11_does) (pc := 12) dX11_does_12 ?_
    refine tt_vcVN (M := MX11_does) (pc := 13) dX11_does_13 rfl rfl [] rfl rfl ⟨rfl, by decide, Nat.le_of_ble_eq_true rfl⟩ h0.1 fun S101 => ?_
    refine tt_ld (M := MX11_does) (pc := 16) dX11_does_16 rfl rfl rfl rfl rfl ?_
    refine tt_sipush (M := MX11_does) (pc := 17) dX11_does_17 (by decide) ?_
    refine tt_iconst (M := MX11_does) (pc := 20) dX11_does_20 ?_
    refine tt_sipush (M := MX11_does) (pc := 21) dX11_does_21 (by decide) ?_
    refine tt_vcVN (M := MX11_does) (pc := 24) dX11_does_24 rfl rfl [] rfl rfl ⟨rfl, by decide, Nat.le_of_ble_eq_true rfl⟩ h0.1 fun S102 => ?_
    refine tt_ld (M := MX11_does) (pc := 27) dX11_does_27 rfl rfl rfl rfl rfl ?_
    exact tt_iret (M := MX11_does) (pc := 28) dX11_does_28 rfl
  · refine tt_ld (M := MX11_does) (pc := 5) dX11_does_5 rfl rfl rfl rfl rfl ?_
    refine tt_iconst (M := MX11_does) (pc := 6) dX11_does_6 ?_
    refine tt_vcIN (M := MX11_does) (pc := 7) dX11_does_7 rfl rfl [] rfl rfl ⟨rfl, by decide, Nat.le_of_ble_eq_true rfl⟩ h0.1 fun v103 S104 => ?_
    exact tt_iret (M := MX11_does) (pc := 10) dX11_does_10 rfl
theorem qX11_tries_0 {sc : Nat × (Nat → Int32)} {SH : List mCell} {S : mStore} {r : mR × mW} (h0 : sMod SH) : ((∃ S101, G sc MX11_copies 0 [some (.ref 90), some (.int (I 0)), some (.int (I 1654)), some (.int (I 1654)), none] [] SH S (rV SH S101) ∧ r = rV SH S101)) → G sc MX11_tries 0 [some (.ref 90)] [] SH S r := by
  refine tt_ld (M := MX11_tries) (pc := 0) dX11_tries_0 rfl rfl rfl rfl rfl ?_
  refine tt_iconst (M := MX11_tries) (pc := 1) dX11_tries_1 ?_
  refine tt_sipush (M := MX11_tries) (pc := 2) dX11_tries_2 (by decide) ?_
  refine tt_sipush (M := MX11_tries) (pc := 5) dX11_tries_5 (by decide) ?_
  refine tt_vcVN (M := MX11_tries) (pc := 8) dX11_tries_8 rfl rfl [] rfl rfl ⟨rfl, by decide, Nat.le_of_ble_eq_true rfl⟩ h0.1 fun S101 => ?_
  exact tt_ret (M := MX11_tries) (pc := 11) dX11_tries_11 rfl
theorem qX11_write_0 {sc : Nat × (Nat → Int32)} {SH : List mCell} {S : mStore} {r : mR × mW} (h0 : sMod SH) {l1 : Int} {l2 : Int} {l3 : Int} {l4 : Int} : ((∃ v101 S102, G sc MX11_isPage 0 [some (.ref 90), some (.int (I l1)), some (.int (I l2))] [] SH (up S 90 4 0) (rI v101 SH S102) ∧ (if I v101 = I 0 then r = rI 0 SH S102 else (∃ v103 S104, G sc MX11_within 0 [some (.int (I l3)), some (.int (I 0)), some (.int (I 3))] [] SH S102 (rI v103 SH S104) ∧ (∃ v105 S106, G sc MX11_right 0 [some (.ref 90), some (.int (I v103)), some (.int (I 1))] [] SH S104 (rI v105 SH S106) ∧ (if I v105 = I 0 then r = rI 0 SH S106 else (∃ S107, G sc MX11_tries 0 [some (.ref 90)] [] SH S106 (rV SH S107) ∧ (∃ v108 S109, G sc MX11_within 0 [some (.int (I l4)), some (.int (I 0)), some (.int (I 15))] [] SH S107 (rI v108 SH S109) ∧ (if I v108 = I 0 then (∃ v110 S111, G sc MX11_does 0 [some (.ref 90), some (.int (I (-1)))] [] SH S109 (rI v110 SH S111) ∧ r = rI v110 SH S111) else (((0 : Int) ≤ l1 ∧ l1 < 5) ∧ (∃ v112 S113, G sc MX11_writesCell 0 [some (.ref 90), some (.int (I 1654)), some (.int (I ((S109 97 l1) + l2))), some (.int (I l3)), some (.int (I l4))] [] SH S109 (rI v112 SH S113) ∧ (∃ v114 S115, G sc MX11_does 0 [some (.ref 90), some (.int (I v112))] [] SH S113 (rI v114 SH S115) ∧ r = rI v114 SH S115)))))))))))) → G sc MX11_write 0 [some (.ref 90), some (.int (I l1)), some (.int (I l2)), some (.int (I l3)), some (.int (I l4))] [] SH S r := by
  refine tt_ld (M := MX11_write) (pc := 0) dX11_write_0 rfl rfl rfl rfl rfl ?_
  refine tt_iconst (M := MX11_write) (pc := 1) dX11_write_1 ?_
  refine tt_putI (M := MX11_write) (pc := 2) dX11_write_2 rfl rfl (Or.inl rfl) h0.1 rfl ?_
  refine tt_ld (M := MX11_write) (pc := 5) dX11_write_5 rfl rfl rfl rfl rfl ?_
  refine tt_ld (M := MX11_write) (pc := 6) dX11_write_6 rfl rfl rfl rfl rfl ?_
  refine tt_ld (M := MX11_write) (pc := 7) dX11_write_7 rfl rfl rfl rfl rfl ?_
  refine tt_vcIN (M := MX11_write) (pc := 8) dX11_write_8 rfl rfl [] rfl rfl ⟨rfl, by decide, Nat.le_of_ble_eq_true rfl⟩ h0.1 fun v101 S102 => ?_
  refine tt_if_eq (M := MX11_write) (pc := 11) 28 dX11_write_11 rfl ?_ ?_
  · refine tt_iconst (M := MX11_write) (pc := 28) dX11_write_28 ?_
    exact tt_iret (M := MX11_write) (pc := 29) dX11_write_29 rfl
  · refine tt_ld (M := MX11_write) (pc := 14) dX11_write_14 rfl rfl rfl rfl rfl ?_
    refine tt_ld (M := MX11_write) (pc := 15) dX11_write_15 rfl rfl rfl rfl rfl ?_
    refine tt_iconst (M := MX11_write) (pc := 16) dX11_write_16 ?_
    refine tt_iconst (M := MX11_write) (pc := 17) dX11_write_17 ?_
    refine tt_scIN (M := MX11_write) (pc := 18) dX11_write_18 rfl [.ref 90] rfl rfl ⟨rfl, by decide, Nat.le_of_ble_eq_true rfl⟩ fun v103 S104 => ?_
    refine tt_iconst (M := MX11_write) (pc := 21) dX11_write_21 ?_
    refine tt_vcIN (M := MX11_write) (pc := 22) dX11_write_22 rfl rfl [] rfl rfl ⟨rfl, by decide, Nat.le_of_ble_eq_true rfl⟩ h0.1 fun v105 S106 => ?_
    refine tt_if_ne (M := MX11_write) (pc := 25) 30 dX11_write_25 rfl ?_ ?_
    · refine tt_ld (M := MX11_write) (pc := 30) dX11_write_30 rfl rfl rfl rfl rfl ?_
      refine tt_vcVN (M := MX11_write) (pc := 31) dX11_write_31 rfl rfl [] rfl rfl ⟨rfl, by decide, Nat.le_of_ble_eq_true rfl⟩ h0.1 fun S107 => ?_
      refine tt_ld (M := MX11_write) (pc := 34) dX11_write_34 rfl rfl rfl rfl rfl ?_
      refine tt_ld (M := MX11_write) (pc := 35) dX11_write_35 rfl rfl rfl rfl rfl ?_
      refine tt_iconst (M := MX11_write) (pc := 37) dX11_write_37 ?_
      refine tt_bipush (M := MX11_write) (pc := 38) dX11_write_38 (by decide) ?_
      refine tt_scIN (M := MX11_write) (pc := 40) dX11_write_40 rfl [.ref 90] rfl rfl ⟨rfl, by decide, Nat.le_of_ble_eq_true rfl⟩ fun v108 S109 => ?_
      refine tt_if_eq (M := MX11_write) (pc := 43) 67 dX11_write_43 rfl ?_ ?_
      · refine tt_iconst (M := MX11_write) (pc := 67) dX11_write_67 ?_
        refine tt_vcIN (M := MX11_write) (pc := 68) dX11_write_68 rfl rfl [] rfl rfl ⟨rfl, by decide, Nat.le_of_ble_eq_true rfl⟩ h0.1 fun v110 S111 => ?_
        exact tt_iret (M := MX11_write) (pc := 71) dX11_write_71 rfl
      · refine tt_ld (M := MX11_write) (pc := 46) dX11_write_46 rfl rfl rfl rfl rfl ?_
        refine tt_sipush (M := MX11_write) (pc := 47) dX11_write_47 (by decide) ?_
        refine tt_ld (M := MX11_write) (pc := 50) dX11_write_50 rfl rfl rfl rfl rfl ?_
        refine tt_getR (M := MX11_write) (pc := 51) dX11_write_51 rfl h0.1 rfl ?_
        refine tt_ld (M := MX11_write) (pc := 54) dX11_write_54 rfl rfl rfl rfl rfl ?_
        refine tt_iaload (M := MX11_write) (pc := 55) dX11_write_55 h0.2.2.2.2.2.2.2.1 rfl ?_
        refine tt_ld (M := MX11_write) (pc := 56) dX11_write_56 rfl rfl rfl rfl rfl ?_
        refine tt_iadd (M := MX11_write) (pc := 57) dX11_write_57 ?_
        refine tt_ld (M := MX11_write) (pc := 58) dX11_write_58 rfl rfl rfl rfl rfl ?_
        refine tt_ld (M := MX11_write) (pc := 59) dX11_write_59 rfl rfl rfl rfl rfl ?_
        refine tt_vcIN (M := MX11_write) (pc := 61) dX11_write_61 rfl rfl [.ref 90] rfl rfl ⟨rfl, by decide, Nat.le_of_ble_eq_true rfl⟩ h0.1 fun v112 S113 => ?_
        refine tt_goto (M := MX11_write) (pc := 64) 68 dX11_write_64 rfl ?_
        refine tt_vcIN (M := MX11_write) (pc := 68) dX11_write_68 rfl rfl [] rfl rfl ⟨rfl, by decide, Nat.le_of_ble_eq_true rfl⟩ h0.1 fun v114 S115 => ?_
        exact tt_iret (M := MX11_write) (pc := 71) dX11_write_71 rfl
    · refine tt_iconst (M := MX11_write) (pc := 28) dX11_write_28 ?_
      exact tt_iret (M := MX11_write) (pc := 29) dX11_write_29 rfl
theorem qX11_copy_0 {sc : Nat × (Nat → Int32)} {SH : List mCell} {S : mStore} {r : mR × mW} (h0 : sMod SH) {l1 : Int} {l2 : Int} {l3 : Int} {l4 : Int} : ((∃ v101 S102, G sc MX11_isPage 0 [some (.ref 90), some (.int (I l1)), some (.int (I l2))] [] SH (up S 90 4 0) (rI v101 SH S102) ∧ (if I v101 = I 0 then r = rI 0 SH S102 else (∃ v103 S104, G sc MX11_isPage 0 [some (.ref 90), some (.int (I l3)), some (.int (I l4))] [] SH S102 (rI v103 SH S104) ∧ (if I v103 = I 0 then r = rI 0 SH S104 else (∃ S105, G sc MX11_tries 0 [some (.ref 90)] [] SH S104 (rV SH S105) ∧ (((0 : Int) ≤ l3 ∧ l3 < 5) ∧ (∃ S106, G sc MX11_saysAs 0 [some (.ref 90), some (.int (I 1654)), some (.int (I ((S105 97 l3) + l4))), none] [] SH S105 (rV SH S106) ∧ (((0 : Int) ≤ l1 ∧ l1 < 5) ∧ (∃ v107 S108, G sc MX11_writes 0 [some (.ref 90), some (.int (I 1654)), some (.int (I ((S106 97 l1) + l2))), none, none, none, none] [] SH S106 (rI v107 SH S108) ∧ (∃ v109 S110, G sc MX11_does 0 [some (.ref 90), some (.int (I v107))] [] SH S108 (rI v109 SH S110) ∧ r = rI v109 SH S110))))))))))) → G sc MX11_copy 0 [some (.ref 90), some (.int (I l1)), some (.int (I l2)), some (.int (I l3)), some (.int (I l4))] [] SH S r := by
  refine tt_ld (M := MX11_copy) (pc := 0) dX11_copy_0 rfl rfl rfl rfl rfl ?_
  refine tt_iconst (M := MX11_copy) (pc := 1) dX11_copy_1 ?_
  refine tt_putI (M := MX11_copy) (pc := 2) dX11_copy_2 rfl rfl (Or.inl rfl) h0.1 rfl ?_
  refine tt_ld (M := MX11_copy) (pc := 5) dX11_copy_5 rfl rfl rfl rfl rfl ?_
  refine tt_ld (M := MX11_copy) (pc := 6) dX11_copy_6 rfl rfl rfl rfl rfl ?_
  refine tt_ld (M := MX11_copy) (pc := 7) dX11_copy_7 rfl rfl rfl rfl rfl ?_
  refine tt_vcIN (M := MX11_copy) (pc := 8) dX11_copy_8 rfl rfl [] rfl rfl ⟨rfl, by decide, Nat.le_of_ble_eq_true rfl⟩ h0.1 fun v101 S102 => ?_
  refine tt_if_eq (M := MX11_copy) (pc := 11) 24 dX11_copy_11 rfl ?_ ?_
  · refine tt_iconst (M := MX11_copy) (pc := 24) dX11_copy_24 ?_
    exact tt_iret (M := MX11_copy) (pc := 25) dX11_copy_25 rfl
  · refine tt_ld (M := MX11_copy) (pc := 14) dX11_copy_14 rfl rfl rfl rfl rfl ?_
    refine tt_ld (M := MX11_copy) (pc := 15) dX11_copy_15 rfl rfl rfl rfl rfl ?_
    refine tt_ld (M := MX11_copy) (pc := 16) dX11_copy_16 rfl rfl rfl rfl rfl ?_
    refine tt_vcIN (M := MX11_copy) (pc := 18) dX11_copy_18 rfl rfl [] rfl rfl ⟨rfl, by decide, Nat.le_of_ble_eq_true rfl⟩ h0.1 fun v103 S104 => ?_
    refine tt_if_ne (M := MX11_copy) (pc := 21) 26 dX11_copy_21 rfl ?_ ?_
    · refine tt_ld (M := MX11_copy) (pc := 26) dX11_copy_26 rfl rfl rfl rfl rfl ?_
      refine tt_vcVN (M := MX11_copy) (pc := 27) dX11_copy_27 rfl rfl [] rfl rfl ⟨rfl, by decide, Nat.le_of_ble_eq_true rfl⟩ h0.1 fun S105 => ?_
      refine tt_ld (M := MX11_copy) (pc := 30) dX11_copy_30 rfl rfl rfl rfl rfl ?_
      refine tt_sipush (M := MX11_copy) (pc := 31) dX11_copy_31 (by decide) ?_
      refine tt_ld (M := MX11_copy) (pc := 34) dX11_copy_34 rfl rfl rfl rfl rfl ?_
      refine tt_getR (M := MX11_copy) (pc := 35) dX11_copy_35 rfl h0.1 rfl ?_
      refine tt_ld (M := MX11_copy) (pc := 38) dX11_copy_38 rfl rfl rfl rfl rfl ?_
      refine tt_iaload (M := MX11_copy) (pc := 39) dX11_copy_39 h0.2.2.2.2.2.2.2.1 rfl ?_
      refine tt_ld (M := MX11_copy) (pc := 40) dX11_copy_40 rfl rfl rfl rfl rfl ?_
      refine tt_iadd (M := MX11_copy) (pc := 42) dX11_copy_42 ?_
      refine tt_vcVN (M := MX11_copy) (pc := 43) dX11_copy_43 rfl rfl [] rfl rfl ⟨rfl, by decide, Nat.le_of_ble_eq_true rfl⟩ h0.1 fun S106 => ?_
      refine tt_ld (M := MX11_copy) (pc := 46) dX11_copy_46 rfl rfl rfl rfl rfl ?_
      refine tt_ld (M := MX11_copy) (pc := 47) dX11_copy_47 rfl rfl rfl rfl rfl ?_
      refine tt_sipush (M := MX11_copy) (pc := 48) dX11_copy_48 (by decide) ?_
      refine tt_ld (M := MX11_copy) (pc := 51) dX11_copy_51 rfl rfl rfl rfl rfl ?_
      refine tt_getR (M := MX11_copy) (pc := 52) dX11_copy_52 rfl h0.1 rfl ?_
      refine tt_ld (M := MX11_copy) (pc := 55) dX11_copy_55 rfl rfl rfl rfl rfl ?_
      refine tt_iaload (M := MX11_copy) (pc := 56) dX11_copy_56 h0.2.2.2.2.2.2.2.1 rfl ?_
      refine tt_ld (M := MX11_copy) (pc := 57) dX11_copy_57 rfl rfl rfl rfl rfl ?_
      refine tt_iadd (M := MX11_copy) (pc := 58) dX11_copy_58 ?_
      refine tt_vcIN (M := MX11_copy) (pc := 59) dX11_copy_59 rfl rfl [.ref 90] rfl rfl ⟨rfl, by decide, Nat.le_of_ble_eq_true rfl⟩ h0.1 fun v107 S108 => ?_
      refine tt_vcIN (M := MX11_copy) (pc := 62) dX11_copy_62 rfl rfl [] rfl rfl ⟨rfl, by decide, Nat.le_of_ble_eq_true rfl⟩ h0.1 fun v109 S110 => ?_
      exact tt_iret (M := MX11_copy) (pc := 65) dX11_copy_65 rfl
    · refine tt_iconst (M := MX11_copy) (pc := 24) dX11_copy_24 ?_
      exact tt_iret (M := MX11_copy) (pc := 25) dX11_copy_25 rfl
theorem qX11_drop_0 {sc : Nat × (Nat → Int32)} {SH : List mCell} {S : mStore} {r : mR × mW} (h0 : sMod SH) {l1 : Int} {l2 : Int} : ((∃ v101 S102, G sc MX11_isPage 0 [some (.ref 90), some (.int (I l1)), some (.int (I l2))] [] SH (up S 90 4 0) (rI v101 SH S102) ∧ (if I v101 = I 0 then r = rI 0 SH S102 else (∃ S103, G sc MX11_tries 0 [some (.ref 90)] [] SH S102 (rV SH S103) ∧ (((0 : Int) ≤ l1 ∧ l1 < 5) ∧ (∃ v104 S105, G sc MX11_drops 0 [some (.ref 90), some (.int (I 1654)), some (.int (I ((S103 97 l1) + l2))), none] [] SH S103 (rI v104 SH S105) ∧ (∃ v106 S107, G sc MX11_does 0 [some (.ref 90), some (.int (I v104))] [] SH S105 (rI v106 SH S107) ∧ r = rI v106 SH S107))))))) → G sc MX11_drop 0 [some (.ref 90), some (.int (I l1)), some (.int (I l2))] [] SH S r := by
  refine tt_ld (M := MX11_drop) (pc := 0) dX11_drop_0 rfl rfl rfl rfl rfl ?_
  refine tt_iconst (M := MX11_drop) (pc := 1) dX11_drop_1 ?_
  refine tt_putI (M := MX11_drop) (pc := 2) dX11_drop_2 rfl rfl (Or.inl rfl) h0.1 rfl ?_
  refine tt_ld (M := MX11_drop) (pc := 5) dX11_drop_5 rfl rfl rfl rfl rfl ?_
  refine tt_ld (M := MX11_drop) (pc := 6) dX11_drop_6 rfl rfl rfl rfl rfl ?_
  refine tt_ld (M := MX11_drop) (pc := 7) dX11_drop_7 rfl rfl rfl rfl rfl ?_
  refine tt_vcIN (M := MX11_drop) (pc := 8) dX11_drop_8 rfl rfl [] rfl rfl ⟨rfl, by decide, Nat.le_of_ble_eq_true rfl⟩ h0.1 fun v101 S102 => ?_
  refine tt_if_ne (M := MX11_drop) (pc := 11) 16 dX11_drop_11 rfl ?_ ?_
  · refine tt_ld (M := MX11_drop) (pc := 16) dX11_drop_16 rfl rfl rfl rfl rfl ?_
    refine tt_vcVN (M := MX11_drop) (pc := 17) dX11_drop_17 rfl rfl [] rfl rfl ⟨rfl, by decide, Nat.le_of_ble_eq_true rfl⟩ h0.1 fun S103 => ?_
    refine tt_ld (M := MX11_drop) (pc := 20) dX11_drop_20 rfl rfl rfl rfl rfl ?_
    refine tt_ld (M := MX11_drop) (pc := 21) dX11_drop_21 rfl rfl rfl rfl rfl ?_
    refine tt_sipush (M := MX11_drop) (pc := 22) dX11_drop_22 (by decide) ?_
    refine tt_ld (M := MX11_drop) (pc := 25) dX11_drop_25 rfl rfl rfl rfl rfl ?_
    refine tt_getR (M := MX11_drop) (pc := 26) dX11_drop_26 rfl h0.1 rfl ?_
    refine tt_ld (M := MX11_drop) (pc := 29) dX11_drop_29 rfl rfl rfl rfl rfl ?_
    refine tt_iaload (M := MX11_drop) (pc := 30) dX11_drop_30 h0.2.2.2.2.2.2.2.1 rfl ?_
    refine tt_ld (M := MX11_drop) (pc := 31) dX11_drop_31 rfl rfl rfl rfl rfl ?_
    refine tt_iadd (M := MX11_drop) (pc := 32) dX11_drop_32 ?_
    refine tt_vcIN (M := MX11_drop) (pc := 33) dX11_drop_33 rfl rfl [.ref 90] rfl rfl ⟨rfl, by decide, Nat.le_of_ble_eq_true rfl⟩ h0.1 fun v104 S105 => ?_
    refine tt_vcIN (M := MX11_drop) (pc := 36) dX11_drop_36 rfl rfl [] rfl rfl ⟨rfl, by decide, Nat.le_of_ble_eq_true rfl⟩ h0.1 fun v106 S107 => ?_
    exact tt_iret (M := MX11_drop) (pc := 39) dX11_drop_39 rfl
  · refine tt_iconst (M := MX11_drop) (pc := 14) dX11_drop_14 ?_
    exact tt_iret (M := MX11_drop) (pc := 15) dX11_drop_15 rfl
theorem qX11_advise_0 {sc : Nat × (Nat → Int32)} {SH : List mCell} {S : mStore} {r : mR × mW} (h0 : sMod SH) {l1 : Int} {l2 : Int} {l3 : Int} {l4 : Int} {u5 : Option Value} : ((∃ v101 S102, G sc MX11_isPage 0 [some (.ref 90), some (.int (I l1)), some (.int (I l2))] [] SH (up S 90 4 0) (rI v101 SH S102) ∧ (if I v101 = I 0 then r = rI 0 SH S102 else (∃ v103 S104, G sc MX11_isPage 0 [some (.ref 90), some (.int (I l1)), some (.int (I l3))] [] SH S102 (rI v103 SH S104) ∧ (if I v103 = I 0 then r = rI 0 SH S104 else (∃ S105, G sc MX11_tries 0 [some (.ref 90)] [] SH S104 (rV SH S105) ∧ (((0 : Int) ≤ l1 ∧ l1 < 5) ∧ (((0 : Int) ≤ l1 ∧ l1 < 5) ∧ (if I l4 = I 0 then (∃ v106 S107, G sc MX11_advises 0 [some (.ref 90), some (.int (I 1654)), some (.int (I ((S105 97 l1) + l2))), some (.int (I ((S105 97 l1) + l3))), some (.int (I 0)), none, none] [] SH S105 (rI v106 SH S107) ∧ (if I v106 = I 0 then (∃ v110 S111, G sc MX11_does 0 [some (.ref 90), some (.int (I (-1)))] [] SH S107 (rI v110 SH S111) ∧ r = rI v110 SH S111) else (∃ v108 S109, G sc MX11_does 0 [some (.ref 90), some (.int (I v106))] [] SH S107 (rI v108 SH S109) ∧ r = rI v108 SH S109))) else (∃ v112 S113, G sc MX11_advises 0 [some (.ref 90), some (.int (I 1654)), some (.int (I ((S105 97 l1) + l2))), some (.int (I ((S105 97 l1) + l3))), some (.int (I 1)), none, none] [] SH S105 (rI v112 SH S113) ∧ (if I v112 = I 0 then (∃ v116 S117, G sc MX11_does 0 [some (.ref 90), some (.int (I (-1)))] [] SH S113 (rI v116 SH S117) ∧ r = rI v116 SH S117) else (∃ v114 S115, G sc MX11_does 0 [some (.ref 90), some (.int (I v112))] [] SH S113 (rI v114 SH S115) ∧ r = rI v114 SH S115)))))))))))) → G sc MX11_advise 0 [some (.ref 90), some (.int (I l1)), some (.int (I l2)), some (.int (I l3)), some (.int (I l4)), u5] [] SH S r := by
  refine tt_ld (M := MX11_advise) (pc := 0) dX11_advise_0 rfl rfl rfl rfl rfl ?_
  refine tt_iconst (M := MX11_advise) (pc := 1) dX11_advise_1 ?_
  refine tt_putI (M := MX11_advise) (pc := 2) dX11_advise_2 rfl rfl (Or.inl rfl) h0.1 rfl ?_
  refine tt_ld (M := MX11_advise) (pc := 5) dX11_advise_5 rfl rfl rfl rfl rfl ?_
  refine tt_ld (M := MX11_advise) (pc := 6) dX11_advise_6 rfl rfl rfl rfl rfl ?_
  refine tt_ld (M := MX11_advise) (pc := 7) dX11_advise_7 rfl rfl rfl rfl rfl ?_
  refine tt_vcIN (M := MX11_advise) (pc := 8) dX11_advise_8 rfl rfl [] rfl rfl ⟨rfl, by decide, Nat.le_of_ble_eq_true rfl⟩ h0.1 fun v101 S102 => ?_
  refine tt_if_eq (M := MX11_advise) (pc := 11) 23 dX11_advise_11 rfl ?_ ?_
  · refine tt_iconst (M := MX11_advise) (pc := 23) dX11_advise_23 ?_
    exact tt_iret (M := MX11_advise) (pc := 24) dX11_advise_24 rfl
  · refine tt_ld (M := MX11_advise) (pc := 14) dX11_advise_14 rfl rfl rfl rfl rfl ?_
    refine tt_ld (M := MX11_advise) (pc := 15) dX11_advise_15 rfl rfl rfl rfl rfl ?_
    refine tt_ld (M := MX11_advise) (pc := 16) dX11_advise_16 rfl rfl rfl rfl rfl ?_
    refine tt_vcIN (M := MX11_advise) (pc := 17) dX11_advise_17 rfl rfl [] rfl rfl ⟨rfl, by decide, Nat.le_of_ble_eq_true rfl⟩ h0.1 fun v103 S104 => ?_
    refine tt_if_ne (M := MX11_advise) (pc := 20) 25 dX11_advise_20 rfl ?_ ?_
    · refine tt_ld (M := MX11_advise) (pc := 25) dX11_advise_25 rfl rfl rfl rfl rfl ?_
      refine tt_vcVN (M := MX11_advise) (pc := 26) dX11_advise_26 rfl rfl [] rfl rfl ⟨rfl, by decide, Nat.le_of_ble_eq_true rfl⟩ h0.1 fun S105 => ?_
      refine tt_ld (M := MX11_advise) (pc := 29) dX11_advise_29 rfl rfl rfl rfl rfl ?_
      refine tt_sipush (M := MX11_advise) (pc := 30) dX11_advise_30 (by decide) ?_
      refine tt_ld (M := MX11_advise) (pc := 33) dX11_advise_33 rfl rfl rfl rfl rfl ?_
      refine tt_getR (M := MX11_advise) (pc := 34) dX11_advise_34 rfl h0.1 rfl ?_
      refine tt_ld (M := MX11_advise) (pc := 37) dX11_advise_37 rfl rfl rfl rfl rfl ?_
      refine tt_iaload (M := MX11_advise) (pc := 38) dX11_advise_38 h0.2.2.2.2.2.2.2.1 rfl ?_
      refine tt_ld (M := MX11_advise) (pc := 39) dX11_advise_39 rfl rfl rfl rfl rfl ?_
      refine tt_iadd (M := MX11_advise) (pc := 40) dX11_advise_40 ?_
      refine tt_ld (M := MX11_advise) (pc := 41) dX11_advise_41 rfl rfl rfl rfl rfl ?_
      refine tt_getR (M := MX11_advise) (pc := 42) dX11_advise_42 rfl h0.1 rfl ?_
      refine tt_ld (M := MX11_advise) (pc := 45) dX11_advise_45 rfl rfl rfl rfl rfl ?_
      refine tt_iaload (M := MX11_advise) (pc := 46) dX11_advise_46 h0.2.2.2.2.2.2.2.1 rfl ?_
      refine tt_ld (M := MX11_advise) (pc := 47) dX11_advise_47 rfl rfl rfl rfl rfl ?_
      refine tt_iadd (M := MX11_advise) (pc := 48) dX11_advise_48 ?_
      refine tt_ld (M := MX11_advise) (pc := 49) dX11_advise_49 rfl rfl rfl rfl rfl ?_
      refine tt_if_eq (M := MX11_advise) (pc := 51) 58 dX11_advise_51 rfl ?_ ?_
      · refine tt_iconst (M := MX11_advise) (pc := 58) dX11_advise_58 ?_
        refine tt_vcIN (M := MX11_advise) (pc := 59) dX11_advise_59 rfl rfl [] rfl rfl ⟨rfl, by decide, Nat.le_of_ble_eq_true rfl⟩ h0.1 fun v106 S107 => ?_
        refine tt_st (M := MX11_advise) (pc := 62) [some (.ref 90), some (.int (I l1)), some (.int (I l2)), some (.int (I l3)), some (.int (I l4)), some (.int (I v106))] dX11_advise_62 rfl rfl rfl rfl rfl rfl ?_
        refine tt_ld (M := MX11_advise) (pc := 64) dX11_advise_64 rfl rfl rfl rfl rfl ?_
        refine tt_ld (M := MX11_advise) (pc := 65) dX11_advise_65 rfl rfl rfl rfl rfl ?_
        refine tt_if_ne (M := MX11_advise) (pc := 67) 74 dX11_advise_67 rfl ?_ ?_
        · refine tt_ld (M := MX11_advise) (pc := 74) dX11_advise_74 rfl rfl rfl rfl rfl ?_
          refine tt_vcIN (M := MX11_advise) (pc := 76) dX11_advise_76 rfl rfl [] rfl rfl ⟨rfl, by decide, Nat.le_of_ble_eq_true rfl⟩ h0.1 fun v108 S109 => ?_
          exact tt_iret (M := MX11_advise) (pc := 79) dX11_advise_79 rfl
        · refine tt_iconst (M := MX11_advise) (pc := 70) dX11_advise_70 ?_
          refine tt_goto (M := MX11_advise) (pc := 71) 76 dX11_advise_71 rfl ?_
          refine tt_vcIN (M := MX11_advise) (pc := 76) dX11_advise_76 rfl rfl [] rfl rfl ⟨rfl, by decide, Nat.le_of_ble_eq_true rfl⟩ h0.1 fun v110 S111 => ?_
          exact tt_iret (M := MX11_advise) (pc := 79) dX11_advise_79 rfl
      · refine tt_iconst (M := MX11_advise) (pc := 54) dX11_advise_54 ?_
        refine tt_goto (M := MX11_advise) (pc := 55) 59 dX11_advise_55 rfl ?_
        refine tt_vcIN (M := MX11_advise) (pc := 59) dX11_advise_59 rfl rfl [] rfl rfl ⟨rfl, by decide, Nat.le_of_ble_eq_true rfl⟩ h0.1 fun v112 S113 => ?_
        refine tt_st (M := MX11_advise) (pc := 62) [some (.ref 90), some (.int (I l1)), some (.int (I l2)), some (.int (I l3)), some (.int (I l4)), some (.int (I v112))] dX11_advise_62 rfl rfl rfl rfl rfl rfl ?_
        refine tt_ld (M := MX11_advise) (pc := 64) dX11_advise_64 rfl rfl rfl rfl rfl ?_
        refine tt_ld (M := MX11_advise) (pc := 65) dX11_advise_65 rfl rfl rfl rfl rfl ?_
        refine tt_if_ne (M := MX11_advise) (pc := 67) 74 dX11_advise_67 rfl ?_ ?_
        · refine tt_ld (M := MX11_advise) (pc := 74) dX11_advise_74 rfl rfl rfl rfl rfl ?_
          refine tt_vcIN (M := MX11_advise) (pc := 76) dX11_advise_76 rfl rfl [] rfl rfl ⟨rfl, by decide, Nat.le_of_ble_eq_true rfl⟩ h0.1 fun v114 S115 => ?_
          exact tt_iret (M := MX11_advise) (pc := 79) dX11_advise_79 rfl
        · refine tt_iconst (M := MX11_advise) (pc := 70) dX11_advise_70 ?_
          refine tt_goto (M := MX11_advise) (pc := 71) 76 dX11_advise_71 rfl ?_
          refine tt_vcIN (M := MX11_advise) (pc := 76) dX11_advise_76 rfl rfl [] rfl rfl ⟨rfl, by decide, Nat.le_of_ble_eq_true rfl⟩ h0.1 fun v116 S117 => ?_
          exact tt_iret (M := MX11_advise) (pc := 79) dX11_advise_79 rfl
    · refine tt_iconst (M := MX11_advise) (pc := 23) dX11_advise_23 ?_
      exact tt_iret (M := MX11_advise) (pc := 24) dX11_advise_24 rfl
theorem qX11_scan_0 {sc : Nat × (Nat → Int32)} {SH : List mCell} {S : mStore} {r : mR × mW} (h0 : sMod SH) {l1 : Int} : ((∃ v101 S102, G sc MX11_within 0 [some (.int (I l1)), some (.int (I 1)), some (.int (I 100))] [] SH (up S 90 4 0) (rI v101 SH S102) ∧ (if I v101 = I 0 then (∃ v108 S109, G sc MX11_refuses 0 [some (.ref 90), some (.int (I 1))] [] SH S102 (rI v108 SH S109) ∧ r = rI v108 SH S109) else (∃ S103, G sc MX11_tries 0 [some (.ref 90)] [] SH S102 (rV SH S103) ∧ (∃ v104 S105, G sc MX11_scans 0 [some (.ref 90), some (.int (I 1654)), some (.int (I l1)), none, none, none] [] SH S103 (rI v104 SH S105) ∧ (∃ v106 S107, G sc MX11_does 0 [some (.ref 90), some (.int (I v104))] [] SH S105 (rI v106 SH S107) ∧ r = rI v106 SH S107)))))) → G sc MX11_scan 0 [some (.ref 90), some (.int (I l1))] [] SH S r := by
  refine tt_ld (M := MX11_scan) (pc := 0) dX11_scan_0 rfl rfl rfl rfl rfl ?_
  refine tt_iconst (M := MX11_scan) (pc := 1) dX11_scan_1 ?_
  refine tt_putI (M := MX11_scan) (pc := 2) dX11_scan_2 rfl rfl (Or.inl rfl) h0.1 rfl ?_
  refine tt_ld (M := MX11_scan) (pc := 5) dX11_scan_5 rfl rfl rfl rfl rfl ?_
  refine tt_iconst (M := MX11_scan) (pc := 6) dX11_scan_6 ?_
  refine tt_bipush (M := MX11_scan) (pc := 7) dX11_scan_7 (by decide) ?_
  refine tt_scIN (M := MX11_scan) (pc := 9) dX11_scan_9 rfl [] rfl rfl ⟨rfl, by decide, Nat.le_of_ble_eq_true rfl⟩ fun v101 S102 => ?_
  refine tt_if_ne (M := MX11_scan) (pc := 12) 21 dX11_scan_12 rfl ?_ ?_
  · refine tt_ld (M := MX11_scan) (pc := 21) dX11_scan_21 rfl rfl rfl rfl rfl ?_
    refine tt_vcVN (M := MX11_scan) (pc := 22) dX11_scan_22 rfl rfl [] rfl rfl ⟨rfl, by decide, Nat.le_of_ble_eq_true rfl⟩ h0.1 fun S103 => ?_
    refine tt_ld (M := MX11_scan) (pc := 25) dX11_scan_25 rfl rfl rfl rfl rfl ?_
    refine tt_ld (M := MX11_scan) (pc := 26) dX11_scan_26 rfl rfl rfl rfl rfl ?_
    refine tt_sipush (M := MX11_scan) (pc := 27) dX11_scan_27 (by decide) ?_
    refine tt_ld (M := MX11_scan) (pc := 30) dX11_scan_30 rfl rfl rfl rfl rfl ?_
    refine tt_vcIN (M := MX11_scan) (pc := 31) dX11_scan_31 rfl rfl [.ref 90] rfl rfl ⟨rfl, by decide, Nat.le_of_ble_eq_true rfl⟩ h0.1 fun v104 S105 => ?_
    refine tt_vcIN (M := MX11_scan) (pc := 34) dX11_scan_34 rfl rfl [] rfl rfl ⟨rfl, by decide, Nat.le_of_ble_eq_true rfl⟩ h0.1 fun v106 S107 => ?_
    exact tt_iret (M := MX11_scan) (pc := 37) dX11_scan_37 rfl
  · refine tt_ld (M := MX11_scan) (pc := 15) dX11_scan_15 rfl rfl rfl rfl rfl ?_
    refine tt_iconst (M := MX11_scan) (pc := 16) dX11_scan_16 ?_
    refine tt_vcIN (M := MX11_scan) (pc := 17) dX11_scan_17 rfl rfl [] rfl rfl ⟨rfl, by decide, Nat.le_of_ble_eq_true rfl⟩ h0.1 fun v108 S109 => ?_
    exact tt_iret (M := MX11_scan) (pc := 20) dX11_scan_20 rfl
theorem qX11_ticks_0 {sc : Nat × (Nat → Int32)} {SH : List mCell} {S : mStore} {r : mR × mW} (h0 : sMod SH) {l1 : Int} : ((∃ v101 S102, G sc MX11_within 0 [some (.int (I l1)), some (.int (I 1)), some (.int (I 20))] [] SH (up S 90 4 0) (rI v101 SH S102) ∧ (if I v101 = I 0 then (∃ v103 S104, G sc MX11_refuses 0 [some (.ref 90), some (.int (I 1))] [] SH S102 (rI v103 SH S104) ∧ r = rI v103 SH S104) else (((0 : Int) ≤ 2 ∧ (2 : Int) < 137400) ∧ (if I ((S102 91 2) + l1) ≤ I 9999 then (∃ S105, G sc MX11_tries 0 [some (.ref 90)] [] SH S102 (rV SH S105) ∧ (∃ v106 S107, G sc MX11_ticksOf 0 [some (.ref 90), some (.int (I 1654)), some (.int (I l1)), none, none] [] SH S105 (rI v106 SH S107) ∧ (∃ v108 S109, G sc MX11_does 0 [some (.ref 90), some (.int (I 0))] [] SH S107 (rI v108 SH S109) ∧ (((0 : Int) ≤ 2 ∧ (2 : Int) < 137400) ∧ r = rI (S109 91 2) SH S109)))) else (∃ v110 S111, G sc MX11_refuses 0 [some (.ref 90), some (.int (I 1))] [] SH S102 (rI v110 SH S111) ∧ r = rI v110 SH S111)))))) → G sc MX11_ticks 0 [some (.ref 90), some (.int (I l1))] [] SH S r := by
  refine tt_ld (M := MX11_ticks) (pc := 0) dX11_ticks_0 rfl rfl rfl rfl rfl ?_
  refine tt_iconst (M := MX11_ticks) (pc := 1) dX11_ticks_1 ?_
  refine tt_putI (M := MX11_ticks) (pc := 2) dX11_ticks_2 rfl rfl (Or.inl rfl) h0.1 rfl ?_
  refine tt_ld (M := MX11_ticks) (pc := 5) dX11_ticks_5 rfl rfl rfl rfl rfl ?_
  refine tt_iconst (M := MX11_ticks) (pc := 6) dX11_ticks_6 ?_
  refine tt_bipush (M := MX11_ticks) (pc := 7) dX11_ticks_7 (by decide) ?_
  refine tt_scIN (M := MX11_ticks) (pc := 9) dX11_ticks_9 rfl [] rfl rfl ⟨rfl, by decide, Nat.le_of_ble_eq_true rfl⟩ fun v101 S102 => ?_
  refine tt_if_eq (M := MX11_ticks) (pc := 12) 29 dX11_ticks_12 rfl ?_ ?_
  · refine tt_ld (M := MX11_ticks) (pc := 29) dX11_ticks_29 rfl rfl rfl rfl rfl ?_
    refine tt_iconst (M := MX11_ticks) (pc := 30) dX11_ticks_30 ?_
    refine tt_vcIN (M := MX11_ticks) (pc := 31) dX11_ticks_31 rfl rfl [] rfl rfl ⟨rfl, by decide, Nat.le_of_ble_eq_true rfl⟩ h0.1 fun v103 S104 => ?_
    exact tt_iret (M := MX11_ticks) (pc := 34) dX11_ticks_34 rfl
  · refine tt_ld (M := MX11_ticks) (pc := 15) dX11_ticks_15 rfl rfl rfl rfl rfl ?_
    refine tt_getR (M := MX11_ticks) (pc := 16) dX11_ticks_16 rfl h0.1 rfl ?_
    refine tt_iconst (M := MX11_ticks) (pc := 19) dX11_ticks_19 ?_
    refine tt_iaload (M := MX11_ticks) (pc := 20) dX11_ticks_20 h0.2.1 rfl ?_
    refine tt_ld (M := MX11_ticks) (pc := 21) dX11_ticks_21 rfl rfl rfl rfl rfl ?_
    refine tt_iadd (M := MX11_ticks) (pc := 22) dX11_ticks_22 ?_
    refine tt_sipush (M := MX11_ticks) (pc := 23) dX11_ticks_23 (by decide) ?_
    refine tt_ic_le (M := MX11_ticks) (pc := 26) 35 dX11_ticks_26 rfl ?_ ?_
    · refine tt_ld (M := MX11_ticks) (pc := 35) dX11_ticks_35 rfl rfl rfl rfl rfl ?_
      refine tt_vcVN (M := MX11_ticks) (pc := 36) dX11_ticks_36 rfl rfl [] rfl rfl ⟨rfl, by decide, Nat.le_of_ble_eq_true rfl⟩ h0.1 fun S105 => ?_
      refine tt_ld (M := MX11_ticks) (pc := 39) dX11_ticks_39 rfl rfl rfl rfl rfl ?_
      refine tt_sipush (M := MX11_ticks) (pc := 40) dX11_ticks_40 (by decide) ?_
      refine tt_ld (M := MX11_ticks) (pc := 43) dX11_ticks_43 rfl rfl rfl rfl rfl ?_
      refine tt_vcIN (M := MX11_ticks) (pc := 44) dX11_ticks_44 rfl rfl [] rfl rfl ⟨rfl, by decide, Nat.le_of_ble_eq_true rfl⟩ h0.1 fun v106 S107 => ?_
      refine tt_pop (M := MX11_ticks) (pc := 47) dX11_ticks_47 rfl ?_
      refine tt_ld (M := MX11_ticks) (pc := 48) dX11_ticks_48 rfl rfl rfl rfl rfl ?_
      refine tt_iconst (M := MX11_ticks) (pc := 49) dX11_ticks_49 ?_
      refine tt_vcIN (M := MX11_ticks) (pc := 50) dX11_ticks_50 rfl rfl [] rfl rfl ⟨rfl, by decide, Nat.le_of_ble_eq_true rfl⟩ h0.1 fun v108 S109 => ?_
      refine tt_pop (M := MX11_ticks) (pc := 53) dX11_ticks_53 rfl ?_
      refine tt_ld (M := MX11_ticks) (pc := 54) dX11_ticks_54 rfl rfl rfl rfl rfl ?_
      refine tt_getR (M := MX11_ticks) (pc := 55) dX11_ticks_55 rfl h0.1 rfl ?_
      refine tt_iconst (M := MX11_ticks) (pc := 58) dX11_ticks_58 ?_
      refine tt_iaload (M := MX11_ticks) (pc := 59) dX11_ticks_59 h0.2.1 rfl ?_
      exact tt_iret (M := MX11_ticks) (pc := 60) dX11_ticks_60 rfl
    · refine tt_ld (M := MX11_ticks) (pc := 29) dX11_ticks_29 rfl rfl rfl rfl rfl ?_
      refine tt_iconst (M := MX11_ticks) (pc := 30) dX11_ticks_30 ?_
      refine tt_vcIN (M := MX11_ticks) (pc := 31) dX11_ticks_31 rfl rfl [] rfl rfl ⟨rfl, by decide, Nat.le_of_ble_eq_true rfl⟩ h0.1 fun v110 S111 => ?_
      exact tt_iret (M := MX11_ticks) (pc := 34) dX11_ticks_34 rfl
theorem qX11_rate_0 {sc : Nat × (Nat → Int32)} {SH : List mCell} {S : mStore} {r : mR × mW} (h0 : sMod SH) {l1 : Int} {u2 : Option Value} : ((((0 : Int) ≤ 0 ∧ (0 : Int) < 137400) ∧ (∃ v101 S102, G sc MX11_within 0 [some (.int (I l1)), some (.int (I ((up S 90 4 0) 90 14))), some (.int (I ((up S 90 4 0) 90 15)))] [] SH (up S 90 4 0) (rI v101 SH S102) ∧ (if I v101 = I 0 then (∃ v103 S104, G sc MX11_refuses 0 [some (.ref 90), some (.int (I 1))] [] SH S102 (rI v103 SH S104) ∧ r = rI v103 SH S104) else (if I l1 = I ((up S 90 4 0) 91 0) then (∃ v108 S109, G sc MX11_refuses 0 [some (.ref 90), some (.int (I 1))] [] SH S102 (rI v108 SH S109) ∧ r = rI v108 SH S109) else (∃ S105, G sc MX11_tries 0 [some (.ref 90)] [] SH S102 (rV SH S105) ∧ (((0 : Int) ≤ 1654 ∧ (1654 : Int) < 137400) ∧ (∃ v106 S107, G sc MX11_does 0 [some (.ref 90), some (.int (I ((up S 90 4 0) 91 0)))] [] SH (up S105 91 1654 l1) (rI v106 SH S107) ∧ r = rI v106 SH S107)))))))) → G sc MX11_rate 0 [some (.ref 90), some (.int (I l1)), u2] [] SH S r := by
  refine tt_ld (M := MX11_rate) (pc := 0) dX11_rate_0 rfl rfl rfl rfl rfl ?_
  refine tt_iconst (M := MX11_rate) (pc := 1) dX11_rate_1 ?_
  refine tt_putI (M := MX11_rate) (pc := 2) dX11_rate_2 rfl rfl (Or.inl rfl) h0.1 rfl ?_
  refine tt_ld (M := MX11_rate) (pc := 5) dX11_rate_5 rfl rfl rfl rfl rfl ?_
  refine tt_getR (M := MX11_rate) (pc := 6) dX11_rate_6 rfl h0.1 rfl ?_
  refine tt_iconst (M := MX11_rate) (pc := 9) dX11_rate_9 ?_
  refine tt_iaload (M := MX11_rate) (pc := 10) dX11_rate_10 h0.2.1 rfl ?_
  refine tt_st (M := MX11_rate) (pc := 11) [some (.ref 90), some (.int (I l1)), some (.int (I ((up S 90 4 0) 91 0)))] dX11_rate_11 rfl rfl rfl rfl rfl rfl ?_
  refine tt_ld (M := MX11_rate) (pc := 12) dX11_rate_12 rfl rfl rfl rfl rfl ?_
  refine tt_ld (M := MX11_rate) (pc := 13) dX11_rate_13 rfl rfl rfl rfl rfl ?_
  refine tt_getI (M := MX11_rate) (pc := 14) dX11_rate_14 rfl h0.1 rfl ?_
  refine tt_ld (M := MX11_rate) (pc := 17) dX11_rate_17 rfl rfl rfl rfl rfl ?_
  refine tt_getI (M := MX11_rate) (pc := 18) dX11_rate_18 rfl h0.1 rfl ?_
  refine tt_scIN (M := MX11_rate) (pc := 21) dX11_rate_21 rfl [] rfl rfl ⟨rfl, by decide, Nat.le_of_ble_eq_true rfl⟩ fun v101 S102 => ?_
  refine tt_if_eq (M := MX11_rate) (pc := 24) 32 dX11_rate_24 rfl ?_ ?_
  · refine tt_ld (M := MX11_rate) (pc := 32) dX11_rate_32 rfl rfl rfl rfl rfl ?_
    refine tt_iconst (M := MX11_rate) (pc := 33) dX11_rate_33 ?_
    refine tt_vcIN (M := MX11_rate) (pc := 34) dX11_rate_34 rfl rfl [] rfl rfl ⟨rfl, by decide, Nat.le_of_ble_eq_true rfl⟩ h0.1 fun v103 S104 => ?_
    exact tt_iret (M := MX11_rate) (pc := 37) dX11_rate_37 rfl
  · refine tt_ld (M := MX11_rate) (pc := 27) dX11_rate_27 rfl rfl rfl rfl rfl ?_
    refine tt_ld (M := MX11_rate) (pc := 28) dX11_rate_28 rfl rfl rfl rfl rfl ?_
    refine tt_ic_ne (M := MX11_rate) (pc := 29) 38 dX11_rate_29 rfl ?_ ?_
    · refine tt_ld (M := MX11_rate) (pc := 38) dX11_rate_38 rfl rfl rfl rfl rfl ?_
      refine tt_vcVN (M := MX11_rate) (pc := 39) dX11_rate_39 rfl rfl [] rfl rfl ⟨rfl, by decide, Nat.le_of_ble_eq_true rfl⟩ h0.1 fun S105 => ?_
      refine tt_ld (M := MX11_rate) (pc := 42) dX11_rate_42 rfl rfl rfl rfl rfl ?_
      refine tt_getR (M := MX11_rate) (pc := 43) dX11_rate_43 rfl h0.1 rfl ?_
      refine tt_sipush (M := MX11_rate) (pc := 46) dX11_rate_46 (by decide) ?_
      refine tt_ld (M := MX11_rate) (pc := 49) dX11_rate_49 rfl rfl rfl rfl rfl ?_
      refine tt_iastore (M := MX11_rate) (pc := 50) dX11_rate_50 h0.2.1 rfl ?_
      refine tt_ld (M := MX11_rate) (pc := 51) dX11_rate_51 rfl rfl rfl rfl rfl ?_
      refine tt_ld (M := MX11_rate) (pc := 52) dX11_rate_52 rfl rfl rfl rfl rfl ?_
      refine tt_vcIN (M := MX11_rate) (pc := 53) dX11_rate_53 rfl rfl [] rfl rfl ⟨rfl, by decide, Nat.le_of_ble_eq_true rfl⟩ h0.1 fun v106 S107 => ?_
      exact tt_iret (M := MX11_rate) (pc := 56) dX11_rate_56 rfl
    · refine tt_ld (M := MX11_rate) (pc := 32) dX11_rate_32 rfl rfl rfl rfl rfl ?_
      refine tt_iconst (M := MX11_rate) (pc := 33) dX11_rate_33 ?_
      refine tt_vcIN (M := MX11_rate) (pc := 34) dX11_rate_34 rfl rfl [] rfl rfl ⟨rfl, by decide, Nat.le_of_ble_eq_true rfl⟩ h0.1 fun v108 S109 => ?_
      exact tt_iret (M := MX11_rate) (pc := 37) dX11_rate_37 rfl
theorem qX11_undo_0 {sc : Nat × (Nat → Int32)} {SH : List mCell} {S : mStore} {r : mR × mW} (h0 : sMod SH) : ((if I ((up S 90 4 0) 90 5) = I 0 then r = rI (-1) SH (up S 90 4 0) else (∃ v101 S102, G sc MX11_keptAt 0 [some (.int (I ((up (up S 90 4 0) 90 5 (((up S 90 4 0) 90 5) - 1)) 90 6))), some (.int (I ((up (up S 90 4 0) 90 5 (((up S 90 4 0) 90 5) - 1)) 90 5)))] [] SH (up (up S 90 4 0) 90 5 (((up S 90 4 0) 90 5) - 1)) (rI v101 SH S102) ∧ (∃ S103, G sc MX11_copies 0 [some (.ref 90), some (.int (I v101)), some (.int (I 0)), some (.int (I 1654)), none] [] SH S102 (rV SH S103) ∧ r = rI (S103 90 5) SH S103)))) → G sc MX11_undo 0 [some (.ref 90)] [] SH S r := by
  refine tt_ld (M := MX11_undo) (pc := 0) dX11_undo_0 rfl rfl rfl rfl rfl ?_
  refine tt_iconst (M := MX11_undo) (pc := 1) dX11_undo_1 ?_
  refine tt_putI (M := MX11_undo) (pc := 2) dX11_undo_2 rfl rfl (Or.inl rfl) h0.1 rfl ?_
  refine tt_ld (M := MX11_undo) (pc := 5) dX11_undo_5 rfl rfl rfl rfl rfl ?_
  refine tt_getI (M := MX11_undo) (pc := 6) dX11_undo_6 rfl h0.1 rfl ?_
  refine tt_if_ne (M := MX11_undo) (pc := 9) 14 dX11_undo_9 rfl ?_ ?_
  · refine tt_ld (M := MX11_undo) (pc := 14) dX11_undo_14 rfl rfl rfl rfl rfl ?_
    refine tt_dup (M := MX11_undo) (pc := 15) dX11_undo_15 rfl ?_
    refine tt_getI (M := MX11_undo) (pc := 16) dX11_undo_16 rfl h0.1 rfl ?_
    refine tt_iconst (M := MX11_undo) (pc := 19) dX11_undo_19 ?_
    refine tt_isub (M := MX11_undo) (pc := 20) dX11_undo_20 ?_
    refine tt_putI (M := MX11_undo) (pc := 21) dX11_undo_21 rfl rfl (Or.inl rfl) h0.1 rfl ?_
    refine tt_ld (M := MX11_undo) (pc := 24) dX11_undo_24 rfl rfl rfl rfl rfl ?_
    refine tt_ld (M := MX11_undo) (pc := 25) dX11_undo_25 rfl rfl rfl rfl rfl ?_
    refine tt_getI (M := MX11_undo) (pc := 26) dX11_undo_26 rfl h0.1 rfl ?_
    refine tt_ld (M := MX11_undo) (pc := 29) dX11_undo_29 rfl rfl rfl rfl rfl ?_
    refine tt_getI (M := MX11_undo) (pc := 30) dX11_undo_30 rfl h0.1 rfl ?_
    refine tt_scIN (M := MX11_undo) (pc := 33) dX11_undo_33 rfl [.ref 90] rfl rfl ⟨rfl, by decide, Nat.le_of_ble_eq_true rfl⟩ fun v101 S102 => ?_
    refine tt_iconst (M := MX11_undo) (pc := 36) dX11_undo_36 ?_
    refine tt_sipush (M := MX11_undo) (pc := 37) dX11_undo_37 (by decide) ?_
    refine tt_vcVN (M := MX11_undo) (pc := 40) dX11_undo_40 rfl rfl [] rfl rfl ⟨rfl, by decide, Nat.le_of_ble_eq_true rfl⟩ h0.1 fun S103 => ?_
    refine tt_ld (M := MX11_undo) (pc := 43) dX11_undo_43 rfl rfl rfl rfl rfl ?_
    refine tt_getI (M := MX11_undo) (pc := 44) dX11_undo_44 rfl h0.1 rfl ?_
    exact tt_iret (M := MX11_undo) (pc := 47) dX11_undo_47 rfl
  · refine tt_iconst (M := MX11_undo) (pc := 12) dX11_undo_12 ?_
    exact tt_iret (M := MX11_undo) (pc := 13) dX11_undo_13 rfl
theorem qX11_toldOf_0 {sc : Nat × (Nat → Int32)} {SH : List mCell} {S : mStore} {r : mR × mW} (h0 : sMod SH) {l1 : Int} {l2 : Int} : ((swp l2 0 (((0 : Int) ≤ l1 + 1 ∧ l1 + 1 < 137400) ∧ r = rI (S 91 (l1 + 1)) SH S) [(∃ v101 S102, G sc MX11_usedOf 0 [some (.ref 90), some (.int (I l1)), none, none] [] SH S (rI v101 SH S102) ∧ r = rI v101 SH S102), (∃ v103 S104, G sc MX11_merged 0 [some (.ref 90), some (.int (I l1)), none, none] [] SH S (rI v103 SH S104) ∧ r = rI v103 SH S104), (∃ v105 S106, G sc MX11_waiting 0 [some (.ref 90), some (.int (I l1))] [] SH S (rI v105 SH S106) ∧ r = rI v105 SH S106), (((0 : Int) ≤ l1 + 0 ∧ l1 + 0 < 137400) ∧ r = rI (S 91 (l1 + 0)) SH S), (((0 : Int) ≤ l1 + 3 ∧ l1 + 3 < 137400) ∧ r = rI (S 91 (l1 + 3)) SH S)])) → G sc MX11_toldOf 0 [some (.ref 90), some (.int (I l1)), some (.int (I l2))] [] SH S r := by
  refine tt_ld (M := MX11_toldOf) (pc := 0) dX11_toldOf_0 rfl rfl rfl rfl rfl ?_
  refine tt_switch (M := MX11_toldOf) (pc := 1) 72 dX11_toldOf_1 ⟨by decide, by simp only [List.length_cons, List.length_nil]; omega⟩ rfl rfl ?_ ?_
  · refine tt_ld (M := MX11_toldOf) (pc := 72) dX11_toldOf_72 rfl rfl rfl rfl rfl ?_
    refine tt_getR (M := MX11_toldOf) (pc := 73) dX11_toldOf_73 rfl h0.1 rfl ?_
    refine tt_ld (M := MX11_toldOf) (pc := 76) dX11_toldOf_76 rfl rfl rfl rfl rfl ?_
    refine tt_iconst (M := MX11_toldOf) (pc := 77) dX11_toldOf_77 ?_
    refine tt_iadd (M := MX11_toldOf) (pc := 78) dX11_toldOf_78 ?_
    refine tt_iaload (M := MX11_toldOf) (pc := 79) dX11_toldOf_79 h0.2.1 rfl ?_
    exact tt_iret (M := MX11_toldOf) (pc := 80) dX11_toldOf_80 rfl
  · refine ⟨⟨36, rfl, ?_⟩, ⟨⟨42, rfl, ?_⟩, ⟨⟨48, rfl, ?_⟩, ⟨⟨54, rfl, ?_⟩, ⟨⟨63, rfl, ?_⟩, trivial⟩⟩⟩⟩⟩
    · refine tt_ld (M := MX11_toldOf) (pc := 36) dX11_toldOf_36 rfl rfl rfl rfl rfl ?_
      refine tt_ld (M := MX11_toldOf) (pc := 37) dX11_toldOf_37 rfl rfl rfl rfl rfl ?_
      refine tt_vcIN (M := MX11_toldOf) (pc := 38) dX11_toldOf_38 rfl rfl [] rfl rfl ⟨rfl, by decide, Nat.le_of_ble_eq_true rfl⟩ h0.1 fun v101 S102 => ?_
      exact tt_iret (M := MX11_toldOf) (pc := 41) dX11_toldOf_41 rfl
    · refine tt_ld (M := MX11_toldOf) (pc := 42) dX11_toldOf_42 rfl rfl rfl rfl rfl ?_
      refine tt_ld (M := MX11_toldOf) (pc := 43) dX11_toldOf_43 rfl rfl rfl rfl rfl ?_
      refine tt_vcIN (M := MX11_toldOf) (pc := 44) dX11_toldOf_44 rfl rfl [] rfl rfl ⟨rfl, by decide, Nat.le_of_ble_eq_true rfl⟩ h0.1 fun v103 S104 => ?_
      exact tt_iret (M := MX11_toldOf) (pc := 47) dX11_toldOf_47 rfl
    · refine tt_ld (M := MX11_toldOf) (pc := 48) dX11_toldOf_48 rfl rfl rfl rfl rfl ?_
      refine tt_ld (M := MX11_toldOf) (pc := 49) dX11_toldOf_49 rfl rfl rfl rfl rfl ?_
      refine tt_vcIN (M := MX11_toldOf) (pc := 50) dX11_toldOf_50 rfl rfl [] rfl rfl ⟨rfl, by decide, Nat.le_of_ble_eq_true rfl⟩ h0.1 fun v105 S106 => ?_
      exact tt_iret (M := MX11_toldOf) (pc := 53) dX11_toldOf_53 rfl
    · refine tt_ld (M := MX11_toldOf) (pc := 54) dX11_toldOf_54 rfl rfl rfl rfl rfl ?_
      refine tt_getR (M := MX11_toldOf) (pc := 55) dX11_toldOf_55 rfl h0.1 rfl ?_
      refine tt_ld (M := MX11_toldOf) (pc := 58) dX11_toldOf_58 rfl rfl rfl rfl rfl ?_
      refine tt_iconst (M := MX11_toldOf) (pc := 59) dX11_toldOf_59 ?_
      refine tt_iadd (M := MX11_toldOf) (pc := 60) dX11_toldOf_60 ?_
      refine tt_iaload (M := MX11_toldOf) (pc := 61) dX11_toldOf_61 h0.2.1 rfl ?_
      exact tt_iret (M := MX11_toldOf) (pc := 62) dX11_toldOf_62 rfl
    · refine tt_ld (M := MX11_toldOf) (pc := 63) dX11_toldOf_63 rfl rfl rfl rfl rfl ?_
      refine tt_getR (M := MX11_toldOf) (pc := 64) dX11_toldOf_64 rfl h0.1 rfl ?_
      refine tt_ld (M := MX11_toldOf) (pc := 67) dX11_toldOf_67 rfl rfl rfl rfl rfl ?_
      refine tt_iconst (M := MX11_toldOf) (pc := 68) dX11_toldOf_68 ?_
      refine tt_iadd (M := MX11_toldOf) (pc := 69) dX11_toldOf_69 ?_
      refine tt_iaload (M := MX11_toldOf) (pc := 70) dX11_toldOf_70 h0.2.1 rfl ?_
      exact tt_iret (M := MX11_toldOf) (pc := 71) dX11_toldOf_71 rfl
theorem qX11_then_0 {sc : Nat × (Nat → Int32)} {SH : List mCell} {S : mStore} {r : mR × mW} (h0 : sMod SH) {l1 : Int} {l2 : Int} : ((∃ v101 S102, G sc MX11_within 0 [some (.int (I l2)), some (.int (I 0)), some (.int (I 5))] [] SH (up S 90 4 0) (rI v101 SH S102) ∧ (∃ v103 S104, G sc MX11_right 0 [some (.ref 90), some (.int (I v101)), some (.int (I 1))] [] SH S102 (rI v103 SH S104) ∧ (if I v103 = I 0 then r = rI 0 SH S104 else (∃ v105 S106, G sc MX11_within 0 [some (.int (I l1)), some (.int (I 0)), some (.int (I 60))] [] SH S104 (rI v105 SH S106) ∧ (∃ v107 S108, G sc MX11_right 0 [some (.ref 90), some (.int (I v105)), some (.int (I 2))] [] SH S106 (rI v107 SH S108) ∧ (if I v107 = I 0 then r = rI 0 SH S108 else (∃ S109, G sc MX11_tries 0 [some (.ref 90)] [] SH S108 (rV SH S109) ∧ (∃ v110 S111, G sc MX11_ticksOf 0 [some (.ref 90), some (.int (I 1654)), some (.int (I l1)), none, none] [] SH S109 (rI v110 SH S111) ∧ (∃ v112 S113, G sc MX11_toldOf 0 [some (.ref 90), some (.int (I 1654)), some (.int (I l2))] [] SH S111 (rI v112 SH S113) ∧ r = rI v112 SH S113)))))))))) → G sc MX11_then 0 [some (.ref 90), some (.int (I l1)), some (.int (I l2))] [] SH S r := by
  refine tt_ld (M := MX11_then) (pc := 0) dX11_then_0 rfl rfl rfl rfl rfl ?_
  refine tt_iconst (M := MX11_then) (pc := 1) dX11_then_1 ?_
  refine tt_putI (M := MX11_then) (pc := 2) dX11_then_2 rfl rfl (Or.inl rfl) h0.1 rfl ?_
  refine tt_ld (M := MX11_then) (pc := 5) dX11_then_5 rfl rfl rfl rfl rfl ?_
  refine tt_ld (M := MX11_then) (pc := 6) dX11_then_6 rfl rfl rfl rfl rfl ?_
  refine tt_iconst (M := MX11_then) (pc := 7) dX11_then_7 ?_
  refine tt_iconst (M := MX11_then) (pc := 8) dX11_then_8 ?_
  refine tt_scIN (M := MX11_then) (pc := 9) dX11_then_9 rfl [.ref 90] rfl rfl ⟨rfl, by decide, Nat.le_of_ble_eq_true rfl⟩ fun v101 S102 => ?_
  refine tt_iconst (M := MX11_then) (pc := 12) dX11_then_12 ?_
  refine tt_vcIN (M := MX11_then) (pc := 13) dX11_then_13 rfl rfl [] rfl rfl ⟨rfl, by decide, Nat.le_of_ble_eq_true rfl⟩ h0.1 fun v103 S104 => ?_
  refine tt_if_eq (M := MX11_then) (pc := 16) 34 dX11_then_16 rfl ?_ ?_
  · refine tt_iconst (M := MX11_then) (pc := 34) dX11_then_34 ?_
    exact tt_iret (M := MX11_then) (pc := 35) dX11_then_35 rfl
  · refine tt_ld (M := MX11_then) (pc := 19) dX11_then_19 rfl rfl rfl rfl rfl ?_
    refine tt_ld (M := MX11_then) (pc := 20) dX11_then_20 rfl rfl rfl rfl rfl ?_
    refine tt_iconst (M := MX11_then) (pc := 21) dX11_then_21 ?_
    refine tt_bipush (M := MX11_then) (pc := 22) dX11_then_22 (by decide) ?_
    refine tt_scIN (M := MX11_then) (pc := 24) dX11_then_24 rfl [.ref 90] rfl rfl ⟨rfl, by decide, Nat.le_of_ble_eq_true rfl⟩ fun v105 S106 => ?_
    refine tt_iconst (M := MX11_then) (pc := 27) dX11_then_27 ?_
    refine tt_vcIN (M := MX11_then) (pc := 28) dX11_then_28 rfl rfl [] rfl rfl ⟨rfl, by decide, Nat.le_of_ble_eq_true rfl⟩ h0.1 fun v107 S108 => ?_
    refine tt_if_ne (M := MX11_then) (pc := 31) 36 dX11_then_31 rfl ?_ ?_
    · refine tt_ld (M := MX11_then) (pc := 36) dX11_then_36 rfl rfl rfl rfl rfl ?_
      refine tt_vcVN (M := MX11_then) (pc := 37) dX11_then_37 rfl rfl [] rfl rfl ⟨rfl, by decide, Nat.le_of_ble_eq_true rfl⟩ h0.1 fun S109 => ?_
      refine tt_ld (M := MX11_then) (pc := 40) dX11_then_40 rfl rfl rfl rfl rfl ?_
      refine tt_sipush (M := MX11_then) (pc := 41) dX11_then_41 (by decide) ?_
      refine tt_ld (M := MX11_then) (pc := 44) dX11_then_44 rfl rfl rfl rfl rfl ?_
      refine tt_vcIN (M := MX11_then) (pc := 45) dX11_then_45 rfl rfl [] rfl rfl ⟨rfl, by decide, Nat.le_of_ble_eq_true rfl⟩ h0.1 fun v110 S111 => ?_
      refine tt_pop (M := MX11_then) (pc := 48) dX11_then_48 rfl ?_
      refine tt_ld (M := MX11_then) (pc := 49) dX11_then_49 rfl rfl rfl rfl rfl ?_
      refine tt_sipush (M := MX11_then) (pc := 50) dX11_then_50 (by decide) ?_
      refine tt_ld (M := MX11_then) (pc := 53) dX11_then_53 rfl rfl rfl rfl rfl ?_
      refine tt_vcIN (M := MX11_then) (pc := 54) dX11_then_54 rfl rfl [] rfl rfl ⟨rfl, by decide, Nat.le_of_ble_eq_true rfl⟩ h0.1 fun v112 S113 => ?_
      exact tt_iret (M := MX11_then) (pc := 57) dX11_then_57 rfl
    · refine tt_iconst (M := MX11_then) (pc := 34) dX11_then_34 ?_
      exact tt_iret (M := MX11_then) (pc := 35) dX11_then_35 rfl
theorem qX11_quiet_0 {sc : Nat × (Nat → Int32)} {SH : List mCell} {S : mStore} {r : mR × mW} (h0 : sMod SH) {u1 : Option Value} {u2 : Option Value} : ((∃ S101, G sc MX11_tries 0 [some (.ref 90)] [] SH (up S 90 4 0) (rV SH S101) ∧ G sc MX11_quiet 13 [some (.ref 90), some (.int (I 0)), some (.int (I 1))] [] SH S101 r)) → G sc MX11_quiet 0 [some (.ref 90), u1, u2] [] SH S r := by
  refine tt_ld (M := MX11_quiet) (pc := 0) dX11_quiet_0 rfl rfl rfl rfl rfl ?_
  refine tt_iconst (M := MX11_quiet) (pc := 1) dX11_quiet_1 ?_
  refine tt_putI (M := MX11_quiet) (pc := 2) dX11_quiet_2 rfl rfl (Or.inl rfl) h0.1 rfl ?_
  refine tt_ld (M := MX11_quiet) (pc := 5) dX11_quiet_5 rfl rfl rfl rfl rfl ?_
  refine tt_vcVN (M := MX11_quiet) (pc := 6) dX11_quiet_6 rfl rfl [] rfl rfl ⟨rfl, by decide, Nat.le_of_ble_eq_true rfl⟩ h0.1 fun S101 => ?_
  refine tt_iconst (M := MX11_quiet) (pc := 9) dX11_quiet_9 ?_
  refine tt_st (M := MX11_quiet) (pc := 10) [some (.ref 90), some (.int (I 0)), u2] dX11_quiet_10 rfl rfl rfl rfl rfl rfl ?_
  refine tt_iconst (M := MX11_quiet) (pc := 11) dX11_quiet_11 ?_
  refine tt_st (M := MX11_quiet) (pc := 12) [some (.ref 90), some (.int (I 0)), some (.int (I 1))] dX11_quiet_12 rfl rfl rfl rfl rfl rfl ?_
  exact id
theorem qX11_quiet_13 {sc : Nat × (Nat → Int32)} {SH : List mCell} {S : mStore} {r : mR × mW} (h0 : sMod SH) {l1 : Int} {l2 : Int} : ((if I 60 < I l2 then r = rI l1 SH S else (∃ v101 S102, G sc MX11_ticksOf 0 [some (.ref 90), some (.int (I 1654)), some (.int (I 1)), none, none] [] SH S (rI v101 SH S102) ∧ (if I v101 ≤ I 0 then G sc MX11_quiet 13 [some (.ref 90), some (.int (I l1)), some (.int (I (l2 + 1)))] [] SH S102 r else G sc MX11_quiet 13 [some (.ref 90), some (.int (I l2)), some (.int (I (l2 + 1)))] [] SH S102 r)))) → G sc MX11_quiet 13 [some (.ref 90), some (.int (I l1)), some (.int (I l2))] [] SH S r := by
  refine tt_ld (M := MX11_quiet) (pc := 13) dX11_quiet_13 rfl rfl rfl rfl rfl ?_
  refine tt_bipush (M := MX11_quiet) (pc := 14) dX11_quiet_14 (by decide) ?_
  refine tt_ic_gt (M := MX11_quiet) (pc := 16) 38 dX11_quiet_16 rfl ?_ ?_
  · refine tt_ld (M := MX11_quiet) (pc := 38) dX11_quiet_38 rfl rfl rfl rfl rfl ?_
    exact tt_iret (M := MX11_quiet) (pc := 39) dX11_quiet_39 rfl
  · refine tt_ld (M := MX11_quiet) (pc := 19) dX11_quiet_19 rfl rfl rfl rfl rfl ?_
    refine tt_sipush (M := MX11_quiet) (pc := 20) dX11_quiet_20 (by decide) ?_
    refine tt_iconst (M := MX11_quiet) (pc := 23) dX11_quiet_23 ?_
    refine tt_vcIN (M := MX11_quiet) (pc := 24) dX11_quiet_24 rfl rfl [] rfl rfl ⟨rfl, by decide, Nat.le_of_ble_eq_true rfl⟩ h0.1 fun v101 S102 => ?_
    refine tt_if_le (M := MX11_quiet) (pc := 27) 32 dX11_quiet_27 rfl ?_ ?_
    · refine tt_iinc (M := MX11_quiet) (pc := 32) [some (.ref 90), some (.int (I l1)), some (.int (I (l2 + 1)))] dX11_quiet_32 rfl rfl ?_
      refine tt_goto (M := MX11_quiet) (pc := 35) 13 dX11_quiet_35 rfl ?_
      exact id
    · refine tt_ld (M := MX11_quiet) (pc := 30) dX11_quiet_30 rfl rfl rfl rfl rfl ?_
      refine tt_st (M := MX11_quiet) (pc := 31) [some (.ref 90), some (.int (I l2)), some (.int (I l2))] dX11_quiet_31 rfl rfl rfl rfl rfl rfl ?_
      refine tt_iinc (M := MX11_quiet) (pc := 32) [some (.ref 90), some (.int (I l2)), some (.int (I (l2 + 1)))] dX11_quiet_32 rfl rfl ?_
      refine tt_goto (M := MX11_quiet) (pc := 35) 13 dX11_quiet_35 rfl ?_
      exact id
theorem qX11_merges_0 {sc : Nat × (Nat → Int32)} {SH : List mCell} {S : mStore} {r : mR × mW} (h0 : sMod SH) {l1 : Int} {l2 : Int} {u3 : Option Value} : ((∃ v101 S102, G sc MX11_isPage 0 [some (.ref 90), some (.int (I l1)), some (.int (I l2))] [] SH (up S 90 4 0) (rI v101 SH S102) ∧ (if I v101 = I 0 then r = rI 0 SH S102 else (∃ S103, G sc MX11_tries 0 [some (.ref 90)] [] SH S102 (rV SH S103) ∧ G sc MX11_merges 22 [some (.ref 90), some (.int (I l1)), some (.int (I l2)), some (.int (I 0))] [] SH S103 r)))) → G sc MX11_merges 0 [some (.ref 90), some (.int (I l1)), some (.int (I l2)), u3] [] SH S r := by
  refine tt_ld (M := MX11_merges) (pc := 0) dX11_merges_0 rfl rfl rfl rfl rfl ?_
  refine tt_iconst (M := MX11_merges) (pc := 1) dX11_merges_1 ?_
  refine tt_putI (M := MX11_merges) (pc := 2) dX11_merges_2 rfl rfl (Or.inl rfl) h0.1 rfl ?_
  refine tt_ld (M := MX11_merges) (pc := 5) dX11_merges_5 rfl rfl rfl rfl rfl ?_
  refine tt_ld (M := MX11_merges) (pc := 6) dX11_merges_6 rfl rfl rfl rfl rfl ?_
  refine tt_ld (M := MX11_merges) (pc := 7) dX11_merges_7 rfl rfl rfl rfl rfl ?_
  refine tt_vcIN (M := MX11_merges) (pc := 8) dX11_merges_8 rfl rfl [] rfl rfl ⟨rfl, by decide, Nat.le_of_ble_eq_true rfl⟩ h0.1 fun v101 S102 => ?_
  refine tt_if_ne (M := MX11_merges) (pc := 11) 16 dX11_merges_11 rfl ?_ ?_
  · refine tt_ld (M := MX11_merges) (pc := 16) dX11_merges_16 rfl rfl rfl rfl rfl ?_
    refine tt_vcVN (M := MX11_merges) (pc := 17) dX11_merges_17 rfl rfl [] rfl rfl ⟨rfl, by decide, Nat.le_of_ble_eq_true rfl⟩ h0.1 fun S103 => ?_
    refine tt_iconst (M := MX11_merges) (pc := 20) dX11_merges_20 ?_
    refine tt_st (M := MX11_merges) (pc := 21) [some (.ref 90), some (.int (I l1)), some (.int (I l2)), some (.int (I 0))] dX11_merges_21 rfl rfl rfl rfl rfl rfl ?_
    exact id
  · refine tt_iconst (M := MX11_merges) (pc := 14) dX11_merges_14 ?_
    exact tt_iret (M := MX11_merges) (pc := 15) dX11_merges_15 rfl
theorem qX11_merges_22 {sc : Nat × (Nat → Int32)} {SH : List mCell} {S : mStore} {r : mR × mW} (h0 : sMod SH) {l1 : Int} {l2 : Int} {l3 : Int} : ((if I 400 < I l3 then r = rI (-1) SH S else (((0 : Int) ≤ l1 ∧ l1 < 5) ∧ (∃ v101 S102, G sc MX11_isMerged 0 [some (.ref 90), some (.int (I 1654)), some (.int (I ((S 97 l1) + l2)))] [] SH S (rI v101 SH S102) ∧ (if I v101 = I 0 then (∃ v103 S104, G sc MX11_scans 0 [some (.ref 90), some (.int (I 1654)), some (.int (I 1)), none, none, none] [] SH S102 (rI v103 SH S104) ∧ G sc MX11_merges 22 [some (.ref 90), some (.int (I l1)), some (.int (I l2)), some (.int (I (l3 + 1)))] [] SH S104 r) else r = rI l3 SH S102))))) → G sc MX11_merges 22 [some (.ref 90), some (.int (I l1)), some (.int (I l2)), some (.int (I l3))] [] SH S r := by
  refine tt_ld (M := MX11_merges) (pc := 22) dX11_merges_22 rfl rfl rfl rfl rfl ?_
  refine tt_sipush (M := MX11_merges) (pc := 23) dX11_merges_23 (by decide) ?_
  refine tt_ic_gt (M := MX11_merges) (pc := 26) 64 dX11_merges_26 rfl ?_ ?_
  · refine tt_iconst (M := MX11_merges) (pc := 64) dX11_merges_64 ?_
    exact tt_iret (M := MX11_merges) (pc := 65) dX11_merges_65 rfl
  · refine tt_ld (M := MX11_merges) (pc := 29) dX11_merges_29 rfl rfl rfl rfl rfl ?_
    refine tt_sipush (M := MX11_merges) (pc := 30) dX11_merges_30 (by decide) ?_
    refine tt_ld (M := MX11_merges) (pc := 33) dX11_merges_33 rfl rfl rfl rfl rfl ?_
    refine tt_getR (M := MX11_merges) (pc := 34) dX11_merges_34 rfl h0.1 rfl ?_
    refine tt_ld (M := MX11_merges) (pc := 37) dX11_merges_37 rfl rfl rfl rfl rfl ?_
    refine tt_iaload (M := MX11_merges) (pc := 38) dX11_merges_38 h0.2.2.2.2.2.2.2.1 rfl ?_
    refine tt_ld (M := MX11_merges) (pc := 39) dX11_merges_39 rfl rfl rfl rfl rfl ?_
    refine tt_iadd (M := MX11_merges) (pc := 40) dX11_merges_40 ?_
    refine tt_vcIN (M := MX11_merges) (pc := 41) dX11_merges_41 rfl rfl [] rfl rfl ⟨rfl, by decide, Nat.le_of_ble_eq_true rfl⟩ h0.1 fun v101 S102 => ?_
    refine tt_if_eq (M := MX11_merges) (pc := 44) 49 dX11_merges_44 rfl ?_ ?_
    · refine tt_ld (M := MX11_merges) (pc := 49) dX11_merges_49 rfl rfl rfl rfl rfl ?_
      refine tt_sipush (M := MX11_merges) (pc := 50) dX11_merges_50 (by decide) ?_
      refine tt_iconst (M := MX11_merges) (pc := 53) dX11_merges_53 ?_
      refine tt_vcIN (M := MX11_merges) (pc := 54) dX11_merges_54 rfl rfl [] rfl rfl ⟨rfl, by decide, Nat.le_of_ble_eq_true rfl⟩ h0.1 fun v103 S104 => ?_
      refine tt_pop (M := MX11_merges) (pc := 57) dX11_merges_57 rfl ?_
      refine tt_iinc (M := MX11_merges) (pc := 58) [some (.ref 90), some (.int (I l1)), some (.int (I l2)), some (.int (I (l3 + 1)))] dX11_merges_58 rfl rfl ?_
      refine tt_goto (M := MX11_merges) (pc := 61) 22 dX11_merges_61 rfl ?_
      exact id
    · refine tt_ld (M := MX11_merges) (pc := 47) dX11_merges_47 rfl rfl rfl rfl rfl ?_
      exact tt_iret (M := MX11_merges) (pc := 48) dX11_merges_48 rfl
theorem qX11_isCounted_0 {sc : Nat × (Nat → Int32)} {SH : List mCell} {S : mStore} {r : mR × mW} (h0 : sMod SH) {l1 : Int} : ((((0 : Int) ≤ 64 + l1 ∧ 64 + l1 < 137400) ∧ (if I (S 91 (64 + l1)) = I 1 then (((0 : Int) ≤ 16 + l1 ∧ 16 + l1 < 137400) ∧ (if I (S 91 (16 + l1)) = I (-1) then ((I 0 = I 0 ∨ I 0 = I 1) ∧ r = rI 0 SH S) else ((I 1 = I 0 ∨ I 1 = I 1) ∧ r = rI 1 SH S))) else ((I 0 = I 0 ∨ I 0 = I 1) ∧ r = rI 0 SH S)))) → G sc MX11_isCounted 0 [some (.ref 90), some (.int (I l1))] [] SH S r := by
  refine tt_ld (M := MX11_isCounted) (pc := 0) dX11_isCounted_0 rfl rfl rfl rfl rfl ?_
  refine tt_getR (M := MX11_isCounted) (pc := 1) dX11_isCounted_1 rfl h0.1 rfl ?_
  refine tt_bipush (M := MX11_isCounted) (pc := 4) dX11_isCounted_4 (by decide) ?_
  refine tt_ld (M := MX11_isCounted) (pc := 6) dX11_isCounted_6 rfl rfl rfl rfl rfl ?_
  refine tt_iadd (M := MX11_isCounted) (pc := 7) dX11_isCounted_7 ?_
  refine tt_iaload (M := MX11_isCounted) (pc := 8) dX11_isCounted_8 h0.2.1 rfl ?_
  refine tt_iconst (M := MX11_isCounted) (pc := 9) dX11_isCounted_9 ?_
  refine tt_ic_ne (M := MX11_isCounted) (pc := 10) 30 dX11_isCounted_10 rfl ?_ ?_
  · refine tt_iconst (M := MX11_isCounted) (pc := 30) dX11_isCounted_30 ?_
    exact tt_zret (M := MX11_isCounted) (pc := 31) dX11_isCounted_31 rfl
  · refine tt_ld (M := MX11_isCounted) (pc := 13) dX11_isCounted_13 rfl rfl rfl rfl rfl ?_
    refine tt_getR (M := MX11_isCounted) (pc := 14) dX11_isCounted_14 rfl h0.1 rfl ?_
    refine tt_bipush (M := MX11_isCounted) (pc := 17) dX11_isCounted_17 (by decide) ?_
    refine tt_ld (M := MX11_isCounted) (pc := 19) dX11_isCounted_19 rfl rfl rfl rfl rfl ?_
    refine tt_iadd (M := MX11_isCounted) (pc := 20) dX11_isCounted_20 ?_
    refine tt_iaload (M := MX11_isCounted) (pc := 21) dX11_isCounted_21 h0.2.1 rfl ?_
    refine tt_iconst (M := MX11_isCounted) (pc := 22) dX11_isCounted_22 ?_
    refine tt_ic_eq (M := MX11_isCounted) (pc := 23) 30 dX11_isCounted_23 rfl ?_ ?_
    · refine tt_iconst (M := MX11_isCounted) (pc := 30) dX11_isCounted_30 ?_
      exact tt_zret (M := MX11_isCounted) (pc := 31) dX11_isCounted_31 rfl
    · refine tt_iconst (M := MX11_isCounted) (pc := 26) dX11_isCounted_26 ?_
      refine tt_goto (M := MX11_isCounted) (pc := 27) 31 dX11_isCounted_27 rfl ?_
      exact tt_zret (M := MX11_isCounted) (pc := 31) dX11_isCounted_31 rfl
theorem qX11_classOf_0 {sc : Nat × (Nat → Int32)} {SH : List mCell} {S : mStore} {r : mR × mW} (h0 : sMod SH) {l1 : Int} {u2 : Option Value} {u3 : Option Value} : (G sc MX11_classOf 4 [some (.ref 90), some (.int (I l1)), some (.int (I 0)), some (.int (I 0))] [] SH S r) → G sc MX11_classOf 0 [some (.ref 90), some (.int (I l1)), u2, u3] [] SH S r := by
  refine tt_iconst (M := MX11_classOf) (pc := 0) dX11_classOf_0 ?_
  refine tt_st (M := MX11_classOf) (pc := 1) [some (.ref 90), some (.int (I l1)), some (.int (I 0)), u3] dX11_classOf_1 rfl rfl rfl rfl rfl rfl ?_
  refine tt_iconst (M := MX11_classOf) (pc := 2) dX11_classOf_2 ?_
  refine tt_st (M := MX11_classOf) (pc := 3) [some (.ref 90), some (.int (I l1)), some (.int (I 0)), some (.int (I 0))] dX11_classOf_3 rfl rfl rfl rfl rfl rfl ?_
  exact id
theorem qX11_classOf_4 {sc : Nat × (Nat → Int32)} {SH : List mCell} {S : mStore} {r : mR × mW} (h0 : sMod SH) {l1 : Int} {l2 : Int} {l3 : Int} : ((if I (S 90 19) ≤ I l3 then r = rI l2 SH S else (∃ v101 S102, G sc MX11_isCounted 0 [some (.ref 90), some (.int (I l3))] [] SH S (rI v101 SH S102) ∧ (if I v101 = I 0 then G sc MX11_classOf 4 [some (.ref 90), some (.int (I l1)), some (.int (I l2)), some (.int (I (l3 + 1)))] [] SH S102 r else (∃ v103 S104, G sc MX11_realm 0 [some (.ref 90), some (.int (I l3))] [] SH S102 (rI v103 SH S104) ∧ (∃ v105 S106, G sc MX11_realm 0 [some (.ref 90), some (.int (I l1))] [] SH S104 (rI v105 SH S106) ∧ (if I v103 = I v105 then (∃ v107 S108, G sc MX11_areLike 0 [some (.ref 90), some (.int (I l1)), some (.int (I l3)), none] [] SH S106 (rI v107 SH S108) ∧ (if I v107 = I 0 then G sc MX11_classOf 4 [some (.ref 90), some (.int (I l1)), some (.int (I l2)), some (.int (I (l3 + 1)))] [] SH S108 r else (if I l1 ≤ I l3 then G sc MX11_classOf 4 [some (.ref 90), some (.int (I l1)), some (.int (I (l2 + 1))), some (.int (I (l3 + 1)))] [] SH S108 r else r = rI (-1) SH S108))) else G sc MX11_classOf 4 [some (.ref 90), some (.int (I l1)), some (.int (I l2)), some (.int (I (l3 + 1)))] [] SH S106 r))))))) → G sc MX11_classOf 4 [some (.ref 90), some (.int (I l1)), some (.int (I l2)), some (.int (I l3))] [] SH S r := by
  refine tt_ld (M := MX11_classOf) (pc := 4) dX11_classOf_4 rfl rfl rfl rfl rfl ?_
  refine tt_ld (M := MX11_classOf) (pc := 5) dX11_classOf_5 rfl rfl rfl rfl rfl ?_
  refine tt_getI (M := MX11_classOf) (pc := 6) dX11_classOf_6 rfl h0.1 rfl ?_
  refine tt_ic_ge (M := MX11_classOf) (pc := 9) 61 dX11_classOf_9 rfl ?_ ?_
  · refine tt_ld (M := MX11_classOf) (pc := 61) dX11_classOf_61 rfl rfl rfl rfl rfl ?_
    exact tt_iret (M := MX11_classOf) (pc := 62) dX11_classOf_62 rfl
  · refine tt_ld (M := MX11_classOf) (pc := 12) dX11_classOf_12 rfl rfl rfl rfl rfl ?_
    refine tt_ld (M := MX11_classOf) (pc := 13) dX11_classOf_13 rfl rfl rfl rfl rfl ?_
    refine tt_vcIN (M := MX11_classOf) (pc := 14) dX11_classOf_14 rfl rfl [] rfl rfl ⟨rfl, by decide, Nat.le_of_ble_eq_true rfl⟩ h0.1 fun v101 S102 => ?_
    refine tt_if_eq (M := MX11_classOf) (pc := 17) 55 dX11_classOf_17 rfl ?_ ?_
    · refine tt_iinc (M := MX11_classOf) (pc := 55) [some (.ref 90), some (.int (I l1)), some (.int (I l2)), some (.int (I (l3 + 1)))] dX11_classOf_55 rfl rfl ?_
      refine tt_goto (M := MX11_classOf) (pc := 58) 4 dX11_classOf_58 rfl ?_
      exact id
    · refine tt_ld (M := MX11_classOf) (pc := 20) dX11_classOf_20 rfl rfl rfl rfl rfl ?_
      refine tt_ld (M := MX11_classOf) (pc := 21) dX11_classOf_21 rfl rfl rfl rfl rfl ?_
      refine tt_vcIN (M := MX11_classOf) (pc := 22) dX11_classOf_22 rfl rfl [] rfl rfl ⟨rfl, by decide, Nat.le_of_ble_eq_true rfl⟩ h0.1 fun v103 S104 => ?_
      refine tt_ld (M := MX11_classOf) (pc := 25) dX11_classOf_25 rfl rfl rfl rfl rfl ?_
      refine tt_ld (M := MX11_classOf) (pc := 26) dX11_classOf_26 rfl rfl rfl rfl rfl ?_
      refine tt_vcIN (M := MX11_classOf) (pc := 27) dX11_classOf_27 rfl rfl [.int (I v103)] rfl rfl ⟨rfl, by decide, Nat.le_of_ble_eq_true rfl⟩ h0.1 fun v105 S106 => ?_
      refine tt_ic_ne (M := MX11_classOf) (pc := 30) 55 dX11_classOf_30 rfl ?_ ?_
      · refine tt_iinc (M := MX11_classOf) (pc := 55) [some (.ref 90), some (.int (I l1)), some (.int (I l2)), some (.int (I (l3 + 1)))] dX11_classOf_55 rfl rfl ?_
        refine tt_goto (M := MX11_classOf) (pc := 58) 4 dX11_classOf_58 rfl ?_
        exact id
      · refine tt_ld (M := MX11_classOf) (pc := 33) dX11_classOf_33 rfl rfl rfl rfl rfl ?_
        refine tt_ld (M := MX11_classOf) (pc := 34) dX11_classOf_34 rfl rfl rfl rfl rfl ?_
        refine tt_ld (M := MX11_classOf) (pc := 35) dX11_classOf_35 rfl rfl rfl rfl rfl ?_
        refine tt_vcIN (M := MX11_classOf) (pc := 36) dX11_classOf_36 rfl rfl [] rfl rfl ⟨rfl, by decide, Nat.le_of_ble_eq_true rfl⟩ h0.1 fun v107 S108 => ?_
        refine tt_if_ne (M := MX11_classOf) (pc := 39) 45 dX11_classOf_39 rfl ?_ ?_
        · refine tt_ld (M := MX11_classOf) (pc := 45) dX11_classOf_45 rfl rfl rfl rfl rfl ?_
          refine tt_ld (M := MX11_classOf) (pc := 46) dX11_classOf_46 rfl rfl rfl rfl rfl ?_
          refine tt_ic_ge (M := MX11_classOf) (pc := 47) 52 dX11_classOf_47 rfl ?_ ?_
          · refine tt_iinc (M := MX11_classOf) (pc := 52) [some (.ref 90), some (.int (I l1)), some (.int (I (l2 + 1))), some (.int (I l3))] dX11_classOf_52 rfl rfl ?_
            refine tt_iinc (M := MX11_classOf) (pc := 55) [some (.ref 90), some (.int (I l1)), some (.int (I (l2 + 1))), some (.int (I (l3 + 1)))] dX11_classOf_55 rfl rfl ?_
            refine tt_goto (M := MX11_classOf) (pc := 58) 4 dX11_classOf_58 rfl ?_
            exact id
          · refine tt_iconst (M := MX11_classOf) (pc := 50) dX11_classOf_50 ?_
            exact tt_iret (M := MX11_classOf) (pc := 51) dX11_classOf_51 rfl
        · refine tt_goto (M := MX11_classOf) (pc := 42) 55 dX11_classOf_42 rfl ?_
          refine tt_iinc (M := MX11_classOf) (pc := 55) [some (.ref 90), some (.int (I l1)), some (.int (I l2)), some (.int (I (l3 + 1)))] dX11_classOf_55 rfl rfl ?_
          refine tt_goto (M := MX11_classOf) (pc := 58) 4 dX11_classOf_58 rfl ?_
          exact id
theorem qX11_least_0 {sc : Nat × (Nat → Int32)} {SH : List mCell} {S : mStore} {r : mR × mW} (h0 : sMod SH) {u1 : Option Value} {u2 : Option Value} {u3 : Option Value} : (G sc MX11_least 4 [some (.ref 90), some (.int (I 0)), some (.int (I 0)), u3] [] SH S r) → G sc MX11_least 0 [some (.ref 90), u1, u2, u3] [] SH S r := by
  refine tt_iconst (M := MX11_least) (pc := 0) dX11_least_0 ?_
  refine tt_st (M := MX11_least) (pc := 1) [some (.ref 90), some (.int (I 0)), u2, u3] dX11_least_1 rfl rfl rfl rfl rfl rfl ?_
  refine tt_iconst (M := MX11_least) (pc := 2) dX11_least_2 ?_
  refine tt_st (M := MX11_least) (pc := 3) [some (.ref 90), some (.int (I 0)), some (.int (I 0)), u3] dX11_least_3 rfl rfl rfl rfl rfl rfl ?_
  exact id
theorem qX11_least_4 {sc : Nat × (Nat → Int32)} {SH : List mCell} {S : mStore} {r : mR × mW} (h0 : sMod SH) {l1 : Int} {l2 : Int} {u3 : Option Value} : ((if I (S 90 19) ≤ I l2 then r = rI l1 SH S else (((0 : Int) ≤ 16 + l2 ∧ 16 + l2 < 137400) ∧ (if I (S 91 (16 + l2)) = I (-1) then G sc MX11_least 4 [some (.ref 90), some (.int (I l1)), some (.int (I (l2 + 1))), u3] [] SH S r else (((0 : Int) ≤ 64 + l2 ∧ 64 + l2 < 137400) ∧ (if I (S 91 (64 + l2)) = I 0 then G sc MX11_least 4 [some (.ref 90), some (.int (I (l1 + 1))), some (.int (I (l2 + 1))), u3] [] SH S r else (if I (S 90 16) = I 1 then (∃ v103 S104, G sc MX11_isZero 0 [some (.ref 90), some (.int (I 0)), some (.int (I l2))] [] SH S (rI v103 SH S104) ∧ (if I v103 = I 0 then (∃ v105 S106, G sc MX11_classOf 0 [some (.ref 90), some (.int (I l2)), none, none] [] SH S104 (rI v105 SH S106) ∧ (if I v105 = I (-1) then G sc MX11_least 4 [some (.ref 90), some (.int (I l1)), some (.int (I (l2 + 1))), some (.int (I v105))] [] SH S106 r else (I (S106 90 13) ≠ I 0 ∧ G sc MX11_least 4 [some (.ref 90), some (.int (I (l1 + (idv ((v105 + (S106 90 13)) - 1) (S106 90 13))))), some (.int (I (l2 + 1))), some (.int (I v105))] [] SH S106 r))) else (if I (-1) = I (-1) then G sc MX11_least 4 [some (.ref 90), some (.int (I l1)), some (.int (I (l2 + 1))), some (.int (I (-1)))] [] SH S104 r else (I (S104 90 13) ≠ I 0 ∧ G sc MX11_least 4 [some (.ref 90), some (.int (I (l1 + (idv (((-1) + (S104 90 13)) - 1) (S104 90 13))))), some (.int (I (l2 + 1))), some (.int (I (-1)))] [] SH S104 r)))) else (∃ v101 S102, G sc MX11_classOf 0 [some (.ref 90), some (.int (I l2)), none, none] [] SH S (rI v101 SH S102) ∧ (if I v101 = I (-1) then G sc MX11_least 4 [some (.ref 90), some (.int (I l1)), some (.int (I (l2 + 1))), some (.int (I v101))] [] SH S102 r else (I (S102 90 13) ≠ I 0 ∧ G sc MX11_least 4 [some (.ref 90), some (.int (I (l1 + (idv ((v101 + (S102 90 13)) - 1) (S102 90 13))))), some (.int (I (l2 + 1))), some (.int (I v101))] [] SH S102 r)))))))))) → G sc MX11_least 4 [some (.ref 90), some (.int (I l1)), some (.int (I l2)), u3] [] SH S r := by
  refine tt_ld (M := MX11_least) (pc := 4) dX11_least_4 rfl rfl rfl rfl rfl ?_
  refine tt_ld (M := MX11_least) (pc := 5) dX11_least_5 rfl rfl rfl rfl rfl ?_
  refine tt_getI (M := MX11_least) (pc := 6) dX11_least_6 rfl h0.1 rfl ?_
  refine tt_ic_ge (M := MX11_least) (pc := 9) 100 dX11_least_9 rfl ?_ ?_
  · refine tt_ld (M := MX11_least) (pc := 100) dX11_least_100 rfl rfl rfl rfl rfl ?_
    exact tt_iret (M := MX11_least) (pc := 101) dX11_least_101 rfl
  · refine tt_ld (M := MX11_least) (pc := 12) dX11_least_12 rfl rfl rfl rfl rfl ?_
    refine tt_getR (M := MX11_least) (pc := 13) dX11_least_13 rfl h0.1 rfl ?_
    refine tt_bipush (M := MX11_least) (pc := 16) dX11_least_16 (by decide) ?_
    refine tt_ld (M := MX11_least) (pc := 18) dX11_least_18 rfl rfl rfl rfl rfl ?_
    refine tt_iadd (M := MX11_least) (pc := 19) dX11_least_19 ?_
    refine tt_iaload (M := MX11_least) (pc := 20) dX11_least_20 h0.2.1 rfl ?_
    refine tt_iconst (M := MX11_least) (pc := 21) dX11_least_21 ?_
    refine tt_ic_ne (M := MX11_least) (pc := 22) 28 dX11_least_22 rfl ?_ ?_
    · refine tt_ld (M := MX11_least) (pc := 28) dX11_least_28 rfl rfl rfl rfl rfl ?_
      refine tt_getR (M := MX11_least) (pc := 29) dX11_least_29 rfl h0.1 rfl ?_
      refine tt_bipush (M := MX11_least) (pc := 32) dX11_least_32 (by decide) ?_
      refine tt_ld (M := MX11_least) (pc := 34) dX11_least_34 rfl rfl rfl rfl rfl ?_
      refine tt_iadd (M := MX11_least) (pc := 35) dX11_least_35 ?_
      refine tt_iaload (M := MX11_least) (pc := 36) dX11_least_36 h0.2.1 rfl ?_
      refine tt_if_ne (M := MX11_least) (pc := 37) 46 dX11_least_37 rfl ?_ ?_
      · refine tt_ld (M := MX11_least) (pc := 46) dX11_least_46 rfl rfl rfl rfl rfl ?_
        refine tt_getI (M := MX11_least) (pc := 47) dX11_least_47 rfl h0.1 rfl ?_
        refine tt_iconst (M := MX11_least) (pc := 50) dX11_least_50 ?_
        refine tt_ic_ne (M := MX11_least) (pc := 51) 67 dX11_least_51 rfl ?_ ?_
        · refine tt_ld (M := MX11_least) (pc := 67) dX11_least_67 rfl rfl rfl rfl rfl ?_
          refine tt_ld (M := MX11_least) (pc := 68) dX11_least_68 rfl rfl rfl rfl rfl ?_
          refine tt_vcIN (M := MX11_least) (pc := 69) dX11_least_69 rfl rfl [] rfl rfl ⟨rfl, by decide, Nat.le_of_ble_eq_true rfl⟩ h0.1 fun v101 S102 => ?_
          refine tt_st (M := MX11_least) (pc := 72) [some (.ref 90), some (.int (I l1)), some (.int (I l2)), some (.int (I v101))] dX11_least_72 rfl rfl rfl rfl rfl rfl ?_
          refine tt_ld (M := MX11_least) (pc := 73) dX11_least_73 rfl rfl rfl rfl rfl ?_
          refine tt_iconst (M := MX11_least) (pc := 74) dX11_least_74 ?_
          refine tt_ic_eq (M := MX11_least) (pc := 75) 94 dX11_least_75 rfl ?_ ?_
          · refine tt_iinc (M := MX11_least) (pc := 94) [some (.ref 90), some (.int (I l1)), some (.int (I (l2 + 1))), some (.int (I v101))] dX11_least_94 rfl rfl ?_
            refine tt_goto (M := MX11_least) (pc := 97) 4 dX11_least_97 rfl ?_
            exact id
          · refine tt_ld (M := MX11_least) (pc := 78) dX11_least_78 rfl rfl rfl rfl rfl ?_
            refine tt_ld (M := MX11_least) (pc := 79) dX11_least_79 rfl rfl rfl rfl rfl ?_
            refine tt_ld (M := MX11_least) (pc := 80) dX11_least_80 rfl rfl rfl rfl rfl ?_
            refine tt_getI (M := MX11_least) (pc := 81) dX11_least_81 rfl h0.1 rfl ?_
            refine tt_iadd (M := MX11_least) (pc := 84) dX11_least_84 ?_
            refine tt_iconst (M := MX11_least) (pc := 85) dX11_least_85 ?_
            refine tt_isub (M := MX11_least) (pc := 86) dX11_least_86 ?_
            refine tt_ld (M := MX11_least) (pc := 87) dX11_least_87 rfl rfl rfl rfl rfl ?_
            refine tt_getI (M := MX11_least) (pc := 88) dX11_least_88 rfl h0.1 rfl ?_
            refine tt_idivc (M := MX11_least) (pc := 91) dX11_least_91 ?_
            refine tt_iadd (M := MX11_least) (pc := 92) dX11_least_92 ?_
            refine tt_st (M := MX11_least) (pc := 93) [some (.ref 90), some (.int (I (l1 + (idv ((v101 + (S102 90 13)) - 1) (S102 90 13))))), some (.int (I l2)), some (.int (I v101))] dX11_least_93 rfl rfl rfl rfl rfl rfl ?_
            refine tt_iinc (M := MX11_least) (pc := 94) [some (.ref 90), some (.int (I (l1 + (idv ((v101 + (S102 90 13)) - 1) (S102 90 13))))), some (.int (I (l2 + 1))), some (.int (I v101))] dX11_least_94 rfl rfl ?_
            refine tt_goto (M := MX11_least) (pc := 97) 4 dX11_least_97 rfl ?_
            exact id
        · refine tt_ld (M := MX11_least) (pc := 54) dX11_least_54 rfl rfl rfl rfl rfl ?_
          refine tt_iconst (M := MX11_least) (pc := 55) dX11_least_55 ?_
          refine tt_ld (M := MX11_least) (pc := 56) dX11_least_56 rfl rfl rfl rfl rfl ?_
          refine tt_vcIN (M := MX11_least) (pc := 57) dX11_least_57 rfl rfl [] rfl rfl ⟨rfl, by decide, Nat.le_of_ble_eq_true rfl⟩ h0.1 fun v103 S104 => ?_
          refine tt_if_eq (M := MX11_least) (pc := 60) 67 dX11_least_60 rfl ?_ ?_
          · refine tt_ld (M := MX11_least) (pc := 67) dX11_least_67 rfl rfl rfl rfl rfl ?_
            refine tt_ld (M := MX11_least) (pc := 68) dX11_least_68 rfl rfl rfl rfl rfl ?_
            refine tt_vcIN (M := MX11_least) (pc := 69) dX11_least_69 rfl rfl [] rfl rfl ⟨rfl, by decide, Nat.le_of_ble_eq_true rfl⟩ h0.1 fun v105 S106 => ?_
            refine tt_st (M := MX11_least) (pc := 72) [some (.ref 90), some (.int (I l1)), some (.int (I l2)), some (.int (I v105))] dX11_least_72 rfl rfl rfl rfl rfl rfl ?_
            refine tt_ld (M := MX11_least) (pc := 73) dX11_least_73 rfl rfl rfl rfl rfl ?_
            refine tt_iconst (M := MX11_least) (pc := 74) dX11_least_74 ?_
            refine tt_ic_eq (M := MX11_least) (pc := 75) 94 dX11_least_75 rfl ?_ ?_
            · refine tt_iinc (M := MX11_least) (pc := 94) [some (.ref 90), some (.int (I l1)), some (.int (I (l2 + 1))), some (.int (I v105))] dX11_least_94 rfl rfl ?_
              refine tt_goto (M := MX11_least) (pc := 97) 4 dX11_least_97 rfl ?_
              exact id
            · refine tt_ld (M := MX11_least) (pc := 78) dX11_least_78 rfl rfl rfl rfl rfl ?_
              refine tt_ld (M := MX11_least) (pc := 79) dX11_least_79 rfl rfl rfl rfl rfl ?_
              refine tt_ld (M := MX11_least) (pc := 80) dX11_least_80 rfl rfl rfl rfl rfl ?_
              refine tt_getI (M := MX11_least) (pc := 81) dX11_least_81 rfl h0.1 rfl ?_
              refine tt_iadd (M := MX11_least) (pc := 84) dX11_least_84 ?_
              refine tt_iconst (M := MX11_least) (pc := 85) dX11_least_85 ?_
              refine tt_isub (M := MX11_least) (pc := 86) dX11_least_86 ?_
              refine tt_ld (M := MX11_least) (pc := 87) dX11_least_87 rfl rfl rfl rfl rfl ?_
              refine tt_getI (M := MX11_least) (pc := 88) dX11_least_88 rfl h0.1 rfl ?_
              refine tt_idivc (M := MX11_least) (pc := 91) dX11_least_91 ?_
              refine tt_iadd (M := MX11_least) (pc := 92) dX11_least_92 ?_
              refine tt_st (M := MX11_least) (pc := 93) [some (.ref 90), some (.int (I (l1 + (idv ((v105 + (S106 90 13)) - 1) (S106 90 13))))), some (.int (I l2)), some (.int (I v105))] dX11_least_93 rfl rfl rfl rfl rfl rfl ?_
              refine tt_iinc (M := MX11_least) (pc := 94) [some (.ref 90), some (.int (I (l1 + (idv ((v105 + (S106 90 13)) - 1) (S106 90 13))))), some (.int (I (l2 + 1))), some (.int (I v105))] dX11_least_94 rfl rfl ?_
              refine tt_goto (M := MX11_least) (pc := 97) 4 dX11_least_97 rfl ?_
              exact id
          · refine tt_iconst (M := MX11_least) (pc := 63) dX11_least_63 ?_
            refine tt_goto (M := MX11_least) (pc := 64) 72 dX11_least_64 rfl ?_
            refine tt_st (M := MX11_least) (pc := 72) [some (.ref 90), some (.int (I l1)), some (.int (I l2)), some (.int (I (-1)))] dX11_least_72 rfl rfl rfl rfl rfl rfl ?_
            refine tt_ld (M := MX11_least) (pc := 73) dX11_least_73 rfl rfl rfl rfl rfl ?_
            refine tt_iconst (M := MX11_least) (pc := 74) dX11_least_74 ?_
            refine tt_ic_eq (M := MX11_least) (pc := 75) 94 dX11_least_75 rfl ?_ ?_
            · refine tt_iinc (M := MX11_least) (pc := 94) [some (.ref 90), some (.int (I l1)), some (.int (I (l2 + 1))), some (.int (I (-1)))] dX11_least_94 rfl rfl ?_
              refine tt_goto (M := MX11_least) (pc := 97) 4 dX11_least_97 rfl ?_
              exact id
            · refine tt_ld (M := MX11_least) (pc := 78) dX11_least_78 rfl rfl rfl rfl rfl ?_
              refine tt_ld (M := MX11_least) (pc := 79) dX11_least_79 rfl rfl rfl rfl rfl ?_
              refine tt_ld (M := MX11_least) (pc := 80) dX11_least_80 rfl rfl rfl rfl rfl ?_
              refine tt_getI (M := MX11_least) (pc := 81) dX11_least_81 rfl h0.1 rfl ?_
              refine tt_iadd (M := MX11_least) (pc := 84) dX11_least_84 ?_
              refine tt_iconst (M := MX11_least) (pc := 85) dX11_least_85 ?_
              refine tt_isub (M := MX11_least) (pc := 86) dX11_least_86 ?_
              refine tt_ld (M := MX11_least) (pc := 87) dX11_least_87 rfl rfl rfl rfl rfl ?_
              refine tt_getI (M := MX11_least) (pc := 88) dX11_least_88 rfl h0.1 rfl ?_
              refine tt_idivc (M := MX11_least) (pc := 91) dX11_least_91 ?_
              refine tt_iadd (M := MX11_least) (pc := 92) dX11_least_92 ?_
              refine tt_st (M := MX11_least) (pc := 93) [some (.ref 90), some (.int (I (l1 + (idv (((-1) + (S104 90 13)) - 1) (S104 90 13))))), some (.int (I l2)), some (.int (I (-1)))] dX11_least_93 rfl rfl rfl rfl rfl rfl ?_
              refine tt_iinc (M := MX11_least) (pc := 94) [some (.ref 90), some (.int (I (l1 + (idv (((-1) + (S104 90 13)) - 1) (S104 90 13))))), some (.int (I (l2 + 1))), some (.int (I (-1)))] dX11_least_94 rfl rfl ?_
              refine tt_goto (M := MX11_least) (pc := 97) 4 dX11_least_97 rfl ?_
              exact id
      · refine tt_iinc (M := MX11_least) (pc := 40) [some (.ref 90), some (.int (I (l1 + 1))), some (.int (I l2)), u3] dX11_least_40 rfl rfl ?_
        refine tt_goto (M := MX11_least) (pc := 43) 94 dX11_least_43 rfl ?_
        refine tt_iinc (M := MX11_least) (pc := 94) [some (.ref 90), some (.int (I (l1 + 1))), some (.int (I (l2 + 1))), u3] dX11_least_94 rfl rfl ?_
        refine tt_goto (M := MX11_least) (pc := 97) 4 dX11_least_97 rfl ?_
        exact id
    · refine tt_goto (M := MX11_least) (pc := 25) 94 dX11_least_25 rfl ?_
      refine tt_iinc (M := MX11_least) (pc := 94) [some (.ref 90), some (.int (I l1)), some (.int (I (l2 + 1))), u3] dX11_least_94 rfl rfl ?_
      refine tt_goto (M := MX11_least) (pc := 97) 4 dX11_least_97 rfl ?_
      exact id
