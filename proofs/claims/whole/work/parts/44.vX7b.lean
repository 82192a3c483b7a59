-- needs: 43.tshape
/-! ===== the program as conditions (gen_vc.py) ===== -/
theorem qX7_scanNext_0 {sc : Nat × (Nat → Int32)} {SH : List mCell} {S : mStore} {r : mR × mW} {a0 : Nat} (h0 : sState SH a0) {u1 : Option Value} {u2 : Option Value} : ((((0 : Int) ≤ 9 ∧ (9 : Int) < 12) ∧ (∃ v101 S102, G sc MX7_advisedFrom 0 [some (.ref a0), some (.int (I (S (a0 + 19) 9))), none] [] SH S (rI v101 SH S102) ∧ (if I v101 = I (-1) then (∃ v105 S106, G sc MX7_advisedFrom 0 [some (.ref a0), some (.int (I 0)), none] [] SH S102 (rI v105 SH S106) ∧ (if I v105 = I (-1) then r = rI 0 SH S106 else (∃ S107, G sc MX7_endRound 0 [some (.ref a0), none] [] SH S106 (rV SH S107) ∧ (((0 : Int) ≤ 9 ∧ (9 : Int) < 12) ∧ (((0 : Int) ≤ 4 ∧ (4 : Int) < 12) ∧ (((0 : Int) ≤ 4 ∧ (4 : Int) < 12) ∧ (((0 : Int) ≤ 11 ∧ (11 : Int) < 12) ∧ (((0 : Int) ≤ 11 ∧ (11 : Int) < 12) ∧ (∃ v108 S109, G sc MX7_befall 0 [some (.ref a0), some (.int (I v105)), none, none, none, none, none, none, none] [] SH (up (up (up S107 (a0 + 19) 9 (v105 + 1)) (a0 + 19) 4 (((up S107 (a0 + 19) 9 (v105 + 1)) (a0 + 19) 4) + 1)) (a0 + 19) 11 (((up (up S107 (a0 + 19) 9 (v105 + 1)) (a0 + 19) 4 (((up S107 (a0 + 19) 9 (v105 + 1)) (a0 + 19) 4) + 1)) (a0 + 19) 11) + 1)) (rI v108 SH S109) ∧ (((0 : Int) ≤ v105 ∧ v105 < 48) ∧ (if I v108 = I 3 then G sc MX7_scanNext 128 [some (.ref a0), some (.int (I v105)), some (.int (I v108))] [] SH (up S109 (a0 + 15) v105 v108) r else (if I v108 = I 7 then (((0 : Int) ≤ v105 ∧ v105 < 48) ∧ G sc MX7_scanNext 112 [some (.ref a0), some (.int (I v105)), some (.int (I v108))] [.int (I (((up S109 (a0 + 15) v105 v108) (a0 + 17) v105) + 1)), .int (I v105), .ref (a0 + 17)] SH (up S109 (a0 + 15) v105 v108) r) else (if I v108 = I 9 then (((0 : Int) ≤ v105 ∧ v105 < 48) ∧ G sc MX7_scanNext 112 [some (.ref a0), some (.int (I v105)), some (.int (I v108))] [.int (I (((up S109 (a0 + 15) v105 v108) (a0 + 17) v105) + 1)), .int (I v105), .ref (a0 + 17)] SH (up S109 (a0 + 15) v105 v108) r) else G sc MX7_scanNext 112 [some (.ref a0), some (.int (I v105)), some (.int (I v108))] [.int (I 0), .int (I v105), .ref (a0 + 17)] SH (up S109 (a0 + 15) v105 v108) r))))))))))))) else (((0 : Int) ≤ 9 ∧ (9 : Int) < 12) ∧ (((0 : Int) ≤ 4 ∧ (4 : Int) < 12) ∧ (((0 : Int) ≤ 4 ∧ (4 : Int) < 12) ∧ (((0 : Int) ≤ 11 ∧ (11 : Int) < 12) ∧ (((0 : Int) ≤ 11 ∧ (11 : Int) < 12) ∧ (∃ v103 S104, G sc MX7_befall 0 [some (.ref a0), some (.int (I v101)), none, none, none, none, none, none, none] [] SH (up (up (up S102 (a0 + 19) 9 (v101 + 1)) (a0 + 19) 4 (((up S102 (a0 + 19) 9 (v101 + 1)) (a0 + 19) 4) + 1)) (a0 + 19) 11 (((up (up S102 (a0 + 19) 9 (v101 + 1)) (a0 + 19) 4 (((up S102 (a0 + 19) 9 (v101 + 1)) (a0 + 19) 4) + 1)) (a0 + 19) 11) + 1)) (rI v103 SH S104) ∧ (((0 : Int) ≤ v101 ∧ v101 < 48) ∧ (if I v103 = I 3 then G sc MX7_scanNext 128 [some (.ref a0), some (.int (I v101)), some (.int (I v103))] [] SH (up S104 (a0 + 15) v101 v103) r else (if I v103 = I 7 then (((0 : Int) ≤ v101 ∧ v101 < 48) ∧ G sc MX7_scanNext 112 [some (.ref a0), some (.int (I v101)), some (.int (I v103))] [.int (I (((up S104 (a0 + 15) v101 v103) (a0 + 17) v101) + 1)), .int (I v101), .ref (a0 + 17)] SH (up S104 (a0 + 15) v101 v103) r) else (if I v103 = I 9 then (((0 : Int) ≤ v101 ∧ v101 < 48) ∧ G sc MX7_scanNext 112 [some (.ref a0), some (.int (I v101)), some (.int (I v103))] [.int (I (((up S104 (a0 + 15) v101 v103) (a0 + 17) v101) + 1)), .int (I v101), .ref (a0 + 17)] SH (up S104 (a0 + 15) v101 v103) r) else G sc MX7_scanNext 112 [some (.ref a0), some (.int (I v101)), some (.int (I v103))] [.int (I 0), .int (I v101), .ref (a0 + 17)] SH (up S104 (a0 + 15) v101 v103) r)))))))))))))) → G sc MX7_scanNext 0 [some (.ref a0), u1, u2] [] SH S r := by
  refine tt_ld (M := MX7_scanNext) (pc := 0) dX7_scanNext_0 rfl rfl rfl rfl rfl ?_
  refine tt_ld (M := MX7_scanNext) (pc := 1) dX7_scanNext_1 rfl rfl rfl rfl rfl ?_
  refine tt_getR (M := MX7_scanNext) (pc := 2) dX7_scanNext_2 rfl h0.1 rfl ?_
  refine tt_bipush (M := MX7_scanNext) (pc := 5) dX7_scanNext_5 (by decide) ?_
  refine tt_iaload (M := MX7_scanNext) (pc := 7) dX7_scanNext_7 h0.2.2.2.2.2.2.2.2.2.2.2.1 rfl ?_
  refine tt_vcIN (M := MX7_scanNext) (pc := 8) dX7_scanNext_8 rfl rfl [] rfl rfl ⟨rfl, by decide, Nat.le_of_ble_eq_true rfl⟩ h0.1 fun v101 S102 => ?_
  refine tt_st (M := MX7_scanNext) (pc := 11) [some (.ref a0), some (.int (I v101)), u2] dX7_scanNext_11 rfl rfl rfl rfl rfl rfl ?_
  refine tt_ld (M := MX7_scanNext) (pc := 12) dX7_scanNext_12 rfl rfl rfl rfl rfl ?_
  refine tt_iconst (M := MX7_scanNext) (pc := 13) dX7_scanNext_13 ?_
  refine tt_ic_ne (M := MX7_scanNext) (pc := 14) 34 dX7_scanNext_14 rfl ?_ ?_
  · refine tt_ld (M := MX7_scanNext) (pc := 34) dX7_scanNext_34 rfl rfl rfl rfl rfl ?_
    refine tt_getR (M := MX7_scanNext) (pc := 35) dX7_scanNext_35 rfl h0.1 rfl ?_
    refine tt_bipush (M := MX7_scanNext) (pc := 38) dX7_scanNext_38 (by decide) ?_
    refine tt_ld (M := MX7_scanNext) (pc := 40) dX7_scanNext_40 rfl rfl rfl rfl rfl ?_
    refine tt_iconst (M := MX7_scanNext) (pc := 41) dX7_scanNext_41 ?_
    refine tt_iadd (M := MX7_scanNext) (pc := 42) dX7_scanNext_42 ?_
    refine tt_iastore (M := MX7_scanNext) (pc := 43) dX7_scanNext_43 h0.2.2.2.2.2.2.2.2.2.2.2.1 rfl ?_
    refine tt_ld (M := MX7_scanNext) (pc := 44) dX7_scanNext_44 rfl rfl rfl rfl rfl ?_
    refine tt_getR (M := MX7_scanNext) (pc := 45) dX7_scanNext_45 rfl h0.1 rfl ?_
    refine tt_iconst (M := MX7_scanNext) (pc := 48) dX7_scanNext_48 ?_
    refine tt_dup2 (M := MX7_scanNext) (pc := 49) dX7_scanNext_49 rfl rfl ?_
    refine tt_iaload (M := MX7_scanNext) (pc := 50) dX7_scanNext_50 h0.2.2.2.2.2.2.2.2.2.2.2.1 rfl ?_
    refine tt_iconst (M := MX7_scanNext) (pc := 51) dX7_scanNext_51 ?_
    refine tt_iadd (M := MX7_scanNext) (pc := 52) dX7_scanNext_52 ?_
    refine tt_iastore (M := MX7_scanNext) (pc := 53) dX7_scanNext_53 h0.2.2.2.2.2.2.2.2.2.2.2.1 rfl ?_
    refine tt_ld (M := MX7_scanNext) (pc := 54) dX7_scanNext_54 rfl rfl rfl rfl rfl ?_
    refine tt_getR (M := MX7_scanNext) (pc := 55) dX7_scanNext_55 rfl h0.1 rfl ?_
    refine tt_bipush (M := MX7_scanNext) (pc := 58) dX7_scanNext_58 (by decide) ?_
    refine tt_dup2 (M := MX7_scanNext) (pc := 60) dX7_scanNext_60 rfl rfl ?_
    refine tt_iaload (M := MX7_scanNext) (pc := 61) dX7_scanNext_61 h0.2.2.2.2.2.2.2.2.2.2.2.1 rfl ?_
    refine tt_iconst (M := MX7_scanNext) (pc := 62) dX7_scanNext_62 ?_
    refine tt_iadd (M := MX7_scanNext) (pc := 63) dX7_scanNext_63 ?_
    refine tt_iastore (M := MX7_scanNext) (pc := 64) dX7_scanNext_64 h0.2.2.2.2.2.2.2.2.2.2.2.1 rfl ?_
    refine tt_ld (M := MX7_scanNext) (pc := 65) dX7_scanNext_65 rfl rfl rfl rfl rfl ?_
    refine tt_ld (M := MX7_scanNext) (pc := 66) dX7_scanNext_66 rfl rfl rfl rfl rfl ?_
    refine tt_vcIN (M := MX7_scanNext) (pc := 67) dX7_scanNext_67 rfl rfl [] rfl rfl ⟨rfl, by decide, Nat.le_of_ble_eq_true rfl⟩ h0.1 fun v103 S104 => ?_
    refine tt_st (M := MX7_scanNext) (pc := 70) [some (.ref a0), some (.int (I v101)), some (.int (I v103))] dX7_scanNext_70 rfl rfl rfl rfl rfl rfl ?_
    refine tt_ld (M := MX7_scanNext) (pc := 71) dX7_scanNext_71 rfl rfl rfl rfl rfl ?_
    refine tt_getR (M := MX7_scanNext) (pc := 72) dX7_scanNext_72 rfl h0.1 rfl ?_
    refine tt_ld (M := MX7_scanNext) (pc := 75) dX7_scanNext_75 rfl rfl rfl rfl rfl ?_
    refine tt_ld (M := MX7_scanNext) (pc := 76) dX7_scanNext_76 rfl rfl rfl rfl rfl ?_
    refine tt_iastore (M := MX7_scanNext) (pc := 77) dX7_scanNext_77 h0.2.2.2.2.2.2.2.1 rfl ?_
    refine tt_ld (M := MX7_scanNext) (pc := 78) dX7_scanNext_78 rfl rfl rfl rfl rfl ?_
    refine tt_iconst (M := MX7_scanNext) (pc := 79) dX7_scanNext_79 ?_
    refine tt_ic_eq (M := MX7_scanNext) (pc := 80) 128 dX7_scanNext_80 rfl ?_ ?_
    · exact id
    · refine tt_ld (M := MX7_scanNext) (pc := 83) dX7_scanNext_83 rfl rfl rfl rfl rfl ?_
      refine tt_getR (M := MX7_scanNext) (pc := 84) dX7_scanNext_84 rfl h0.1 rfl ?_
      refine tt_ld (M := MX7_scanNext) (pc := 87) dX7_scanNext_87 rfl rfl rfl rfl rfl ?_
      refine tt_ld (M := MX7_scanNext) (pc := 88) dX7_scanNext_88 rfl rfl rfl rfl rfl ?_
      refine tt_bipush (M := MX7_scanNext) (pc := 89) dX7_scanNext_89 (by decide) ?_
      refine tt_ic_eq (M := MX7_scanNext) (pc := 91) 100 dX7_scanNext_91 rfl ?_ ?_
      · refine tt_ld (M := MX7_scanNext) (pc := 100) dX7_scanNext_100 rfl rfl rfl rfl rfl ?_
        refine tt_getR (M := MX7_scanNext) (pc := 101) dX7_scanNext_101 rfl h0.1 rfl ?_
        refine tt_ld (M := MX7_scanNext) (pc := 104) dX7_scanNext_104 rfl rfl rfl rfl rfl ?_
        refine tt_iaload (M := MX7_scanNext) (pc := 105) dX7_scanNext_105 h0.2.2.2.2.2.2.2.2.2.1 rfl ?_
        refine tt_iconst (M := MX7_scanNext) (pc := 106) dX7_scanNext_106 ?_
        refine tt_iadd (M := MX7_scanNext) (pc := 107) dX7_scanNext_107 ?_
        refine tt_goto (M := MX7_scanNext) (pc := 108) 112 dX7_scanNext_108 rfl ?_
        exact id
      · refine tt_ld (M := MX7_scanNext) (pc := 94) dX7_scanNext_94 rfl rfl rfl rfl rfl ?_
        refine tt_bipush (M := MX7_scanNext) (pc := 95) dX7_scanNext_95 (by decide) ?_
        refine tt_ic_ne (M := MX7_scanNext) (pc := 97) 111 dX7_scanNext_97 rfl ?_ ?_
        · refine tt_iconst (M := MX7_scanNext) (pc := 111) dX7_scanNext_111 ?_
          exact id
        · refine tt_ld (M := MX7_scanNext) (pc := 100) dX7_scanNext_100 rfl rfl rfl rfl rfl ?_
          refine tt_getR (M := MX7_scanNext) (pc := 101) dX7_scanNext_101 rfl h0.1 rfl ?_
          refine tt_ld (M := MX7_scanNext) (pc := 104) dX7_scanNext_104 rfl rfl rfl rfl rfl ?_
          refine tt_iaload (M := MX7_scanNext) (pc := 105) dX7_scanNext_105 h0.2.2.2.2.2.2.2.2.2.1 rfl ?_
          refine tt_iconst (M := MX7_scanNext) (pc := 106) dX7_scanNext_106 ?_
          refine tt_iadd (M := MX7_scanNext) (pc := 107) dX7_scanNext_107 ?_
          refine tt_goto (M := MX7_scanNext) (pc := 108) 112 dX7_scanNext_108 rfl ?_
          exact id
  · refine tt_ld (M := MX7_scanNext) (pc := 17) dX7_scanNext_17 rfl rfl rfl rfl rfl ?_
    refine tt_iconst (M := MX7_scanNext) (pc := 18) dX7_scanNext_18 ?_
    refine tt_vcIN (M := MX7_scanNext) (pc := 19) dX7_scanNext_19 rfl rfl [] rfl rfl ⟨rfl, by decide, Nat.le_of_ble_eq_true rfl⟩ h0.1 fun v105 S106 => ?_
    refine tt_st (M := MX7_scanNext) (pc := 22) [some (.ref a0), some (.int (I v105)), u2] dX7_scanNext_22 rfl rfl rfl rfl rfl rfl ?_
    refine tt_ld (M := MX7_scanNext) (pc := 23) dX7_scanNext_23 rfl rfl rfl rfl rfl ?_
    refine tt_iconst (M := MX7_scanNext) (pc := 24) dX7_scanNext_24 ?_
    refine tt_ic_ne (M := MX7_scanNext) (pc := 25) 30 dX7_scanNext_25 rfl ?_ ?_
    · refine tt_ld (M := MX7_scanNext) (pc := 30) dX7_scanNext_30 rfl rfl rfl rfl rfl ?_
      refine tt_vcVN (M := MX7_scanNext) (pc := 31) dX7_scanNext_31 rfl rfl [] rfl rfl ⟨rfl, by decide, Nat.le_of_ble_eq_true rfl⟩ h0.1 fun S107 => ?_
      refine tt_ld (M := MX7_scanNext) (pc := 34) dX7_scanNext_34 rfl rfl rfl rfl rfl ?_
      refine tt_getR (M := MX7_scanNext) (pc := 35) dX7_scanNext_35 rfl h0.1 rfl ?_
      refine tt_bipush (M := MX7_scanNext) (pc := 38) dX7_scanNext_38 (by decide) ?_
      refine tt_ld (M := MX7_scanNext) (pc := 40) dX7_scanNext_40 rfl rfl rfl rfl rfl ?_
      refine tt_iconst (M := MX7_scanNext) (pc := 41) dX7_scanNext_41 ?_
      refine tt_iadd (M := MX7_scanNext) (pc := 42) dX7_scanNext_42 ?_
      refine tt_iastore (M := MX7_scanNext) (pc := 43) dX7_scanNext_43 h0.2.2.2.2.2.2.2.2.2.2.2.1 rfl ?_
      refine tt_ld (M := MX7_scanNext) (pc := 44) dX7_scanNext_44 rfl rfl rfl rfl rfl ?_
      refine tt_getR (M := MX7_scanNext) (pc := 45) dX7_scanNext_45 rfl h0.1 rfl ?_
      refine tt_iconst (M := MX7_scanNext) (pc := 48) dX7_scanNext_48 ?_
      refine tt_dup2 (M := MX7_scanNext) (pc := 49) dX7_scanNext_49 rfl rfl ?_
      refine tt_iaload (M := MX7_scanNext) (pc := 50) dX7_scanNext_50 h0.2.2.2.2.2.2.2.2.2.2.2.1 rfl ?_
      refine tt_iconst (M := MX7_scanNext) (pc := 51) dX7_scanNext_51 ?_
      refine tt_iadd (M := MX7_scanNext) (pc := 52) dX7_scanNext_52 ?_
      refine tt_iastore (M := MX7_scanNext) (pc := 53) dX7_scanNext_53 h0.2.2.2.2.2.2.2.2.2.2.2.1 rfl ?_
      refine tt_ld (M := MX7_scanNext) (pc := 54) dX7_scanNext_54 rfl rfl rfl rfl rfl ?_
      refine tt_getR (M := MX7_scanNext) (pc := 55) dX7_scanNext_55 rfl h0.1 rfl ?_
      refine tt_bipush (M := MX7_scanNext) (pc := 58) dX7_scanNext_58 (by decide) ?_
      refine tt_dup2 (M := MX7_scanNext) (pc := 60) dX7_scanNext_60 rfl rfl ?_
      refine tt_iaload (M := MX7_scanNext) (pc := 61) dX7_scanNext_61 h0.2.2.2.2.2.2.2.2.2.2.2.1 rfl ?_
      refine tt_iconst (M := MX7_scanNext) (pc := 62) dX7_scanNext_62 ?_
      refine tt_iadd (M := MX7_scanNext) (pc := 63) dX7_scanNext_63 ?_
      refine tt_iastore (M := MX7_scanNext) (pc := 64) dX7_scanNext_64 h0.2.2.2.2.2.2.2.2.2.2.2.1 rfl ?_
      refine tt_ld (M := MX7_scanNext) (pc := 65) dX7_scanNext_65 rfl rfl rfl rfl rfl ?_
      refine tt_ld (M := MX7_scanNext) (pc := 66) dX7_scanNext_66 rfl rfl rfl rfl rfl ?_
      refine tt_vcIN (M := MX7_scanNext) (pc := 67) dX7_scanNext_67 rfl rfl [] rfl rfl ⟨rfl, by decide, Nat.le_of_ble_eq_true rfl⟩ h0.1 fun v108 S109 => ?_
      refine tt_st (M := MX7_scanNext) (pc := 70) [some (.ref a0), some (.int (I v105)), some (.int (I v108))] dX7_scanNext_70 rfl rfl rfl rfl rfl rfl ?_
      refine tt_ld (M := MX7_scanNext) (pc := 71) dX7_scanNext_71 rfl rfl rfl rfl rfl ?_
      refine tt_getR (M := MX7_scanNext) (pc := 72) dX7_scanNext_72 rfl h0.1 rfl ?_
      refine tt_ld (M := MX7_scanNext) (pc := 75) dX7_scanNext_75 rfl rfl rfl rfl rfl ?_
      refine tt_ld (M := MX7_scanNext) (pc := 76) dX7_scanNext_76 rfl rfl rfl rfl rfl ?_
      refine tt_iastore (M := MX7_scanNext) (pc := 77) dX7_scanNext_77 h0.2.2.2.2.2.2.2.1 rfl ?_
      refine tt_ld (M := MX7_scanNext) (pc := 78) dX7_scanNext_78 rfl rfl rfl rfl rfl ?_
      refine tt_iconst (M := MX7_scanNext) (pc := 79) dX7_scanNext_79 ?_
      refine tt_ic_eq (M := MX7_scanNext) (pc := 80) 128 dX7_scanNext_80 rfl ?_ ?_
      · exact id
      · refine tt_ld (M := MX7_scanNext) (pc := 83) dX7_scanNext_83 rfl rfl rfl rfl rfl ?_
        refine tt_getR (M := MX7_scanNext) (pc := 84) dX7_scanNext_84 rfl h0.1 rfl ?_
        refine tt_ld (M := MX7_scanNext) (pc := 87) dX7_scanNext_87 rfl rfl rfl rfl rfl ?_
        refine tt_ld (M := MX7_scanNext) (pc := 88) dX7_scanNext_88 rfl rfl rfl rfl rfl ?_
        refine tt_bipush (M := MX7_scanNext) (pc := 89) dX7_scanNext_89 (by decide) ?_
        refine tt_ic_eq (M := MX7_scanNext) (pc := 91) 100 dX7_scanNext_91 rfl ?_ ?_
        · refine tt_ld (M := MX7_scanNext) (pc := 100) dX7_scanNext_100 rfl rfl rfl rfl rfl ?_
          refine tt_getR (M := MX7_scanNext) (pc := 101) dX7_scanNext_101 rfl h0.1 rfl ?_
          refine tt_ld (M := MX7_scanNext) (pc := 104) dX7_scanNext_104 rfl rfl rfl rfl rfl ?_
          refine tt_iaload (M := MX7_scanNext) (pc := 105) dX7_scanNext_105 h0.2.2.2.2.2.2.2.2.2.1 rfl ?_
          refine tt_iconst (M := MX7_scanNext) (pc := 106) dX7_scanNext_106 ?_
          refine tt_iadd (M := MX7_scanNext) (pc := 107) dX7_scanNext_107 ?_
          refine tt_goto (M := MX7_scanNext) (pc := 108) 112 dX7_scanNext_108 rfl ?_
          exact id
        · refine tt_ld (M := MX7_scanNext) (pc := 94) dX7_scanNext_94 rfl rfl rfl rfl rfl ?_
          refine tt_bipush (M := MX7_scanNext) (pc := 95) dX7_scanNext_95 (by decide) ?_
          refine tt_ic_ne (M := MX7_scanNext) (pc := 97) 111 dX7_scanNext_97 rfl ?_ ?_
          · refine tt_iconst (M := MX7_scanNext) (pc := 111) dX7_scanNext_111 ?_
            exact id
          · refine tt_ld (M := MX7_scanNext) (pc := 100) dX7_scanNext_100 rfl rfl rfl rfl rfl ?_
            refine tt_getR (M := MX7_scanNext) (pc := 101) dX7_scanNext_101 rfl h0.1 rfl ?_
            refine tt_ld (M := MX7_scanNext) (pc := 104) dX7_scanNext_104 rfl rfl rfl rfl rfl ?_
            refine tt_iaload (M := MX7_scanNext) (pc := 105) dX7_scanNext_105 h0.2.2.2.2.2.2.2.2.2.1 rfl ?_
            refine tt_iconst (M := MX7_scanNext) (pc := 106) dX7_scanNext_106 ?_
            refine tt_iadd (M := MX7_scanNext) (pc := 107) dX7_scanNext_107 ?_
            refine tt_goto (M := MX7_scanNext) (pc := 108) 112 dX7_scanNext_108 rfl ?_
            exact id
    · refine tt_iconst (M := MX7_scanNext) (pc := 28) dX7_scanNext_28 ?_
      exact tt_iret (M := MX7_scanNext) (pc := 29) dX7_scanNext_29 rfl
theorem qX7_scanNext_112 {sc : Nat × (Nat → Int32)} {SH : List mCell} {S : mStore} {r : mR × mW} {a0 : Nat} (h0 : sState SH a0) {l1 : Int} {l2 : Int} {s0 : Int} {s1 : Int} : ((((0 : Int) ≤ s1 ∧ s1 < 48) ∧ (((0 : Int) ≤ l1 ∧ l1 < 48) ∧ (∃ v101 S102, G sc MX7_restAt 0 [some (.int (I ((up S (a0 + 17) s1 s0) (a0 + 17) l1)))] [] SH (up S (a0 + 17) s1 s0) (rI v101 SH S102) ∧ (((0 : Int) ≤ l1 ∧ l1 < 48) ∧ G sc MX7_scanNext 128 [some (.ref a0), some (.int (I l1)), some (.int (I l2))] [] SH (up S102 (a0 + 18) l1 v101) r))))) → G sc MX7_scanNext 112 [some (.ref a0), some (.int (I l1)), some (.int (I l2))] [.int (I s0), .int (I s1), .ref (a0 + 17)] SH S r := by
  refine tt_iastore (M := MX7_scanNext) (pc := 112) dX7_scanNext_112 h0.2.2.2.2.2.2.2.2.2.1 rfl ?_
  refine tt_ld (M := MX7_scanNext) (pc := 113) dX7_scanNext_113 rfl rfl rfl rfl rfl ?_
  refine tt_getR (M := MX7_scanNext) (pc := 114) dX7_scanNext_114 rfl h0.1 rfl ?_
  refine tt_ld (M := MX7_scanNext) (pc := 117) dX7_scanNext_117 rfl rfl rfl rfl rfl ?_
  refine tt_ld (M := MX7_scanNext) (pc := 118) dX7_scanNext_118 rfl rfl rfl rfl rfl ?_
  refine tt_getR (M := MX7_scanNext) (pc := 119) dX7_scanNext_119 rfl h0.1 rfl ?_
  refine tt_ld (M := MX7_scanNext) (pc := 122) dX7_scanNext_122 rfl rfl rfl rfl rfl ?_
  refine tt_iaload (M := MX7_scanNext) (pc := 123) dX7_scanNext_123 h0.2.2.2.2.2.2.2.2.2.1 rfl ?_
  refine tt_scIN (M := MX7_scanNext) (pc := 124) dX7_scanNext_124 rfl [.int (I l1), .ref (a0 + 18)] rfl rfl ⟨rfl, by decide, Nat.le_of_ble_eq_true rfl⟩ fun v101 S102 => ?_
  refine tt_iastore (M := MX7_scanNext) (pc := 127) dX7_scanNext_127 h0.2.2.2.2.2.2.2.2.2.2.1 rfl ?_
  exact id
theorem qX7_scanNext_128 {sc : Nat × (Nat → Int32)} {SH : List mCell} {S : mStore} {r : mR × mW} {a0 : Nat} (h0 : sState SH a0) {l1 : Int} {l2 : Int} : ((if I l2 = I 4 then G sc MX7_scanNext 146 [some (.ref a0), some (.int (I l1)), some (.int (I l2))] [] SH S r else (if I l2 = I 5 then G sc MX7_scanNext 146 [some (.ref a0), some (.int (I l1)), some (.int (I l2))] [] SH S r else (if I l2 = I 8 then G sc MX7_scanNext 146 [some (.ref a0), some (.int (I l1)), some (.int (I l2))] [] SH S r else r = rI 0 SH S)))) → G sc MX7_scanNext 128 [some (.ref a0), some (.int (I l1)), some (.int (I l2))] [] SH S r := by
  refine tt_ld (M := MX7_scanNext) (pc := 128) dX7_scanNext_128 rfl rfl rfl rfl rfl ?_
  refine tt_iconst (M := MX7_scanNext) (pc := 129) dX7_scanNext_129 ?_
  refine tt_ic_eq (M := MX7_scanNext) (pc := 130) 146 dX7_scanNext_130 rfl ?_ ?_
  · exact id
  · refine tt_ld (M := MX7_scanNext) (pc := 133) dX7_scanNext_133 rfl rfl rfl rfl rfl ?_
    refine tt_iconst (M := MX7_scanNext) (pc := 134) dX7_scanNext_134 ?_
    refine tt_ic_eq (M := MX7_scanNext) (pc := 135) 146 dX7_scanNext_135 rfl ?_ ?_
    · exact id
    · refine tt_ld (M := MX7_scanNext) (pc := 138) dX7_scanNext_138 rfl rfl rfl rfl rfl ?_
      refine tt_bipush (M := MX7_scanNext) (pc := 139) dX7_scanNext_139 (by decide) ?_
      refine tt_ic_eq (M := MX7_scanNext) (pc := 141) 146 dX7_scanNext_141 rfl ?_ ?_
      · exact id
      · refine tt_iconst (M := MX7_scanNext) (pc := 144) dX7_scanNext_144 ?_
        exact tt_iret (M := MX7_scanNext) (pc := 145) dX7_scanNext_145 rfl
theorem qX7_scanNext_146 {sc : Nat × (Nat → Int32)} {SH : List mCell} {S : mStore} {r : mR × mW} {a0 : Nat} (h0 : sState SH a0) {l1 : Int} {l2 : Int} : ((if I l2 = I 4 then G sc MX7_scanNext 171 [some (.ref a0), some (.int (I l1)), some (.int (I l2))] [.int (I 7), .ref (a0 + 19)] SH S r else (if I l2 = I 5 then G sc MX7_scanNext 171 [some (.ref a0), some (.int (I l1)), some (.int (I l2))] [.int (I 5), .ref (a0 + 19)] SH S r else G sc MX7_scanNext 171 [some (.ref a0), some (.int (I l1)), some (.int (I l2))] [.int (I 6), .ref (a0 + 19)] SH S r))) → G sc MX7_scanNext 146 [some (.ref a0), some (.int (I l1)), some (.int (I l2))] [] SH S r := by
  refine tt_ld (M := MX7_scanNext) (pc := 146) dX7_scanNext_146 rfl rfl rfl rfl rfl ?_
  refine tt_getR (M := MX7_scanNext) (pc := 147) dX7_scanNext_147 rfl h0.1 rfl ?_
  refine tt_ld (M := MX7_scanNext) (pc := 150) dX7_scanNext_150 rfl rfl rfl rfl rfl ?_
  refine tt_iconst (M := MX7_scanNext) (pc := 151) dX7_scanNext_151 ?_
  refine tt_ic_ne (M := MX7_scanNext) (pc := 152) 160 dX7_scanNext_152 rfl ?_ ?_
  · refine tt_ld (M := MX7_scanNext) (pc := 160) dX7_scanNext_160 rfl rfl rfl rfl rfl ?_
    refine tt_iconst (M := MX7_scanNext) (pc := 161) dX7_scanNext_161 ?_
    refine tt_ic_ne (M := MX7_scanNext) (pc := 162) 169 dX7_scanNext_162 rfl ?_ ?_
    · refine tt_bipush (M := MX7_scanNext) (pc := 169) dX7_scanNext_169 (by decide) ?_
      exact id
    · refine tt_iconst (M := MX7_scanNext) (pc := 165) dX7_scanNext_165 ?_
      refine tt_goto (M := MX7_scanNext) (pc := 166) 171 dX7_scanNext_166 rfl ?_
      exact id
  · refine tt_bipush (M := MX7_scanNext) (pc := 155) dX7_scanNext_155 (by decide) ?_
    refine tt_goto (M := MX7_scanNext) (pc := 157) 171 dX7_scanNext_157 rfl ?_
    exact id
theorem qX7_scanNext_171 {sc : Nat × (Nat → Int32)} {SH : List mCell} {S : mStore} {r : mR × mW} {a0 : Nat} (h0 : sState SH a0) {l1 : Int} {l2 : Int} {s0 : Int} : ((((0 : Int) ≤ s0 ∧ s0 < 12) ∧ (((0 : Int) ≤ s0 ∧ s0 < 12) ∧ (((0 : Int) ≤ 10 ∧ (10 : Int) < 12) ∧ (((0 : Int) ≤ 10 ∧ (10 : Int) < 12) ∧ r = rI 1 SH (up (up S (a0 + 19) s0 ((S (a0 + 19) s0) + 1)) (a0 + 19) 10 (((up S (a0 + 19) s0 ((S (a0 + 19) s0) + 1)) (a0 + 19) 10) + 1))))))) → G sc MX7_scanNext 171 [some (.ref a0), some (.int (I l1)), some (.int (I l2))] [.int (I s0), .ref (a0 + 19)] SH S r := by
  refine tt_dup2 (M := MX7_scanNext) (pc := 171) dX7_scanNext_171 rfl rfl ?_
  refine tt_iaload (M := MX7_scanNext) (pc := 172) dX7_scanNext_172 h0.2.2.2.2.2.2.2.2.2.2.2.1 rfl ?_
  refine tt_iconst (M := MX7_scanNext) (pc := 173) dX7_scanNext_173 ?_
  refine tt_iadd (M := MX7_scanNext) (pc := 174) dX7_scanNext_174 ?_
  refine tt_iastore (M := MX7_scanNext) (pc := 175) dX7_scanNext_175 h0.2.2.2.2.2.2.2.2.2.2.2.1 rfl ?_
  refine tt_ld (M := MX7_scanNext) (pc := 176) dX7_scanNext_176 rfl rfl rfl rfl rfl ?_
  refine tt_getR (M := MX7_scanNext) (pc := 177) dX7_scanNext_177 rfl h0.1 rfl ?_
  refine tt_bipush (M := MX7_scanNext) (pc := 180) dX7_scanNext_180 (by decide) ?_
  refine tt_dup2 (M := MX7_scanNext) (pc := 182) dX7_scanNext_182 rfl rfl ?_
  refine tt_iaload (M := MX7_scanNext) (pc := 183) dX7_scanNext_183 h0.2.2.2.2.2.2.2.2.2.2.2.1 rfl ?_
  refine tt_iconst (M := MX7_scanNext) (pc := 184) dX7_scanNext_184 ?_
  refine tt_iadd (M := MX7_scanNext) (pc := 185) dX7_scanNext_185 ?_
  refine tt_iastore (M := MX7_scanNext) (pc := 186) dX7_scanNext_186 h0.2.2.2.2.2.2.2.2.2.2.2.1 rfl ?_
  refine tt_iconst (M := MX7_scanNext) (pc := 187) dX7_scanNext_187 ?_
  exact tt_iret (M := MX7_scanNext) (pc := 188) dX7_scanNext_188 rfl
theorem qX7_advisedFrom_0 {sc : Nat × (Nat → Int32)} {SH : List mCell} {S : mStore} {r : mR × mW} {a0 : Nat} (h0 : sState SH a0) {l1 : Int} {u2 : Option Value} : (G sc MX7_advisedFrom 2 [some (.ref a0), some (.int (I l1)), some (.int (I l1))] [] SH S r) → G sc MX7_advisedFrom 0 [some (.ref a0), some (.int (I l1)), u2] [] SH S r := by
  refine tt_ld (M := MX7_advisedFrom) (pc := 0) dX7_advisedFrom_0 rfl rfl rfl rfl rfl ?_
  refine tt_st (M := MX7_advisedFrom) (pc := 1) [some (.ref a0), some (.int (I l1)), some (.int (I l1))] dX7_advisedFrom_1 rfl rfl rfl rfl rfl rfl ?_
  exact id
theorem qX7_advisedFrom_2 {sc : Nat × (Nat → Int32)} {SH : List mCell} {S : mStore} {r : mR × mW} {a0 : Nat} (h0 : sState SH a0) {l1 : Int} {l2 : Int} : ((if I (S 1 7) ≤ I l2 then r = rI (-1) SH S else (((0 : Int) ≤ l2 ∧ l2 < 48) ∧ (if I (S (a0 + 14) l2) = I 1 then r = rI l2 SH S else G sc MX7_advisedFrom 2 [some (.ref a0), some (.int (I l1)), some (.int (I (l2 + 1)))] [] SH S r)))) → G sc MX7_advisedFrom 2 [some (.ref a0), some (.int (I l1)), some (.int (I l2))] [] SH S r := by
  refine tt_ld (M := MX7_advisedFrom) (pc := 2) dX7_advisedFrom_2 rfl rfl rfl rfl rfl ?_
  refine tt_ld (M := MX7_advisedFrom) (pc := 3) dX7_advisedFrom_3 rfl rfl rfl rfl rfl ?_
  refine tt_getR (M := MX7_advisedFrom) (pc := 4) dX7_advisedFrom_4 rfl h0.1 rfl ?_
  refine tt_getI (M := MX7_advisedFrom) (pc := 7) dX7_advisedFrom_7 rfl h0.2.2.2.2.2.2.2.2.2.2.2.2.1 rfl ?_
  refine tt_ic_ge (M := MX7_advisedFrom) (pc := 10) 31 dX7_advisedFrom_10 rfl ?_ ?_
  · refine tt_iconst (M := MX7_advisedFrom) (pc := 31) dX7_advisedFrom_31 ?_
    exact tt_iret (M := MX7_advisedFrom) (pc := 32) dX7_advisedFrom_32 rfl
  · refine tt_ld (M := MX7_advisedFrom) (pc := 13) dX7_advisedFrom_13 rfl rfl rfl rfl rfl ?_
    refine tt_getR (M := MX7_advisedFrom) (pc := 14) dX7_advisedFrom_14 rfl h0.1 rfl ?_
    refine tt_ld (M := MX7_advisedFrom) (pc := 17) dX7_advisedFrom_17 rfl rfl rfl rfl rfl ?_
    refine tt_iaload (M := MX7_advisedFrom) (pc := 18) dX7_advisedFrom_18 h0.2.2.2.2.2.2.1 rfl ?_
    refine tt_iconst (M := MX7_advisedFrom) (pc := 19) dX7_advisedFrom_19 ?_
    refine tt_ic_ne (M := MX7_advisedFrom) (pc := 20) 25 dX7_advisedFrom_20 rfl ?_ ?_
    · refine tt_iinc (M := MX7_advisedFrom) (pc := 25) [some (.ref a0), some (.int (I l1)), some (.int (I (l2 + 1)))] dX7_advisedFrom_25 rfl rfl ?_
      refine tt_goto (M := MX7_advisedFrom) (pc := 28) 2 dX7_advisedFrom_28 rfl ?_
      exact id
    · refine tt_ld (M := MX7_advisedFrom) (pc := 23) dX7_advisedFrom_23 rfl rfl rfl rfl rfl ?_
      exact tt_iret (M := MX7_advisedFrom) (pc := 24) dX7_advisedFrom_24 rfl
theorem qX7_endRound_0 {sc : Nat × (Nat → Int32)} {SH : List mCell} {S : mStore} {r : mR × mW} {a0 : Nat} (h0 : sState SH a0) {u1 : Option Value} : ((∃ S101, G sc MX9_clear 0 [some (.ref (a0 + 11))] [] SH S (rV SH S101) ∧ (((0 : Int) ≤ 0 ∧ (0 : Int) < 12) ∧ (((0 : Int) ≤ 10 ∧ (10 : Int) < 12) ∧ (((0 : Int) ≤ 11 ∧ (11 : Int) < 12) ∧ (if I (4 * (S101 (a0 + 19) 10)) < I (S101 (a0 + 19) 11) then (((0 : Int) ≤ 10 ∧ (10 : Int) < 12) ∧ (if I (S101 (a0 + 19) 10) = I 0 then (if I (idv (S101 (a0 + 19) 0) 2) ≤ I (S101 1 2) then (((0 : Int) ≤ 0 ∧ (0 : Int) < 12) ∧ G sc MX7_endRound 110 [some (.ref a0), some (.int (I (S101 (a0 + 19) 0)))] [] SH (up S101 (a0 + 19) 0 (S101 1 2)) r) else (((0 : Int) ≤ 0 ∧ (0 : Int) < 12) ∧ G sc MX7_endRound 110 [some (.ref a0), some (.int (I (S101 (a0 + 19) 0)))] [] SH (up S101 (a0 + 19) 0 (idv (S101 (a0 + 19) 0) 2)) r)) else G sc MX7_endRound 110 [some (.ref a0), some (.int (I (S101 (a0 + 19) 0)))] [] SH S101 r)) else (if I (S101 1 3) ≤ I (2 * (S101 (a0 + 19) 0)) then (((0 : Int) ≤ 0 ∧ (0 : Int) < 12) ∧ G sc MX7_endRound 110 [some (.ref a0), some (.int (I (S101 (a0 + 19) 0)))] [] SH (up S101 (a0 + 19) 0 (S101 1 3)) r) else (((0 : Int) ≤ 0 ∧ (0 : Int) < 12) ∧ G sc MX7_endRound 110 [some (.ref a0), some (.int (I (S101 (a0 + 19) 0)))] [] SH (up S101 (a0 + 19) 0 (2 * (S101 (a0 + 19) 0))) r)))))))) → G sc MX7_endRound 0 [some (.ref a0), u1] [] SH S r := by
  refine tt_ld (M := MX7_endRound) (pc := 0) dX7_endRound_0 rfl rfl rfl rfl rfl ?_
  refine tt_getR (M := MX7_endRound) (pc := 1) dX7_endRound_1 rfl h0.1 rfl ?_
  refine tt_vcVN (M := MX7_endRound) (pc := 4) dX7_endRound_4 rfl rfl [] rfl rfl ⟨rfl, by decide, Nat.le_of_ble_eq_true rfl⟩ h0.2.2.2.2.1.1 fun S101 => ?_
  refine tt_ld (M := MX7_endRound) (pc := 7) dX7_endRound_7 rfl rfl rfl rfl rfl ?_
  refine tt_getR (M := MX7_endRound) (pc := 8) dX7_endRound_8 rfl h0.1 rfl ?_
  refine tt_iconst (M := MX7_endRound) (pc := 11) dX7_endRound_11 ?_
  refine tt_iaload (M := MX7_endRound) (pc := 12) dX7_endRound_12 h0.2.2.2.2.2.2.2.2.2.2.2.1 rfl ?_
  refine tt_st (M := MX7_endRound) (pc := 13) [some (.ref a0), some (.int (I (S101 (a0 + 19) 0)))] dX7_endRound_13 rfl rfl rfl rfl rfl rfl ?_
  refine tt_iconst (M := MX7_endRound) (pc := 14) dX7_endRound_14 ?_
  refine tt_ld (M := MX7_endRound) (pc := 15) dX7_endRound_15 rfl rfl rfl rfl rfl ?_
  refine tt_getR (M := MX7_endRound) (pc := 16) dX7_endRound_16 rfl h0.1 rfl ?_
  refine tt_bipush (M := MX7_endRound) (pc := 19) dX7_endRound_19 (by decide) ?_
  refine tt_iaload (M := MX7_endRound) (pc := 21) dX7_endRound_21 h0.2.2.2.2.2.2.2.2.2.2.2.1 rfl ?_
  refine tt_imul (M := MX7_endRound) (pc := 22) dX7_endRound_22 ?_
  refine tt_ld (M := MX7_endRound) (pc := 23) dX7_endRound_23 rfl rfl rfl rfl rfl ?_
  refine tt_getR (M := MX7_endRound) (pc := 24) dX7_endRound_24 rfl h0.1 rfl ?_
  refine tt_bipush (M := MX7_endRound) (pc := 27) dX7_endRound_27 (by decide) ?_
  refine tt_iaload (M := MX7_endRound) (pc := 29) dX7_endRound_29 h0.2.2.2.2.2.2.2.2.2.2.2.1 rfl ?_
  refine tt_ic_lt (M := MX7_endRound) (pc := 30) 68 dX7_endRound_30 rfl ?_ ?_
  · refine tt_ld (M := MX7_endRound) (pc := 68) dX7_endRound_68 rfl rfl rfl rfl rfl ?_
    refine tt_getR (M := MX7_endRound) (pc := 69) dX7_endRound_69 rfl h0.1 rfl ?_
    refine tt_bipush (M := MX7_endRound) (pc := 72) dX7_endRound_72 (by decide) ?_
    refine tt_iaload (M := MX7_endRound) (pc := 74) dX7_endRound_74 h0.2.2.2.2.2.2.2.2.2.2.2.1 rfl ?_
    refine tt_if_ne (M := MX7_endRound) (pc := 75) 110 dX7_endRound_75 rfl ?_ ?_
    · exact id
    · refine tt_ld (M := MX7_endRound) (pc := 78) dX7_endRound_78 rfl rfl rfl rfl rfl ?_
      refine tt_getR (M := MX7_endRound) (pc := 79) dX7_endRound_79 rfl h0.1 rfl ?_
      refine tt_iconst (M := MX7_endRound) (pc := 82) dX7_endRound_82 ?_
      refine tt_ld (M := MX7_endRound) (pc := 83) dX7_endRound_83 rfl rfl rfl rfl rfl ?_
      refine tt_iconst (M := MX7_endRound) (pc := 84) dX7_endRound_84 ?_
      refine tt_idiv (M := MX7_endRound) (pc := 85) dX7_endRound_85 (by decide) ?_
      refine tt_ld (M := MX7_endRound) (pc := 86) dX7_endRound_86 rfl rfl rfl rfl rfl ?_
      refine tt_getR (M := MX7_endRound) (pc := 87) dX7_endRound_87 rfl h0.1 rfl ?_
      refine tt_getI (M := MX7_endRound) (pc := 90) dX7_endRound_90 rfl h0.2.2.2.2.2.2.2.2.2.2.2.2.1 rfl ?_
      refine tt_ic_le (M := MX7_endRound) (pc := 93) 102 dX7_endRound_93 rfl ?_ ?_
      · refine tt_ld (M := MX7_endRound) (pc := 102) dX7_endRound_102 rfl rfl rfl rfl rfl ?_
        refine tt_getR (M := MX7_endRound) (pc := 103) dX7_endRound_103 rfl h0.1 rfl ?_
        refine tt_getI (M := MX7_endRound) (pc := 106) dX7_endRound_106 rfl h0.2.2.2.2.2.2.2.2.2.2.2.2.1 rfl ?_
        refine tt_iastore (M := MX7_endRound) (pc := 109) dX7_endRound_109 h0.2.2.2.2.2.2.2.2.2.2.2.1 rfl ?_
        exact id
      · refine tt_ld (M := MX7_endRound) (pc := 96) dX7_endRound_96 rfl rfl rfl rfl rfl ?_
        refine tt_iconst (M := MX7_endRound) (pc := 97) dX7_endRound_97 ?_
        refine tt_idiv (M := MX7_endRound) (pc := 98) dX7_endRound_98 (by decide) ?_
        refine tt_goto (M := MX7_endRound) (pc := 99) 109 dX7_endRound_99 rfl ?_
        refine tt_iastore (M := MX7_endRound) (pc := 109) dX7_endRound_109 h0.2.2.2.2.2.2.2.2.2.2.2.1 rfl ?_
        exact id
  · refine tt_ld (M := MX7_endRound) (pc := 33) dX7_endRound_33 rfl rfl rfl rfl rfl ?_
    refine tt_getR (M := MX7_endRound) (pc := 34) dX7_endRound_34 rfl h0.1 rfl ?_
    refine tt_iconst (M := MX7_endRound) (pc := 37) dX7_endRound_37 ?_
    refine tt_iconst (M := MX7_endRound) (pc := 38) dX7_endRound_38 ?_
    refine tt_ld (M := MX7_endRound) (pc := 39) dX7_endRound_39 rfl rfl rfl rfl rfl ?_
    refine tt_imul (M := MX7_endRound) (pc := 40) dX7_endRound_40 ?_
    refine tt_ld (M := MX7_endRound) (pc := 41) dX7_endRound_41 rfl rfl rfl rfl rfl ?_
    refine tt_getR (M := MX7_endRound) (pc := 42) dX7_endRound_42 rfl h0.1 rfl ?_
    refine tt_getI (M := MX7_endRound) (pc := 45) dX7_endRound_45 rfl h0.2.2.2.2.2.2.2.2.2.2.2.2.1 rfl ?_
    refine tt_ic_ge (M := MX7_endRound) (pc := 48) 57 dX7_endRound_48 rfl ?_ ?_
    · refine tt_ld (M := MX7_endRound) (pc := 57) dX7_endRound_57 rfl rfl rfl rfl rfl ?_
      refine tt_getR (M := MX7_endRound) (pc := 58) dX7_endRound_58 rfl h0.1 rfl ?_
      refine tt_getI (M := MX7_endRound) (pc := 61) dX7_endRound_61 rfl h0.2.2.2.2.2.2.2.2.2.2.2.2.1 rfl ?_
      refine tt_iastore (M := MX7_endRound) (pc := 64) dX7_endRound_64 h0.2.2.2.2.2.2.2.2.2.2.2.1 rfl ?_
      refine tt_goto (M := MX7_endRound) (pc := 65) 110 dX7_endRound_65 rfl ?_
      exact id
    · refine tt_iconst (M := MX7_endRound) (pc := 51) dX7_endRound_51 ?_
      refine tt_ld (M := MX7_endRound) (pc := 52) dX7_endRound_52 rfl rfl rfl rfl rfl ?_
      refine tt_imul (M := MX7_endRound) (pc := 53) dX7_endRound_53 ?_
      refine tt_goto (M := MX7_endRound) (pc := 54) 64 dX7_endRound_54 rfl ?_
      refine tt_iastore (M := MX7_endRound) (pc := 64) dX7_endRound_64 h0.2.2.2.2.2.2.2.2.2.2.2.1 rfl ?_
      refine tt_goto (M := MX7_endRound) (pc := 65) 110 dX7_endRound_65 rfl ?_
      exact id
theorem qX7_endRound_110 {sc : Nat × (Nat → Int32)} {SH : List mCell} {S : mStore} {r : mR × mW} {a0 : Nat} (h0 : sState SH a0) {l1 : Int} : ((((0 : Int) ≤ 10 ∧ (10 : Int) < 12) ∧ (((0 : Int) ≤ 11 ∧ (11 : Int) < 12) ∧ (((0 : Int) ≤ 9 ∧ (9 : Int) < 12) ∧ (((0 : Int) ≤ 1 ∧ (1 : Int) < 12) ∧ (((0 : Int) ≤ 1 ∧ (1 : Int) < 12) ∧ r = rV SH (up (up (up (up S (a0 + 19) 10 0) (a0 + 19) 11 0) (a0 + 19) 9 0) (a0 + 19) 1 (((up (up (up S (a0 + 19) 10 0) (a0 + 19) 11 0) (a0 + 19) 9 0) (a0 + 19) 1) + 1)))))))) → G sc MX7_endRound 110 [some (.ref a0), some (.int (I l1))] [] SH S r := by
  refine tt_ld (M := MX7_endRound) (pc := 110) dX7_endRound_110 rfl rfl rfl rfl rfl ?_
  refine tt_getR (M := MX7_endRound) (pc := 111) dX7_endRound_111 rfl h0.1 rfl ?_
  refine tt_bipush (M := MX7_endRound) (pc := 114) dX7_endRound_114 (by decide) ?_
  refine tt_iconst (M := MX7_endRound) (pc := 116) dX7_endRound_116 ?_
  refine tt_iastore (M := MX7_endRound) (pc := 117) dX7_endRound_117 h0.2.2.2.2.2.2.2.2.2.2.2.1 rfl ?_
  refine tt_ld (M := MX7_endRound) (pc := 118) dX7_endRound_118 rfl rfl rfl rfl rfl ?_
  refine tt_getR (M := MX7_endRound) (pc := 119) dX7_endRound_119 rfl h0.1 rfl ?_
  refine tt_bipush (M := MX7_endRound) (pc := 122) dX7_endRound_122 (by decide) ?_
  refine tt_iconst (M := MX7_endRound) (pc := 124) dX7_endRound_124 ?_
  refine tt_iastore (M := MX7_endRound) (pc := 125) dX7_endRound_125 h0.2.2.2.2.2.2.2.2.2.2.2.1 rfl ?_
  refine tt_ld (M := MX7_endRound) (pc := 126) dX7_endRound_126 rfl rfl rfl rfl rfl ?_
  refine tt_getR (M := MX7_endRound) (pc := 127) dX7_endRound_127 rfl h0.1 rfl ?_
  refine tt_bipush (M := MX7_endRound) (pc := 130) dX7_endRound_130 (by decide) ?_
  refine tt_iconst (M := MX7_endRound) (pc := 132) dX7_endRound_132 ?_
  refine tt_iastore (M := MX7_endRound) (pc := 133) dX7_endRound_133 h0.2.2.2.2.2.2.2.2.2.2.2.1 rfl ?_
  refine tt_ld (M := MX7_endRound) (pc := 134) dX7_endRound_134 rfl rfl rfl rfl rfl ?_
  refine tt_getR (M := MX7_endRound) (pc := 135) dX7_endRound_135 rfl h0.1 rfl ?_
  refine tt_iconst (M := MX7_endRound) (pc := 138) dX7_endRound_138 ?_
  refine tt_dup2 (M := MX7_endRound) (pc := 139) dX7_endRound_139 rfl rfl ?_
  refine tt_iaload (M := MX7_endRound) (pc := 140) dX7_endRound_140 h0.2.2.2.2.2.2.2.2.2.2.2.1 rfl ?_
  refine tt_iconst (M := MX7_endRound) (pc := 141) dX7_endRound_141 ?_
  refine tt_iadd (M := MX7_endRound) (pc := 142) dX7_endRound_142 ?_
  refine tt_iastore (M := MX7_endRound) (pc := 143) dX7_endRound_143 h0.2.2.2.2.2.2.2.2.2.2.2.1 rfl ?_
  exact tt_ret (M := MX7_endRound) (pc := 144) dX7_endRound_144 rfl
theorem qX7_restAt_0 {sc : Nat × (Nat → Int32)} {SH : List mCell} {S : mStore} {r : mR × mW} {l0 : Int} : ((if I 5 ≤ I l0 then (if I 8 ≤ I l0 then r = rI 4 SH S else r = rI 2 SH S) else (if I 3 ≤ I l0 then r = rI 1 SH S else r = rI 0 SH S))) → G sc MX7_restAt 0 [some (.int (I l0))] [] SH S r := by
  refine tt_ld (M := MX7_restAt) (pc := 0) dX7_restAt_0 rfl rfl rfl rfl rfl ?_
  refine tt_iconst (M := MX7_restAt) (pc := 1) dX7_restAt_1 ?_
  refine tt_ic_ge (M := MX7_restAt) (pc := 2) 16 dX7_restAt_2 rfl ?_ ?_
  · refine tt_ld (M := MX7_restAt) (pc := 16) dX7_restAt_16 rfl rfl rfl rfl rfl ?_
    refine tt_bipush (M := MX7_restAt) (pc := 17) dX7_restAt_17 (by decide) ?_
    refine tt_ic_ge (M := MX7_restAt) (pc := 19) 26 dX7_restAt_19 rfl ?_ ?_
    · refine tt_iconst (M := MX7_restAt) (pc := 26) dX7_restAt_26 ?_
      exact tt_iret (M := MX7_restAt) (pc := 27) dX7_restAt_27 rfl
    · refine tt_iconst (M := MX7_restAt) (pc := 22) dX7_restAt_22 ?_
      refine tt_goto (M := MX7_restAt) (pc := 23) 27 dX7_restAt_23 rfl ?_
      exact tt_iret (M := MX7_restAt) (pc := 27) dX7_restAt_27 rfl
  · refine tt_ld (M := MX7_restAt) (pc := 5) dX7_restAt_5 rfl rfl rfl rfl rfl ?_
    refine tt_iconst (M := MX7_restAt) (pc := 6) dX7_restAt_6 ?_
    refine tt_ic_ge (M := MX7_restAt) (pc := 7) 14 dX7_restAt_7 rfl ?_ ?_
    · refine tt_iconst (M := MX7_restAt) (pc := 14) dX7_restAt_14 ?_
      exact tt_iret (M := MX7_restAt) (pc := 15) dX7_restAt_15 rfl
    · refine tt_iconst (M := MX7_restAt) (pc := 10) dX7_restAt_10 ?_
      refine tt_goto (M := MX7_restAt) (pc := 11) 15 dX7_restAt_11 rfl ?_
      exact tt_iret (M := MX7_restAt) (pc := 15) dX7_restAt_15 rfl
theorem qX7_befall_0 {sc : Nat × (Nat → Int32)} {SH : List mCell} {S : mStore} {r : mR × mW} {a0 : Nat} (h0 : sState SH a0) {l1 : Int} {u2 : Option Value} {u3 : Option Value} {u4 : Option Value} {u5 : Option Value} {u6 : Option Value} {u7 : Option Value} {u8 : Option Value} : ((((0 : Int) ≤ l1 ∧ l1 < 48) ∧ (if I (S (a0 + 2) l1) = I (-1) then (((0 : Int) ≤ l1 ∧ l1 < 48) ∧ r = rI 1 SH (up S (a0 + 16) l1 (-1))) else (((0 : Int) ≤ S (a0 + 2) l1 ∧ S (a0 + 2) l1 < 48) ∧ (if I (S (a0 + 6) (S (a0 + 2) l1)) = I (-1) then (if I (S 1 5) = I 0 then (((0 : Int) ≤ S (a0 + 2) l1 ∧ S (a0 + 2) l1 < 48) ∧ (if I (S 1 4) = I 0 then G sc MX7_befall 108 [some (.ref a0), some (.int (I l1)), some (.int (I (S (a0 + 2) l1))), some (.int (I (S (a0 + 13) (S (a0 + 2) l1)))), u4, u5, u6, u7, u8] [] SH S r else (if I (S (a0 + 13) (S (a0 + 2) l1)) = I 0 then (∃ S101, G sc MX6_remove 0 [some (.ref (a0 + 1)), some (.int (I l1)), none, none, none, none] [] SH S (rV SH S101) ∧ (((0 : Int) ≤ l1 ∧ l1 < 48) ∧ r = rI 4 SH (up S101 (a0 + 16) l1 (-1)))) else G sc MX7_befall 108 [some (.ref a0), some (.int (I l1)), some (.int (I (S (a0 + 2) l1))), some (.int (I (S (a0 + 13) (S (a0 + 2) l1)))), u4, u5, u6, u7, u8] [] SH S r))) else (((0 : Int) ≤ l1 ∧ l1 < 48) ∧ (if I (S (a0 + 18) l1) ≤ I 0 then (((0 : Int) ≤ S (a0 + 2) l1 ∧ S (a0 + 2) l1 < 48) ∧ (if I (S 1 4) = I 0 then G sc MX7_befall 108 [some (.ref a0), some (.int (I l1)), some (.int (I (S (a0 + 2) l1))), some (.int (I (S (a0 + 13) (S (a0 + 2) l1)))), u4, u5, u6, u7, u8] [] SH S r else (if I (S (a0 + 13) (S (a0 + 2) l1)) = I 0 then (∃ S102, G sc MX6_remove 0 [some (.ref (a0 + 1)), some (.int (I l1)), none, none, none, none] [] SH S (rV SH S102) ∧ (((0 : Int) ≤ l1 ∧ l1 < 48) ∧ r = rI 4 SH (up S102 (a0 + 16) l1 (-1)))) else G sc MX7_befall 108 [some (.ref a0), some (.int (I l1)), some (.int (I (S (a0 + 2) l1))), some (.int (I (S (a0 + 13) (S (a0 + 2) l1)))), u4, u5, u6, u7, u8] [] SH S r))) else (((0 : Int) ≤ l1 ∧ l1 < 48) ∧ (((0 : Int) ≤ l1 ∧ l1 < 48) ∧ r = rI 3 SH (up S (a0 + 18) l1 ((S (a0 + 18) l1) - 1))))))) else r = rI 2 SH S))))) → G sc MX7_befall 0 [some (.ref a0), some (.int (I l1)), u2, u3, u4, u5, u6, u7, u8] [] SH S r := by
  refine tt_ld (M := MX7_befall) (pc := 0) dX7_befall_0 rfl rfl rfl rfl rfl ?_
  refine tt_getR (M := MX7_befall) (pc := 1) dX7_befall_1 rfl h0.1 rfl ?_
  refine tt_getR (M := MX7_befall) (pc := 4) dX7_befall_4 rfl h0.2.1.1 rfl ?_
  refine tt_ld (M := MX7_befall) (pc := 7) dX7_befall_7 rfl rfl rfl rfl rfl ?_
  refine tt_iaload (M := MX7_befall) (pc := 8) dX7_befall_8 h0.2.1.2.1 rfl ?_
  refine tt_st (M := MX7_befall) (pc := 9) [some (.ref a0), some (.int (I l1)), some (.int (I (S (a0 + 2) l1))), u3, u4, u5, u6, u7, u8] dX7_befall_9 rfl rfl rfl rfl rfl rfl ?_
  refine tt_ld (M := MX7_befall) (pc := 10) dX7_befall_10 rfl rfl rfl rfl rfl ?_
  refine tt_iconst (M := MX7_befall) (pc := 11) dX7_befall_11 ?_
  refine tt_ic_ne (M := MX7_befall) (pc := 12) 24 dX7_befall_12 rfl ?_ ?_
  · refine tt_ld (M := MX7_befall) (pc := 24) dX7_befall_24 rfl rfl rfl rfl rfl ?_
    refine tt_getR (M := MX7_befall) (pc := 25) dX7_befall_25 rfl h0.1 rfl ?_
    refine tt_getR (M := MX7_befall) (pc := 28) dX7_befall_28 rfl h0.2.2.1.1 rfl ?_
    refine tt_ld (M := MX7_befall) (pc := 31) dX7_befall_31 rfl rfl rfl rfl rfl ?_
    refine tt_iaload (M := MX7_befall) (pc := 32) dX7_befall_32 h0.2.2.1.2.1 rfl ?_
    refine tt_iconst (M := MX7_befall) (pc := 33) dX7_befall_33 ?_
    refine tt_ic_eq (M := MX7_befall) (pc := 34) 39 dX7_befall_34 rfl ?_ ?_
    · refine tt_ld (M := MX7_befall) (pc := 39) dX7_befall_39 rfl rfl rfl rfl rfl ?_
      refine tt_getR (M := MX7_befall) (pc := 40) dX7_befall_40 rfl h0.1 rfl ?_
      refine tt_getI (M := MX7_befall) (pc := 43) dX7_befall_43 rfl h0.2.2.2.2.2.2.2.2.2.2.2.2.1 rfl ?_
      refine tt_if_eq (M := MX7_befall) (pc := 46) 70 dX7_befall_46 rfl ?_ ?_
      · refine tt_ld (M := MX7_befall) (pc := 70) dX7_befall_70 rfl rfl rfl rfl rfl ?_
        refine tt_getR (M := MX7_befall) (pc := 71) dX7_befall_71 rfl h0.1 rfl ?_
        refine tt_ld (M := MX7_befall) (pc := 74) dX7_befall_74 rfl rfl rfl rfl rfl ?_
        refine tt_iaload (M := MX7_befall) (pc := 75) dX7_befall_75 h0.2.2.2.2.2.1 rfl ?_
        refine tt_st (M := MX7_befall) (pc := 76) [some (.ref a0), some (.int (I l1)), some (.int (I (S (a0 + 2) l1))), some (.int (I (S (a0 + 13) (S (a0 + 2) l1)))), u4, u5, u6, u7, u8] dX7_befall_76 rfl rfl rfl rfl rfl rfl ?_
        refine tt_ld (M := MX7_befall) (pc := 77) dX7_befall_77 rfl rfl rfl rfl rfl ?_
        refine tt_getR (M := MX7_befall) (pc := 78) dX7_befall_78 rfl h0.1 rfl ?_
        refine tt_getI (M := MX7_befall) (pc := 81) dX7_befall_81 rfl h0.2.2.2.2.2.2.2.2.2.2.2.2.1 rfl ?_
        refine tt_if_eq (M := MX7_befall) (pc := 84) 108 dX7_befall_84 rfl ?_ ?_
        · exact id
        · refine tt_ld (M := MX7_befall) (pc := 87) dX7_befall_87 rfl rfl rfl rfl rfl ?_
          refine tt_if_ne (M := MX7_befall) (pc := 88) 108 dX7_befall_88 rfl ?_ ?_
          · exact id
          · refine tt_ld (M := MX7_befall) (pc := 91) dX7_befall_91 rfl rfl rfl rfl rfl ?_
            refine tt_getR (M := MX7_befall) (pc := 92) dX7_befall_92 rfl h0.1 rfl ?_
            refine tt_ld (M := MX7_befall) (pc := 95) dX7_befall_95 rfl rfl rfl rfl rfl ?_
            refine tt_vcVN (M := MX7_befall) (pc := 96) dX7_befall_96 rfl rfl [] rfl rfl ⟨rfl, by decide, Nat.le_of_ble_eq_true rfl⟩ h0.2.1.1 fun S101 => ?_
            refine tt_ld (M := MX7_befall) (pc := 99) dX7_befall_99 rfl rfl rfl rfl rfl ?_
            refine tt_getR (M := MX7_befall) (pc := 100) dX7_befall_100 rfl h0.1 rfl ?_
            refine tt_ld (M := MX7_befall) (pc := 103) dX7_befall_103 rfl rfl rfl rfl rfl ?_
            refine tt_iconst (M := MX7_befall) (pc := 104) dX7_befall_104 ?_
            refine tt_iastore (M := MX7_befall) (pc := 105) dX7_befall_105 h0.2.2.2.2.2.2.2.2.1 rfl ?_
            refine tt_iconst (M := MX7_befall) (pc := 106) dX7_befall_106 ?_
            exact tt_iret (M := MX7_befall) (pc := 107) dX7_befall_107 rfl
      · refine tt_ld (M := MX7_befall) (pc := 49) dX7_befall_49 rfl rfl rfl rfl rfl ?_
        refine tt_getR (M := MX7_befall) (pc := 50) dX7_befall_50 rfl h0.1 rfl ?_
        refine tt_ld (M := MX7_befall) (pc := 53) dX7_befall_53 rfl rfl rfl rfl rfl ?_
        refine tt_iaload (M := MX7_befall) (pc := 54) dX7_befall_54 h0.2.2.2.2.2.2.2.2.2.2.1 rfl ?_
        refine tt_if_le (M := MX7_befall) (pc := 55) 70 dX7_befall_55 rfl ?_ ?_
        · refine tt_ld (M := MX7_befall) (pc := 70) dX7_befall_70 rfl rfl rfl rfl rfl ?_
          refine tt_getR (M := MX7_befall) (pc := 71) dX7_befall_71 rfl h0.1 rfl ?_
          refine tt_ld (M := MX7_befall) (pc := 74) dX7_befall_74 rfl rfl rfl rfl rfl ?_
          refine tt_iaload (M := MX7_befall) (pc := 75) dX7_befall_75 h0.2.2.2.2.2.1 rfl ?_
          refine tt_st (M := MX7_befall) (pc := 76) [some (.ref a0), some (.int (I l1)), some (.int (I (S (a0 + 2) l1))), some (.int (I (S (a0 + 13) (S (a0 + 2) l1)))), u4, u5, u6, u7, u8] dX7_befall_76 rfl rfl rfl rfl rfl rfl ?_
          refine tt_ld (M := MX7_befall) (pc := 77) dX7_befall_77 rfl rfl rfl rfl rfl ?_
          refine tt_getR (M := MX7_befall) (pc := 78) dX7_befall_78 rfl h0.1 rfl ?_
          refine tt_getI (M := MX7_befall) (pc := 81) dX7_befall_81 rfl h0.2.2.2.2.2.2.2.2.2.2.2.2.1 rfl ?_
          refine tt_if_eq (M := MX7_befall) (pc := 84) 108 dX7_befall_84 rfl ?_ ?_
          · exact id
          · refine tt_ld (M := MX7_befall) (pc := 87) dX7_befall_87 rfl rfl rfl rfl rfl ?_
            refine tt_if_ne (M := MX7_befall) (pc := 88) 108 dX7_befall_88 rfl ?_ ?_
            · exact id
            · refine tt_ld (M := MX7_befall) (pc := 91) dX7_befall_91 rfl rfl rfl rfl rfl ?_
              refine tt_getR (M := MX7_befall) (pc := 92) dX7_befall_92 rfl h0.1 rfl ?_
              refine tt_ld (M := MX7_befall) (pc := 95) dX7_befall_95 rfl rfl rfl rfl rfl ?_
              refine tt_vcVN (M := MX7_befall) (pc := 96) dX7_befall_96 rfl rfl [] rfl rfl ⟨rfl, by decide, Nat.le_of_ble_eq_true rfl⟩ h0.2.1.1 fun S102 => ?_
              refine tt_ld (M := MX7_befall) (pc := 99) dX7_befall_99 rfl rfl rfl rfl rfl ?_
              refine tt_getR (M := MX7_befall) (pc := 100) dX7_befall_100 rfl h0.1 rfl ?_
              refine tt_ld (M := MX7_befall) (pc := 103) dX7_befall_103 rfl rfl rfl rfl rfl ?_
              refine tt_iconst (M := MX7_befall) (pc := 104) dX7_befall_104 ?_
              refine tt_iastore (M := MX7_befall) (pc := 105) dX7_befall_105 h0.2.2.2.2.2.2.2.2.1 rfl ?_
              refine tt_iconst (M := MX7_befall) (pc := 106) dX7_befall_106 ?_
              exact tt_iret (M := MX7_befall) (pc := 107) dX7_befall_107 rfl
        · refine tt_ld (M := MX7_befall) (pc := 58) dX7_befall_58 rfl rfl rfl rfl rfl ?_
          refine tt_getR (M := MX7_befall) (pc := 59) dX7_befall_59 rfl h0.1 rfl ?_
          refine tt_ld (M := MX7_befall) (pc := 62) dX7_befall_62 rfl rfl rfl rfl rfl ?_
          refine tt_dup2 (M := MX7_befall) (pc := 63) dX7_befall_63 rfl rfl ?_
          refine tt_iaload (M := MX7_befall) (pc := 64) dX7_befall_64 h0.2.2.2.2.2.2.2.2.2.2.1 rfl ?_
          refine tt_iconst (M := MX7_befall) (pc := 65) dX7_befall_65 ?_
          refine tt_isub (M := MX7_befall) (pc := 66) dX7_befall_66 ?_
          refine tt_iastore (M := MX7_befall) (pc := 67) dX7_befall_67 h0.2.2.2.2.2.2.2.2.2.2.1 rfl ?_
          refine tt_iconst (M := MX7_befall) (pc := 68) dX7_befall_68 ?_
          exact tt_iret (M := MX7_befall) (pc := 69) dX7_befall_69 rfl
    · refine tt_iconst (M := MX7_befall) (pc := 37) dX7_befall_37 ?_
      exact tt_iret (M := MX7_befall) (pc := 38) dX7_befall_38 rfl
  · refine tt_ld (M := MX7_befall) (pc := 15) dX7_befall_15 rfl rfl rfl rfl rfl ?_
    refine tt_getR (M := MX7_befall) (pc := 16) dX7_befall_16 rfl h0.1 rfl ?_
    refine tt_ld (M := MX7_befall) (pc := 19) dX7_befall_19 rfl rfl rfl rfl rfl ?_
    refine tt_iconst (M := MX7_befall) (pc := 20) dX7_befall_20 ?_
    refine tt_iastore (M := MX7_befall) (pc := 21) dX7_befall_21 h0.2.2.2.2.2.2.2.2.1 rfl ?_
    refine tt_iconst (M := MX7_befall) (pc := 22) dX7_befall_22 ?_
    exact tt_iret (M := MX7_befall) (pc := 23) dX7_befall_23 rfl
theorem qX7_befall_108 {sc : Nat × (Nat → Int32)} {SH : List mCell} {S : mStore} {r : mR × mW} {a0 : Nat} (h0 : sState SH a0) {l1 : Int} {l2 : Int} {l3 : Int} {u4 : Option Value} {u5 : Option Value} {u6 : Option Value} {u7 : Option Value} {u8 : Option Value} : ((∃ v101 S102, G sc MX5_realmOf 0 [some (.ref 1), some (.int (I l1))] [] SH S (rI v101 SH S102) ∧ (∃ v103 S104, G sc MX7_seek 0 [some (.ref a0), some (.int (I 1)), some (.int (I v101)), some (.int (I l3)), none, none, none, none, none, none] [] SH S102 (rI v103 SH S104) ∧ (((0 : Int) ≤ v103 ∧ v103 < 99) ∧ (∃ v105 S106, G sc MX7_roomIn 0 [some (.ref a0), some (.int (I (S104 (a0 + 10) v103))), none, none, none, none, none] [] SH S104 (rI v105 SH S106) ∧ (if I v105 = I (-1) then (∃ v107 S108, G sc MX7_sumOf 0 [some (.int (I l3))] [] SH S106 (rI v107 SH S108) ∧ (((0 : Int) ≤ l1 ∧ l1 < 48) ∧ (if I (S108 (a0 + 16) l1) = I v107 then (∃ v109 S110, G sc MX5_realmOf 0 [some (.ref 1), some (.int (I l1))] [] SH S108 (rI v109 SH S110) ∧ (∃ v111 S112, G sc MX7_seek 0 [some (.ref a0), some (.int (I 0)), some (.int (I v109)), some (.int (I l3)), none, none, none, none, none, none] [] SH S110 (rI v111 SH S112) ∧ (((0 : Int) ≤ v111 ∧ v111 < 99) ∧ (if I (S112 (a0 + 12) v111) = I (-1) then (((0 : Int) ≤ v111 ∧ v111 < 99) ∧ r = rI 9 SH (up S112 (a0 + 12) v111 l1)) else (((0 : Int) ≤ S112 (a0 + 12) v111 ∧ S112 (a0 + 12) v111 < 48) ∧ (if I (S112 (a0 + 2) (S112 (a0 + 12) v111)) = I (-1) then r = rI 7 SH S112 else (∃ S113, G sc MX7_pairUp 0 [some (.ref a0), some (.int (I l1)), some (.int (I (S112 (a0 + 12) v111))), some (.int (I v103)), none, none] [] SH S112 (rV SH S113) ∧ r = rI 8 SH S113))))))) else (((0 : Int) ≤ l1 ∧ l1 < 48) ∧ r = rI 6 SH (up S108 (a0 + 16) l1 v107))))) else (∃ S114, G sc MX6_remove 0 [some (.ref (a0 + 1)), some (.int (I l1)), none, none, none, none] [] SH S106 (rV SH S114) ∧ (∃ S115, G sc MX6_add 0 [some (.ref (a0 + 1)), some (.int (I v105)), some (.int (I l1)), none, none, none] [] SH S114 (rV SH S115) ∧ r = rI 5 SH S115)))))))) → G sc MX7_befall 108 [some (.ref a0), some (.int (I l1)), some (.int (I l2)), some (.int (I l3)), u4, u5, u6, u7, u8] [] SH S r := by
  refine tt_ld (M := MX7_befall) (pc := 108) dX7_befall_108 rfl rfl rfl rfl rfl ?_
  refine tt_iconst (M := MX7_befall) (pc := 109) dX7_befall_109 ?_
  refine tt_ld (M := MX7_befall) (pc := 110) dX7_befall_110 rfl rfl rfl rfl rfl ?_
  refine tt_getR (M := MX7_befall) (pc := 111) dX7_befall_111 rfl h0.1 rfl ?_
  refine tt_ld (M := MX7_befall) (pc := 114) dX7_befall_114 rfl rfl rfl rfl rfl ?_
  refine tt_vcIN (M := MX7_befall) (pc := 115) dX7_befall_115 rfl rfl [.int (I 1), .ref a0] rfl rfl ⟨rfl, by decide, Nat.le_of_ble_eq_true rfl⟩ h0.2.2.2.2.2.2.2.2.2.2.2.2.1 fun v101 S102 => ?_
  refine tt_ld (M := MX7_befall) (pc := 118) dX7_befall_118 rfl rfl rfl rfl rfl ?_
  refine tt_vcIN (M := MX7_befall) (pc := 119) dX7_befall_119 rfl rfl [] rfl rfl ⟨rfl, by decide, Nat.le_of_ble_eq_true rfl⟩ h0.1 fun v103 S104 => ?_
  refine tt_st (M := MX7_befall) (pc := 122) [some (.ref a0), some (.int (I l1)), some (.int (I l2)), some (.int (I l3)), some (.int (I v103)), u5, u6, u7, u8] dX7_befall_122 rfl rfl rfl rfl rfl rfl ?_
  refine tt_ld (M := MX7_befall) (pc := 124) dX7_befall_124 rfl rfl rfl rfl rfl ?_
  refine tt_ld (M := MX7_befall) (pc := 125) dX7_befall_125 rfl rfl rfl rfl rfl ?_
  refine tt_getR (M := MX7_befall) (pc := 126) dX7_befall_126 rfl h0.1 rfl ?_
  refine tt_getR (M := MX7_befall) (pc := 129) dX7_befall_129 rfl h0.2.2.2.1.1 rfl ?_
  refine tt_ld (M := MX7_befall) (pc := 132) dX7_befall_132 rfl rfl rfl rfl rfl ?_
  refine tt_iaload (M := MX7_befall) (pc := 134) dX7_befall_134 h0.2.2.2.1.2 rfl ?_
  refine tt_vcIN (M := MX7_befall) (pc := 135) dX7_befall_135 rfl rfl [] rfl rfl ⟨rfl, by decide, Nat.le_of_ble_eq_true rfl⟩ h0.1 fun v105 S106 => ?_
  refine tt_st (M := MX7_befall) (pc := 138) [some (.ref a0), some (.int (I l1)), some (.int (I l2)), some (.int (I l3)), some (.int (I v103)), some (.int (I v105)), u6, u7, u8] dX7_befall_138 rfl rfl rfl rfl rfl rfl ?_
  refine tt_ld (M := MX7_befall) (pc := 140) dX7_befall_140 rfl rfl rfl rfl rfl ?_
  refine tt_iconst (M := MX7_befall) (pc := 142) dX7_befall_142 ?_
  refine tt_ic_eq (M := MX7_befall) (pc := 143) 166 dX7_befall_143 rfl ?_ ?_
  · refine tt_ld (M := MX7_befall) (pc := 166) dX7_befall_166 rfl rfl rfl rfl rfl ?_
    refine tt_scIN (M := MX7_befall) (pc := 167) dX7_befall_167 rfl [] rfl rfl ⟨rfl, by decide, Nat.le_of_ble_eq_true rfl⟩ fun v107 S108 => ?_
    refine tt_st (M := MX7_befall) (pc := 170) [some (.ref a0), some (.int (I l1)), some (.int (I l2)), some (.int (I l3)), some (.int (I v103)), some (.int (I v105)), some (.int (I v107)), u7, u8] dX7_befall_170 rfl rfl rfl rfl rfl rfl ?_
    refine tt_ld (M := MX7_befall) (pc := 172) dX7_befall_172 rfl rfl rfl rfl rfl ?_
    refine tt_getR (M := MX7_befall) (pc := 173) dX7_befall_173 rfl h0.1 rfl ?_
    refine tt_ld (M := MX7_befall) (pc := 176) dX7_befall_176 rfl rfl rfl rfl rfl ?_
    refine tt_iaload (M := MX7_befall) (pc := 177) dX7_befall_177 h0.2.2.2.2.2.2.2.2.1 rfl ?_
    refine tt_ld (M := MX7_befall) (pc := 178) dX7_befall_178 rfl rfl rfl rfl rfl ?_
    refine tt_ic_eq (M := MX7_befall) (pc := 180) 194 dX7_befall_180 rfl ?_ ?_
    · refine tt_ld (M := MX7_befall) (pc := 194) dX7_befall_194 rfl rfl rfl rfl rfl ?_
      refine tt_iconst (M := MX7_befall) (pc := 195) dX7_befall_195 ?_
      refine tt_ld (M := MX7_befall) (pc := 196) dX7_befall_196 rfl rfl rfl rfl rfl ?_
      refine tt_getR (M := MX7_befall) (pc := 197) dX7_befall_197 rfl h0.1 rfl ?_
      refine tt_ld (M := MX7_befall) (pc := 200) dX7_befall_200 rfl rfl rfl rfl rfl ?_
      refine tt_vcIN (M := MX7_befall) (pc := 201) dX7_befall_201 rfl rfl [.int (I 0), .ref a0] rfl rfl ⟨rfl, by decide, Nat.le_of_ble_eq_true rfl⟩ h0.2.2.2.2.2.2.2.2.2.2.2.2.1 fun v109 S110 => ?_
      refine tt_ld (M := MX7_befall) (pc := 204) dX7_befall_204 rfl rfl rfl rfl rfl ?_
      refine tt_vcIN (M := MX7_befall) (pc := 205) dX7_befall_205 rfl rfl [] rfl rfl ⟨rfl, by decide, Nat.le_of_ble_eq_true rfl⟩ h0.1 fun v111 S112 => ?_
      refine tt_st (M := MX7_befall) (pc := 208) [some (.ref a0), some (.int (I l1)), some (.int (I l2)), some (.int (I l3)), some (.int (I v103)), some (.int (I v105)), some (.int (I v107)), some (.int (I v111)), u8] dX7_befall_208 rfl rfl rfl rfl rfl rfl ?_
      refine tt_ld (M := MX7_befall) (pc := 210) dX7_befall_210 rfl rfl rfl rfl rfl ?_
      refine tt_getR (M := MX7_befall) (pc := 211) dX7_befall_211 rfl h0.1 rfl ?_
      refine tt_getR (M := MX7_befall) (pc := 214) dX7_befall_214 rfl h0.2.2.2.2.1.1 rfl ?_
      refine tt_ld (M := MX7_befall) (pc := 217) dX7_befall_217 rfl rfl rfl rfl rfl ?_
      refine tt_iaload (M := MX7_befall) (pc := 219) dX7_befall_219 h0.2.2.2.2.1.2 rfl ?_
      refine tt_st (M := MX7_befall) (pc := 220) [some (.ref a0), some (.int (I l1)), some (.int (I l2)), some (.int (I l3)), some (.int (I v103)), some (.int (I v105)), some (.int (I v107)), some (.int (I v111)), some (.int (I (S112 (a0 + 12) v111)))] dX7_befall_220 rfl rfl rfl rfl rfl rfl ?_
      refine tt_ld (M := MX7_befall) (pc := 222) dX7_befall_222 rfl rfl rfl rfl rfl ?_
      refine tt_iconst (M := MX7_befall) (pc := 224) dX7_befall_224 ?_
      refine tt_ic_ne (M := MX7_befall) (pc := 225) 242 dX7_befall_225 rfl ?_ ?_
      · refine tt_ld (M := MX7_befall) (pc := 242) dX7_befall_242 rfl rfl rfl rfl rfl ?_
        refine tt_getR (M := MX7_befall) (pc := 243) dX7_befall_243 rfl h0.1 rfl ?_
        refine tt_getR (M := MX7_befall) (pc := 246) dX7_befall_246 rfl h0.2.1.1 rfl ?_
        refine tt_ld (M := MX7_befall) (pc := 249) dX7_befall_249 rfl rfl rfl rfl rfl ?_
        refine tt_iaload (M := MX7_befall) (pc := 251) dX7_befall_251 h0.2.1.2.1 rfl ?_
        refine tt_iconst (M := MX7_befall) (pc := 252) dX7_befall_252 ?_
        refine tt_ic_ne (M := MX7_befall) (pc := 253) 259 dX7_befall_253 rfl ?_ ?_
        · refine tt_ld (M := MX7_befall) (pc := 259) dX7_befall_259 rfl rfl rfl rfl rfl ?_
          refine tt_ld (M := MX7_befall) (pc := 260) dX7_befall_260 rfl rfl rfl rfl rfl ?_
          refine tt_ld (M := MX7_befall) (pc := 261) dX7_befall_261 rfl rfl rfl rfl rfl ?_
          refine tt_ld (M := MX7_befall) (pc := 263) dX7_befall_263 rfl rfl rfl rfl rfl ?_
          refine tt_vcVN (M := MX7_befall) (pc := 265) dX7_befall_265 rfl rfl [] rfl rfl ⟨rfl, by decide, Nat.le_of_ble_eq_true rfl⟩ h0.1 fun S113 => ?_
          refine tt_bipush (M := MX7_befall) (pc := 268) dX7_befall_268 (by decide) ?_
          exact tt_iret (M := MX7_befall) (pc := 270) dX7_befall_270 rfl
        · refine tt_bipush (M := MX7_befall) (pc := 256) dX7_befall_256 (by decide) ?_
          exact tt_iret (M := MX7_befall) (pc := 258) dX7_befall_258 rfl
      · refine tt_ld (M := MX7_befall) (pc := 228) dX7_befall_228 rfl rfl rfl rfl rfl ?_
        refine tt_getR (M := MX7_befall) (pc := 229) dX7_befall_229 rfl h0.1 rfl ?_
        refine tt_getR (M := MX7_befall) (pc := 232) dX7_befall_232 rfl h0.2.2.2.2.1.1 rfl ?_
        refine tt_ld (M := MX7_befall) (pc := 235) dX7_befall_235 rfl rfl rfl rfl rfl ?_
        refine tt_ld (M := MX7_befall) (pc := 237) dX7_befall_237 rfl rfl rfl rfl rfl ?_
        refine tt_iastore (M := MX7_befall) (pc := 238) dX7_befall_238 h0.2.2.2.2.1.2 rfl ?_
        refine tt_bipush (M := MX7_befall) (pc := 239) dX7_befall_239 (by decide) ?_
        exact tt_iret (M := MX7_befall) (pc := 241) dX7_befall_241 rfl
    · refine tt_ld (M := MX7_befall) (pc := 183) dX7_befall_183 rfl rfl rfl rfl rfl ?_
      refine tt_getR (M := MX7_befall) (pc := 184) dX7_befall_184 rfl h0.1 rfl ?_
      refine tt_ld (M := MX7_befall) (pc := 187) dX7_befall_187 rfl rfl rfl rfl rfl ?_
      refine tt_ld (M := MX7_befall) (pc := 188) dX7_befall_188 rfl rfl rfl rfl rfl ?_
      refine tt_iastore (M := MX7_befall) (pc := 190) dX7_befall_190 h0.2.2.2.2.2.2.2.2.1 rfl ?_
      refine tt_bipush (M := MX7_befall) (pc := 191) dX7_befall_191 (by decide) ?_
      exact tt_iret (M := MX7_befall) (pc := 193) dX7_befall_193 rfl
  · refine tt_ld (M := MX7_befall) (pc := 146) dX7_befall_146 rfl rfl rfl rfl rfl ?_
    refine tt_getR (M := MX7_befall) (pc := 147) dX7_befall_147 rfl h0.1 rfl ?_
    refine tt_ld (M := MX7_befall) (pc := 150) dX7_befall_150 rfl rfl rfl rfl rfl ?_
    refine tt_vcVN (M := MX7_befall) (pc := 151) dX7_befall_151 rfl rfl [] rfl rfl ⟨rfl, by decide, Nat.le_of_ble_eq_true rfl⟩ h0.2.1.1 fun S114 => ?_
    refine tt_ld (M := MX7_befall) (pc := 154) dX7_befall_154 rfl rfl rfl rfl rfl ?_
    refine tt_getR (M := MX7_befall) (pc := 155) dX7_befall_155 rfl h0.1 rfl ?_
    refine tt_ld (M := MX7_befall) (pc := 158) dX7_befall_158 rfl rfl rfl rfl rfl ?_
    refine tt_ld (M := MX7_befall) (pc := 160) dX7_befall_160 rfl rfl rfl rfl rfl ?_
    refine tt_vcVN (M := MX7_befall) (pc := 161) dX7_befall_161 rfl rfl [] rfl rfl ⟨rfl, by decide, Nat.le_of_ble_eq_true rfl⟩ h0.2.1.1 fun S115 => ?_
    refine tt_iconst (M := MX7_befall) (pc := 164) dX7_befall_164 ?_
    exact tt_iret (M := MX7_befall) (pc := 165) dX7_befall_165 rfl
theorem qX7_seek_0 {sc : Nat × (Nat → Int32)} {SH : List mCell} {S : mStore} {r : mR × mW} {a0 : Nat} (h0 : sState SH a0) {l1 : Int} {l2 : Int} {l3 : Int} {u4 : Option Value} {u5 : Option Value} {u6 : Option Value} {u7 : Option Value} {u8 : Option Value} {u9 : Option Value} : ((if I l1 = I 0 then (((0 : Int) ≤ 96 + l2 ∧ 96 + l2 < 99) ∧ G sc MX7_seek 39 [some (.ref a0), some (.int (I l1)), some (.int (I l2)), some (.int (I l3)), some (.ref (a0 + 12)), some (.int (I (96 + l2))), some (.int (I (S (a0 + 12) (96 + l2)))), some (.int (I 0)), u8, u9] [] SH S r) else (((0 : Int) ≤ 96 + l2 ∧ 96 + l2 < 99) ∧ G sc MX7_seek 39 [some (.ref a0), some (.int (I l1)), some (.int (I l2)), some (.int (I l3)), some (.ref (a0 + 10)), some (.int (I (96 + l2))), some (.int (I (S (a0 + 10) (96 + l2)))), some (.int (I 0)), u8, u9] [] SH S r))) → G sc MX7_seek 0 [some (.ref a0), some (.int (I l1)), some (.int (I l2)), some (.int (I l3)), u4, u5, u6, u7, u8, u9] [] SH S r := by
  refine tt_ld (M := MX7_seek) (pc := 0) dX7_seek_0 rfl rfl rfl rfl rfl ?_
  refine tt_if_eq (M := MX7_seek) (pc := 1) 14 dX7_seek_1 rfl ?_ ?_
  · refine tt_ld (M := MX7_seek) (pc := 14) dX7_seek_14 rfl rfl rfl rfl rfl ?_
    refine tt_getR (M := MX7_seek) (pc := 15) dX7_seek_15 rfl h0.1 rfl ?_
    refine tt_getR (M := MX7_seek) (pc := 18) dX7_seek_18 rfl h0.2.2.2.2.1.1 rfl ?_
    refine tt_st (M := MX7_seek) (pc := 21) [some (.ref a0), some (.int (I l1)), some (.int (I l2)), some (.int (I l3)), some (.ref (a0 + 12)), u5, u6, u7, u8, u9] dX7_seek_21 rfl rfl rfl rfl rfl rfl ?_
    refine tt_bipush (M := MX7_seek) (pc := 23) dX7_seek_23 (by decide) ?_
    refine tt_ld (M := MX7_seek) (pc := 25) dX7_seek_25 rfl rfl rfl rfl rfl ?_
    refine tt_iadd (M := MX7_seek) (pc := 26) dX7_seek_26 ?_
    refine tt_st (M := MX7_seek) (pc := 27) [some (.ref a0), some (.int (I l1)), some (.int (I l2)), some (.int (I l3)), some (.ref (a0 + 12)), some (.int (I (96 + l2))), u6, u7, u8, u9] dX7_seek_27 rfl rfl rfl rfl rfl rfl ?_
    refine tt_ld (M := MX7_seek) (pc := 29) dX7_seek_29 rfl rfl rfl rfl rfl ?_
    refine tt_ld (M := MX7_seek) (pc := 31) dX7_seek_31 rfl rfl rfl rfl rfl ?_
    refine tt_iaload (M := MX7_seek) (pc := 33) dX7_seek_33 h0.2.2.2.2.1.2 rfl ?_
    refine tt_st (M := MX7_seek) (pc := 34) [some (.ref a0), some (.int (I l1)), some (.int (I l2)), some (.int (I l3)), some (.ref (a0 + 12)), some (.int (I (96 + l2))), some (.int (I (S (a0 + 12) (96 + l2)))), u7, u8, u9] dX7_seek_34 rfl rfl rfl rfl rfl rfl ?_
    refine tt_iconst (M := MX7_seek) (pc := 36) dX7_seek_36 ?_
    refine tt_st (M := MX7_seek) (pc := 37) [some (.ref a0), some (.int (I l1)), some (.int (I l2)), some (.int (I l3)), some (.ref (a0 + 12)), some (.int (I (96 + l2))), some (.int (I (S (a0 + 12) (96 + l2)))), some (.int (I 0)), u8, u9] dX7_seek_37 rfl rfl rfl rfl rfl rfl ?_
    exact id
  · refine tt_ld (M := MX7_seek) (pc := 4) dX7_seek_4 rfl rfl rfl rfl rfl ?_
    refine tt_getR (M := MX7_seek) (pc := 5) dX7_seek_5 rfl h0.1 rfl ?_
    refine tt_getR (M := MX7_seek) (pc := 8) dX7_seek_8 rfl h0.2.2.2.1.1 rfl ?_
    refine tt_goto (M := MX7_seek) (pc := 11) 21 dX7_seek_11 rfl ?_
    refine tt_st (M := MX7_seek) (pc := 21) [some (.ref a0), some (.int (I l1)), some (.int (I l2)), some (.int (I l3)), some (.ref (a0 + 10)), u5, u6, u7, u8, u9] dX7_seek_21 rfl rfl rfl rfl rfl rfl ?_
    refine tt_bipush (M := MX7_seek) (pc := 23) dX7_seek_23 (by decide) ?_
    refine tt_ld (M := MX7_seek) (pc := 25) dX7_seek_25 rfl rfl rfl rfl rfl ?_
    refine tt_iadd (M := MX7_seek) (pc := 26) dX7_seek_26 ?_
    refine tt_st (M := MX7_seek) (pc := 27) [some (.ref a0), some (.int (I l1)), some (.int (I l2)), some (.int (I l3)), some (.ref (a0 + 10)), some (.int (I (96 + l2))), u6, u7, u8, u9] dX7_seek_27 rfl rfl rfl rfl rfl rfl ?_
    refine tt_ld (M := MX7_seek) (pc := 29) dX7_seek_29 rfl rfl rfl rfl rfl ?_
    refine tt_ld (M := MX7_seek) (pc := 31) dX7_seek_31 rfl rfl rfl rfl rfl ?_
    refine tt_iaload (M := MX7_seek) (pc := 33) dX7_seek_33 h0.2.2.2.1.2 rfl ?_
    refine tt_st (M := MX7_seek) (pc := 34) [some (.ref a0), some (.int (I l1)), some (.int (I l2)), some (.int (I l3)), some (.ref (a0 + 10)), some (.int (I (96 + l2))), some (.int (I (S (a0 + 10) (96 + l2)))), u7, u8, u9] dX7_seek_34 rfl rfl rfl rfl rfl rfl ?_
    refine tt_iconst (M := MX7_seek) (pc := 36) dX7_seek_36 ?_
    refine tt_st (M := MX7_seek) (pc := 37) [some (.ref a0), some (.int (I l1)), some (.int (I l2)), some (.int (I l3)), some (.ref (a0 + 10)), some (.int (I (96 + l2))), some (.int (I (S (a0 + 10) (96 + l2)))), some (.int (I 0)), u8, u9] dX7_seek_37 rfl rfl rfl rfl rfl rfl ?_
    exact id
theorem qX7_seek_39 {sc : Nat × (Nat → Int32)} {SH : List mCell} {S : mStore} {r : mR × mW} {a0 ys021 : Nat} (h0 : sState SH a0) (hys021 : ar SH ys021 99) {l1 : Int} {l2 : Int} {l3 : Int} {l5 : Int} {l6 : Int} {l7 : Int} {u8 : Option Value} {u9 : Option Value} : ((if I 48 ≤ I l7 then r = rI l5 SH S else (if I l6 = I (-1) then r = rI l5 SH S else (if I l1 = I 0 then (((0 : Int) ≤ l6 ∧ l6 < 48) ∧ (if I (S (a0 + 2) l6) = I (-1) then (if I 0 = I 0 then r = rI l5 SH S else (if I 0 ≤ I 0 then G sc MX7_seek 131 [some (.ref a0), some (.int (I l1)), some (.int (I l2)), some (.int (I l3)), some (.ref ys021), some (.int (I l5)), some (.int (I l6)), some (.int (I l7)), some (.int (I (S (a0 + 2) l6))), some (.int (I 0))] [.int (I ((2 * l6) + 1))] SH S r else G sc MX7_seek 131 [some (.ref a0), some (.int (I l1)), some (.int (I l2)), some (.int (I l3)), some (.ref ys021), some (.int (I l5)), some (.int (I l6)), some (.int (I l7)), some (.int (I (S (a0 + 2) l6))), some (.int (I 0))] [.int (I (2 * l6))] SH S r)) else (((0 : Int) ≤ S (a0 + 2) l6 ∧ S (a0 + 2) l6 < 48) ∧ (∃ v101 S102, G sc MX7_compared 0 [some (.ref a0), some (.int (I l3)), some (.int (I (S (a0 + 13) (S (a0 + 2) l6)))), none, none] [] SH S (rI v101 SH S102) ∧ (if I v101 = I 0 then r = rI l5 SH S102 else (if I 0 ≤ I v101 then G sc MX7_seek 131 [some (.ref a0), some (.int (I l1)), some (.int (I l2)), some (.int (I l3)), some (.ref ys021), some (.int (I l5)), some (.int (I l6)), some (.int (I l7)), some (.int (I (S (a0 + 2) l6))), some (.int (I v101))] [.int (I ((2 * l6) + 1))] SH S102 r else G sc MX7_seek 131 [some (.ref a0), some (.int (I l1)), some (.int (I l2)), some (.int (I l3)), some (.ref ys021), some (.int (I l5)), some (.int (I l6)), some (.int (I l7)), some (.int (I (S (a0 + 2) l6))), some (.int (I v101))] [.int (I (2 * l6))] SH S102 r)))))) else (((0 : Int) ≤ l6 ∧ l6 < 48) ∧ (if I (S (a0 + 8) l6) = I (-1) then (if I 0 = I 0 then r = rI l5 SH S else (if I 0 ≤ I 0 then G sc MX7_seek 131 [some (.ref a0), some (.int (I l1)), some (.int (I l2)), some (.int (I l3)), some (.ref ys021), some (.int (I l5)), some (.int (I l6)), some (.int (I l7)), some (.int (I (S (a0 + 8) l6))), some (.int (I 0))] [.int (I ((2 * l6) + 1))] SH S r else G sc MX7_seek 131 [some (.ref a0), some (.int (I l1)), some (.int (I l2)), some (.int (I l3)), some (.ref ys021), some (.int (I l5)), some (.int (I l6)), some (.int (I l7)), some (.int (I (S (a0 + 8) l6))), some (.int (I 0))] [.int (I (2 * l6))] SH S r)) else (((0 : Int) ≤ S (a0 + 8) l6 ∧ S (a0 + 8) l6 < 48) ∧ (∃ v103 S104, G sc MX7_compared 0 [some (.ref a0), some (.int (I l3)), some (.int (I (S (a0 + 13) (S (a0 + 8) l6)))), none, none] [] SH S (rI v103 SH S104) ∧ (if I v103 = I 0 then r = rI l5 SH S104 else (if I 0 ≤ I v103 then G sc MX7_seek 131 [some (.ref a0), some (.int (I l1)), some (.int (I l2)), some (.int (I l3)), some (.ref ys021), some (.int (I l5)), some (.int (I l6)), some (.int (I l7)), some (.int (I (S (a0 + 8) l6))), some (.int (I v103))] [.int (I ((2 * l6) + 1))] SH S104 r else G sc MX7_seek 131 [some (.ref a0), some (.int (I l1)), some (.int (I l2)), some (.int (I l3)), some (.ref ys021), some (.int (I l5)), some (.int (I l6)), some (.int (I l7)), some (.int (I (S (a0 + 8) l6))), some (.int (I v103))] [.int (I (2 * l6))] SH S104 r)))))))))) → G sc MX7_seek 39 [some (.ref a0), some (.int (I l1)), some (.int (I l2)), some (.int (I l3)), some (.ref ys021), some (.int (I l5)), some (.int (I l6)), some (.int (I l7)), u8, u9] [] SH S r := by
  refine tt_ld (M := MX7_seek) (pc := 39) dX7_seek_39 rfl rfl rfl rfl rfl ?_
  refine tt_bipush (M := MX7_seek) (pc := 41) dX7_seek_41 (by decide) ?_
  refine tt_ic_ge (M := MX7_seek) (pc := 43) 146 dX7_seek_43 rfl ?_ ?_
  · refine tt_ld (M := MX7_seek) (pc := 146) dX7_seek_146 rfl rfl rfl rfl rfl ?_
    exact tt_iret (M := MX7_seek) (pc := 148) dX7_seek_148 rfl
  · refine tt_ld (M := MX7_seek) (pc := 46) dX7_seek_46 rfl rfl rfl rfl rfl ?_
    refine tt_iconst (M := MX7_seek) (pc := 48) dX7_seek_48 ?_
    refine tt_ic_eq (M := MX7_seek) (pc := 49) 146 dX7_seek_49 rfl ?_ ?_
    · refine tt_ld (M := MX7_seek) (pc := 146) dX7_seek_146 rfl rfl rfl rfl rfl ?_
      exact tt_iret (M := MX7_seek) (pc := 148) dX7_seek_148 rfl
    · refine tt_ld (M := MX7_seek) (pc := 52) dX7_seek_52 rfl rfl rfl rfl rfl ?_
      refine tt_if_eq (M := MX7_seek) (pc := 53) 69 dX7_seek_53 rfl ?_ ?_
      · refine tt_ld (M := MX7_seek) (pc := 69) dX7_seek_69 rfl rfl rfl rfl rfl ?_
        refine tt_getR (M := MX7_seek) (pc := 70) dX7_seek_70 rfl h0.1 rfl ?_
        refine tt_getR (M := MX7_seek) (pc := 73) dX7_seek_73 rfl h0.2.1.1 rfl ?_
        refine tt_ld (M := MX7_seek) (pc := 76) dX7_seek_76 rfl rfl rfl rfl rfl ?_
        refine tt_iaload (M := MX7_seek) (pc := 78) dX7_seek_78 h0.2.1.2.1 rfl ?_
        refine tt_st (M := MX7_seek) (pc := 79) [some (.ref a0), some (.int (I l1)), some (.int (I l2)), some (.int (I l3)), some (.ref ys021), some (.int (I l5)), some (.int (I l6)), some (.int (I l7)), some (.int (I (S (a0 + 2) l6))), u9] dX7_seek_79 rfl rfl rfl rfl rfl rfl ?_
        refine tt_ld (M := MX7_seek) (pc := 81) dX7_seek_81 rfl rfl rfl rfl rfl ?_
        refine tt_iconst (M := MX7_seek) (pc := 83) dX7_seek_83 ?_
        refine tt_ic_ne (M := MX7_seek) (pc := 84) 91 dX7_seek_84 rfl ?_ ?_
        · refine tt_ld (M := MX7_seek) (pc := 91) dX7_seek_91 rfl rfl rfl rfl rfl ?_
          refine tt_ld (M := MX7_seek) (pc := 92) dX7_seek_92 rfl rfl rfl rfl rfl ?_
          refine tt_ld (M := MX7_seek) (pc := 93) dX7_seek_93 rfl rfl rfl rfl rfl ?_
          refine tt_getR (M := MX7_seek) (pc := 94) dX7_seek_94 rfl h0.1 rfl ?_
          refine tt_ld (M := MX7_seek) (pc := 97) dX7_seek_97 rfl rfl rfl rfl rfl ?_
          refine tt_iaload (M := MX7_seek) (pc := 99) dX7_seek_99 h0.2.2.2.2.2.1 rfl ?_
          refine tt_vcIN (M := MX7_seek) (pc := 100) dX7_seek_100 rfl rfl [] rfl rfl ⟨rfl, by decide, Nat.le_of_ble_eq_true rfl⟩ h0.1 fun v101 S102 => ?_
          refine tt_st (M := MX7_seek) (pc := 103) [some (.ref a0), some (.int (I l1)), some (.int (I l2)), some (.int (I l3)), some (.ref ys021), some (.int (I l5)), some (.int (I l6)), some (.int (I l7)), some (.int (I (S (a0 + 2) l6))), some (.int (I v101))] dX7_seek_103 rfl rfl rfl rfl rfl rfl ?_
          refine tt_ld (M := MX7_seek) (pc := 105) dX7_seek_105 rfl rfl rfl rfl rfl ?_
          refine tt_if_ne (M := MX7_seek) (pc := 107) 113 dX7_seek_107 rfl ?_ ?_
          · refine tt_ld (M := MX7_seek) (pc := 113) dX7_seek_113 rfl rfl rfl rfl rfl ?_
            refine tt_if_ge (M := MX7_seek) (pc := 115) 125 dX7_seek_115 rfl ?_ ?_
            · refine tt_iconst (M := MX7_seek) (pc := 125) dX7_seek_125 ?_
              refine tt_ld (M := MX7_seek) (pc := 126) dX7_seek_126 rfl rfl rfl rfl rfl ?_
              refine tt_imul (M := MX7_seek) (pc := 128) dX7_seek_128 ?_
              refine tt_iconst (M := MX7_seek) (pc := 129) dX7_seek_129 ?_
              refine tt_iadd (M := MX7_seek) (pc := 130) dX7_seek_130 ?_
              exact id
            · refine tt_iconst (M := MX7_seek) (pc := 118) dX7_seek_118 ?_
              refine tt_ld (M := MX7_seek) (pc := 119) dX7_seek_119 rfl rfl rfl rfl rfl ?_
              refine tt_imul (M := MX7_seek) (pc := 121) dX7_seek_121 ?_
              refine tt_goto (M := MX7_seek) (pc := 122) 131 dX7_seek_122 rfl ?_
              exact id
          · refine tt_ld (M := MX7_seek) (pc := 110) dX7_seek_110 rfl rfl rfl rfl rfl ?_
            exact tt_iret (M := MX7_seek) (pc := 112) dX7_seek_112 rfl
        · refine tt_iconst (M := MX7_seek) (pc := 87) dX7_seek_87 ?_
          refine tt_goto (M := MX7_seek) (pc := 88) 103 dX7_seek_88 rfl ?_
          refine tt_st (M := MX7_seek) (pc := 103) [some (.ref a0), some (.int (I l1)), some (.int (I l2)), some (.int (I l3)), some (.ref ys021), some (.int (I l5)), some (.int (I l6)), some (.int (I l7)), some (.int (I (S (a0 + 2) l6))), some (.int (I 0))] dX7_seek_103 rfl rfl rfl rfl rfl rfl ?_
          refine tt_ld (M := MX7_seek) (pc := 105) dX7_seek_105 rfl rfl rfl rfl rfl ?_
          refine tt_if_ne (M := MX7_seek) (pc := 107) 113 dX7_seek_107 rfl ?_ ?_
          · refine tt_ld (M := MX7_seek) (pc := 113) dX7_seek_113 rfl rfl rfl rfl rfl ?_
            refine tt_if_ge (M := MX7_seek) (pc := 115) 125 dX7_seek_115 rfl ?_ ?_
            · refine tt_iconst (M := MX7_seek) (pc := 125) dX7_seek_125 ?_
              refine tt_ld (M := MX7_seek) (pc := 126) dX7_seek_126 rfl rfl rfl rfl rfl ?_
              refine tt_imul (M := MX7_seek) (pc := 128) dX7_seek_128 ?_
              refine tt_iconst (M := MX7_seek) (pc := 129) dX7_seek_129 ?_
              refine tt_iadd (M := MX7_seek) (pc := 130) dX7_seek_130 ?_
              exact id
            · refine tt_iconst (M := MX7_seek) (pc := 118) dX7_seek_118 ?_
              refine tt_ld (M := MX7_seek) (pc := 119) dX7_seek_119 rfl rfl rfl rfl rfl ?_
              refine tt_imul (M := MX7_seek) (pc := 121) dX7_seek_121 ?_
              refine tt_goto (M := MX7_seek) (pc := 122) 131 dX7_seek_122 rfl ?_
              exact id
          · refine tt_ld (M := MX7_seek) (pc := 110) dX7_seek_110 rfl rfl rfl rfl rfl ?_
            exact tt_iret (M := MX7_seek) (pc := 112) dX7_seek_112 rfl
      · refine tt_ld (M := MX7_seek) (pc := 56) dX7_seek_56 rfl rfl rfl rfl rfl ?_
        refine tt_getR (M := MX7_seek) (pc := 57) dX7_seek_57 rfl h0.1 rfl ?_
        refine tt_getR (M := MX7_seek) (pc := 60) dX7_seek_60 rfl h0.2.2.1.1 rfl ?_
        refine tt_ld (M := MX7_seek) (pc := 63) dX7_seek_63 rfl rfl rfl rfl rfl ?_
        refine tt_iaload (M := MX7_seek) (pc := 65) dX7_seek_65 h0.2.2.1.2.2.2 rfl ?_
        refine tt_goto (M := MX7_seek) (pc := 66) 79 dX7_seek_66 rfl ?_
        refine tt_st (M := MX7_seek) (pc := 79) [some (.ref a0), some (.int (I l1)), some (.int (I l2)), some (.int (I l3)), some (.ref ys021), some (.int (I l5)), some (.int (I l6)), some (.int (I l7)), some (.int (I (S (a0 + 8) l6))), u9] dX7_seek_79 rfl rfl rfl rfl rfl rfl ?_
        refine tt_ld (M := MX7_seek) (pc := 81) dX7_seek_81 rfl rfl rfl rfl rfl ?_
        refine tt_iconst (M := MX7_seek) (pc := 83) dX7_seek_83 ?_
        refine tt_ic_ne (M := MX7_seek) (pc := 84) 91 dX7_seek_84 rfl ?_ ?_
        · refine tt_ld (M := MX7_seek) (pc := 91) dX7_seek_91 rfl rfl rfl rfl rfl ?_
          refine tt_ld (M := MX7_seek) (pc := 92) dX7_seek_92 rfl rfl rfl rfl rfl ?_
          refine tt_ld (M := MX7_seek) (pc := 93) dX7_seek_93 rfl rfl rfl rfl rfl ?_
          refine tt_getR (M := MX7_seek) (pc := 94) dX7_seek_94 rfl h0.1 rfl ?_
          refine tt_ld (M := MX7_seek) (pc := 97) dX7_seek_97 rfl rfl rfl rfl rfl ?_
          refine tt_iaload (M := MX7_seek) (pc := 99) dX7_seek_99 h0.2.2.2.2.2.1 rfl ?_
          refine tt_vcIN (M := MX7_seek) (pc := 100) dX7_seek_100 rfl rfl [] rfl rfl ⟨rfl, by decide, Nat.le_of_ble_eq_true rfl⟩ h0.1 fun v103 S104 => ?_
          refine tt_st (M := MX7_seek) (pc := 103) [some (.ref a0), some (.int (I l1)), some (.int (I l2)), some (.int (I l3)), some (.ref ys021), some (.int (I l5)), some (.int (I l6)), some (.int (I l7)), some (.int (I (S (a0 + 8) l6))), some (.int (I v103))] dX7_seek_103 rfl rfl rfl rfl rfl rfl ?_
          refine tt_ld (M := MX7_seek) (pc := 105) dX7_seek_105 rfl rfl rfl rfl rfl ?_
          refine tt_if_ne (M := MX7_seek) (pc := 107) 113 dX7_seek_107 rfl ?_ ?_
          · refine tt_ld (M := MX7_seek) (pc := 113) dX7_seek_113 rfl rfl rfl rfl rfl ?_
            refine tt_if_ge (M := MX7_seek) (pc := 115) 125 dX7_seek_115 rfl ?_ ?_
            · refine tt_iconst (M := MX7_seek) (pc := 125) dX7_seek_125 ?_
              refine tt_ld (M := MX7_seek) (pc := 126) dX7_seek_126 rfl rfl rfl rfl rfl ?_
              refine tt_imul (M := MX7_seek) (pc := 128) dX7_seek_128 ?_
              refine tt_iconst (M := MX7_seek) (pc := 129) dX7_seek_129 ?_
              refine tt_iadd (M := MX7_seek) (pc := 130) dX7_seek_130 ?_
              exact id
            · refine tt_iconst (M := MX7_seek) (pc := 118) dX7_seek_118 ?_
              refine tt_ld (M := MX7_seek) (pc := 119) dX7_seek_119 rfl rfl rfl rfl rfl ?_
              refine tt_imul (M := MX7_seek) (pc := 121) dX7_seek_121 ?_
              refine tt_goto (M := MX7_seek) (pc := 122) 131 dX7_seek_122 rfl ?_
              exact id
          · refine tt_ld (M := MX7_seek) (pc := 110) dX7_seek_110 rfl rfl rfl rfl rfl ?_
            exact tt_iret (M := MX7_seek) (pc := 112) dX7_seek_112 rfl
        · refine tt_iconst (M := MX7_seek) (pc := 87) dX7_seek_87 ?_
          refine tt_goto (M := MX7_seek) (pc := 88) 103 dX7_seek_88 rfl ?_
          refine tt_st (M := MX7_seek) (pc := 103) [some (.ref a0), some (.int (I l1)), some (.int (I l2)), some (.int (I l3)), some (.ref ys021), some (.int (I l5)), some (.int (I l6)), some (.int (I l7)), some (.int (I (S (a0 + 8) l6))), some (.int (I 0))] dX7_seek_103 rfl rfl rfl rfl rfl rfl ?_
          refine tt_ld (M := MX7_seek) (pc := 105) dX7_seek_105 rfl rfl rfl rfl rfl ?_
          refine tt_if_ne (M := MX7_seek) (pc := 107) 113 dX7_seek_107 rfl ?_ ?_
          · refine tt_ld (M := MX7_seek) (pc := 113) dX7_seek_113 rfl rfl rfl rfl rfl ?_
            refine tt_if_ge (M := MX7_seek) (pc := 115) 125 dX7_seek_115 rfl ?_ ?_
            · refine tt_iconst (M := MX7_seek) (pc := 125) dX7_seek_125 ?_
              refine tt_ld (M := MX7_seek) (pc := 126) dX7_seek_126 rfl rfl rfl rfl rfl ?_
              refine tt_imul (M := MX7_seek) (pc := 128) dX7_seek_128 ?_
              refine tt_iconst (M := MX7_seek) (pc := 129) dX7_seek_129 ?_
              refine tt_iadd (M := MX7_seek) (pc := 130) dX7_seek_130 ?_
              exact id
            · refine tt_iconst (M := MX7_seek) (pc := 118) dX7_seek_118 ?_
              refine tt_ld (M := MX7_seek) (pc := 119) dX7_seek_119 rfl rfl rfl rfl rfl ?_
              refine tt_imul (M := MX7_seek) (pc := 121) dX7_seek_121 ?_
              refine tt_goto (M := MX7_seek) (pc := 122) 131 dX7_seek_122 rfl ?_
              exact id
          · refine tt_ld (M := MX7_seek) (pc := 110) dX7_seek_110 rfl rfl rfl rfl rfl ?_
            exact tt_iret (M := MX7_seek) (pc := 112) dX7_seek_112 rfl
theorem qX7_seek_131 {sc : Nat × (Nat → Int32)} {SH : List mCell} {S : mStore} {r : mR × mW} {a0 ys021 : Nat} (h0 : sState SH a0) (hys021 : ar SH ys021 99) {l1 : Int} {l2 : Int} {l3 : Int} {l5 : Int} {l6 : Int} {l7 : Int} {l8 : Int} {l9 : Int} {s0 : Int} : ((((0 : Int) ≤ s0 ∧ s0 < 99) ∧ G sc MX7_seek 39 [some (.ref a0), some (.int (I l1)), some (.int (I l2)), some (.int (I l3)), some (.ref ys021), some (.int (I s0)), some (.int (I (S ys021 s0))), some (.int (I (l7 + 1))), some (.int (I l8)), some (.int (I l9))] [] SH S r)) → G sc MX7_seek 131 [some (.ref a0), some (.int (I l1)), some (.int (I l2)), some (.int (I l3)), some (.ref ys021), some (.int (I l5)), some (.int (I l6)), some (.int (I l7)), some (.int (I l8)), some (.int (I l9))] [.int (I s0)] SH S r := by
  refine tt_st (M := MX7_seek) (pc := 131) [some (.ref a0), some (.int (I l1)), some (.int (I l2)), some (.int (I l3)), some (.ref ys021), some (.int (I s0)), some (.int (I l6)), some (.int (I l7)), some (.int (I l8)), some (.int (I l9))] dX7_seek_131 rfl rfl rfl rfl rfl rfl ?_
  refine tt_ld (M := MX7_seek) (pc := 133) dX7_seek_133 rfl rfl rfl rfl rfl ?_
  refine tt_ld (M := MX7_seek) (pc := 135) dX7_seek_135 rfl rfl rfl rfl rfl ?_
  refine tt_iaload (M := MX7_seek) (pc := 137) dX7_seek_137 hys021 rfl ?_
  refine tt_st (M := MX7_seek) (pc := 138) [some (.ref a0), some (.int (I l1)), some (.int (I l2)), some (.int (I l3)), some (.ref ys021), some (.int (I s0)), some (.int (I (S ys021 s0))), some (.int (I l7)), some (.int (I l8)), some (.int (I l9))] dX7_seek_138 rfl rfl rfl rfl rfl rfl ?_
  refine tt_iinc (M := MX7_seek) (pc := 140) [some (.ref a0), some (.int (I l1)), some (.int (I l2)), some (.int (I l3)), some (.ref ys021), some (.int (I s0)), some (.int (I (S ys021 s0))), some (.int (I (l7 + 1))), some (.int (I l8)), some (.int (I l9))] dX7_seek_140 rfl rfl ?_
  refine tt_goto (M := MX7_seek) (pc := 143) 39 dX7_seek_143 rfl ?_
  exact id
theorem qX7_compared_0 {sc : Nat × (Nat → Int32)} {SH : List mCell} {S : mStore} {r : mR × mW} {a0 : Nat} (h0 : sState SH a0) {l1 : Int} {l2 : Int} {u3 : Option Value} {u4 : Option Value} : (G sc MX7_compared 3 [some (.ref a0), some (.int (I l1)), some (.int (I l2)), some (.int (I 12)), u4] [] SH S r) → G sc MX7_compared 0 [some (.ref a0), some (.int (I l1)), some (.int (I l2)), u3, u4] [] SH S r := by
  refine tt_bipush (M := MX7_compared) (pc := 0) dX7_compared_0 (by decide) ?_
  refine tt_st (M := MX7_compared) (pc := 2) [some (.ref a0), some (.int (I l1)), some (.int (I l2)), some (.int (I 12)), u4] dX7_compared_2 rfl rfl rfl rfl rfl rfl ?_
  exact id
theorem qX7_compared_3 {sc : Nat × (Nat → Int32)} {SH : List mCell} {S : mStore} {r : mR × mW} {a0 : Nat} (h0 : sState SH a0) {l1 : Int} {l2 : Int} {l3 : Int} {u4 : Option Value} : ((if I l3 < I 0 then r = rI 0 SH S else (((0 : Int) ≤ 3 ∧ (3 : Int) < 12) ∧ (((0 : Int) ≤ 3 ∧ (3 : Int) < 12) ∧ (if I ((ian (isr l1 l3) 15) - (ian (isr l2 l3) 15)) = I 0 then G sc MX7_compared 3 [some (.ref a0), some (.int (I l1)), some (.int (I l2)), some (.int (I (l3 + (-4)))), some (.int (I ((ian (isr l1 l3) 15) - (ian (isr l2 l3) 15))))] [] SH (up S (a0 + 19) 3 ((S (a0 + 19) 3) + 1)) r else r = rI ((ian (isr l1 l3) 15) - (ian (isr l2 l3) 15)) SH (up S (a0 + 19) 3 ((S (a0 + 19) 3) + 1))))))) → G sc MX7_compared 3 [some (.ref a0), some (.int (I l1)), some (.int (I l2)), some (.int (I l3)), u4] [] SH S r := by
  refine tt_ld (M := MX7_compared) (pc := 3) dX7_compared_3 rfl rfl rfl rfl rfl ?_
  refine tt_if_lt (M := MX7_compared) (pc := 4) 46 dX7_compared_4 rfl ?_ ?_
  · refine tt_iconst (M := MX7_compared) (pc := 46) dX7_compared_46 ?_
    exact tt_iret (M := MX7_compared) (pc := 47) dX7_compared_47 rfl
  · refine tt_ld (M := MX7_compared) (pc := 7) dX7_compared_7 rfl rfl rfl rfl rfl ?_
    refine tt_getR (M := MX7_compared) (pc := 8) dX7_compared_8 rfl h0.1 rfl ?_
    refine tt_iconst (M := MX7_compared) (pc := 11) dX7_compared_11 ?_
    refine tt_dup2 (M := MX7_compared) (pc := 12) dX7_compared_12 rfl rfl ?_
    refine tt_iaload (M := MX7_compared) (pc := 13) dX7_compared_13 h0.2.2.2.2.2.2.2.2.2.2.2.1 rfl ?_
    refine tt_iconst (M := MX7_compared) (pc := 14) dX7_compared_14 ?_
    refine tt_iadd (M := MX7_compared) (pc := 15) dX7_compared_15 ?_
    refine tt_iastore (M := MX7_compared) (pc := 16) dX7_compared_16 h0.2.2.2.2.2.2.2.2.2.2.2.1 rfl ?_
    refine tt_ld (M := MX7_compared) (pc := 17) dX7_compared_17 rfl rfl rfl rfl rfl ?_
    refine tt_ld (M := MX7_compared) (pc := 18) dX7_compared_18 rfl rfl rfl rfl rfl ?_
    refine tt_ishr (M := MX7_compared) (pc := 19) dX7_compared_19 ?_
    refine tt_bipush (M := MX7_compared) (pc := 20) dX7_compared_20 (by decide) ?_
    refine tt_iand (M := MX7_compared) (pc := 22) dX7_compared_22 ?_
    refine tt_ld (M := MX7_compared) (pc := 23) dX7_compared_23 rfl rfl rfl rfl rfl ?_
    refine tt_ld (M := MX7_compared) (pc := 24) dX7_compared_24 rfl rfl rfl rfl rfl ?_
    refine tt_ishr (M := MX7_compared) (pc := 25) dX7_compared_25 ?_
    refine tt_bipush (M := MX7_compared) (pc := 26) dX7_compared_26 (by decide) ?_
    refine tt_iand (M := MX7_compared) (pc := 28) dX7_compared_28 ?_
    refine tt_isub (M := MX7_compared) (pc := 29) dX7_compared_29 ?_
    refine tt_st (M := MX7_compared) (pc := 30) [some (.ref a0), some (.int (I l1)), some (.int (I l2)), some (.int (I l3)), some (.int (I ((ian (isr l1 l3) 15) - (ian (isr l2 l3) 15))))] dX7_compared_30 rfl rfl rfl rfl rfl rfl ?_
    refine tt_ld (M := MX7_compared) (pc := 32) dX7_compared_32 rfl rfl rfl rfl rfl ?_
    refine tt_if_eq (M := MX7_compared) (pc := 34) 40 dX7_compared_34 rfl ?_ ?_
    · refine tt_iinc (M := MX7_compared) (pc := 40) [some (.ref a0), some (.int (I l1)), some (.int (I l2)), some (.int (I (l3 + (-4)))), some (.int (I ((ian (isr l1 l3) 15) - (ian (isr l2 l3) 15))))] dX7_compared_40 rfl rfl ?_
      refine tt_goto (M := MX7_compared) (pc := 43) 3 dX7_compared_43 rfl ?_
      exact id
    · refine tt_ld (M := MX7_compared) (pc := 37) dX7_compared_37 rfl rfl rfl rfl rfl ?_
      exact tt_iret (M := MX7_compared) (pc := 39) dX7_compared_39 rfl
theorem qX7_sumOf_0 {sc : Nat × (Nat → Int32)} {SH : List mCell} {S : mStore} {r : mR × mW} {l0 : Int} : ((∃ v101 S102, G sc MX10_cellOf 0 [some (.int (I l0)), some (.int (I 0))] [] SH S (rI v101 SH S102) ∧ (∃ v103 S104, G sc MX10_cellOf 0 [some (.int (I l0)), some (.int (I 1))] [] SH S102 (rI v103 SH S104) ∧ (∃ v105 S106, G sc MX10_cellOf 0 [some (.int (I l0)), some (.int (I 2))] [] SH S104 (rI v105 SH S106) ∧ (∃ v107 S108, G sc MX10_cellOf 0 [some (.int (I l0)), some (.int (I 3))] [] SH S106 (rI v107 SH S108) ∧ r = rI (((((343 * v101) + (49 * v103)) + (7 * v105)) + v107) - idv ((((343 * v101) + (49 * v103)) + (7 * v105)) + v107) 64 * 64) SH S108))))) → G sc MX7_sumOf 0 [some (.int (I l0))] [] SH S r := by
  refine tt_sipush (M := MX7_sumOf) (pc := 0) dX7_sumOf_0 (by decide) ?_
  refine tt_ld (M := MX7_sumOf) (pc := 3) dX7_sumOf_3 rfl rfl rfl rfl rfl ?_
  refine tt_iconst (M := MX7_sumOf) (pc := 4) dX7_sumOf_4 ?_
  refine tt_ncIN (M := MX7_sumOf) (pc := 5) dX7_sumOf_5 rfl [.int (I 343)] rfl rfl ⟨rfl, by decide, Nat.le_of_ble_eq_true rfl⟩ fun v101 S102 => ?_
  refine tt_imul (M := MX7_sumOf) (pc := 8) dX7_sumOf_8 ?_
  refine tt_bipush (M := MX7_sumOf) (pc := 9) dX7_sumOf_9 (by decide) ?_
  refine tt_ld (M := MX7_sumOf) (pc := 11) dX7_sumOf_11 rfl rfl rfl rfl rfl ?_
  refine tt_iconst (M := MX7_sumOf) (pc := 12) dX7_sumOf_12 ?_
  refine tt_ncIN (M := MX7_sumOf) (pc := 13) dX7_sumOf_13 rfl [.int (I 49), .int (I (343 * v101))] rfl rfl ⟨rfl, by decide, Nat.le_of_ble_eq_true rfl⟩ fun v103 S104 => ?_
  refine tt_imul (M := MX7_sumOf) (pc := 16) dX7_sumOf_16 ?_
  refine tt_iadd (M := MX7_sumOf) (pc := 17) dX7_sumOf_17 ?_
  refine tt_bipush (M := MX7_sumOf) (pc := 18) dX7_sumOf_18 (by decide) ?_
  refine tt_ld (M := MX7_sumOf) (pc := 20) dX7_sumOf_20 rfl rfl rfl rfl rfl ?_
  refine tt_iconst (M := MX7_sumOf) (pc := 21) dX7_sumOf_21 ?_
  refine tt_ncIN (M := MX7_sumOf) (pc := 22) dX7_sumOf_22 rfl [.int (I 7), .int (I ((343 * v101) + (49 * v103)))] rfl rfl ⟨rfl, by decide, Nat.le_of_ble_eq_true rfl⟩ fun v105 S106 => ?_
  refine tt_imul (M := MX7_sumOf) (pc := 25) dX7_sumOf_25 ?_
  refine tt_iadd (M := MX7_sumOf) (pc := 26) dX7_sumOf_26 ?_
  refine tt_ld (M := MX7_sumOf) (pc := 27) dX7_sumOf_27 rfl rfl rfl rfl rfl ?_
  refine tt_iconst (M := MX7_sumOf) (pc := 28) dX7_sumOf_28 ?_
  refine tt_ncIN (M := MX7_sumOf) (pc := 29) dX7_sumOf_29 rfl [.int (I (((343 * v101) + (49 * v103)) + (7 * v105)))] rfl rfl ⟨rfl, by decide, Nat.le_of_ble_eq_true rfl⟩ fun v107 S108 => ?_
  refine tt_iadd (M := MX7_sumOf) (pc := 32) dX7_sumOf_32 ?_
  refine tt_bipush (M := MX7_sumOf) (pc := 33) dX7_sumOf_33 (by decide) ?_
  refine tt_irem (M := MX7_sumOf) (pc := 35) dX7_sumOf_35 (by decide) ?_
  exact tt_iret (M := MX7_sumOf) (pc := 36) dX7_sumOf_36 rfl
theorem qX7_roomIn_0 {sc : Nat × (Nat → Int32)} {SH : List mCell} {S : mStore} {r : mR × mW} {a0 : Nat} (h0 : sState SH a0) {l1 : Int} {u2 : Option Value} {u3 : Option Value} {u4 : Option Value} {u5 : Option Value} {u6 : Option Value} : ((if I l1 = I (-1) then r = rI (-1) SH S else (((0 : Int) ≤ l1 ∧ l1 < 48) ∧ G sc MX7_roomIn 25 [some (.ref a0), some (.int (I l1)), some (.int (I (-1))), some (.int (I 0)), some (.int (I (S (a0 + 8) l1))), some (.int (I 0)), u6] [] SH S r))) → G sc MX7_roomIn 0 [some (.ref a0), some (.int (I l1)), u2, u3, u4, u5, u6] [] SH S r := by
  refine tt_ld (M := MX7_roomIn) (pc := 0) dX7_roomIn_0 rfl rfl rfl rfl rfl ?_
  refine tt_iconst (M := MX7_roomIn) (pc := 1) dX7_roomIn_1 ?_
  refine tt_ic_ne (M := MX7_roomIn) (pc := 2) 7 dX7_roomIn_2 rfl ?_ ?_
  · refine tt_iconst (M := MX7_roomIn) (pc := 7) dX7_roomIn_7 ?_
    refine tt_st (M := MX7_roomIn) (pc := 8) [some (.ref a0), some (.int (I l1)), some (.int (I (-1))), u3, u4, u5, u6] dX7_roomIn_8 rfl rfl rfl rfl rfl rfl ?_
    refine tt_iconst (M := MX7_roomIn) (pc := 9) dX7_roomIn_9 ?_
    refine tt_st (M := MX7_roomIn) (pc := 10) [some (.ref a0), some (.int (I l1)), some (.int (I (-1))), some (.int (I 0)), u4, u5, u6] dX7_roomIn_10 rfl rfl rfl rfl rfl rfl ?_
    refine tt_ld (M := MX7_roomIn) (pc := 11) dX7_roomIn_11 rfl rfl rfl rfl rfl ?_
    refine tt_getR (M := MX7_roomIn) (pc := 12) dX7_roomIn_12 rfl h0.1 rfl ?_
    refine tt_getR (M := MX7_roomIn) (pc := 15) dX7_roomIn_15 rfl h0.2.2.1.1 rfl ?_
    refine tt_ld (M := MX7_roomIn) (pc := 18) dX7_roomIn_18 rfl rfl rfl rfl rfl ?_
    refine tt_iaload (M := MX7_roomIn) (pc := 19) dX7_roomIn_19 h0.2.2.1.2.2.2 rfl ?_
    refine tt_st (M := MX7_roomIn) (pc := 20) [some (.ref a0), some (.int (I l1)), some (.int (I (-1))), some (.int (I 0)), some (.int (I (S (a0 + 8) l1))), u5, u6] dX7_roomIn_20 rfl rfl rfl rfl rfl rfl ?_
    refine tt_iconst (M := MX7_roomIn) (pc := 22) dX7_roomIn_22 ?_
    refine tt_st (M := MX7_roomIn) (pc := 23) [some (.ref a0), some (.int (I l1)), some (.int (I (-1))), some (.int (I 0)), some (.int (I (S (a0 + 8) l1))), some (.int (I 0)), u6] dX7_roomIn_23 rfl rfl rfl rfl rfl rfl ?_
    exact id
  · refine tt_iconst (M := MX7_roomIn) (pc := 5) dX7_roomIn_5 ?_
    exact tt_iret (M := MX7_roomIn) (pc := 6) dX7_roomIn_6 rfl
theorem qX7_roomIn_25 {sc : Nat × (Nat → Int32)} {SH : List mCell} {S : mStore} {r : mR × mW} {a0 : Nat} (h0 : sState SH a0) {l1 : Int} {l2 : Int} {l3 : Int} {l4 : Int} {l5 : Int} {u6 : Option Value} : ((if I 48 ≤ I l5 then r = rI l2 SH S else (if I l4 = I (-1) then r = rI l2 SH S else (∃ v101 S102, G sc MX6_sizeOf 0 [some (.ref (a0 + 1)), some (.int (I l4)), none, none] [] SH S (rI v101 SH S102) ∧ (if I (S102 1 1) ≤ I v101 then (((0 : Int) ≤ l4 ∧ l4 < 48) ∧ G sc MX7_roomIn 25 [some (.ref a0), some (.int (I l1)), some (.int (I l2)), some (.int (I l3)), some (.int (I (S102 (a0 + 7) l4))), some (.int (I (l5 + 1))), some (.int (I v101))] [] SH S102 r) else (if I v101 ≤ I l3 then (((0 : Int) ≤ l4 ∧ l4 < 48) ∧ G sc MX7_roomIn 25 [some (.ref a0), some (.int (I l1)), some (.int (I l2)), some (.int (I l3)), some (.int (I (S102 (a0 + 7) l4))), some (.int (I (l5 + 1))), some (.int (I v101))] [] SH S102 r) else (((0 : Int) ≤ l4 ∧ l4 < 48) ∧ G sc MX7_roomIn 25 [some (.ref a0), some (.int (I l1)), some (.int (I l4)), some (.int (I v101)), some (.int (I (S102 (a0 + 7) l4))), some (.int (I (l5 + 1))), some (.int (I v101))] [] SH S102 r))))))) → G sc MX7_roomIn 25 [some (.ref a0), some (.int (I l1)), some (.int (I l2)), some (.int (I l3)), some (.int (I l4)), some (.int (I l5)), u6] [] SH S r := by
  refine tt_ld (M := MX7_roomIn) (pc := 25) dX7_roomIn_25 rfl rfl rfl rfl rfl ?_
  refine tt_bipush (M := MX7_roomIn) (pc := 27) dX7_roomIn_27 (by decide) ?_
  refine tt_ic_ge (M := MX7_roomIn) (pc := 29) 91 dX7_roomIn_29 rfl ?_ ?_
  · refine tt_ld (M := MX7_roomIn) (pc := 91) dX7_roomIn_91 rfl rfl rfl rfl rfl ?_
    exact tt_iret (M := MX7_roomIn) (pc := 92) dX7_roomIn_92 rfl
  · refine tt_ld (M := MX7_roomIn) (pc := 32) dX7_roomIn_32 rfl rfl rfl rfl rfl ?_
    refine tt_iconst (M := MX7_roomIn) (pc := 34) dX7_roomIn_34 ?_
    refine tt_ic_eq (M := MX7_roomIn) (pc := 35) 91 dX7_roomIn_35 rfl ?_ ?_
    · refine tt_ld (M := MX7_roomIn) (pc := 91) dX7_roomIn_91 rfl rfl rfl rfl rfl ?_
      exact tt_iret (M := MX7_roomIn) (pc := 92) dX7_roomIn_92 rfl
    · refine tt_ld (M := MX7_roomIn) (pc := 38) dX7_roomIn_38 rfl rfl rfl rfl rfl ?_
      refine tt_getR (M := MX7_roomIn) (pc := 39) dX7_roomIn_39 rfl h0.1 rfl ?_
      refine tt_ld (M := MX7_roomIn) (pc := 42) dX7_roomIn_42 rfl rfl rfl rfl rfl ?_
      refine tt_vcIN (M := MX7_roomIn) (pc := 44) dX7_roomIn_44 rfl rfl [] rfl rfl ⟨rfl, by decide, Nat.le_of_ble_eq_true rfl⟩ h0.2.1.1 fun v101 S102 => ?_
      refine tt_st (M := MX7_roomIn) (pc := 47) [some (.ref a0), some (.int (I l1)), some (.int (I l2)), some (.int (I l3)), some (.int (I l4)), some (.int (I l5)), some (.int (I v101))] dX7_roomIn_47 rfl rfl rfl rfl rfl rfl ?_
      refine tt_ld (M := MX7_roomIn) (pc := 49) dX7_roomIn_49 rfl rfl rfl rfl rfl ?_
      refine tt_ld (M := MX7_roomIn) (pc := 51) dX7_roomIn_51 rfl rfl rfl rfl rfl ?_
      refine tt_getR (M := MX7_roomIn) (pc := 52) dX7_roomIn_52 rfl h0.1 rfl ?_
      refine tt_getI (M := MX7_roomIn) (pc := 55) dX7_roomIn_55 rfl h0.2.2.2.2.2.2.2.2.2.2.2.2.1 rfl ?_
      refine tt_ic_ge (M := MX7_roomIn) (pc := 58) 73 dX7_roomIn_58 rfl ?_ ?_
      · refine tt_ld (M := MX7_roomIn) (pc := 73) dX7_roomIn_73 rfl rfl rfl rfl rfl ?_
        refine tt_getR (M := MX7_roomIn) (pc := 74) dX7_roomIn_74 rfl h0.1 rfl ?_
        refine tt_getR (M := MX7_roomIn) (pc := 77) dX7_roomIn_77 rfl h0.2.2.1.1 rfl ?_
        refine tt_ld (M := MX7_roomIn) (pc := 80) dX7_roomIn_80 rfl rfl rfl rfl rfl ?_
        refine tt_iaload (M := MX7_roomIn) (pc := 82) dX7_roomIn_82 h0.2.2.1.2.2.1 rfl ?_
        refine tt_st (M := MX7_roomIn) (pc := 83) [some (.ref a0), some (.int (I l1)), some (.int (I l2)), some (.int (I l3)), some (.int (I (S102 (a0 + 7) l4))), some (.int (I l5)), some (.int (I v101))] dX7_roomIn_83 rfl rfl rfl rfl rfl rfl ?_
        refine tt_iinc (M := MX7_roomIn) (pc := 85) [some (.ref a0), some (.int (I l1)), some (.int (I l2)), some (.int (I l3)), some (.int (I (S102 (a0 + 7) l4))), some (.int (I (l5 + 1))), some (.int (I v101))] dX7_roomIn_85 rfl rfl ?_
        refine tt_goto (M := MX7_roomIn) (pc := 88) 25 dX7_roomIn_88 rfl ?_
        exact id
      · refine tt_ld (M := MX7_roomIn) (pc := 61) dX7_roomIn_61 rfl rfl rfl rfl rfl ?_
        refine tt_ld (M := MX7_roomIn) (pc := 63) dX7_roomIn_63 rfl rfl rfl rfl rfl ?_
        refine tt_ic_le (M := MX7_roomIn) (pc := 64) 73 dX7_roomIn_64 rfl ?_ ?_
        · refine tt_ld (M := MX7_roomIn) (pc := 73) dX7_roomIn_73 rfl rfl rfl rfl rfl ?_
          refine tt_getR (M := MX7_roomIn) (pc := 74) dX7_roomIn_74 rfl h0.1 rfl ?_
          refine tt_getR (M := MX7_roomIn) (pc := 77) dX7_roomIn_77 rfl h0.2.2.1.1 rfl ?_
          refine tt_ld (M := MX7_roomIn) (pc := 80) dX7_roomIn_80 rfl rfl rfl rfl rfl ?_
          refine tt_iaload (M := MX7_roomIn) (pc := 82) dX7_roomIn_82 h0.2.2.1.2.2.1 rfl ?_
          refine tt_st (M := MX7_roomIn) (pc := 83) [some (.ref a0), some (.int (I l1)), some (.int (I l2)), some (.int (I l3)), some (.int (I (S102 (a0 + 7) l4))), some (.int (I l5)), some (.int (I v101))] dX7_roomIn_83 rfl rfl rfl rfl rfl rfl ?_
          refine tt_iinc (M := MX7_roomIn) (pc := 85) [some (.ref a0), some (.int (I l1)), some (.int (I l2)), some (.int (I l3)), some (.int (I (S102 (a0 + 7) l4))), some (.int (I (l5 + 1))), some (.int (I v101))] dX7_roomIn_85 rfl rfl ?_
          refine tt_goto (M := MX7_roomIn) (pc := 88) 25 dX7_roomIn_88 rfl ?_
          exact id
        · refine tt_ld (M := MX7_roomIn) (pc := 67) dX7_roomIn_67 rfl rfl rfl rfl rfl ?_
          refine tt_st (M := MX7_roomIn) (pc := 69) [some (.ref a0), some (.int (I l1)), some (.int (I l4)), some (.int (I l3)), some (.int (I l4)), some (.int (I l5)), some (.int (I v101))] dX7_roomIn_69 rfl rfl rfl rfl rfl rfl ?_
          refine tt_ld (M := MX7_roomIn) (pc := 70) dX7_roomIn_70 rfl rfl rfl rfl rfl ?_
          refine tt_st (M := MX7_roomIn) (pc := 72) [some (.ref a0), some (.int (I l1)), some (.int (I l4)), some (.int (I v101)), some (.int (I l4)), some (.int (I l5)), some (.int (I v101))] dX7_roomIn_72 rfl rfl rfl rfl rfl rfl ?_
          refine tt_ld (M := MX7_roomIn) (pc := 73) dX7_roomIn_73 rfl rfl rfl rfl rfl ?_
          refine tt_getR (M := MX7_roomIn) (pc := 74) dX7_roomIn_74 rfl h0.1 rfl ?_
          refine tt_getR (M := MX7_roomIn) (pc := 77) dX7_roomIn_77 rfl h0.2.2.1.1 rfl ?_
          refine tt_ld (M := MX7_roomIn) (pc := 80) dX7_roomIn_80 rfl rfl rfl rfl rfl ?_
          refine tt_iaload (M := MX7_roomIn) (pc := 82) dX7_roomIn_82 h0.2.2.1.2.2.1 rfl ?_
          refine tt_st (M := MX7_roomIn) (pc := 83) [some (.ref a0), some (.int (I l1)), some (.int (I l4)), some (.int (I v101)), some (.int (I (S102 (a0 + 7) l4))), some (.int (I l5)), some (.int (I v101))] dX7_roomIn_83 rfl rfl rfl rfl rfl rfl ?_
          refine tt_iinc (M := MX7_roomIn) (pc := 85) [some (.ref a0), some (.int (I l1)), some (.int (I l4)), some (.int (I v101)), some (.int (I (S102 (a0 + 7) l4))), some (.int (I (l5 + 1))), some (.int (I v101))] dX7_roomIn_85 rfl rfl ?_
          refine tt_goto (M := MX7_roomIn) (pc := 88) 25 dX7_roomIn_88 rfl ?_
          exact id
