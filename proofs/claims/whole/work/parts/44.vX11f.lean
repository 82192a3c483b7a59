-- needs: 43.tshape
/-! ===== the program as conditions (gen_vc.py) ===== -/
theorem qX11_feed_0 {sc : Nat × (Nat → Int32)} {SH : List mCell} {S : mStore} {r : mR × mW} (h0 : sMod SH) {l1 : Int} {l2 : Int} {l3 : Int} {l4 : Int} {l5 : Int} {u6 : Option Value} {u7 : Option Value} : ((if I (((up S 90 4 0) 90 25) + 20) ≤ I 700 then G sc MX11_feed 23 [some (.ref 90), some (.int (I l1)), some (.int (I l2)), some (.int (I l3)), some (.int (I l4)), some (.int (I l5)), some (.int (I 0)), u7] [] SH (up S 90 4 0) r else r = rI (-1) SH (up S 90 4 0))) → G sc MX11_feed 0 [some (.ref 90), some (.int (I l1)), some (.int (I l2)), some (.int (I l3)), some (.int (I l4)), some (.int (I l5)), u6, u7] [] SH S r := by
  refine tt_ld (M := MX11_feed) (pc := 0) dX11_feed_0 rfl rfl rfl rfl rfl ?_
  refine tt_iconst (M := MX11_feed) (pc := 1) dX11_feed_1 ?_
  refine tt_putI (M := MX11_feed) (pc := 2) dX11_feed_2 rfl rfl (Or.inl rfl) h0.1 rfl ?_
  refine tt_ld (M := MX11_feed) (pc := 5) dX11_feed_5 rfl rfl rfl rfl rfl ?_
  refine tt_getI (M := MX11_feed) (pc := 6) dX11_feed_6 rfl h0.1 rfl ?_
  refine tt_bipush (M := MX11_feed) (pc := 9) dX11_feed_9 (by decide) ?_
  refine tt_iadd (M := MX11_feed) (pc := 11) dX11_feed_11 ?_
  refine tt_sipush (M := MX11_feed) (pc := 12) dX11_feed_12 (by decide) ?_
  refine tt_ic_le (M := MX11_feed) (pc := 15) 20 dX11_feed_15 rfl ?_ ?_
  · refine tt_iconst (M := MX11_feed) (pc := 20) dX11_feed_20 ?_
    refine tt_st (M := MX11_feed) (pc := 21) [some (.ref 90), some (.int (I l1)), some (.int (I l2)), some (.int (I l3)), some (.int (I l4)), some (.int (I l5)), some (.int (I 0)), u7] dX11_feed_21 rfl rfl rfl rfl rfl rfl ?_
    exact id
  · refine tt_iconst (M := MX11_feed) (pc := 18) dX11_feed_18 ?_
    exact tt_iret (M := MX11_feed) (pc := 19) dX11_feed_19 rfl
theorem qX11_feed_23 {sc : Nat × (Nat → Int32)} {SH : List mCell} {S : mStore} {r : mR × mW} (h0 : sMod SH) {l1 : Int} {l2 : Int} {l3 : Int} {l4 : Int} {l5 : Int} {l6 : Int} {u7 : Option Value} : ((if I 20 ≤ I l6 then r = rI ((up S 90 25 ((S 90 25) + 20)) 90 25) SH (up S 90 25 ((S 90 25) + 20)) else (if I 4 ≤ I l6 then (if I 8 ≤ I l6 then (if I 12 ≤ I l6 then (if I 16 ≤ I l6 then (((0 : Int) ≤ (S 90 25) + l6 ∧ (S 90 25) + l6 < 700) ∧ G sc MX11_feed 23 [some (.ref 90), some (.int (I l1)), some (.int (I l2)), some (.int (I l3)), some (.int (I l4)), some (.int (I l5)), some (.int (I (l6 + 1))), some (.int (I l5))] [] SH (up S 99 ((S 90 25) + l6) (ian (isr l5 (24 - (8 * (l6 - idv l6 4 * 4)))) 255)) r) else (((0 : Int) ≤ (S 90 25) + l6 ∧ (S 90 25) + l6 < 700) ∧ G sc MX11_feed 23 [some (.ref 90), some (.int (I l1)), some (.int (I l2)), some (.int (I l3)), some (.int (I l4)), some (.int (I l5)), some (.int (I (l6 + 1))), some (.int (I l4))] [] SH (up S 99 ((S 90 25) + l6) (ian (isr l4 (24 - (8 * (l6 - idv l6 4 * 4)))) 255)) r)) else (((0 : Int) ≤ (S 90 25) + l6 ∧ (S 90 25) + l6 < 700) ∧ G sc MX11_feed 23 [some (.ref 90), some (.int (I l1)), some (.int (I l2)), some (.int (I l3)), some (.int (I l4)), some (.int (I l5)), some (.int (I (l6 + 1))), some (.int (I l3))] [] SH (up S 99 ((S 90 25) + l6) (ian (isr l3 (24 - (8 * (l6 - idv l6 4 * 4)))) 255)) r)) else (((0 : Int) ≤ (S 90 25) + l6 ∧ (S 90 25) + l6 < 700) ∧ G sc MX11_feed 23 [some (.ref 90), some (.int (I l1)), some (.int (I l2)), some (.int (I l3)), some (.int (I l4)), some (.int (I l5)), some (.int (I (l6 + 1))), some (.int (I l2))] [] SH (up S 99 ((S 90 25) + l6) (ian (isr l2 (24 - (8 * (l6 - idv l6 4 * 4)))) 255)) r)) else (((0 : Int) ≤ (S 90 25) + l6 ∧ (S 90 25) + l6 < 700) ∧ G sc MX11_feed 23 [some (.ref 90), some (.int (I l1)), some (.int (I l2)), some (.int (I l3)), some (.int (I l4)), some (.int (I l5)), some (.int (I (l6 + 1))), some (.int (I l1))] [] SH (up S 99 ((S 90 25) + l6) (ian (isr l1 (24 - (8 * (l6 - idv l6 4 * 4)))) 255)) r)))) → G sc MX11_feed 23 [some (.ref 90), some (.int (I l1)), some (.int (I l2)), some (.int (I l3)), some (.int (I l4)), some (.int (I l5)), some (.int (I l6)), u7] [] SH S r := by
  refine tt_ld (M := MX11_feed) (pc := 23) dX11_feed_23 rfl rfl rfl rfl rfl ?_
  refine tt_bipush (M := MX11_feed) (pc := 25) dX11_feed_25 (by decide) ?_
  refine tt_ic_ge (M := MX11_feed) (pc := 27) 113 dX11_feed_27 rfl ?_ ?_
  · refine tt_ld (M := MX11_feed) (pc := 113) dX11_feed_113 rfl rfl rfl rfl rfl ?_
    refine tt_dup (M := MX11_feed) (pc := 114) dX11_feed_114 rfl ?_
    refine tt_getI (M := MX11_feed) (pc := 115) dX11_feed_115 rfl h0.1 rfl ?_
    refine tt_bipush (M := MX11_feed) (pc := 118) dX11_feed_118 (by decide) ?_
    refine tt_iadd (M := MX11_feed) (pc := 120) dX11_feed_120 ?_
    refine tt_putI (M := MX11_feed) (pc := 121) dX11_feed_121 rfl rfl (Or.inl rfl) h0.1 rfl ?_
    refine tt_ld (M := MX11_feed) (pc := 124) dX11_feed_124 rfl rfl rfl rfl rfl ?_
    refine tt_getI (M := MX11_feed) (pc := 125) dX11_feed_125 rfl h0.1 rfl ?_
    exact tt_iret (M := MX11_feed) (pc := 128) dX11_feed_128 rfl
  · refine tt_ld (M := MX11_feed) (pc := 30) dX11_feed_30 rfl rfl rfl rfl rfl ?_
    refine tt_iconst (M := MX11_feed) (pc := 32) dX11_feed_32 ?_
    refine tt_ic_ge (M := MX11_feed) (pc := 33) 40 dX11_feed_33 rfl ?_ ?_
    · refine tt_ld (M := MX11_feed) (pc := 40) dX11_feed_40 rfl rfl rfl rfl rfl ?_
      refine tt_bipush (M := MX11_feed) (pc := 42) dX11_feed_42 (by decide) ?_
      refine tt_ic_ge (M := MX11_feed) (pc := 44) 51 dX11_feed_44 rfl ?_ ?_
      · refine tt_ld (M := MX11_feed) (pc := 51) dX11_feed_51 rfl rfl rfl rfl rfl ?_
        refine tt_bipush (M := MX11_feed) (pc := 53) dX11_feed_53 (by decide) ?_
        refine tt_ic_ge (M := MX11_feed) (pc := 55) 62 dX11_feed_55 rfl ?_ ?_
        · refine tt_ld (M := MX11_feed) (pc := 62) dX11_feed_62 rfl rfl rfl rfl rfl ?_
          refine tt_bipush (M := MX11_feed) (pc := 64) dX11_feed_64 (by decide) ?_
          refine tt_ic_ge (M := MX11_feed) (pc := 66) 74 dX11_feed_66 rfl ?_ ?_
          · refine tt_ld (M := MX11_feed) (pc := 74) dX11_feed_74 rfl rfl rfl rfl rfl ?_
            refine tt_st (M := MX11_feed) (pc := 76) [some (.ref 90), some (.int (I l1)), some (.int (I l2)), some (.int (I l3)), some (.int (I l4)), some (.int (I l5)), some (.int (I l6)), some (.int (I l5))] dX11_feed_76 rfl rfl rfl rfl rfl rfl ?_
            refine tt_ld (M := MX11_feed) (pc := 78) dX11_feed_78 rfl rfl rfl rfl rfl ?_
            refine tt_getR (M := MX11_feed) (pc := 79) dX11_feed_79 rfl h0.1 rfl ?_
            refine tt_ld (M := MX11_feed) (pc := 82) dX11_feed_82 rfl rfl rfl rfl rfl ?_
            refine tt_getI (M := MX11_feed) (pc := 83) dX11_feed_83 rfl h0.1 rfl ?_
            refine tt_ld (M := MX11_feed) (pc := 86) dX11_feed_86 rfl rfl rfl rfl rfl ?_
            refine tt_iadd (M := MX11_feed) (pc := 88) dX11_feed_88 ?_
            refine tt_ld (M := MX11_feed) (pc := 89) dX11_feed_89 rfl rfl rfl rfl rfl ?_
            refine tt_bipush (M := MX11_feed) (pc := 91) dX11_feed_91 (by decide) ?_
            refine tt_bipush (M := MX11_feed) (pc := 93) dX11_feed_93 (by decide) ?_
            refine tt_ld (M := MX11_feed) (pc := 95) dX11_feed_95 rfl rfl rfl rfl rfl ?_
            refine tt_iconst (M := MX11_feed) (pc := 97) dX11_feed_97 ?_
            refine tt_irem (M := MX11_feed) (pc := 98) dX11_feed_98 (by decide) ?_
            refine tt_imul (M := MX11_feed) (pc := 99) dX11_feed_99 ?_
            refine tt_isub (M := MX11_feed) (pc := 100) dX11_feed_100 ?_
            refine tt_ishr (M := MX11_feed) (pc := 101) dX11_feed_101 ?_
            refine tt_sipush (M := MX11_feed) (pc := 102) dX11_feed_102 (by decide) ?_
            refine tt_iand (M := MX11_feed) (pc := 105) dX11_feed_105 ?_
            refine tt_iastore (M := MX11_feed) (pc := 106) dX11_feed_106 h0.2.2.2.2.2.2.2.2.2.1 rfl ?_
            refine tt_iinc (M := MX11_feed) (pc := 107) [some (.ref 90), some (.int (I l1)), some (.int (I l2)), some (.int (I l3)), some (.int (I l4)), some (.int (I l5)), some (.int (I (l6 + 1))), some (.int (I l5))] dX11_feed_107 rfl rfl ?_
            refine tt_goto (M := MX11_feed) (pc := 110) 23 dX11_feed_110 rfl ?_
            exact id
          · refine tt_ld (M := MX11_feed) (pc := 69) dX11_feed_69 rfl rfl rfl rfl rfl ?_
            refine tt_goto (M := MX11_feed) (pc := 71) 76 dX11_feed_71 rfl ?_
            refine tt_st (M := MX11_feed) (pc := 76) [some (.ref 90), some (.int (I l1)), some (.int (I l2)), some (.int (I l3)), some (.int (I l4)), some (.int (I l5)), some (.int (I l6)), some (.int (I l4))] dX11_feed_76 rfl rfl rfl rfl rfl rfl ?_
            refine tt_ld (M := MX11_feed) (pc := 78) dX11_feed_78 rfl rfl rfl rfl rfl ?_
            refine tt_getR (M := MX11_feed) (pc := 79) dX11_feed_79 rfl h0.1 rfl ?_
            refine tt_ld (M := MX11_feed) (pc := 82) dX11_feed_82 rfl rfl rfl rfl rfl ?_
            refine tt_getI (M := MX11_feed) (pc := 83) dX11_feed_83 rfl h0.1 rfl ?_
            refine tt_ld (M := MX11_feed) (pc := 86) dX11_feed_86 rfl rfl rfl rfl rfl ?_
            refine tt_iadd (M := MX11_feed) (pc := 88) dX11_feed_88 ?_
            refine tt_ld (M := MX11_feed) (pc := 89) dX11_feed_89 rfl rfl rfl rfl rfl ?_
            refine tt_bipush (M := MX11_feed) (pc := 91) dX11_feed_91 (by decide) ?_
            refine tt_bipush (M := MX11_feed) (pc := 93) dX11_feed_93 (by decide) ?_
            refine tt_ld (M := MX11_feed) (pc := 95) dX11_feed_95 rfl rfl rfl rfl rfl ?_
            refine tt_iconst (M := MX11_feed) (pc := 97) dX11_feed_97 ?_
            refine tt_irem (M := MX11_feed) (pc := 98) dX11_feed_98 (by decide) ?_
            refine tt_imul (M := MX11_feed) (pc := 99) dX11_feed_99 ?_
            refine tt_isub (M := MX11_feed) (pc := 100) dX11_feed_100 ?_
            refine tt_ishr (M := MX11_feed) (pc := 101) dX11_feed_101 ?_
            refine tt_sipush (M := MX11_feed) (pc := 102) dX11_feed_102 (by decide) ?_
            refine tt_iand (M := MX11_feed) (pc := 105) dX11_feed_105 ?_
            refine tt_iastore (M := MX11_feed) (pc := 106) dX11_feed_106 h0.2.2.2.2.2.2.2.2.2.1 rfl ?_
            refine tt_iinc (M := MX11_feed) (pc := 107) [some (.ref 90), some (.int (I l1)), some (.int (I l2)), some (.int (I l3)), some (.int (I l4)), some (.int (I l5)), some (.int (I (l6 + 1))), some (.int (I l4))] dX11_feed_107 rfl rfl ?_
            refine tt_goto (M := MX11_feed) (pc := 110) 23 dX11_feed_110 rfl ?_
            exact id
        · refine tt_ld (M := MX11_feed) (pc := 58) dX11_feed_58 rfl rfl rfl rfl rfl ?_
          refine tt_goto (M := MX11_feed) (pc := 59) 76 dX11_feed_59 rfl ?_
          refine tt_st (M := MX11_feed) (pc := 76) [some (.ref 90), some (.int (I l1)), some (.int (I l2)), some (.int (I l3)), some (.int (I l4)), some (.int (I l5)), some (.int (I l6)), some (.int (I l3))] dX11_feed_76 rfl rfl rfl rfl rfl rfl ?_
          refine tt_ld (M := MX11_feed) (pc := 78) dX11_feed_78 rfl rfl rfl rfl rfl ?_
          refine tt_getR (M := MX11_feed) (pc := 79) dX11_feed_79 rfl h0.1 rfl ?_
          refine tt_ld (M := MX11_feed) (pc := 82) dX11_feed_82 rfl rfl rfl rfl rfl ?_
          refine tt_getI (M := MX11_feed) (pc := 83) dX11_feed_83 rfl h0.1 rfl ?_
          refine tt_ld (M := MX11_feed) (pc := 86) dX11_feed_86 rfl rfl rfl rfl rfl ?_
          refine tt_iadd (M := MX11_feed) (pc := 88) dX11_feed_88 ?_
          refine tt_ld (M := MX11_feed) (pc := 89) dX11_feed_89 rfl rfl rfl rfl rfl ?_
          refine tt_bipush (M := MX11_feed) (pc := 91) dX11_feed_91 (by decide) ?_
          refine tt_bipush (M := MX11_feed) (pc := 93) dX11_feed_93 (by decide) ?_
          refine tt_ld (M := MX11_feed) (pc := 95) dX11_feed_95 rfl rfl rfl rfl rfl ?_
          refine tt_iconst (M := MX11_feed) (pc := 97) dX11_feed_97 ?_
          refine tt_irem (M := MX11_feed) (pc := 98) dX11_feed_98 (by decide) ?_
          refine tt_imul (M := MX11_feed) (pc := 99) dX11_feed_99 ?_
          refine tt_isub (M := MX11_feed) (pc := 100) dX11_feed_100 ?_
          refine tt_ishr (M := MX11_feed) (pc := 101) dX11_feed_101 ?_
          refine tt_sipush (M := MX11_feed) (pc := 102) dX11_feed_102 (by decide) ?_
          refine tt_iand (M := MX11_feed) (pc := 105) dX11_feed_105 ?_
          refine tt_iastore (M := MX11_feed) (pc := 106) dX11_feed_106 h0.2.2.2.2.2.2.2.2.2.1 rfl ?_
          refine tt_iinc (M := MX11_feed) (pc := 107) [some (.ref 90), some (.int (I l1)), some (.int (I l2)), some (.int (I l3)), some (.int (I l4)), some (.int (I l5)), some (.int (I (l6 + 1))), some (.int (I l3))] dX11_feed_107 rfl rfl ?_
          refine tt_goto (M := MX11_feed) (pc := 110) 23 dX11_feed_110 rfl ?_
          exact id
      · refine tt_ld (M := MX11_feed) (pc := 47) dX11_feed_47 rfl rfl rfl rfl rfl ?_
        refine tt_goto (M := MX11_feed) (pc := 48) 76 dX11_feed_48 rfl ?_
        refine tt_st (M := MX11_feed) (pc := 76) [some (.ref 90), some (.int (I l1)), some (.int (I l2)), some (.int (I l3)), some (.int (I l4)), some (.int (I l5)), some (.int (I l6)), some (.int (I l2))] dX11_feed_76 rfl rfl rfl rfl rfl rfl ?_
        refine tt_ld (M := MX11_feed) (pc := 78) dX11_feed_78 rfl rfl rfl rfl rfl ?_
        refine tt_getR (M := MX11_feed) (pc := 79) dX11_feed_79 rfl h0.1 rfl ?_
        refine tt_ld (M := MX11_feed) (pc := 82) dX11_feed_82 rfl rfl rfl rfl rfl ?_
        refine tt_getI (M := MX11_feed) (pc := 83) dX11_feed_83 rfl h0.1 rfl ?_
        refine tt_ld (M := MX11_feed) (pc := 86) dX11_feed_86 rfl rfl rfl rfl rfl ?_
        refine tt_iadd (M := MX11_feed) (pc := 88) dX11_feed_88 ?_
        refine tt_ld (M := MX11_feed) (pc := 89) dX11_feed_89 rfl rfl rfl rfl rfl ?_
        refine tt_bipush (M := MX11_feed) (pc := 91) dX11_feed_91 (by decide) ?_
        refine tt_bipush (M := MX11_feed) (pc := 93) dX11_feed_93 (by decide) ?_
        refine tt_ld (M := MX11_feed) (pc := 95) dX11_feed_95 rfl rfl rfl rfl rfl ?_
        refine tt_iconst (M := MX11_feed) (pc := 97) dX11_feed_97 ?_
        refine tt_irem (M := MX11_feed) (pc := 98) dX11_feed_98 (by decide) ?_
        refine tt_imul (M := MX11_feed) (pc := 99) dX11_feed_99 ?_
        refine tt_isub (M := MX11_feed) (pc := 100) dX11_feed_100 ?_
        refine tt_ishr (M := MX11_feed) (pc := 101) dX11_feed_101 ?_
        refine tt_sipush (M := MX11_feed) (pc := 102) dX11_feed_102 (by decide) ?_
        refine tt_iand (M := MX11_feed) (pc := 105) dX11_feed_105 ?_
        refine tt_iastore (M := MX11_feed) (pc := 106) dX11_feed_106 h0.2.2.2.2.2.2.2.2.2.1 rfl ?_
        refine tt_iinc (M := MX11_feed) (pc := 107) [some (.ref 90), some (.int (I l1)), some (.int (I l2)), some (.int (I l3)), some (.int (I l4)), some (.int (I l5)), some (.int (I (l6 + 1))), some (.int (I l2))] dX11_feed_107 rfl rfl ?_
        refine tt_goto (M := MX11_feed) (pc := 110) 23 dX11_feed_110 rfl ?_
        exact id
    · refine tt_ld (M := MX11_feed) (pc := 36) dX11_feed_36 rfl rfl rfl rfl rfl ?_
      refine tt_goto (M := MX11_feed) (pc := 37) 76 dX11_feed_37 rfl ?_
      refine tt_st (M := MX11_feed) (pc := 76) [some (.ref 90), some (.int (I l1)), some (.int (I l2)), some (.int (I l3)), some (.int (I l4)), some (.int (I l5)), some (.int (I l6)), some (.int (I l1))] dX11_feed_76 rfl rfl rfl rfl rfl rfl ?_
      refine tt_ld (M := MX11_feed) (pc := 78) dX11_feed_78 rfl rfl rfl rfl rfl ?_
      refine tt_getR (M := MX11_feed) (pc := 79) dX11_feed_79 rfl h0.1 rfl ?_
      refine tt_ld (M := MX11_feed) (pc := 82) dX11_feed_82 rfl rfl rfl rfl rfl ?_
      refine tt_getI (M := MX11_feed) (pc := 83) dX11_feed_83 rfl h0.1 rfl ?_
      refine tt_ld (M := MX11_feed) (pc := 86) dX11_feed_86 rfl rfl rfl rfl rfl ?_
      refine tt_iadd (M := MX11_feed) (pc := 88) dX11_feed_88 ?_
      refine tt_ld (M := MX11_feed) (pc := 89) dX11_feed_89 rfl rfl rfl rfl rfl ?_
      refine tt_bipush (M := MX11_feed) (pc := 91) dX11_feed_91 (by decide) ?_
      refine tt_bipush (M := MX11_feed) (pc := 93) dX11_feed_93 (by decide) ?_
      refine tt_ld (M := MX11_feed) (pc := 95) dX11_feed_95 rfl rfl rfl rfl rfl ?_
      refine tt_iconst (M := MX11_feed) (pc := 97) dX11_feed_97 ?_
      refine tt_irem (M := MX11_feed) (pc := 98) dX11_feed_98 (by decide) ?_
      refine tt_imul (M := MX11_feed) (pc := 99) dX11_feed_99 ?_
      refine tt_isub (M := MX11_feed) (pc := 100) dX11_feed_100 ?_
      refine tt_ishr (M := MX11_feed) (pc := 101) dX11_feed_101 ?_
      refine tt_sipush (M := MX11_feed) (pc := 102) dX11_feed_102 (by decide) ?_
      refine tt_iand (M := MX11_feed) (pc := 105) dX11_feed_105 ?_
      refine tt_iastore (M := MX11_feed) (pc := 106) dX11_feed_106 h0.2.2.2.2.2.2.2.2.2.1 rfl ?_
      refine tt_iinc (M := MX11_feed) (pc := 107) [some (.ref 90), some (.int (I l1)), some (.int (I l2)), some (.int (I l3)), some (.int (I l4)), some (.int (I l5)), some (.int (I (l6 + 1))), some (.int (I l1))] dX11_feed_107 rfl rfl ?_
      refine tt_goto (M := MX11_feed) (pc := 110) 23 dX11_feed_110 rfl ?_
      exact id
theorem qX11_reads_0 {sc : Nat × (Nat → Int32)} {SH : List mCell} {S : mStore} {r : mR × mW} (h0 : sMod SH) {l1 : Int} : ((if I l1 < I 0 then (∃ v101 S102, G sc MX11_right 0 [some (.ref 90), some (.int (I 0)), some (.int (I 1))] [] SH (up S 90 4 0) (rI v101 SH S102) ∧ (if I v101 = I 0 then ((I 0 = I 0 ∨ I 0 = I 1) ∧ r = rI 0 SH S102) else (∃ S103, G sc MX11_opens 0 [some (.ref 90), some (.int (I l1))] [] SH (up S102 90 25 0) (rV SH S103) ∧ ((I 1 = I 0 ∨ I 1 = I 1) ∧ r = rI 1 SH S103)))) else (if I ((up S 90 4 0) 90 25) < I l1 then (∃ v104 S105, G sc MX11_right 0 [some (.ref 90), some (.int (I 0)), some (.int (I 1))] [] SH (up S 90 4 0) (rI v104 SH S105) ∧ (if I v104 = I 0 then ((I 0 = I 0 ∨ I 0 = I 1) ∧ r = rI 0 SH S105) else (∃ S106, G sc MX11_opens 0 [some (.ref 90), some (.int (I l1))] [] SH (up S105 90 25 0) (rV SH S106) ∧ ((I 1 = I 0 ∨ I 1 = I 1) ∧ r = rI 1 SH S106)))) else (∃ v107 S108, G sc MX11_right 0 [some (.ref 90), some (.int (I 1)), some (.int (I 1))] [] SH (up S 90 4 0) (rI v107 SH S108) ∧ (if I v107 = I 0 then ((I 0 = I 0 ∨ I 0 = I 1) ∧ r = rI 0 SH S108) else (∃ S109, G sc MX11_opens 0 [some (.ref 90), some (.int (I l1))] [] SH (up S108 90 25 0) (rV SH S109) ∧ ((I 1 = I 0 ∨ I 1 = I 1) ∧ r = rI 1 SH S109))))))) → G sc MX11_reads 0 [some (.ref 90), some (.int (I l1))] [] SH S r := by
  refine tt_ld (M := MX11_reads) (pc := 0) dX11_reads_0 rfl rfl rfl rfl rfl ?_
  refine tt_iconst (M := MX11_reads) (pc := 1) dX11_reads_1 ?_
  refine tt_putI (M := MX11_reads) (pc := 2) dX11_reads_2 rfl rfl (Or.inl rfl) h0.1 rfl ?_
  refine tt_ld (M := MX11_reads) (pc := 5) dX11_reads_5 rfl rfl rfl rfl rfl ?_
  refine tt_ld (M := MX11_reads) (pc := 6) dX11_reads_6 rfl rfl rfl rfl rfl ?_
  refine tt_if_lt (M := MX11_reads) (pc := 7) 22 dX11_reads_7 rfl ?_ ?_
  · refine tt_iconst (M := MX11_reads) (pc := 22) dX11_reads_22 ?_
    refine tt_iconst (M := MX11_reads) (pc := 23) dX11_reads_23 ?_
    refine tt_vcIN (M := MX11_reads) (pc := 24) dX11_reads_24 rfl rfl [] rfl rfl ⟨rfl, by decide, Nat.le_of_ble_eq_true rfl⟩ h0.1 fun v101 S102 => ?_
    refine tt_if_ne (M := MX11_reads) (pc := 27) 32 dX11_reads_27 rfl ?_ ?_
    · refine tt_ld (M := MX11_reads) (pc := 32) dX11_reads_32 rfl rfl rfl rfl rfl ?_
      refine tt_iconst (M := MX11_reads) (pc := 33) dX11_reads_33 ?_
      refine tt_putI (M := MX11_reads) (pc := 34) dX11_reads_34 rfl rfl (Or.inl rfl) h0.1 rfl ?_
      refine tt_ld (M := MX11_reads) (pc := 37) dX11_reads_37 rfl rfl rfl rfl rfl ?_
      refine tt_ld (M := MX11_reads) (pc := 38) dX11_reads_38 rfl rfl rfl rfl rfl ?_
      refine tt_vcVN (M := MX11_reads) (pc := 39) dX11_reads_39 rfl rfl [] rfl rfl ⟨rfl, by decide, Nat.le_of_ble_eq_true rfl⟩ h0.1 fun S103 => ?_
      refine tt_iconst (M := MX11_reads) (pc := 42) dX11_reads_42 ?_
      exact tt_zret (M := MX11_reads) (pc := 43) dX11_reads_43 rfl
    · refine tt_iconst (M := MX11_reads) (pc := 30) dX11_reads_30 ?_
      exact tt_zret (M := MX11_reads) (pc := 31) dX11_reads_31 rfl
  · refine tt_ld (M := MX11_reads) (pc := 10) dX11_reads_10 rfl rfl rfl rfl rfl ?_
    refine tt_ld (M := MX11_reads) (pc := 11) dX11_reads_11 rfl rfl rfl rfl rfl ?_
    refine tt_getI (M := MX11_reads) (pc := 12) dX11_reads_12 rfl h0.1 rfl ?_
    refine tt_ic_gt (M := MX11_reads) (pc := 15) 22 dX11_reads_15 rfl ?_ ?_
    · refine tt_iconst (M := MX11_reads) (pc := 22) dX11_reads_22 ?_
      refine tt_iconst (M := MX11_reads) (pc := 23) dX11_reads_23 ?_
      refine tt_vcIN (M := MX11_reads) (pc := 24) dX11_reads_24 rfl rfl [] rfl rfl ⟨rfl, by decide, Nat.le_of_ble_eq_true rfl⟩ h0.1 fun v104 S105 => ?_
      refine tt_if_ne (M := MX11_reads) (pc := 27) 32 dX11_reads_27 rfl ?_ ?_
      · refine tt_ld (M := MX11_reads) (pc := 32) dX11_reads_32 rfl rfl rfl rfl rfl ?_
        refine tt_iconst (M := MX11_reads) (pc := 33) dX11_reads_33 ?_
        refine tt_putI (M := MX11_reads) (pc := 34) dX11_reads_34 rfl rfl (Or.inl rfl) h0.1 rfl ?_
        refine tt_ld (M := MX11_reads) (pc := 37) dX11_reads_37 rfl rfl rfl rfl rfl ?_
        refine tt_ld (M := MX11_reads) (pc := 38) dX11_reads_38 rfl rfl rfl rfl rfl ?_
        refine tt_vcVN (M := MX11_reads) (pc := 39) dX11_reads_39 rfl rfl [] rfl rfl ⟨rfl, by decide, Nat.le_of_ble_eq_true rfl⟩ h0.1 fun S106 => ?_
        refine tt_iconst (M := MX11_reads) (pc := 42) dX11_reads_42 ?_
        exact tt_zret (M := MX11_reads) (pc := 43) dX11_reads_43 rfl
      · refine tt_iconst (M := MX11_reads) (pc := 30) dX11_reads_30 ?_
        exact tt_zret (M := MX11_reads) (pc := 31) dX11_reads_31 rfl
    · refine tt_iconst (M := MX11_reads) (pc := 18) dX11_reads_18 ?_
      refine tt_goto (M := MX11_reads) (pc := 19) 23 dX11_reads_19 rfl ?_
      refine tt_iconst (M := MX11_reads) (pc := 23) dX11_reads_23 ?_
      refine tt_vcIN (M := MX11_reads) (pc := 24) dX11_reads_24 rfl rfl [] rfl rfl ⟨rfl, by decide, Nat.le_of_ble_eq_true rfl⟩ h0.1 fun v107 S108 => ?_
      refine tt_if_ne (M := MX11_reads) (pc := 27) 32 dX11_reads_27 rfl ?_ ?_
      · refine tt_ld (M := MX11_reads) (pc := 32) dX11_reads_32 rfl rfl rfl rfl rfl ?_
        refine tt_iconst (M := MX11_reads) (pc := 33) dX11_reads_33 ?_
        refine tt_putI (M := MX11_reads) (pc := 34) dX11_reads_34 rfl rfl (Or.inl rfl) h0.1 rfl ?_
        refine tt_ld (M := MX11_reads) (pc := 37) dX11_reads_37 rfl rfl rfl rfl rfl ?_
        refine tt_ld (M := MX11_reads) (pc := 38) dX11_reads_38 rfl rfl rfl rfl rfl ?_
        refine tt_vcVN (M := MX11_reads) (pc := 39) dX11_reads_39 rfl rfl [] rfl rfl ⟨rfl, by decide, Nat.le_of_ble_eq_true rfl⟩ h0.1 fun S109 => ?_
        refine tt_iconst (M := MX11_reads) (pc := 42) dX11_reads_42 ?_
        exact tt_zret (M := MX11_reads) (pc := 43) dX11_reads_43 rfl
      · refine tt_iconst (M := MX11_reads) (pc := 30) dX11_reads_30 ?_
        exact tt_zret (M := MX11_reads) (pc := 31) dX11_reads_31 rfl
theorem qX11_machine_0 {sc : Nat × (Nat → Int32)} {SH : List mCell} {S : mStore} {r : mR × mW} (h0 : sMod SH) {l1 : Int} : ((∃ v101 S102, G sc MX11_reads 0 [some (.ref 90), some (.int (I l1))] [] SH S (rI v101 SH S102) ∧ (if I v101 = I 0 then r = rI 0 SH S102 else (∃ S103, G sc MX11_without1 0 [some (.ref 90), none] [] SH S102 (rV SH S103) ∧ G sc MX11_machine 14 [some (.ref 90), some (.int (I l1))] [] SH S103 r)))) → G sc MX11_machine 0 [some (.ref 90), some (.int (I l1))] [] SH S r := by
  refine tt_ld (M := MX11_machine) (pc := 0) dX11_machine_0 rfl rfl rfl rfl rfl ?_
  refine tt_ld (M := MX11_machine) (pc := 1) dX11_machine_1 rfl rfl rfl rfl rfl ?_
  refine tt_vcIN (M := MX11_machine) (pc := 2) dX11_machine_2 rfl rfl [] rfl rfl ⟨rfl, by decide, Nat.le_of_ble_eq_true rfl⟩ h0.1 fun v101 S102 => ?_
  refine tt_if_ne (M := MX11_machine) (pc := 5) 10 dX11_machine_5 rfl ?_ ?_
  · refine tt_ld (M := MX11_machine) (pc := 10) dX11_machine_10 rfl rfl rfl rfl rfl ?_
    refine tt_vcVN (M := MX11_machine) (pc := 11) dX11_machine_11 rfl rfl [] rfl rfl ⟨rfl, by decide, Nat.le_of_ble_eq_true rfl⟩ h0.1 fun S103 => ?_
    exact id
  · refine tt_iconst (M := MX11_machine) (pc := 8) dX11_machine_8 ?_
    exact tt_iret (M := MX11_machine) (pc := 9) dX11_machine_9 rfl
theorem qX11_machine_14 {sc : Nat × (Nat → Int32)} {SH : List mCell} {S : mStore} {r : mR × mW} (h0 : sMod SH) {l1 : Int} : ((if I (S 90 39) = I 0 then (if I (S 90 36) = I 0 then G sc MX11_machine 39 [some (.ref 90), some (.int (I l1))] [] SH S r else (∃ S101, G sc MX11_clause1 0 [some (.ref 90)] [] SH S (rV SH S101) ∧ (∃ S102, G sc MX11_ends 0 [some (.ref 90)] [] SH S101 (rV SH S102) ∧ G sc MX11_machine 14 [some (.ref 90), some (.int (I l1))] [] SH S102 r))) else G sc MX11_machine 39 [some (.ref 90), some (.int (I l1))] [] SH S r)) → G sc MX11_machine 14 [some (.ref 90), some (.int (I l1))] [] SH S r := by
  refine tt_ld (M := MX11_machine) (pc := 14) dX11_machine_14 rfl rfl rfl rfl rfl ?_
  refine tt_getI (M := MX11_machine) (pc := 15) dX11_machine_15 rfl h0.1 rfl ?_
  refine tt_if_ne (M := MX11_machine) (pc := 18) 39 dX11_machine_18 rfl ?_ ?_
  · exact id
  · refine tt_ld (M := MX11_machine) (pc := 21) dX11_machine_21 rfl rfl rfl rfl rfl ?_
    refine tt_getI (M := MX11_machine) (pc := 22) dX11_machine_22 rfl h0.1 rfl ?_
    refine tt_if_eq (M := MX11_machine) (pc := 25) 39 dX11_machine_25 rfl ?_ ?_
    · exact id
    · refine tt_ld (M := MX11_machine) (pc := 28) dX11_machine_28 rfl rfl rfl rfl rfl ?_
      refine tt_vcVN (M := MX11_machine) (pc := 29) dX11_machine_29 rfl rfl [] rfl rfl ⟨rfl, by decide, Nat.le_of_ble_eq_true rfl⟩ h0.1 fun S101 => ?_
      refine tt_ld (M := MX11_machine) (pc := 32) dX11_machine_32 rfl rfl rfl rfl rfl ?_
      refine tt_vcVN (M := MX11_machine) (pc := 33) dX11_machine_33 rfl rfl [] rfl rfl ⟨rfl, by decide, Nat.le_of_ble_eq_true rfl⟩ h0.1 fun S102 => ?_
      refine tt_goto (M := MX11_machine) (pc := 36) 14 dX11_machine_36 rfl ?_
      exact id
theorem qX11_machine_39 {sc : Nat × (Nat → Int32)} {SH : List mCell} {S : mStore} {r : mR × mW} (h0 : sMod SH) {l1 : Int} : ((if I (S 90 39) = I 0 then (∃ S101, G sc MX11_becomes 0 [some (.ref 90), none, none, none] [] SH S (rV SH S101) ∧ r = rI 0 SH S101) else (((0 : Int) ≤ 0 ∧ (0 : Int) < 6) ∧ (((0 : Int) ≤ 0 ∧ (0 : Int) < 6) ∧ r = rI ((up S 94 0 ((S 94 0) + 1)) 90 39) SH (up S 94 0 ((S 94 0) + 1)))))) → G sc MX11_machine 39 [some (.ref 90), some (.int (I l1))] [] SH S r := by
  refine tt_ld (M := MX11_machine) (pc := 39) dX11_machine_39 rfl rfl rfl rfl rfl ?_
  refine tt_getI (M := MX11_machine) (pc := 40) dX11_machine_40 rfl h0.1 rfl ?_
  refine tt_if_eq (M := MX11_machine) (pc := 43) 61 dX11_machine_43 rfl ?_ ?_
  · refine tt_ld (M := MX11_machine) (pc := 61) dX11_machine_61 rfl rfl rfl rfl rfl ?_
    refine tt_vcVN (M := MX11_machine) (pc := 62) dX11_machine_62 rfl rfl [] rfl rfl ⟨rfl, by decide, Nat.le_of_ble_eq_true rfl⟩ h0.1 fun S101 => ?_
    refine tt_iconst (M := MX11_machine) (pc := 65) dX11_machine_65 ?_
    exact tt_iret (M := MX11_machine) (pc := 66) dX11_machine_66 rfl
  · refine tt_ld (M := MX11_machine) (pc := 46) dX11_machine_46 rfl rfl rfl rfl rfl ?_
    refine tt_getR (M := MX11_machine) (pc := 47) dX11_machine_47 rfl h0.1 rfl ?_
    refine tt_iconst (M := MX11_machine) (pc := 50) dX11_machine_50 ?_
    refine tt_dup2 (M := MX11_machine) (pc := 51) dX11_machine_51 rfl rfl ?_
    refine tt_iaload (M := MX11_machine) (pc := 52) dX11_machine_52 h0.2.2.2.2.1 rfl ?_
    refine tt_iconst (M := MX11_machine) (pc := 53) dX11_machine_53 ?_
    refine tt_iadd (M := MX11_machine) (pc := 54) dX11_machine_54 ?_
    refine tt_iastore (M := MX11_machine) (pc := 55) dX11_machine_55 h0.2.2.2.2.1 rfl ?_
    refine tt_ld (M := MX11_machine) (pc := 56) dX11_machine_56 rfl rfl rfl rfl rfl ?_
    refine tt_getI (M := MX11_machine) (pc := 57) dX11_machine_57 rfl h0.1 rfl ?_
    exact tt_iret (M := MX11_machine) (pc := 60) dX11_machine_60 rfl
theorem qX11_pageThere_0 {sc : Nat × (Nat → Int32)} {SH : List mCell} {S : mStore} {r : mR × mW} (h0 : sMod SH) {u1 : Option Value} {u2 : Option Value} : ((if I (S 90 36) = I 2 then (∃ v107 S108, G sc MX11_wants 0 [some (.ref 90), some (.int (I 1)), some (.int (I 1))] [] SH S (rI v107 SH S108) ∧ (if I v107 = I 0 then G sc MX11_pageThere 66 [some (.ref 90), u1, u2] [] SH S108 r else (if I 4 ≤ I (S108 90 37) then (∃ v109 S110, G sc MX11_wants 0 [some (.ref 90), some (.int (I 0)), some (.int (I 2))] [] SH S108 (rI v109 SH S110) ∧ (if I v109 = I 0 then G sc MX11_pageThere 66 [some (.ref 90), u1, u2] [] SH S110 r else (if I (S110 90 18) ≤ I (S110 90 37) then G sc MX11_pageThere 59 [some (.ref 90), u1, u2] [.int (I 0), .ref 90] SH S110 r else G sc MX11_pageThere 59 [some (.ref 90), u1, u2] [.int (I 1), .ref 90] SH S110 r))) else (∃ v111 S112, G sc MX11_wants 0 [some (.ref 90), some (.int (I 1)), some (.int (I 2))] [] SH S108 (rI v111 SH S112) ∧ (if I v111 = I 0 then G sc MX11_pageThere 66 [some (.ref 90), u1, u2] [] SH S112 r else (if I (S112 90 18) ≤ I (S112 90 37) then G sc MX11_pageThere 59 [some (.ref 90), u1, u2] [.int (I 0), .ref 90] SH S112 r else G sc MX11_pageThere 59 [some (.ref 90), u1, u2] [.int (I 1), .ref 90] SH S112 r)))))) else (∃ v101 S102, G sc MX11_wants 0 [some (.ref 90), some (.int (I 0)), some (.int (I 1))] [] SH S (rI v101 SH S102) ∧ (if I v101 = I 0 then G sc MX11_pageThere 66 [some (.ref 90), u1, u2] [] SH S102 r else (if I 4 ≤ I (S102 90 37) then (∃ v103 S104, G sc MX11_wants 0 [some (.ref 90), some (.int (I 0)), some (.int (I 2))] [] SH S102 (rI v103 SH S104) ∧ (if I v103 = I 0 then G sc MX11_pageThere 66 [some (.ref 90), u1, u2] [] SH S104 r else (if I (S104 90 18) ≤ I (S104 90 37) then G sc MX11_pageThere 59 [some (.ref 90), u1, u2] [.int (I 0), .ref 90] SH S104 r else G sc MX11_pageThere 59 [some (.ref 90), u1, u2] [.int (I 1), .ref 90] SH S104 r))) else (∃ v105 S106, G sc MX11_wants 0 [some (.ref 90), some (.int (I 1)), some (.int (I 2))] [] SH S102 (rI v105 SH S106) ∧ (if I v105 = I 0 then G sc MX11_pageThere 66 [some (.ref 90), u1, u2] [] SH S106 r else (if I (S106 90 18) ≤ I (S106 90 37) then G sc MX11_pageThere 59 [some (.ref 90), u1, u2] [.int (I 0), .ref 90] SH S106 r else G sc MX11_pageThere 59 [some (.ref 90), u1, u2] [.int (I 1), .ref 90] SH S106 r)))))))) → G sc MX11_pageThere 0 [some (.ref 90), u1, u2] [] SH S r := by
  refine tt_ld (M := MX11_pageThere) (pc := 0) dX11_pageThere_0 rfl rfl rfl rfl rfl ?_
  refine tt_ld (M := MX11_pageThere) (pc := 1) dX11_pageThere_1 rfl rfl rfl rfl rfl ?_
  refine tt_getI (M := MX11_pageThere) (pc := 2) dX11_pageThere_2 rfl h0.1 rfl ?_
  refine tt_iconst (M := MX11_pageThere) (pc := 5) dX11_pageThere_5 ?_
  refine tt_ic_ne (M := MX11_pageThere) (pc := 6) 13 dX11_pageThere_6 rfl ?_ ?_
  · refine tt_iconst (M := MX11_pageThere) (pc := 13) dX11_pageThere_13 ?_
    refine tt_iconst (M := MX11_pageThere) (pc := 14) dX11_pageThere_14 ?_
    refine tt_vcIN (M := MX11_pageThere) (pc := 15) dX11_pageThere_15 rfl rfl [] rfl rfl ⟨rfl, by decide, Nat.le_of_ble_eq_true rfl⟩ h0.1 fun v101 S102 => ?_
    refine tt_if_eq (M := MX11_pageThere) (pc := 18) 66 dX11_pageThere_18 rfl ?_ ?_
    · exact id
    · refine tt_ld (M := MX11_pageThere) (pc := 21) dX11_pageThere_21 rfl rfl rfl rfl rfl ?_
      refine tt_ld (M := MX11_pageThere) (pc := 22) dX11_pageThere_22 rfl rfl rfl rfl rfl ?_
      refine tt_getI (M := MX11_pageThere) (pc := 23) dX11_pageThere_23 rfl h0.1 rfl ?_
      refine tt_iconst (M := MX11_pageThere) (pc := 26) dX11_pageThere_26 ?_
      refine tt_ic_ge (M := MX11_pageThere) (pc := 27) 34 dX11_pageThere_27 rfl ?_ ?_
      · refine tt_iconst (M := MX11_pageThere) (pc := 34) dX11_pageThere_34 ?_
        refine tt_iconst (M := MX11_pageThere) (pc := 35) dX11_pageThere_35 ?_
        refine tt_vcIN (M := MX11_pageThere) (pc := 36) dX11_pageThere_36 rfl rfl [] rfl rfl ⟨rfl, by decide, Nat.le_of_ble_eq_true rfl⟩ h0.1 fun v103 S104 => ?_
        refine tt_if_eq (M := MX11_pageThere) (pc := 39) 66 dX11_pageThere_39 rfl ?_ ?_
        · exact id
        · refine tt_ld (M := MX11_pageThere) (pc := 42) dX11_pageThere_42 rfl rfl rfl rfl rfl ?_
          refine tt_ld (M := MX11_pageThere) (pc := 43) dX11_pageThere_43 rfl rfl rfl rfl rfl ?_
          refine tt_getI (M := MX11_pageThere) (pc := 44) dX11_pageThere_44 rfl h0.1 rfl ?_
          refine tt_ld (M := MX11_pageThere) (pc := 47) dX11_pageThere_47 rfl rfl rfl rfl rfl ?_
          refine tt_getI (M := MX11_pageThere) (pc := 48) dX11_pageThere_48 rfl h0.1 rfl ?_
          refine tt_ic_ge (M := MX11_pageThere) (pc := 51) 58 dX11_pageThere_51 rfl ?_ ?_
          · refine tt_iconst (M := MX11_pageThere) (pc := 58) dX11_pageThere_58 ?_
            exact id
          · refine tt_iconst (M := MX11_pageThere) (pc := 54) dX11_pageThere_54 ?_
            refine tt_goto (M := MX11_pageThere) (pc := 55) 59 dX11_pageThere_55 rfl ?_
            exact id
      · refine tt_iconst (M := MX11_pageThere) (pc := 30) dX11_pageThere_30 ?_
        refine tt_goto (M := MX11_pageThere) (pc := 31) 35 dX11_pageThere_31 rfl ?_
        refine tt_iconst (M := MX11_pageThere) (pc := 35) dX11_pageThere_35 ?_
        refine tt_vcIN (M := MX11_pageThere) (pc := 36) dX11_pageThere_36 rfl rfl [] rfl rfl ⟨rfl, by decide, Nat.le_of_ble_eq_true rfl⟩ h0.1 fun v105 S106 => ?_
        refine tt_if_eq (M := MX11_pageThere) (pc := 39) 66 dX11_pageThere_39 rfl ?_ ?_
        · exact id
        · refine tt_ld (M := MX11_pageThere) (pc := 42) dX11_pageThere_42 rfl rfl rfl rfl rfl ?_
          refine tt_ld (M := MX11_pageThere) (pc := 43) dX11_pageThere_43 rfl rfl rfl rfl rfl ?_
          refine tt_getI (M := MX11_pageThere) (pc := 44) dX11_pageThere_44 rfl h0.1 rfl ?_
          refine tt_ld (M := MX11_pageThere) (pc := 47) dX11_pageThere_47 rfl rfl rfl rfl rfl ?_
          refine tt_getI (M := MX11_pageThere) (pc := 48) dX11_pageThere_48 rfl h0.1 rfl ?_
          refine tt_ic_ge (M := MX11_pageThere) (pc := 51) 58 dX11_pageThere_51 rfl ?_ ?_
          · refine tt_iconst (M := MX11_pageThere) (pc := 58) dX11_pageThere_58 ?_
            exact id
          · refine tt_iconst (M := MX11_pageThere) (pc := 54) dX11_pageThere_54 ?_
            refine tt_goto (M := MX11_pageThere) (pc := 55) 59 dX11_pageThere_55 rfl ?_
            exact id
  · refine tt_iconst (M := MX11_pageThere) (pc := 9) dX11_pageThere_9 ?_
    refine tt_goto (M := MX11_pageThere) (pc := 10) 14 dX11_pageThere_10 rfl ?_
    refine tt_iconst (M := MX11_pageThere) (pc := 14) dX11_pageThere_14 ?_
    refine tt_vcIN (M := MX11_pageThere) (pc := 15) dX11_pageThere_15 rfl rfl [] rfl rfl ⟨rfl, by decide, Nat.le_of_ble_eq_true rfl⟩ h0.1 fun v107 S108 => ?_
    refine tt_if_eq (M := MX11_pageThere) (pc := 18) 66 dX11_pageThere_18 rfl ?_ ?_
    · exact id
    · refine tt_ld (M := MX11_pageThere) (pc := 21) dX11_pageThere_21 rfl rfl rfl rfl rfl ?_
      refine tt_ld (M := MX11_pageThere) (pc := 22) dX11_pageThere_22 rfl rfl rfl rfl rfl ?_
      refine tt_getI (M := MX11_pageThere) (pc := 23) dX11_pageThere_23 rfl h0.1 rfl ?_
      refine tt_iconst (M := MX11_pageThere) (pc := 26) dX11_pageThere_26 ?_
      refine tt_ic_ge (M := MX11_pageThere) (pc := 27) 34 dX11_pageThere_27 rfl ?_ ?_
      · refine tt_iconst (M := MX11_pageThere) (pc := 34) dX11_pageThere_34 ?_
        refine tt_iconst (M := MX11_pageThere) (pc := 35) dX11_pageThere_35 ?_
        refine tt_vcIN (M := MX11_pageThere) (pc := 36) dX11_pageThere_36 rfl rfl [] rfl rfl ⟨rfl, by decide, Nat.le_of_ble_eq_true rfl⟩ h0.1 fun v109 S110 => ?_
        refine tt_if_eq (M := MX11_pageThere) (pc := 39) 66 dX11_pageThere_39 rfl ?_ ?_
        · exact id
        · refine tt_ld (M := MX11_pageThere) (pc := 42) dX11_pageThere_42 rfl rfl rfl rfl rfl ?_
          refine tt_ld (M := MX11_pageThere) (pc := 43) dX11_pageThere_43 rfl rfl rfl rfl rfl ?_
          refine tt_getI (M := MX11_pageThere) (pc := 44) dX11_pageThere_44 rfl h0.1 rfl ?_
          refine tt_ld (M := MX11_pageThere) (pc := 47) dX11_pageThere_47 rfl rfl rfl rfl rfl ?_
          refine tt_getI (M := MX11_pageThere) (pc := 48) dX11_pageThere_48 rfl h0.1 rfl ?_
          refine tt_ic_ge (M := MX11_pageThere) (pc := 51) 58 dX11_pageThere_51 rfl ?_ ?_
          · refine tt_iconst (M := MX11_pageThere) (pc := 58) dX11_pageThere_58 ?_
            exact id
          · refine tt_iconst (M := MX11_pageThere) (pc := 54) dX11_pageThere_54 ?_
            refine tt_goto (M := MX11_pageThere) (pc := 55) 59 dX11_pageThere_55 rfl ?_
            exact id
      · refine tt_iconst (M := MX11_pageThere) (pc := 30) dX11_pageThere_30 ?_
        refine tt_goto (M := MX11_pageThere) (pc := 31) 35 dX11_pageThere_31 rfl ?_
        refine tt_iconst (M := MX11_pageThere) (pc := 35) dX11_pageThere_35 ?_
        refine tt_vcIN (M := MX11_pageThere) (pc := 36) dX11_pageThere_36 rfl rfl [] rfl rfl ⟨rfl, by decide, Nat.le_of_ble_eq_true rfl⟩ h0.1 fun v111 S112 => ?_
        refine tt_if_eq (M := MX11_pageThere) (pc := 39) 66 dX11_pageThere_39 rfl ?_ ?_
        · exact id
        · refine tt_ld (M := MX11_pageThere) (pc := 42) dX11_pageThere_42 rfl rfl rfl rfl rfl ?_
          refine tt_ld (M := MX11_pageThere) (pc := 43) dX11_pageThere_43 rfl rfl rfl rfl rfl ?_
          refine tt_getI (M := MX11_pageThere) (pc := 44) dX11_pageThere_44 rfl h0.1 rfl ?_
          refine tt_ld (M := MX11_pageThere) (pc := 47) dX11_pageThere_47 rfl rfl rfl rfl rfl ?_
          refine tt_getI (M := MX11_pageThere) (pc := 48) dX11_pageThere_48 rfl h0.1 rfl ?_
          refine tt_ic_ge (M := MX11_pageThere) (pc := 51) 58 dX11_pageThere_51 rfl ?_ ?_
          · refine tt_iconst (M := MX11_pageThere) (pc := 58) dX11_pageThere_58 ?_
            exact id
          · refine tt_iconst (M := MX11_pageThere) (pc := 54) dX11_pageThere_54 ?_
            refine tt_goto (M := MX11_pageThere) (pc := 55) 59 dX11_pageThere_55 rfl ?_
            exact id
theorem qX11_pageThere_59 {sc : Nat × (Nat → Int32)} {SH : List mCell} {S : mStore} {r : mR × mW} (h0 : sMod SH) {u1 : Option Value} {u2 : Option Value} {s0 : Int} : ((∃ v101 S102, G sc MX11_wants 0 [some (.ref 90), some (.int (I s0)), some (.int (I 3))] [] SH S (rI v101 SH S102) ∧ (if I v101 = I 0 then G sc MX11_pageThere 66 [some (.ref 90), u1, u2] [] SH S102 r else (∃ S103, G sc MX11_go 0 [some (.ref 90), none] [] SH S102 (rV SH S103) ∧ (if I (S103 90 36) = I 2 then G sc MX11_pageThere 91 [some (.ref 90), some (.int (I (S102 90 37))), u2] [.int (I 1), .ref 90] SH S103 r else G sc MX11_pageThere 91 [some (.ref 90), some (.int (I (S102 90 37))), u2] [.int (I 0), .ref 90] SH S103 r))))) → G sc MX11_pageThere 59 [some (.ref 90), u1, u2] [.int (I s0), .ref 90] SH S r := by
  refine tt_iconst (M := MX11_pageThere) (pc := 59) dX11_pageThere_59 ?_
  refine tt_vcIN (M := MX11_pageThere) (pc := 60) dX11_pageThere_60 rfl rfl [] rfl rfl ⟨rfl, by decide, Nat.le_of_ble_eq_true rfl⟩ h0.1 fun v101 S102 => ?_
  refine tt_if_ne (M := MX11_pageThere) (pc := 63) 68 dX11_pageThere_63 rfl ?_ ?_
  · refine tt_ld (M := MX11_pageThere) (pc := 68) dX11_pageThere_68 rfl rfl rfl rfl rfl ?_
    refine tt_getI (M := MX11_pageThere) (pc := 69) dX11_pageThere_69 rfl h0.1 rfl ?_
    refine tt_st (M := MX11_pageThere) (pc := 72) [some (.ref 90), some (.int (I (S102 90 37))), u2] dX11_pageThere_72 rfl rfl rfl rfl rfl rfl ?_
    refine tt_ld (M := MX11_pageThere) (pc := 73) dX11_pageThere_73 rfl rfl rfl rfl rfl ?_
    refine tt_vcVN (M := MX11_pageThere) (pc := 74) dX11_pageThere_74 rfl rfl [] rfl rfl ⟨rfl, by decide, Nat.le_of_ble_eq_true rfl⟩ h0.1 fun S103 => ?_
    refine tt_ld (M := MX11_pageThere) (pc := 77) dX11_pageThere_77 rfl rfl rfl rfl rfl ?_
    refine tt_ld (M := MX11_pageThere) (pc := 78) dX11_pageThere_78 rfl rfl rfl rfl rfl ?_
    refine tt_getI (M := MX11_pageThere) (pc := 79) dX11_pageThere_79 rfl h0.1 rfl ?_
    refine tt_iconst (M := MX11_pageThere) (pc := 82) dX11_pageThere_82 ?_
    refine tt_ic_ne (M := MX11_pageThere) (pc := 83) 90 dX11_pageThere_83 rfl ?_ ?_
    · refine tt_iconst (M := MX11_pageThere) (pc := 90) dX11_pageThere_90 ?_
      exact id
    · refine tt_iconst (M := MX11_pageThere) (pc := 86) dX11_pageThere_86 ?_
      refine tt_goto (M := MX11_pageThere) (pc := 87) 91 dX11_pageThere_87 rfl ?_
      exact id
  · exact id
theorem qX11_pageThere_66 {sc : Nat × (Nat → Int32)} {SH : List mCell} {S : mStore} {r : mR × mW} (h0 : sMod SH) {u1 : Option Value} {u2 : Option Value} : (r = rI (-1) SH S) → G sc MX11_pageThere 66 [some (.ref 90), u1, u2] [] SH S r := by
  refine tt_iconst (M := MX11_pageThere) (pc := 66) dX11_pageThere_66 ?_
  exact tt_iret (M := MX11_pageThere) (pc := 67) dX11_pageThere_67 rfl
theorem qX11_pageThere_91 {sc : Nat × (Nat → Int32)} {SH : List mCell} {S : mStore} {r : mR × mW} (h0 : sMod SH) {l1 : Int} {u2 : Option Value} {s0 : Int} : ((∃ v101 S102, G sc MX11_wants 0 [some (.ref 90), some (.int (I s0)), some (.int (I 1))] [] SH S (rI v101 SH S102) ∧ (if I v101 = I 0 then G sc MX11_pageThere 146 [some (.ref 90), some (.int (I l1)), u2] [] SH S102 r else (if I 12 ≤ I (S102 90 37) then G sc MX11_pageThere 113 [some (.ref 90), some (.int (I l1)), u2] [.int (I 0), .ref 90] SH S102 r else G sc MX11_pageThere 113 [some (.ref 90), some (.int (I l1)), u2] [.int (I 1), .ref 90] SH S102 r)))) → G sc MX11_pageThere 91 [some (.ref 90), some (.int (I l1)), u2] [.int (I s0), .ref 90] SH S r := by
  refine tt_iconst (M := MX11_pageThere) (pc := 91) dX11_pageThere_91 ?_
  refine tt_vcIN (M := MX11_pageThere) (pc := 92) dX11_pageThere_92 rfl rfl [] rfl rfl ⟨rfl, by decide, Nat.le_of_ble_eq_true rfl⟩ h0.1 fun v101 S102 => ?_
  refine tt_if_eq (M := MX11_pageThere) (pc := 95) 146 dX11_pageThere_95 rfl ?_ ?_
  · exact id
  · refine tt_ld (M := MX11_pageThere) (pc := 98) dX11_pageThere_98 rfl rfl rfl rfl rfl ?_
    refine tt_ld (M := MX11_pageThere) (pc := 99) dX11_pageThere_99 rfl rfl rfl rfl rfl ?_
    refine tt_getI (M := MX11_pageThere) (pc := 100) dX11_pageThere_100 rfl h0.1 rfl ?_
    refine tt_bipush (M := MX11_pageThere) (pc := 103) dX11_pageThere_103 (by decide) ?_
    refine tt_ic_ge (M := MX11_pageThere) (pc := 105) 112 dX11_pageThere_105 rfl ?_ ?_
    · refine tt_iconst (M := MX11_pageThere) (pc := 112) dX11_pageThere_112 ?_
      exact id
    · refine tt_iconst (M := MX11_pageThere) (pc := 108) dX11_pageThere_108 ?_
      refine tt_goto (M := MX11_pageThere) (pc := 109) 113 dX11_pageThere_109 rfl ?_
      exact id
theorem qX11_pageThere_113 {sc : Nat × (Nat → Int32)} {SH : List mCell} {S : mStore} {r : mR × mW} (h0 : sMod SH) {l1 : Int} {u2 : Option Value} {s0 : Int} : ((∃ v101 S102, G sc MX11_wants 0 [some (.ref 90), some (.int (I s0)), some (.int (I 2))] [] SH S (rI v101 SH S102) ∧ (if I v101 = I 0 then G sc MX11_pageThere 146 [some (.ref 90), some (.int (I l1)), u2] [] SH S102 r else (((0 : Int) ≤ l1 ∧ l1 < 4) ∧ (if I (S102 95 l1) ≤ I (S102 90 37) then G sc MX11_pageThere 139 [some (.ref 90), some (.int (I l1)), u2] [.int (I 0), .ref 90] SH S102 r else G sc MX11_pageThere 139 [some (.ref 90), some (.int (I l1)), u2] [.int (I 1), .ref 90] SH S102 r))))) → G sc MX11_pageThere 113 [some (.ref 90), some (.int (I l1)), u2] [.int (I s0), .ref 90] SH S r := by
  refine tt_iconst (M := MX11_pageThere) (pc := 113) dX11_pageThere_113 ?_
  refine tt_vcIN (M := MX11_pageThere) (pc := 114) dX11_pageThere_114 rfl rfl [] rfl rfl ⟨rfl, by decide, Nat.le_of_ble_eq_true rfl⟩ h0.1 fun v101 S102 => ?_
  refine tt_if_eq (M := MX11_pageThere) (pc := 117) 146 dX11_pageThere_117 rfl ?_ ?_
  · exact id
  · refine tt_ld (M := MX11_pageThere) (pc := 120) dX11_pageThere_120 rfl rfl rfl rfl rfl ?_
    refine tt_ld (M := MX11_pageThere) (pc := 121) dX11_pageThere_121 rfl rfl rfl rfl rfl ?_
    refine tt_getI (M := MX11_pageThere) (pc := 122) dX11_pageThere_122 rfl h0.1 rfl ?_
    refine tt_ld (M := MX11_pageThere) (pc := 125) dX11_pageThere_125 rfl rfl rfl rfl rfl ?_
    refine tt_getR (M := MX11_pageThere) (pc := 126) dX11_pageThere_126 rfl h0.1 rfl ?_
    refine tt_ld (M := MX11_pageThere) (pc := 129) dX11_pageThere_129 rfl rfl rfl rfl rfl ?_
    refine tt_iaload (M := MX11_pageThere) (pc := 130) dX11_pageThere_130 h0.2.2.2.2.2.1 rfl ?_
    refine tt_ic_ge (M := MX11_pageThere) (pc := 131) 138 dX11_pageThere_131 rfl ?_ ?_
    · refine tt_iconst (M := MX11_pageThere) (pc := 138) dX11_pageThere_138 ?_
      exact id
    · refine tt_iconst (M := MX11_pageThere) (pc := 134) dX11_pageThere_134 ?_
      refine tt_goto (M := MX11_pageThere) (pc := 135) 139 dX11_pageThere_135 rfl ?_
      exact id
theorem qX11_pageThere_139 {sc : Nat × (Nat → Int32)} {SH : List mCell} {S : mStore} {r : mR × mW} (h0 : sMod SH) {l1 : Int} {u2 : Option Value} {s0 : Int} : ((∃ v101 S102, G sc MX11_wants 0 [some (.ref 90), some (.int (I s0)), some (.int (I 3))] [] SH S (rI v101 SH S102) ∧ (if I v101 = I 0 then G sc MX11_pageThere 146 [some (.ref 90), some (.int (I l1)), u2] [] SH S102 r else (((0 : Int) ≤ l1 ∧ l1 < 5) ∧ (∃ S103, G sc MX11_go 0 [some (.ref 90), none] [] SH S102 (rV SH S103) ∧ r = rI ((S102 97 l1) + (S102 90 37)) SH S103))))) → G sc MX11_pageThere 139 [some (.ref 90), some (.int (I l1)), u2] [.int (I s0), .ref 90] SH S r := by
  refine tt_iconst (M := MX11_pageThere) (pc := 139) dX11_pageThere_139 ?_
  refine tt_vcIN (M := MX11_pageThere) (pc := 140) dX11_pageThere_140 rfl rfl [] rfl rfl ⟨rfl, by decide, Nat.le_of_ble_eq_true rfl⟩ h0.1 fun v101 S102 => ?_
  refine tt_if_ne (M := MX11_pageThere) (pc := 143) 148 dX11_pageThere_143 rfl ?_ ?_
  · refine tt_ld (M := MX11_pageThere) (pc := 148) dX11_pageThere_148 rfl rfl rfl rfl rfl ?_
    refine tt_getR (M := MX11_pageThere) (pc := 149) dX11_pageThere_149 rfl h0.1 rfl ?_
    refine tt_ld (M := MX11_pageThere) (pc := 152) dX11_pageThere_152 rfl rfl rfl rfl rfl ?_
    refine tt_iaload (M := MX11_pageThere) (pc := 153) dX11_pageThere_153 h0.2.2.2.2.2.2.2.1 rfl ?_
    refine tt_ld (M := MX11_pageThere) (pc := 154) dX11_pageThere_154 rfl rfl rfl rfl rfl ?_
    refine tt_getI (M := MX11_pageThere) (pc := 155) dX11_pageThere_155 rfl h0.1 rfl ?_
    refine tt_iadd (M := MX11_pageThere) (pc := 158) dX11_pageThere_158 ?_
    refine tt_st (M := MX11_pageThere) (pc := 159) [some (.ref 90), some (.int (I l1)), some (.int (I ((S102 97 l1) + (S102 90 37))))] dX11_pageThere_159 rfl rfl rfl rfl rfl rfl ?_
    refine tt_ld (M := MX11_pageThere) (pc := 160) dX11_pageThere_160 rfl rfl rfl rfl rfl ?_
    refine tt_vcVN (M := MX11_pageThere) (pc := 161) dX11_pageThere_161 rfl rfl [] rfl rfl ⟨rfl, by decide, Nat.le_of_ble_eq_true rfl⟩ h0.1 fun S103 => ?_
    refine tt_ld (M := MX11_pageThere) (pc := 164) dX11_pageThere_164 rfl rfl rfl rfl rfl ?_
    exact tt_iret (M := MX11_pageThere) (pc := 165) dX11_pageThere_165 rfl
  · exact id
theorem qX11_pageThere_146 {sc : Nat × (Nat → Int32)} {SH : List mCell} {S : mStore} {r : mR × mW} (h0 : sMod SH) {l1 : Int} {u2 : Option Value} : (r = rI (-1) SH S) → G sc MX11_pageThere 146 [some (.ref 90), some (.int (I l1)), u2] [] SH S r := by
  refine tt_iconst (M := MX11_pageThere) (pc := 146) dX11_pageThere_146 ?_
  exact tt_iret (M := MX11_pageThere) (pc := 147) dX11_pageThere_147 rfl
theorem qX11_order_0 {sc : Nat × (Nat → Int32)} {SH : List mCell} {S : mStore} {r : mR × mW} (h0 : sMod SH) {u1 : Option Value} : ((if I (S 90 36) = I 1 then (if I (S 90 38) < I 8 then G sc MX11_order 30 [some (.ref 90), some (.int (I (4 * (S 90 55))))] [.int (I 0), .ref 90] SH S r else G sc MX11_order 30 [some (.ref 90), some (.int (I (4 * (S 90 55))))] [.int (I 1), .ref 90] SH S r) else G sc MX11_order 30 [some (.ref 90), some (.int (I (4 * (S 90 55))))] [.int (I 0), .ref 90] SH S r)) → G sc MX11_order 0 [some (.ref 90), u1] [] SH S r := by
  refine tt_iconst (M := MX11_order) (pc := 0) dX11_order_0 ?_
  refine tt_ld (M := MX11_order) (pc := 1) dX11_order_1 rfl rfl rfl rfl rfl ?_
  refine tt_getI (M := MX11_order) (pc := 2) dX11_order_2 rfl h0.1 rfl ?_
  refine tt_imul (M := MX11_order) (pc := 5) dX11_order_5 ?_
  refine tt_st (M := MX11_order) (pc := 6) [some (.ref 90), some (.int (I (4 * (S 90 55))))] dX11_order_6 rfl rfl rfl rfl rfl rfl ?_
  refine tt_ld (M := MX11_order) (pc := 7) dX11_order_7 rfl rfl rfl rfl rfl ?_
  refine tt_ld (M := MX11_order) (pc := 8) dX11_order_8 rfl rfl rfl rfl rfl ?_
  refine tt_getI (M := MX11_order) (pc := 9) dX11_order_9 rfl h0.1 rfl ?_
  refine tt_iconst (M := MX11_order) (pc := 12) dX11_order_12 ?_
  refine tt_ic_ne (M := MX11_order) (pc := 13) 29 dX11_order_13 rfl ?_ ?_
  · refine tt_iconst (M := MX11_order) (pc := 29) dX11_order_29 ?_
    exact id
  · refine tt_ld (M := MX11_order) (pc := 16) dX11_order_16 rfl rfl rfl rfl rfl ?_
    refine tt_getI (M := MX11_order) (pc := 17) dX11_order_17 rfl h0.1 rfl ?_
    refine tt_bipush (M := MX11_order) (pc := 20) dX11_order_20 (by decide) ?_
    refine tt_ic_lt (M := MX11_order) (pc := 22) 29 dX11_order_22 rfl ?_ ?_
    · refine tt_iconst (M := MX11_order) (pc := 29) dX11_order_29 ?_
      exact id
    · refine tt_iconst (M := MX11_order) (pc := 25) dX11_order_25 ?_
      refine tt_goto (M := MX11_order) (pc := 26) 30 dX11_order_26 rfl ?_
      exact id
theorem qX11_order_30 {sc : Nat × (Nat → Int32)} {SH : List mCell} {S : mStore} {r : mR × mW} (h0 : sMod SH) {l1 : Int} {s0 : Int} : ((∃ v101 S102, G sc MX11_wants 0 [some (.ref 90), some (.int (I s0)), some (.int (I 1))] [] SH S (rI v101 SH S102) ∧ (if I v101 = I 0 then r = rV SH S102 else (((0 : Int) ≤ l1 ∧ l1 < 600) ∧ (∃ S103, G sc MX11_go 0 [some (.ref 90), none] [] SH (up S102 107 l1 (S102 90 38)) (rV SH S103) ∧ (((0 : Int) ≤ l1 ∧ l1 < 600) ∧ (if I (S103 107 l1) = I 11 then G sc MX11_order 74 [some (.ref 90), some (.int (I l1))] [] SH S103 r else (((0 : Int) ≤ l1 ∧ l1 < 600) ∧ (if I (S103 107 l1) = I 12 then G sc MX11_order 74 [some (.ref 90), some (.int (I l1))] [] SH S103 r else (∃ v104 S105, G sc MX11_pageThere 0 [some (.ref 90), none, none] [] SH S103 (rI v104 SH S105) ∧ (((0 : Int) ≤ l1 + 1 ∧ l1 + 1 < 600) ∧ (if I ((up S105 107 (l1 + 1) v104) 90 39) = I 0 then (((0 : Int) ≤ l1 ∧ l1 < 600) ∧ (if I ((up S105 107 (l1 + 1) v104) 107 l1) = I 9 then (∃ v106 S107, G sc MX11_pageThere 0 [some (.ref 90), none, none] [] SH (up S105 107 (l1 + 1) v104) (rI v106 SH S107) ∧ (((0 : Int) ≤ l1 + 2 ∧ l1 + 2 < 600) ∧ G sc MX11_order 150 [some (.ref 90), some (.int (I l1))] [] SH (up S107 107 (l1 + 2) v106) r)) else G sc MX11_order 150 [some (.ref 90), some (.int (I l1))] [] SH (up S105 107 (l1 + 1) v104) r)) else G sc MX11_order 150 [some (.ref 90), some (.int (I l1))] [] SH (up S105 107 (l1 + 1) v104) r)))))))))))) → G sc MX11_order 30 [some (.ref 90), some (.int (I l1))] [.int (I s0), .ref 90] SH S r := by
  refine tt_iconst (M := MX11_order) (pc := 30) dX11_order_30 ?_
  refine tt_vcIN (M := MX11_order) (pc := 31) dX11_order_31 rfl rfl [] rfl rfl ⟨rfl, by decide, Nat.le_of_ble_eq_true rfl⟩ h0.1 fun v101 S102 => ?_
  refine tt_if_ne (M := MX11_order) (pc := 34) 38 dX11_order_34 rfl ?_ ?_
  · refine tt_ld (M := MX11_order) (pc := 38) dX11_order_38 rfl rfl rfl rfl rfl ?_
    refine tt_getR (M := MX11_order) (pc := 39) dX11_order_39 rfl h0.1 rfl ?_
    refine tt_ld (M := MX11_order) (pc := 42) dX11_order_42 rfl rfl rfl rfl rfl ?_
    refine tt_ld (M := MX11_order) (pc := 43) dX11_order_43 rfl rfl rfl rfl rfl ?_
    refine tt_getI (M := MX11_order) (pc := 44) dX11_order_44 rfl h0.1 rfl ?_
    refine tt_iastore (M := MX11_order) (pc := 47) dX11_order_47 h0.2.2.2.2.2.2.2.2.2.2.2.2.2.2.2.2.2.1 rfl ?_
    refine tt_ld (M := MX11_order) (pc := 48) dX11_order_48 rfl rfl rfl rfl rfl ?_
    refine tt_vcVN (M := MX11_order) (pc := 49) dX11_order_49 rfl rfl [] rfl rfl ⟨rfl, by decide, Nat.le_of_ble_eq_true rfl⟩ h0.1 fun S103 => ?_
    refine tt_ld (M := MX11_order) (pc := 52) dX11_order_52 rfl rfl rfl rfl rfl ?_
    refine tt_getR (M := MX11_order) (pc := 53) dX11_order_53 rfl h0.1 rfl ?_
    refine tt_ld (M := MX11_order) (pc := 56) dX11_order_56 rfl rfl rfl rfl rfl ?_
    refine tt_iaload (M := MX11_order) (pc := 57) dX11_order_57 h0.2.2.2.2.2.2.2.2.2.2.2.2.2.2.2.2.2.1 rfl ?_
    refine tt_bipush (M := MX11_order) (pc := 58) dX11_order_58 (by decide) ?_
    refine tt_ic_eq (M := MX11_order) (pc := 60) 74 dX11_order_60 rfl ?_ ?_
    · exact id
    · refine tt_ld (M := MX11_order) (pc := 63) dX11_order_63 rfl rfl rfl rfl rfl ?_
      refine tt_getR (M := MX11_order) (pc := 64) dX11_order_64 rfl h0.1 rfl ?_
      refine tt_ld (M := MX11_order) (pc := 67) dX11_order_67 rfl rfl rfl rfl rfl ?_
      refine tt_iaload (M := MX11_order) (pc := 68) dX11_order_68 h0.2.2.2.2.2.2.2.2.2.2.2.2.2.2.2.2.2.1 rfl ?_
      refine tt_bipush (M := MX11_order) (pc := 69) dX11_order_69 (by decide) ?_
      refine tt_ic_ne (M := MX11_order) (pc := 71) 108 dX11_order_71 rfl ?_ ?_
      · refine tt_ld (M := MX11_order) (pc := 108) dX11_order_108 rfl rfl rfl rfl rfl ?_
        refine tt_getR (M := MX11_order) (pc := 109) dX11_order_109 rfl h0.1 rfl ?_
        refine tt_ld (M := MX11_order) (pc := 112) dX11_order_112 rfl rfl rfl rfl rfl ?_
        refine tt_iconst (M := MX11_order) (pc := 113) dX11_order_113 ?_
        refine tt_iadd (M := MX11_order) (pc := 114) dX11_order_114 ?_
        refine tt_ld (M := MX11_order) (pc := 115) dX11_order_115 rfl rfl rfl rfl rfl ?_
        refine tt_vcIN (M := MX11_order) (pc := 116) dX11_order_116 rfl rfl [.int (I (l1 + 1)), .ref 107] rfl rfl ⟨rfl, by decide, Nat.le_of_ble_eq_true rfl⟩ h0.1 fun v104 S105 => ?_
        refine tt_iastore (M := MX11_order) (pc := 119) dX11_order_119 h0.2.2.2.2.2.2.2.2.2.2.2.2.2.2.2.2.2.1 rfl ?_
        refine tt_ld (M := MX11_order) (pc := 120) dX11_order_120 rfl rfl rfl rfl rfl ?_
        refine tt_getI (M := MX11_order) (pc := 121) dX11_order_121 rfl h0.1 rfl ?_
        refine tt_if_ne (M := MX11_order) (pc := 124) 150 dX11_order_124 rfl ?_ ?_
        · exact id
        · refine tt_ld (M := MX11_order) (pc := 127) dX11_order_127 rfl rfl rfl rfl rfl ?_
          refine tt_getR (M := MX11_order) (pc := 128) dX11_order_128 rfl h0.1 rfl ?_
          refine tt_ld (M := MX11_order) (pc := 131) dX11_order_131 rfl rfl rfl rfl rfl ?_
          refine tt_iaload (M := MX11_order) (pc := 132) dX11_order_132 h0.2.2.2.2.2.2.2.2.2.2.2.2.2.2.2.2.2.1 rfl ?_
          refine tt_bipush (M := MX11_order) (pc := 133) dX11_order_133 (by decide) ?_
          refine tt_ic_ne (M := MX11_order) (pc := 135) 150 dX11_order_135 rfl ?_ ?_
          · exact id
          · refine tt_ld (M := MX11_order) (pc := 138) dX11_order_138 rfl rfl rfl rfl rfl ?_
            refine tt_getR (M := MX11_order) (pc := 139) dX11_order_139 rfl h0.1 rfl ?_
            refine tt_ld (M := MX11_order) (pc := 142) dX11_order_142 rfl rfl rfl rfl rfl ?_
            refine tt_iconst (M := MX11_order) (pc := 143) dX11_order_143 ?_
            refine tt_iadd (M := MX11_order) (pc := 144) dX11_order_144 ?_
            refine tt_ld (M := MX11_order) (pc := 145) dX11_order_145 rfl rfl rfl rfl rfl ?_
            refine tt_vcIN (M := MX11_order) (pc := 146) dX11_order_146 rfl rfl [.int (I (l1 + 2)), .ref 107] rfl rfl ⟨rfl, by decide, Nat.le_of_ble_eq_true rfl⟩ h0.1 fun v106 S107 => ?_
            refine tt_iastore (M := MX11_order) (pc := 149) dX11_order_149 h0.2.2.2.2.2.2.2.2.2.2.2.2.2.2.2.2.2.1 rfl ?_
            exact id
      · exact id
  · exact tt_ret (M := MX11_order) (pc := 37) dX11_order_37 rfl
theorem qX11_order_74 {sc : Nat × (Nat → Int32)} {SH : List mCell} {S : mStore} {r : mR × mW} (h0 : sMod SH) {l1 : Int} : ((((0 : Int) ≤ l1 ∧ l1 < 600) ∧ (if I (S 107 l1) = I 11 then G sc MX11_order 101 [some (.ref 90), some (.int (I l1))] [.int (I 100), .int (I 1), .ref 90, .int (I (l1 + 1)), .ref 107] SH S r else G sc MX11_order 101 [some (.ref 90), some (.int (I l1))] [.int (I 20), .int (I 1), .ref 90, .int (I (l1 + 1)), .ref 107] SH S r))) → G sc MX11_order 74 [some (.ref 90), some (.int (I l1))] [] SH S r := by
  refine tt_ld (M := MX11_order) (pc := 74) dX11_order_74 rfl rfl rfl rfl rfl ?_
  refine tt_getR (M := MX11_order) (pc := 75) dX11_order_75 rfl h0.1 rfl ?_
  refine tt_ld (M := MX11_order) (pc := 78) dX11_order_78 rfl rfl rfl rfl rfl ?_
  refine tt_iconst (M := MX11_order) (pc := 79) dX11_order_79 ?_
  refine tt_iadd (M := MX11_order) (pc := 80) dX11_order_80 ?_
  refine tt_ld (M := MX11_order) (pc := 81) dX11_order_81 rfl rfl rfl rfl rfl ?_
  refine tt_iconst (M := MX11_order) (pc := 82) dX11_order_82 ?_
  refine tt_ld (M := MX11_order) (pc := 83) dX11_order_83 rfl rfl rfl rfl rfl ?_
  refine tt_getR (M := MX11_order) (pc := 84) dX11_order_84 rfl h0.1 rfl ?_
  refine tt_ld (M := MX11_order) (pc := 87) dX11_order_87 rfl rfl rfl rfl rfl ?_
  refine tt_iaload (M := MX11_order) (pc := 88) dX11_order_88 h0.2.2.2.2.2.2.2.2.2.2.2.2.2.2.2.2.2.1 rfl ?_
  refine tt_bipush (M := MX11_order) (pc := 89) dX11_order_89 (by decide) ?_
  refine tt_ic_ne (M := MX11_order) (pc := 91) 99 dX11_order_91 rfl ?_ ?_
  · refine tt_bipush (M := MX11_order) (pc := 99) dX11_order_99 (by decide) ?_
    exact id
  · refine tt_bipush (M := MX11_order) (pc := 94) dX11_order_94 (by decide) ?_
    refine tt_goto (M := MX11_order) (pc := 96) 101 dX11_order_96 rfl ?_
    exact id
theorem qX11_order_101 {sc : Nat × (Nat → Int32)} {SH : List mCell} {S : mStore} {r : mR × mW} (h0 : sMod SH) {l1 : Int} {s0 : Int} {s1 : Int} {s3 : Int} : ((∃ v101 S102, G sc MX11_number 0 [some (.ref 90), some (.int (I s1)), some (.int (I s0)), none] [] SH S (rI v101 SH S102) ∧ (((0 : Int) ≤ s3 ∧ s3 < 600) ∧ G sc MX11_order 215 [some (.ref 90), some (.int (I l1))] [] SH (up S102 107 s3 v101) r))) → G sc MX11_order 101 [some (.ref 90), some (.int (I l1))] [.int (I s0), .int (I s1), .ref 90, .int (I s3), .ref 107] SH S r := by
  refine tt_vcIN (M := MX11_order) (pc := 101) dX11_order_101 rfl rfl [.int (I s3), .ref 107] rfl rfl ⟨rfl, by decide, Nat.le_of_ble_eq_true rfl⟩ h0.1 fun v101 S102 => ?_
  refine tt_iastore (M := MX11_order) (pc := 104) dX11_order_104 h0.2.2.2.2.2.2.2.2.2.2.2.2.2.2.2.2.2.1 rfl ?_
  refine tt_goto (M := MX11_order) (pc := 105) 215 dX11_order_105 rfl ?_
  exact id
theorem qX11_order_150 {sc : Nat × (Nat → Int32)} {SH : List mCell} {S : mStore} {r : mR × mW} (h0 : sMod SH) {l1 : Int} : ((if I (S 90 39) = I 0 then (((0 : Int) ≤ l1 ∧ l1 < 600) ∧ (if I (S 107 l1) = I 8 then (∃ v101 S102, G sc MX11_number 0 [some (.ref 90), some (.int (I 0)), some (.int (I 3)), none] [] SH S (rI v101 SH S102) ∧ (((0 : Int) ≤ l1 + 2 ∧ l1 + 2 < 600) ∧ G sc MX11_order 182 [some (.ref 90), some (.int (I l1))] [] SH (up S102 107 (l1 + 2) v101) r)) else G sc MX11_order 182 [some (.ref 90), some (.int (I l1))] [] SH S r)) else G sc MX11_order 182 [some (.ref 90), some (.int (I l1))] [] SH S r)) → G sc MX11_order 150 [some (.ref 90), some (.int (I l1))] [] SH S r := by
  refine tt_ld (M := MX11_order) (pc := 150) dX11_order_150 rfl rfl rfl rfl rfl ?_
  refine tt_getI (M := MX11_order) (pc := 151) dX11_order_151 rfl h0.1 rfl ?_
  refine tt_if_ne (M := MX11_order) (pc := 154) 182 dX11_order_154 rfl ?_ ?_
  · exact id
  · refine tt_ld (M := MX11_order) (pc := 157) dX11_order_157 rfl rfl rfl rfl rfl ?_
    refine tt_getR (M := MX11_order) (pc := 158) dX11_order_158 rfl h0.1 rfl ?_
    refine tt_ld (M := MX11_order) (pc := 161) dX11_order_161 rfl rfl rfl rfl rfl ?_
    refine tt_iaload (M := MX11_order) (pc := 162) dX11_order_162 h0.2.2.2.2.2.2.2.2.2.2.2.2.2.2.2.2.2.1 rfl ?_
    refine tt_bipush (M := MX11_order) (pc := 163) dX11_order_163 (by decide) ?_
    refine tt_ic_ne (M := MX11_order) (pc := 165) 182 dX11_order_165 rfl ?_ ?_
    · exact id
    · refine tt_ld (M := MX11_order) (pc := 168) dX11_order_168 rfl rfl rfl rfl rfl ?_
      refine tt_getR (M := MX11_order) (pc := 169) dX11_order_169 rfl h0.1 rfl ?_
      refine tt_ld (M := MX11_order) (pc := 172) dX11_order_172 rfl rfl rfl rfl rfl ?_
      refine tt_iconst (M := MX11_order) (pc := 173) dX11_order_173 ?_
      refine tt_iadd (M := MX11_order) (pc := 174) dX11_order_174 ?_
      refine tt_ld (M := MX11_order) (pc := 175) dX11_order_175 rfl rfl rfl rfl rfl ?_
      refine tt_iconst (M := MX11_order) (pc := 176) dX11_order_176 ?_
      refine tt_iconst (M := MX11_order) (pc := 177) dX11_order_177 ?_
      refine tt_vcIN (M := MX11_order) (pc := 178) dX11_order_178 rfl rfl [.int (I (l1 + 2)), .ref 107] rfl rfl ⟨rfl, by decide, Nat.le_of_ble_eq_true rfl⟩ h0.1 fun v101 S102 => ?_
      refine tt_iastore (M := MX11_order) (pc := 181) dX11_order_181 h0.2.2.2.2.2.2.2.2.2.2.2.2.2.2.2.2.2.1 rfl ?_
      exact id
theorem qX11_order_182 {sc : Nat × (Nat → Int32)} {SH : List mCell} {S : mStore} {r : mR × mW} (h0 : sMod SH) {l1 : Int} : ((if I (S 90 39) = I 0 then (((0 : Int) ≤ l1 ∧ l1 < 600) ∧ (if I (S 107 l1) = I 8 then (∃ v101 S102, G sc MX11_number 0 [some (.ref 90), some (.int (I 0)), some (.int (I 15)), none] [] SH S (rI v101 SH S102) ∧ (((0 : Int) ≤ l1 + 3 ∧ l1 + 3 < 600) ∧ G sc MX11_order 215 [some (.ref 90), some (.int (I l1))] [] SH (up S102 107 (l1 + 3) v101) r)) else G sc MX11_order 215 [some (.ref 90), some (.int (I l1))] [] SH S r)) else G sc MX11_order 215 [some (.ref 90), some (.int (I l1))] [] SH S r)) → G sc MX11_order 182 [some (.ref 90), some (.int (I l1))] [] SH S r := by
  refine tt_ld (M := MX11_order) (pc := 182) dX11_order_182 rfl rfl rfl rfl rfl ?_
  refine tt_getI (M := MX11_order) (pc := 183) dX11_order_183 rfl h0.1 rfl ?_
  refine tt_if_ne (M := MX11_order) (pc := 186) 215 dX11_order_186 rfl ?_ ?_
  · exact id
  · refine tt_ld (M := MX11_order) (pc := 189) dX11_order_189 rfl rfl rfl rfl rfl ?_
    refine tt_getR (M := MX11_order) (pc := 190) dX11_order_190 rfl h0.1 rfl ?_
    refine tt_ld (M := MX11_order) (pc := 193) dX11_order_193 rfl rfl rfl rfl rfl ?_
    refine tt_iaload (M := MX11_order) (pc := 194) dX11_order_194 h0.2.2.2.2.2.2.2.2.2.2.2.2.2.2.2.2.2.1 rfl ?_
    refine tt_bipush (M := MX11_order) (pc := 195) dX11_order_195 (by decide) ?_
    refine tt_ic_ne (M := MX11_order) (pc := 197) 215 dX11_order_197 rfl ?_ ?_
    · exact id
    · refine tt_ld (M := MX11_order) (pc := 200) dX11_order_200 rfl rfl rfl rfl rfl ?_
      refine tt_getR (M := MX11_order) (pc := 201) dX11_order_201 rfl h0.1 rfl ?_
      refine tt_ld (M := MX11_order) (pc := 204) dX11_order_204 rfl rfl rfl rfl rfl ?_
      refine tt_iconst (M := MX11_order) (pc := 205) dX11_order_205 ?_
      refine tt_iadd (M := MX11_order) (pc := 206) dX11_order_206 ?_
      refine tt_ld (M := MX11_order) (pc := 207) dX11_order_207 rfl rfl rfl rfl rfl ?_
      refine tt_iconst (M := MX11_order) (pc := 208) dX11_order_208 ?_
      refine tt_bipush (M := MX11_order) (pc := 209) dX11_order_209 (by decide) ?_
      refine tt_vcIN (M := MX11_order) (pc := 211) dX11_order_211 rfl rfl [.int (I (l1 + 3)), .ref 107] rfl rfl ⟨rfl, by decide, Nat.le_of_ble_eq_true rfl⟩ h0.1 fun v101 S102 => ?_
      refine tt_iastore (M := MX11_order) (pc := 214) dX11_order_214 h0.2.2.2.2.2.2.2.2.2.2.2.2.2.2.2.2.2.1 rfl ?_
      exact id
theorem qX11_order_215 {sc : Nat × (Nat → Int32)} {SH : List mCell} {S : mStore} {r : mR × mW} (h0 : sMod SH) {l1 : Int} : (r = rV SH (up S 90 55 ((S 90 55) + 1))) → G sc MX11_order 215 [some (.ref 90), some (.int (I l1))] [] SH S r := by
  refine tt_ld (M := MX11_order) (pc := 215) dX11_order_215 rfl rfl rfl rfl rfl ?_
  refine tt_dup (M := MX11_order) (pc := 216) dX11_order_216 rfl ?_
  refine tt_getI (M := MX11_order) (pc := 217) dX11_order_217 rfl h0.1 rfl ?_
  refine tt_iconst (M := MX11_order) (pc := 220) dX11_order_220 ?_
  refine tt_iadd (M := MX11_order) (pc := 221) dX11_order_221 ?_
  refine tt_putI (M := MX11_order) (pc := 222) dX11_order_222 rfl rfl (Or.inl rfl) h0.1 rfl ?_
  exact tt_ret (M := MX11_order) (pc := 225) dX11_order_225 rfl
theorem qX11_isDone_0 {sc : Nat × (Nat → Int32)} {SH : List mCell} {S : mStore} {r : mR × mW} (h0 : sMod SH) {l1 : Int} {u2 : Option Value} : ((((0 : Int) ≤ l1 + 1 ∧ l1 + 1 < 600) ∧ (((0 : Int) ≤ l1 ∧ l1 < 600) ∧ (swp (S 107 l1) 8 (((0 : Int) ≤ 2 ∧ (2 : Int) < 137400) ∧ (if I ((S 91 2) + (S 107 (l1 + 1))) ≤ I 9999 then (∃ v101 S102, G sc MX11_ticksOf 0 [some (.ref 90), some (.int (I 0)), some (.int (I (S 107 (l1 + 1)))), none, none] [] SH S (rI v101 SH S102) ∧ ((I 1 = I 0 ∨ I 1 = I 1) ∧ r = rI 1 SH S102)) else ((I 0 = I 0 ∨ I 0 = I 1) ∧ r = rI 0 SH S))) [(((0 : Int) ≤ l1 + 2 ∧ l1 + 2 < 600) ∧ (((0 : Int) ≤ l1 + 3 ∧ l1 + 3 < 600) ∧ (∃ v103 S104, G sc MX11_writesCell 0 [some (.ref 90), some (.int (I 0)), some (.int (I (S 107 (l1 + 1)))), some (.int (I (S 107 (l1 + 2)))), some (.int (I (S 107 (l1 + 3))))] [] SH S (rI v103 SH S104) ∧ (if I v103 = I (-1) then ((I 0 = I 0 ∨ I 0 = I 1) ∧ r = rI 0 SH S104) else ((I 1 = I 0 ∨ I 1 = I 1) ∧ r = rI 1 SH S104))))), (((0 : Int) ≤ l1 + 2 ∧ l1 + 2 < 600) ∧ (∃ S105, G sc MX11_saysAs 0 [some (.ref 90), some (.int (I 0)), some (.int (I (S 107 (l1 + 2)))), none] [] SH S (rV SH S105) ∧ (∃ v106 S107, G sc MX11_writes 0 [some (.ref 90), some (.int (I 0)), some (.int (I (S 107 (l1 + 1)))), none, none, none, none] [] SH S105 (rI v106 SH S107) ∧ (if I v106 = I (-1) then ((I 0 = I 0 ∨ I 0 = I 1) ∧ r = rI 0 SH S107) else ((I 1 = I 0 ∨ I 1 = I 1) ∧ r = rI 1 SH S107))))), (∃ v108 S109, G sc MX11_drops 0 [some (.ref 90), some (.int (I 0)), some (.int (I (S 107 (l1 + 1)))), none] [] SH S (rI v108 SH S109) ∧ (if I v108 = I (-1) then ((I 0 = I 0 ∨ I 0 = I 1) ∧ r = rI 0 SH S109) else ((I 1 = I 0 ∨ I 1 = I 1) ∧ r = rI 1 SH S109))), (∃ v110 S111, G sc MX11_scans 0 [some (.ref 90), some (.int (I 0)), some (.int (I (S 107 (l1 + 1)))), none, none, none] [] SH S (rI v110 SH S111) ∧ ((I 1 = I 0 ∨ I 1 = I 1) ∧ r = rI 1 SH S111))])))) → G sc MX11_isDone 0 [some (.ref 90), some (.int (I l1)), u2] [] SH S r := by
  refine tt_ld (M := MX11_isDone) (pc := 0) dX11_isDone_0 rfl rfl rfl rfl rfl ?_
  refine tt_getR (M := MX11_isDone) (pc := 1) dX11_isDone_1 rfl h0.1 rfl ?_
  refine tt_ld (M := MX11_isDone) (pc := 4) dX11_isDone_4 rfl rfl rfl rfl rfl ?_
  refine tt_iconst (M := MX11_isDone) (pc := 5) dX11_isDone_5 ?_
  refine tt_iadd (M := MX11_isDone) (pc := 6) dX11_isDone_6 ?_
  refine tt_iaload (M := MX11_isDone) (pc := 7) dX11_isDone_7 h0.2.2.2.2.2.2.2.2.2.2.2.2.2.2.2.2.2.1 rfl ?_
  refine tt_st (M := MX11_isDone) (pc := 8) [some (.ref 90), some (.int (I l1)), some (.int (I (S 107 (l1 + 1))))] dX11_isDone_8 rfl rfl rfl rfl rfl rfl ?_
  refine tt_ld (M := MX11_isDone) (pc := 9) dX11_isDone_9 rfl rfl rfl rfl rfl ?_
  refine tt_getR (M := MX11_isDone) (pc := 10) dX11_isDone_10 rfl h0.1 rfl ?_
  refine tt_ld (M := MX11_isDone) (pc := 13) dX11_isDone_13 rfl rfl rfl rfl rfl ?_
  refine tt_iaload (M := MX11_isDone) (pc := 14) dX11_isDone_14 h0.2.2.2.2.2.2.2.2.2.2.2.2.2.2.2.2.2.1 rfl ?_
  refine tt_switch (M := MX11_isDone) (pc := 15) 130 dX11_isDone_15 ⟨by decide, by simp only [List.length_cons, List.length_nil]; omega⟩ rfl rfl ?_ ?_
  · refine tt_ld (M := MX11_isDone) (pc := 130) dX11_isDone_130 rfl rfl rfl rfl rfl ?_
    refine tt_getR (M := MX11_isDone) (pc := 131) dX11_isDone_131 rfl h0.1 rfl ?_
    refine tt_iconst (M := MX11_isDone) (pc := 134) dX11_isDone_134 ?_
    refine tt_iaload (M := MX11_isDone) (pc := 135) dX11_isDone_135 h0.2.1 rfl ?_
    refine tt_ld (M := MX11_isDone) (pc := 136) dX11_isDone_136 rfl rfl rfl rfl rfl ?_
    refine tt_iadd (M := MX11_isDone) (pc := 137) dX11_isDone_137 ?_
    refine tt_sipush (M := MX11_isDone) (pc := 138) dX11_isDone_138 (by decide) ?_
    refine tt_ic_le (M := MX11_isDone) (pc := 141) 146 dX11_isDone_141 rfl ?_ ?_
    · refine tt_ld (M := MX11_isDone) (pc := 146) dX11_isDone_146 rfl rfl rfl rfl rfl ?_
      refine tt_iconst (M := MX11_isDone) (pc := 147) dX11_isDone_147 ?_
      refine tt_ld (M := MX11_isDone) (pc := 148) dX11_isDone_148 rfl rfl rfl rfl rfl ?_
      refine tt_vcIN (M := MX11_isDone) (pc := 149) dX11_isDone_149 rfl rfl [] rfl rfl ⟨rfl, by decide, Nat.le_of_ble_eq_true rfl⟩ h0.1 fun v101 S102 => ?_
      refine tt_pop (M := MX11_isDone) (pc := 152) dX11_isDone_152 rfl ?_
      refine tt_iconst (M := MX11_isDone) (pc := 153) dX11_isDone_153 ?_
      exact tt_zret (M := MX11_isDone) (pc := 154) dX11_isDone_154 rfl
    · refine tt_iconst (M := MX11_isDone) (pc := 144) dX11_isDone_144 ?_
      exact tt_zret (M := MX11_isDone) (pc := 145) dX11_isDone_145 rfl
  · refine ⟨⟨44, rfl, ?_⟩, ⟨⟨76, rfl, ?_⟩, ⟨⟨105, rfl, ?_⟩, ⟨⟨121, rfl, ?_⟩, trivial⟩⟩⟩⟩
    · refine tt_ld (M := MX11_isDone) (pc := 44) dX11_isDone_44 rfl rfl rfl rfl rfl ?_
      refine tt_iconst (M := MX11_isDone) (pc := 45) dX11_isDone_45 ?_
      refine tt_ld (M := MX11_isDone) (pc := 46) dX11_isDone_46 rfl rfl rfl rfl rfl ?_
      refine tt_ld (M := MX11_isDone) (pc := 47) dX11_isDone_47 rfl rfl rfl rfl rfl ?_
      refine tt_getR (M := MX11_isDone) (pc := 48) dX11_isDone_48 rfl h0.1 rfl ?_
      refine tt_ld (M := MX11_isDone) (pc := 51) dX11_isDone_51 rfl rfl rfl rfl rfl ?_
      refine tt_iconst (M := MX11_isDone) (pc := 52) dX11_isDone_52 ?_
      refine tt_iadd (M := MX11_isDone) (pc := 53) dX11_isDone_53 ?_
      refine tt_iaload (M := MX11_isDone) (pc := 54) dX11_isDone_54 h0.2.2.2.2.2.2.2.2.2.2.2.2.2.2.2.2.2.1 rfl ?_
      refine tt_ld (M := MX11_isDone) (pc := 55) dX11_isDone_55 rfl rfl rfl rfl rfl ?_
      refine tt_getR (M := MX11_isDone) (pc := 56) dX11_isDone_56 rfl h0.1 rfl ?_
      refine tt_ld (M := MX11_isDone) (pc := 59) dX11_isDone_59 rfl rfl rfl rfl rfl ?_
      refine tt_iconst (M := MX11_isDone) (pc := 60) dX11_isDone_60 ?_
      refine tt_iadd (M := MX11_isDone) (pc := 61) dX11_isDone_61 ?_
      refine tt_iaload (M := MX11_isDone) (pc := 62) dX11_isDone_62 h0.2.2.2.2.2.2.2.2.2.2.2.2.2.2.2.2.2.1 rfl ?_
      refine tt_vcIN (M := MX11_isDone) (pc := 63) dX11_isDone_63 rfl rfl [] rfl rfl ⟨rfl, by decide, Nat.le_of_ble_eq_true rfl⟩ h0.1 fun v103 S104 => ?_
      refine tt_iconst (M := MX11_isDone) (pc := 66) dX11_isDone_66 ?_
      refine tt_ic_eq (M := MX11_isDone) (pc := 67) 74 dX11_isDone_67 rfl ?_ ?_
      · refine tt_iconst (M := MX11_isDone) (pc := 74) dX11_isDone_74 ?_
        exact tt_zret (M := MX11_isDone) (pc := 75) dX11_isDone_75 rfl
      · refine tt_iconst (M := MX11_isDone) (pc := 70) dX11_isDone_70 ?_
        refine tt_goto (M := MX11_isDone) (pc := 71) 75 dX11_isDone_71 rfl ?_
        exact tt_zret (M := MX11_isDone) (pc := 75) dX11_isDone_75 rfl
    · refine tt_ld (M := MX11_isDone) (pc := 76) dX11_isDone_76 rfl rfl rfl rfl rfl ?_
      refine tt_iconst (M := MX11_isDone) (pc := 77) dX11_isDone_77 ?_
      refine tt_ld (M := MX11_isDone) (pc := 78) dX11_isDone_78 rfl rfl rfl rfl rfl ?_
      refine tt_getR (M := MX11_isDone) (pc := 79) dX11_isDone_79 rfl h0.1 rfl ?_
      refine tt_ld (M := MX11_isDone) (pc := 82) dX11_isDone_82 rfl rfl rfl rfl rfl ?_
      refine tt_iconst (M := MX11_isDone) (pc := 83) dX11_isDone_83 ?_
      refine tt_iadd (M := MX11_isDone) (pc := 84) dX11_isDone_84 ?_
      refine tt_iaload (M := MX11_isDone) (pc := 85) dX11_isDone_85 h0.2.2.2.2.2.2.2.2.2.2.2.2.2.2.2.2.2.1 rfl ?_
      refine tt_vcVN (M := MX11_isDone) (pc := 86) dX11_isDone_86 rfl rfl [] rfl rfl ⟨rfl, by decide, Nat.le_of_ble_eq_true rfl⟩ h0.1 fun S105 => ?_
      refine tt_ld (M := MX11_isDone) (pc := 89) dX11_isDone_89 rfl rfl rfl rfl rfl ?_
      refine tt_iconst (M := MX11_isDone) (pc := 90) dX11_isDone_90 ?_
      refine tt_ld (M := MX11_isDone) (pc := 91) dX11_isDone_91 rfl rfl rfl rfl rfl ?_
      refine tt_vcIN (M := MX11_isDone) (pc := 92) dX11_isDone_92 rfl rfl [] rfl rfl ⟨rfl, by decide, Nat.le_of_ble_eq_true rfl⟩ h0.1 fun v106 S107 => ?_
      refine tt_iconst (M := MX11_isDone) (pc := 95) dX11_isDone_95 ?_
      refine tt_ic_eq (M := MX11_isDone) (pc := 96) 103 dX11_isDone_96 rfl ?_ ?_
      · refine tt_iconst (M := MX11_isDone) (pc := 103) dX11_isDone_103 ?_
        exact tt_zret (M := MX11_isDone) (pc := 104) dX11_isDone_104 rfl
      · refine tt_iconst (M := MX11_isDone) (pc := 99) dX11_isDone_99 ?_
        refine tt_goto (M := MX11_isDone) (pc := 100) 104 dX11_isDone_100 rfl ?_
        exact tt_zret (M := MX11_isDone) (pc := 104) dX11_isDone_104 rfl
    · refine tt_ld (M := MX11_isDone) (pc := 105) dX11_isDone_105 rfl rfl rfl rfl rfl ?_
      refine tt_iconst (M := MX11_isDone) (pc := 106) dX11_isDone_106 ?_
      refine tt_ld (M := MX11_isDone) (pc := 107) dX11_isDone_107 rfl rfl rfl rfl rfl ?_
      refine tt_vcIN (M := MX11_isDone) (pc := 108) dX11_isDone_108 rfl rfl [] rfl rfl ⟨rfl, by decide, Nat.le_of_ble_eq_true rfl⟩ h0.1 fun v108 S109 => ?_
      refine tt_iconst (M := MX11_isDone) (pc := 111) dX11_isDone_111 ?_
      refine tt_ic_eq (M := MX11_isDone) (pc := 112) 119 dX11_isDone_112 rfl ?_ ?_
      · refine tt_iconst (M := MX11_isDone) (pc := 119) dX11_isDone_119 ?_
        exact tt_zret (M := MX11_isDone) (pc := 120) dX11_isDone_120 rfl
      · refine tt_iconst (M := MX11_isDone) (pc := 115) dX11_isDone_115 ?_
        refine tt_goto (M := MX11_isDone) (pc := 116) 120 dX11_isDone_116 rfl ?_
        exact tt_zret (M := MX11_isDone) (pc := 120) dX11_isDone_120 rfl
    · refine tt_ld (M := MX11_isDone) (pc := 121) dX11_isDone_121 rfl rfl rfl rfl rfl ?_
      refine tt_iconst (M := MX11_isDone) (pc := 122) dX11_isDone_122 ?_
      refine tt_ld (M := MX11_isDone) (pc := 123) dX11_isDone_123 rfl rfl rfl rfl rfl ?_
      refine tt_vcIN (M := MX11_isDone) (pc := 124) dX11_isDone_124 rfl rfl [] rfl rfl ⟨rfl, by decide, Nat.le_of_ble_eq_true rfl⟩ h0.1 fun v110 S111 => ?_
      refine tt_pop (M := MX11_isDone) (pc := 127) dX11_isDone_127 rfl ?_
      refine tt_iconst (M := MX11_isDone) (pc := 128) dX11_isDone_128 ?_
      exact tt_zret (M := MX11_isDone) (pc := 129) dX11_isDone_129 rfl
theorem qX11_orders_0 {sc : Nat × (Nat → Int32)} {SH : List mCell} {S : mStore} {r : mR × mW} (h0 : sMod SH) {l1 : Int} {u2 : Option Value} : ((∃ v101 S102, G sc MX11_reads 0 [some (.ref 90), some (.int (I l1))] [] SH S (rI v101 SH S102) ∧ (if I v101 = I 0 then r = rI 0 SH S102 else G sc MX11_orders 15 [some (.ref 90), some (.int (I l1)), u2] [] SH (up S102 90 55 0) r))) → G sc MX11_orders 0 [some (.ref 90), some (.int (I l1)), u2] [] SH S r := by
  refine tt_ld (M := MX11_orders) (pc := 0) dX11_orders_0 rfl rfl rfl rfl rfl ?_
  refine tt_ld (M := MX11_orders) (pc := 1) dX11_orders_1 rfl rfl rfl rfl rfl ?_
  refine tt_vcIN (M := MX11_orders) (pc := 2) dX11_orders_2 rfl rfl [] rfl rfl ⟨rfl, by decide, Nat.le_of_ble_eq_true rfl⟩ h0.1 fun v101 S102 => ?_
  refine tt_if_ne (M := MX11_orders) (pc := 5) 10 dX11_orders_5 rfl ?_ ?_
  · refine tt_ld (M := MX11_orders) (pc := 10) dX11_orders_10 rfl rfl rfl rfl rfl ?_
    refine tt_iconst (M := MX11_orders) (pc := 11) dX11_orders_11 ?_
    refine tt_putI (M := MX11_orders) (pc := 12) dX11_orders_12 rfl rfl (Or.inl rfl) h0.1 rfl ?_
    exact id
  · refine tt_iconst (M := MX11_orders) (pc := 8) dX11_orders_8 ?_
    exact tt_iret (M := MX11_orders) (pc := 9) dX11_orders_9 rfl
theorem qX11_orders_15 {sc : Nat × (Nat → Int32)} {SH : List mCell} {S : mStore} {r : mR × mW} (h0 : sMod SH) {l1 : Int} {u2 : Option Value} : ((if I (S 90 39) = I 0 then (if I (S 90 36) = I 0 then G sc MX11_orders 40 [some (.ref 90), some (.int (I l1)), u2] [] SH S r else (∃ S101, G sc MX11_order 0 [some (.ref 90), none] [] SH S (rV SH S101) ∧ (∃ S102, G sc MX11_ends 0 [some (.ref 90)] [] SH S101 (rV SH S102) ∧ G sc MX11_orders 15 [some (.ref 90), some (.int (I l1)), u2] [] SH S102 r))) else G sc MX11_orders 40 [some (.ref 90), some (.int (I l1)), u2] [] SH S r)) → G sc MX11_orders 15 [some (.ref 90), some (.int (I l1)), u2] [] SH S r := by
  refine tt_ld (M := MX11_orders) (pc := 15) dX11_orders_15 rfl rfl rfl rfl rfl ?_
  refine tt_getI (M := MX11_orders) (pc := 16) dX11_orders_16 rfl h0.1 rfl ?_
  refine tt_if_ne (M := MX11_orders) (pc := 19) 40 dX11_orders_19 rfl ?_ ?_
  · exact id
  · refine tt_ld (M := MX11_orders) (pc := 22) dX11_orders_22 rfl rfl rfl rfl rfl ?_
    refine tt_getI (M := MX11_orders) (pc := 23) dX11_orders_23 rfl h0.1 rfl ?_
    refine tt_if_eq (M := MX11_orders) (pc := 26) 40 dX11_orders_26 rfl ?_ ?_
    · exact id
    · refine tt_ld (M := MX11_orders) (pc := 29) dX11_orders_29 rfl rfl rfl rfl rfl ?_
      refine tt_vcVN (M := MX11_orders) (pc := 30) dX11_orders_30 rfl rfl [] rfl rfl ⟨rfl, by decide, Nat.le_of_ble_eq_true rfl⟩ h0.1 fun S101 => ?_
      refine tt_ld (M := MX11_orders) (pc := 33) dX11_orders_33 rfl rfl rfl rfl rfl ?_
      refine tt_vcVN (M := MX11_orders) (pc := 34) dX11_orders_34 rfl rfl [] rfl rfl ⟨rfl, by decide, Nat.le_of_ble_eq_true rfl⟩ h0.1 fun S102 => ?_
      refine tt_goto (M := MX11_orders) (pc := 37) 15 dX11_orders_37 rfl ?_
      exact id
theorem qX11_orders_40 {sc : Nat × (Nat → Int32)} {SH : List mCell} {S : mStore} {r : mR × mW} (h0 : sMod SH) {l1 : Int} {u2 : Option Value} : ((if I (S 90 39) = I 0 then (∃ S101, G sc MX11_copies 0 [some (.ref 90), some (.int (I 0)), some (.int (I 1654)), some (.int (I 1654)), none] [] SH S (rV SH S101) ∧ G sc MX11_orders 78 [some (.ref 90), some (.int (I l1)), some (.int (I 0))] [] SH S101 r) else (((0 : Int) ≤ 0 ∧ (0 : Int) < 6) ∧ (((0 : Int) ≤ 0 ∧ (0 : Int) < 6) ∧ r = rI ((-10) - ((up S 94 0 ((S 94 0) + 1)) 90 39)) SH (up S 94 0 ((S 94 0) + 1)))))) → G sc MX11_orders 40 [some (.ref 90), some (.int (I l1)), u2] [] SH S r := by
  refine tt_ld (M := MX11_orders) (pc := 40) dX11_orders_40 rfl rfl rfl rfl rfl ?_
  refine tt_getI (M := MX11_orders) (pc := 41) dX11_orders_41 rfl h0.1 rfl ?_
  refine tt_if_eq (M := MX11_orders) (pc := 44) 65 dX11_orders_44 rfl ?_ ?_
  · refine tt_ld (M := MX11_orders) (pc := 65) dX11_orders_65 rfl rfl rfl rfl rfl ?_
    refine tt_iconst (M := MX11_orders) (pc := 66) dX11_orders_66 ?_
    refine tt_sipush (M := MX11_orders) (pc := 67) dX11_orders_67 (by decide) ?_
    refine tt_sipush (M := MX11_orders) (pc := 70) dX11_orders_70 (by decide) ?_
    refine tt_vcVN (M := MX11_orders) (pc := 73) dX11_orders_73 rfl rfl [] rfl rfl ⟨rfl, by decide, Nat.le_of_ble_eq_true rfl⟩ h0.1 fun S101 => ?_
    refine tt_iconst (M := MX11_orders) (pc := 76) dX11_orders_76 ?_
    refine tt_st (M := MX11_orders) (pc := 77) [some (.ref 90), some (.int (I l1)), some (.int (I 0))] dX11_orders_77 rfl rfl rfl rfl rfl rfl ?_
    exact id
  · refine tt_ld (M := MX11_orders) (pc := 47) dX11_orders_47 rfl rfl rfl rfl rfl ?_
    refine tt_getR (M := MX11_orders) (pc := 48) dX11_orders_48 rfl h0.1 rfl ?_
    refine tt_iconst (M := MX11_orders) (pc := 51) dX11_orders_51 ?_
    refine tt_dup2 (M := MX11_orders) (pc := 52) dX11_orders_52 rfl rfl ?_
    refine tt_iaload (M := MX11_orders) (pc := 53) dX11_orders_53 h0.2.2.2.2.1 rfl ?_
    refine tt_iconst (M := MX11_orders) (pc := 54) dX11_orders_54 ?_
    refine tt_iadd (M := MX11_orders) (pc := 55) dX11_orders_55 ?_
    refine tt_iastore (M := MX11_orders) (pc := 56) dX11_orders_56 h0.2.2.2.2.1 rfl ?_
    refine tt_bipush (M := MX11_orders) (pc := 57) dX11_orders_57 (by decide) ?_
    refine tt_ld (M := MX11_orders) (pc := 59) dX11_orders_59 rfl rfl rfl rfl rfl ?_
    refine tt_getI (M := MX11_orders) (pc := 60) dX11_orders_60 rfl h0.1 rfl ?_
    refine tt_isub (M := MX11_orders) (pc := 63) dX11_orders_63 ?_
    exact tt_iret (M := MX11_orders) (pc := 64) dX11_orders_64 rfl
theorem qX11_orders_78 {sc : Nat × (Nat → Int32)} {SH : List mCell} {S : mStore} {r : mR × mW} (h0 : sMod SH) {l1 : Int} {l2 : Int} : ((if I (S 90 55) ≤ I l2 then (if I (S 90 55) ≤ I 0 then r = rI (S 90 55) SH S else (∃ S101, G sc MX11_keeps 0 [some (.ref 90), some (.int (I 1654))] [] SH S (rV SH S101) ∧ r = rI (S101 90 55) SH S101)) else (∃ v102 S103, G sc MX11_isDone 0 [some (.ref 90), some (.int (I (4 * l2))), none] [] SH S (rI v102 SH S103) ∧ (if I v102 = I 0 then (∃ S104, G sc MX11_copies 0 [some (.ref 90), some (.int (I 1654)), some (.int (I 0)), some (.int (I 1654)), none] [] SH S103 (rV SH S104) ∧ (((0 : Int) ≤ 1 ∧ (1 : Int) < 6) ∧ (((0 : Int) ≤ 1 ∧ (1 : Int) < 6) ∧ r = rI ((-100) - l2) SH (up S104 94 1 ((S104 94 1) + 1))))) else G sc MX11_orders 78 [some (.ref 90), some (.int (I l1)), some (.int (I (l2 + 1)))] [] SH S103 r)))) → G sc MX11_orders 78 [some (.ref 90), some (.int (I l1)), some (.int (I l2))] [] SH S r := by
  refine tt_ld (M := MX11_orders) (pc := 78) dX11_orders_78 rfl rfl rfl rfl rfl ?_
  refine tt_ld (M := MX11_orders) (pc := 79) dX11_orders_79 rfl rfl rfl rfl rfl ?_
  refine tt_getI (M := MX11_orders) (pc := 80) dX11_orders_80 rfl h0.1 rfl ?_
  refine tt_ic_ge (M := MX11_orders) (pc := 83) 131 dX11_orders_83 rfl ?_ ?_
  · refine tt_ld (M := MX11_orders) (pc := 131) dX11_orders_131 rfl rfl rfl rfl rfl ?_
    refine tt_getI (M := MX11_orders) (pc := 132) dX11_orders_132 rfl h0.1 rfl ?_
    refine tt_if_le (M := MX11_orders) (pc := 135) 145 dX11_orders_135 rfl ?_ ?_
    · refine tt_ld (M := MX11_orders) (pc := 145) dX11_orders_145 rfl rfl rfl rfl rfl ?_
      refine tt_getI (M := MX11_orders) (pc := 146) dX11_orders_146 rfl h0.1 rfl ?_
      exact tt_iret (M := MX11_orders) (pc := 149) dX11_orders_149 rfl
    · refine tt_ld (M := MX11_orders) (pc := 138) dX11_orders_138 rfl rfl rfl rfl rfl ?_
      refine tt_sipush (M := MX11_orders) (pc := 139) dX11_orders_139 (by decide) ?_
      refine tt_vcVN (M := MX11_orders) (pc := 142) dX11_orders_142 rfl rfl [] rfl rfl ⟨rfl, by decide, Nat.le_of_ble_eq_true rfl⟩ h0.1 fun S101 => ?_
      refine tt_ld (M := MX11_orders) (pc := 145) dX11_orders_145 rfl rfl rfl rfl rfl ?_
      refine tt_getI (M := MX11_orders) (pc := 146) dX11_orders_146 rfl h0.1 rfl ?_
      exact tt_iret (M := MX11_orders) (pc := 149) dX11_orders_149 rfl
  · refine tt_ld (M := MX11_orders) (pc := 86) dX11_orders_86 rfl rfl rfl rfl rfl ?_
    refine tt_iconst (M := MX11_orders) (pc := 87) dX11_orders_87 ?_
    refine tt_ld (M := MX11_orders) (pc := 88) dX11_orders_88 rfl rfl rfl rfl rfl ?_
    refine tt_imul (M := MX11_orders) (pc := 89) dX11_orders_89 ?_
    refine tt_vcIN (M := MX11_orders) (pc := 90) dX11_orders_90 rfl rfl [] rfl rfl ⟨rfl, by decide, Nat.le_of_ble_eq_true rfl⟩ h0.1 fun v102 S103 => ?_
    refine tt_if_eq (M := MX11_orders) (pc := 93) 99 dX11_orders_93 rfl ?_ ?_
    · refine tt_ld (M := MX11_orders) (pc := 99) dX11_orders_99 rfl rfl rfl rfl rfl ?_
      refine tt_sipush (M := MX11_orders) (pc := 100) dX11_orders_100 (by decide) ?_
      refine tt_iconst (M := MX11_orders) (pc := 103) dX11_orders_103 ?_
      refine tt_sipush (M := MX11_orders) (pc := 104) dX11_orders_104 (by decide) ?_
      refine tt_vcVN (M := MX11_orders) (pc := 107) dX11_orders_107 rfl rfl [] rfl rfl ⟨rfl, by decide, Nat.le_of_ble_eq_true rfl⟩ h0.1 fun S104 => ?_
      refine tt_ld (M := MX11_orders) (pc := 110) dX11_orders_110 rfl rfl rfl rfl rfl ?_
      refine tt_getR (M := MX11_orders) (pc := 111) dX11_orders_111 rfl h0.1 rfl ?_
      refine tt_iconst (M := MX11_orders) (pc := 114) dX11_orders_114 ?_
      refine tt_dup2 (M := MX11_orders) (pc := 115) dX11_orders_115 rfl rfl ?_
      refine tt_iaload (M := MX11_orders) (pc := 116) dX11_orders_116 h0.2.2.2.2.1 rfl ?_
      refine tt_iconst (M := MX11_orders) (pc := 117) dX11_orders_117 ?_
      refine tt_iadd (M := MX11_orders) (pc := 118) dX11_orders_118 ?_
      refine tt_iastore (M := MX11_orders) (pc := 119) dX11_orders_119 h0.2.2.2.2.1 rfl ?_
      refine tt_bipush (M := MX11_orders) (pc := 120) dX11_orders_120 (by decide) ?_
      refine tt_ld (M := MX11_orders) (pc := 122) dX11_orders_122 rfl rfl rfl rfl rfl ?_
      refine tt_isub (M := MX11_orders) (pc := 123) dX11_orders_123 ?_
      exact tt_iret (M := MX11_orders) (pc := 124) dX11_orders_124 rfl
    · refine tt_goto (M := MX11_orders) (pc := 96) 125 dX11_orders_96 rfl ?_
      refine tt_iinc (M := MX11_orders) (pc := 125) [some (.ref 90), some (.int (I l1)), some (.int (I (l2 + 1)))] dX11_orders_125 rfl rfl ?_
      refine tt_goto (M := MX11_orders) (pc := 128) 78 dX11_orders_128 rfl ?_
      exact id
theorem qX11_fault_0 {sc : Nat × (Nat → Int32)} {SH : List mCell} {S : mStore} {r : mR × mW} (h0 : sMod SH) : (r = rI ((up S 90 4 0) 90 26) SH (up S 90 4 0)) → G sc MX11_fault 0 [some (.ref 90)] [] SH S r := by
  refine tt_ld (M := MX11_fault) (pc := 0) dX11_fault_0 rfl rfl rfl rfl rfl ?_
  refine tt_iconst (M := MX11_fault) (pc := 1) dX11_fault_1 ?_
  refine tt_putI (M := MX11_fault) (pc := 2) dX11_fault_2 rfl rfl (Or.inl rfl) h0.1 rfl ?_
  refine tt_ld (M := MX11_fault) (pc := 5) dX11_fault_5 rfl rfl rfl rfl rfl ?_
  refine tt_getI (M := MX11_fault) (pc := 6) dX11_fault_6 rfl h0.1 rfl ?_
  exact tt_iret (M := MX11_fault) (pc := 9) dX11_fault_9 rfl
theorem qX11_merged_0 {sc : Nat × (Nat → Int32)} {SH : List mCell} {S : mStore} {r : mR × mW} (h0 : sMod SH) {l1 : Int} {u2 : Option Value} {u3 : Option Value} : (G sc MX11_merged 4 [some (.ref 90), some (.int (I l1)), some (.int (I 0)), some (.int (I 0))] [] SH S r) → G sc MX11_merged 0 [some (.ref 90), some (.int (I l1)), u2, u3] [] SH S r := by
  refine tt_iconst (M := MX11_merged) (pc := 0) dX11_merged_0 ?_
  refine tt_st (M := MX11_merged) (pc := 1) [some (.ref 90), some (.int (I l1)), some (.int (I 0)), u3] dX11_merged_1 rfl rfl rfl rfl rfl rfl ?_
  refine tt_iconst (M := MX11_merged) (pc := 2) dX11_merged_2 ?_
  refine tt_st (M := MX11_merged) (pc := 3) [some (.ref 90), some (.int (I l1)), some (.int (I 0)), some (.int (I 0))] dX11_merged_3 rfl rfl rfl rfl rfl rfl ?_
  exact id
theorem qX11_merged_4 {sc : Nat × (Nat → Int32)} {SH : List mCell} {S : mStore} {r : mR × mW} (h0 : sMod SH) {l1 : Int} {l2 : Int} {l3 : Int} : ((if I (S 90 19) ≤ I l3 then r = rI l2 SH S else (∃ v101 S102, G sc MX11_isMerged 0 [some (.ref 90), some (.int (I l1)), some (.int (I l3))] [] SH S (rI v101 SH S102) ∧ (if I v101 = I 0 then G sc MX11_merged 4 [some (.ref 90), some (.int (I l1)), some (.int (I (l2 + 0))), some (.int (I (l3 + 1)))] [] SH S102 r else G sc MX11_merged 4 [some (.ref 90), some (.int (I l1)), some (.int (I (l2 + 1))), some (.int (I (l3 + 1)))] [] SH S102 r)))) → G sc MX11_merged 4 [some (.ref 90), some (.int (I l1)), some (.int (I l2)), some (.int (I l3))] [] SH S r := by
  refine tt_ld (M := MX11_merged) (pc := 4) dX11_merged_4 rfl rfl rfl rfl rfl ?_
  refine tt_ld (M := MX11_merged) (pc := 5) dX11_merged_5 rfl rfl rfl rfl rfl ?_
  refine tt_getI (M := MX11_merged) (pc := 6) dX11_merged_6 rfl h0.1 rfl ?_
  refine tt_ic_ge (M := MX11_merged) (pc := 9) 35 dX11_merged_9 rfl ?_ ?_
  · refine tt_ld (M := MX11_merged) (pc := 35) dX11_merged_35 rfl rfl rfl rfl rfl ?_
    exact tt_iret (M := MX11_merged) (pc := 36) dX11_merged_36 rfl
  · refine tt_ld (M := MX11_merged) (pc := 12) dX11_merged_12 rfl rfl rfl rfl rfl ?_
    refine tt_ld (M := MX11_merged) (pc := 13) dX11_merged_13 rfl rfl rfl rfl rfl ?_
    refine tt_ld (M := MX11_merged) (pc := 14) dX11_merged_14 rfl rfl rfl rfl rfl ?_
    refine tt_ld (M := MX11_merged) (pc := 15) dX11_merged_15 rfl rfl rfl rfl rfl ?_
    refine tt_vcIN (M := MX11_merged) (pc := 16) dX11_merged_16 rfl rfl [.int (I l2)] rfl rfl ⟨rfl, by decide, Nat.le_of_ble_eq_true rfl⟩ h0.1 fun v101 S102 => ?_
    refine tt_if_eq (M := MX11_merged) (pc := 19) 26 dX11_merged_19 rfl ?_ ?_
    · refine tt_iconst (M := MX11_merged) (pc := 26) dX11_merged_26 ?_
      refine tt_iadd (M := MX11_merged) (pc := 27) dX11_merged_27 ?_
      refine tt_st (M := MX11_merged) (pc := 28) [some (.ref 90), some (.int (I l1)), some (.int (I (l2 + 0))), some (.int (I l3))] dX11_merged_28 rfl rfl rfl rfl rfl rfl ?_
      refine tt_iinc (M := MX11_merged) (pc := 29) [some (.ref 90), some (.int (I l1)), some (.int (I (l2 + 0))), some (.int (I (l3 + 1)))] dX11_merged_29 rfl rfl ?_
      refine tt_goto (M := MX11_merged) (pc := 32) 4 dX11_merged_32 rfl ?_
      exact id
    · refine tt_iconst (M := MX11_merged) (pc := 22) dX11_merged_22 ?_
      refine tt_goto (M := MX11_merged) (pc := 23) 27 dX11_merged_23 rfl ?_
      refine tt_iadd (M := MX11_merged) (pc := 27) dX11_merged_27 ?_
      refine tt_st (M := MX11_merged) (pc := 28) [some (.ref 90), some (.int (I l1)), some (.int (I (l2 + 1))), some (.int (I l3))] dX11_merged_28 rfl rfl rfl rfl rfl rfl ?_
      refine tt_iinc (M := MX11_merged) (pc := 29) [some (.ref 90), some (.int (I l1)), some (.int (I (l2 + 1))), some (.int (I (l3 + 1)))] dX11_merged_29 rfl rfl ?_
      refine tt_goto (M := MX11_merged) (pc := 32) 4 dX11_merged_32 rfl ?_
      exact id
theorem qX11_waiting_0 {sc : Nat × (Nat → Int32)} {SH : List mCell} {S : mStore} {r : mR × mW} (h0 : sMod SH) {l1 : Int} : ((((0 : Int) ≤ l1 + 1363 ∧ l1 + 1363 < 137400) ∧ (((0 : Int) ≤ (l1 + 1363) + 97 ∧ (l1 + 1363) + 97 < 137400) ∧ (((0 : Int) ≤ (l1 + 1363) + 194 ∧ (l1 + 1363) + 194 < 137400) ∧ r = rI (((S 91 (l1 + 1363)) + (S 91 ((l1 + 1363) + 97))) + (S 91 ((l1 + 1363) + 194))) SH S)))) → G sc MX11_waiting 0 [some (.ref 90), some (.int (I l1))] [] SH S r := by
  refine tt_ld (M := MX11_waiting) (pc := 0) dX11_waiting_0 rfl rfl rfl rfl rfl ?_
  refine tt_getR (M := MX11_waiting) (pc := 1) dX11_waiting_1 rfl h0.1 rfl ?_
  refine tt_ld (M := MX11_waiting) (pc := 4) dX11_waiting_4 rfl rfl rfl rfl rfl ?_
  refine tt_sipush (M := MX11_waiting) (pc := 5) dX11_waiting_5 (by decide) ?_
  refine tt_iadd (M := MX11_waiting) (pc := 8) dX11_waiting_8 ?_
  refine tt_iaload (M := MX11_waiting) (pc := 9) dX11_waiting_9 h0.2.1 rfl ?_
  refine tt_ld (M := MX11_waiting) (pc := 10) dX11_waiting_10 rfl rfl rfl rfl rfl ?_
  refine tt_getR (M := MX11_waiting) (pc := 11) dX11_waiting_11 rfl h0.1 rfl ?_
  refine tt_ld (M := MX11_waiting) (pc := 14) dX11_waiting_14 rfl rfl rfl rfl rfl ?_
  refine tt_sipush (M := MX11_waiting) (pc := 15) dX11_waiting_15 (by decide) ?_
  refine tt_iadd (M := MX11_waiting) (pc := 18) dX11_waiting_18 ?_
  refine tt_bipush (M := MX11_waiting) (pc := 19) dX11_waiting_19 (by decide) ?_
  refine tt_iadd (M := MX11_waiting) (pc := 21) dX11_waiting_21 ?_
  refine tt_iaload (M := MX11_waiting) (pc := 22) dX11_waiting_22 h0.2.1 rfl ?_
  refine tt_iadd (M := MX11_waiting) (pc := 23) dX11_waiting_23 ?_
  refine tt_ld (M := MX11_waiting) (pc := 24) dX11_waiting_24 rfl rfl rfl rfl rfl ?_
  refine tt_getR (M := MX11_waiting) (pc := 25) dX11_waiting_25 rfl h0.1 rfl ?_
  refine tt_ld (M := MX11_waiting) (pc := 28) dX11_waiting_28 rfl rfl rfl rfl rfl ?_
  refine tt_sipush (M := MX11_waiting) (pc := 29) dX11_waiting_29 (by decide) ?_
  refine tt_iadd (M := MX11_waiting) (pc := 32) dX11_waiting_32 ?_
  refine tt_sipush (M := MX11_waiting) (pc := 33) dX11_waiting_33 (by decide) ?_
  refine tt_iadd (M := MX11_waiting) (pc := 36) dX11_waiting_36 ?_
  refine tt_iaload (M := MX11_waiting) (pc := 37) dX11_waiting_37 h0.2.1 rfl ?_
  refine tt_iadd (M := MX11_waiting) (pc := 38) dX11_waiting_38 ?_
  exact tt_iret (M := MX11_waiting) (pc := 39) dX11_waiting_39 rfl
theorem qX11_absent_0 {sc : Nat × (Nat → Int32)} {SH : List mCell} {S : mStore} {r : mR × mW} (h0 : sMod SH) {l1 : Int} {l2 : Int} {u3 : Option Value} {u4 : Option Value} : (G sc MX11_absent 5 [some (.ref 90), some (.int (I l1)), some (.int (I l2)), some (.int (I 0)), some (.int (I l1))] [] SH S r) → G sc MX11_absent 0 [some (.ref 90), some (.int (I l1)), some (.int (I l2)), u3, u4] [] SH S r := by
  refine tt_iconst (M := MX11_absent) (pc := 0) dX11_absent_0 ?_
  refine tt_st (M := MX11_absent) (pc := 1) [some (.ref 90), some (.int (I l1)), some (.int (I l2)), some (.int (I 0)), u4] dX11_absent_1 rfl rfl rfl rfl rfl rfl ?_
  refine tt_ld (M := MX11_absent) (pc := 2) dX11_absent_2 rfl rfl rfl rfl rfl ?_
  refine tt_st (M := MX11_absent) (pc := 3) [some (.ref 90), some (.int (I l1)), some (.int (I l2)), some (.int (I 0)), some (.int (I l1))] dX11_absent_3 rfl rfl rfl rfl rfl rfl ?_
  exact id
theorem qX11_absent_5 {sc : Nat × (Nat → Int32)} {SH : List mCell} {S : mStore} {r : mR × mW} (h0 : sMod SH) {l1 : Int} {l2 : Int} {l3 : Int} {l4 : Int} : ((if I l2 ≤ I l4 then r = rI l3 SH S else (((0 : Int) ≤ 16 + l4 ∧ 16 + l4 < 137400) ∧ (if I (S 91 (16 + l4)) = I (-1) then G sc MX11_absent 5 [some (.ref 90), some (.int (I l1)), some (.int (I l2)), some (.int (I (l3 + 1))), some (.int (I (l4 + 1)))] [] SH S r else G sc MX11_absent 5 [some (.ref 90), some (.int (I l1)), some (.int (I l2)), some (.int (I (l3 + 0))), some (.int (I (l4 + 1)))] [] SH S r)))) → G sc MX11_absent 5 [some (.ref 90), some (.int (I l1)), some (.int (I l2)), some (.int (I l3)), some (.int (I l4))] [] SH S r := by
  refine tt_ld (M := MX11_absent) (pc := 5) dX11_absent_5 rfl rfl rfl rfl rfl ?_
  refine tt_ld (M := MX11_absent) (pc := 7) dX11_absent_7 rfl rfl rfl rfl rfl ?_
  refine tt_ic_ge (M := MX11_absent) (pc := 8) 39 dX11_absent_8 rfl ?_ ?_
  · refine tt_ld (M := MX11_absent) (pc := 39) dX11_absent_39 rfl rfl rfl rfl rfl ?_
    exact tt_iret (M := MX11_absent) (pc := 40) dX11_absent_40 rfl
  · refine tt_ld (M := MX11_absent) (pc := 11) dX11_absent_11 rfl rfl rfl rfl rfl ?_
    refine tt_ld (M := MX11_absent) (pc := 12) dX11_absent_12 rfl rfl rfl rfl rfl ?_
    refine tt_getR (M := MX11_absent) (pc := 13) dX11_absent_13 rfl h0.1 rfl ?_
    refine tt_bipush (M := MX11_absent) (pc := 16) dX11_absent_16 (by decide) ?_
    refine tt_ld (M := MX11_absent) (pc := 18) dX11_absent_18 rfl rfl rfl rfl rfl ?_
    refine tt_iadd (M := MX11_absent) (pc := 20) dX11_absent_20 ?_
    refine tt_iaload (M := MX11_absent) (pc := 21) dX11_absent_21 h0.2.1 rfl ?_
    refine tt_iconst (M := MX11_absent) (pc := 22) dX11_absent_22 ?_
    refine tt_ic_ne (M := MX11_absent) (pc := 23) 30 dX11_absent_23 rfl ?_ ?_
    · refine tt_iconst (M := MX11_absent) (pc := 30) dX11_absent_30 ?_
      refine tt_iadd (M := MX11_absent) (pc := 31) dX11_absent_31 ?_
      refine tt_st (M := MX11_absent) (pc := 32) [some (.ref 90), some (.int (I l1)), some (.int (I l2)), some (.int (I (l3 + 0))), some (.int (I l4))] dX11_absent_32 rfl rfl rfl rfl rfl rfl ?_
      refine tt_iinc (M := MX11_absent) (pc := 33) [some (.ref 90), some (.int (I l1)), some (.int (I l2)), some (.int (I (l3 + 0))), some (.int (I (l4 + 1)))] dX11_absent_33 rfl rfl ?_
      refine tt_goto (M := MX11_absent) (pc := 36) 5 dX11_absent_36 rfl ?_
      exact id
    · refine tt_iconst (M := MX11_absent) (pc := 26) dX11_absent_26 ?_
      refine tt_goto (M := MX11_absent) (pc := 27) 31 dX11_absent_27 rfl ?_
      refine tt_iadd (M := MX11_absent) (pc := 31) dX11_absent_31 ?_
      refine tt_st (M := MX11_absent) (pc := 32) [some (.ref 90), some (.int (I l1)), some (.int (I l2)), some (.int (I (l3 + 1))), some (.int (I l4))] dX11_absent_32 rfl rfl rfl rfl rfl rfl ?_
      refine tt_iinc (M := MX11_absent) (pc := 33) [some (.ref 90), some (.int (I l1)), some (.int (I l2)), some (.int (I (l3 + 1))), some (.int (I (l4 + 1)))] dX11_absent_33 rfl rfl ?_
      refine tt_goto (M := MX11_absent) (pc := 36) 5 dX11_absent_36 rfl ?_
      exact id
theorem qX11_advised_0 {sc : Nat × (Nat → Int32)} {SH : List mCell} {S : mStore} {r : mR × mW} (h0 : sMod SH) {l1 : Int} {l2 : Int} {u3 : Option Value} {u4 : Option Value} : (G sc MX11_advised 5 [some (.ref 90), some (.int (I l1)), some (.int (I l2)), some (.int (I 0)), some (.int (I l1))] [] SH S r) → G sc MX11_advised 0 [some (.ref 90), some (.int (I l1)), some (.int (I l2)), u3, u4] [] SH S r := by
  refine tt_iconst (M := MX11_advised) (pc := 0) dX11_advised_0 ?_
  refine tt_st (M := MX11_advised) (pc := 1) [some (.ref 90), some (.int (I l1)), some (.int (I l2)), some (.int (I 0)), u4] dX11_advised_1 rfl rfl rfl rfl rfl rfl ?_
  refine tt_ld (M := MX11_advised) (pc := 2) dX11_advised_2 rfl rfl rfl rfl rfl ?_
  refine tt_st (M := MX11_advised) (pc := 3) [some (.ref 90), some (.int (I l1)), some (.int (I l2)), some (.int (I 0)), some (.int (I l1))] dX11_advised_3 rfl rfl rfl rfl rfl rfl ?_
  exact id
theorem qX11_advised_5 {sc : Nat × (Nat → Int32)} {SH : List mCell} {S : mStore} {r : mR × mW} (h0 : sMod SH) {l1 : Int} {l2 : Int} {l3 : Int} {l4 : Int} : ((if I l2 ≤ I l4 then r = rI l3 SH S else (((0 : Int) ≤ 64 + l4 ∧ 64 + l4 < 137400) ∧ G sc MX11_advised 5 [some (.ref 90), some (.int (I l1)), some (.int (I l2)), some (.int (I (l3 + (S 91 (64 + l4))))), some (.int (I (l4 + 1)))] [] SH S r))) → G sc MX11_advised 5 [some (.ref 90), some (.int (I l1)), some (.int (I l2)), some (.int (I l3)), some (.int (I l4))] [] SH S r := by
  refine tt_ld (M := MX11_advised) (pc := 5) dX11_advised_5 rfl rfl rfl rfl rfl ?_
  refine tt_ld (M := MX11_advised) (pc := 7) dX11_advised_7 rfl rfl rfl rfl rfl ?_
  refine tt_ic_ge (M := MX11_advised) (pc := 8) 30 dX11_advised_8 rfl ?_ ?_
  · refine tt_ld (M := MX11_advised) (pc := 30) dX11_advised_30 rfl rfl rfl rfl rfl ?_
    exact tt_iret (M := MX11_advised) (pc := 31) dX11_advised_31 rfl
  · refine tt_ld (M := MX11_advised) (pc := 11) dX11_advised_11 rfl rfl rfl rfl rfl ?_
    refine tt_ld (M := MX11_advised) (pc := 12) dX11_advised_12 rfl rfl rfl rfl rfl ?_
    refine tt_getR (M := MX11_advised) (pc := 13) dX11_advised_13 rfl h0.1 rfl ?_
    refine tt_bipush (M := MX11_advised) (pc := 16) dX11_advised_16 (by decide) ?_
    refine tt_ld (M := MX11_advised) (pc := 18) dX11_advised_18 rfl rfl rfl rfl rfl ?_
    refine tt_iadd (M := MX11_advised) (pc := 20) dX11_advised_20 ?_
    refine tt_iaload (M := MX11_advised) (pc := 21) dX11_advised_21 h0.2.1 rfl ?_
    refine tt_iadd (M := MX11_advised) (pc := 22) dX11_advised_22 ?_
    refine tt_st (M := MX11_advised) (pc := 23) [some (.ref 90), some (.int (I l1)), some (.int (I l2)), some (.int (I (l3 + (S 91 (64 + l4))))), some (.int (I l4))] dX11_advised_23 rfl rfl rfl rfl rfl rfl ?_
    refine tt_iinc (M := MX11_advised) (pc := 24) [some (.ref 90), some (.int (I l1)), some (.int (I l2)), some (.int (I (l3 + (S 91 (64 + l4))))), some (.int (I (l4 + 1)))] dX11_advised_24 rfl rfl ?_
    refine tt_goto (M := MX11_advised) (pc := 27) 5 dX11_advised_27 rfl ?_
    exact id
