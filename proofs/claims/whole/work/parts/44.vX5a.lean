-- needs: 43.tshape
/-! ===== the program as conditions (gen_vc.py) ===== -/
theorem qX5_clear_0 {sc : Nat × (Nat → Int32)} {SH : List mCell} {S : mStore} {r : mR × mW} {a0 : Nat} (h0 : sPlan SH a0) : (((I 0 = I 0 ∨ I 0 = I 1) ∧ ((I 0 = I 0 ∨ I 0 = I 1) ∧ r = rV SH (up (up (up (up (up (up (up (up S a0 0 24) a0 1 4) a0 2 1) a0 3 8) a0 4 0) a0 5 0) a0 6 0) a0 7 0)))) → G sc MX5_clear 0 [some (.ref a0)] [] SH S r := by
  refine tt_ld (M := MX5_clear) (pc := 0) dX5_clear_0 rfl rfl rfl rfl rfl ?_
  refine tt_bipush (M := MX5_clear) (pc := 1) dX5_clear_1 (by decide) ?_
  refine tt_putI (M := MX5_clear) (pc := 3) dX5_clear_3 rfl rfl (Or.inl rfl) h0.1 rfl ?_
  refine tt_ld (M := MX5_clear) (pc := 6) dX5_clear_6 rfl rfl rfl rfl rfl ?_
  refine tt_iconst (M := MX5_clear) (pc := 7) dX5_clear_7 ?_
  refine tt_putI (M := MX5_clear) (pc := 8) dX5_clear_8 rfl rfl (Or.inl rfl) h0.1 rfl ?_
  refine tt_ld (M := MX5_clear) (pc := 11) dX5_clear_11 rfl rfl rfl rfl rfl ?_
  refine tt_iconst (M := MX5_clear) (pc := 12) dX5_clear_12 ?_
  refine tt_putI (M := MX5_clear) (pc := 13) dX5_clear_13 rfl rfl (Or.inl rfl) h0.1 rfl ?_
  refine tt_ld (M := MX5_clear) (pc := 16) dX5_clear_16 rfl rfl rfl rfl rfl ?_
  refine tt_bipush (M := MX5_clear) (pc := 17) dX5_clear_17 (by decide) ?_
  refine tt_putI (M := MX5_clear) (pc := 19) dX5_clear_19 rfl rfl (Or.inl rfl) h0.1 rfl ?_
  refine tt_ld (M := MX5_clear) (pc := 22) dX5_clear_22 rfl rfl rfl rfl rfl ?_
  refine tt_iconst (M := MX5_clear) (pc := 23) dX5_clear_23 ?_
  refine tt_putZ (M := MX5_clear) (pc := 24) dX5_clear_24 rfl rfl (Or.inl rfl) h0.1 rfl ?_
  refine tt_ld (M := MX5_clear) (pc := 27) dX5_clear_27 rfl rfl rfl rfl rfl ?_
  refine tt_iconst (M := MX5_clear) (pc := 28) dX5_clear_28 ?_
  refine tt_putZ (M := MX5_clear) (pc := 29) dX5_clear_29 rfl rfl (Or.inl rfl) h0.1 rfl ?_
  refine tt_ld (M := MX5_clear) (pc := 32) dX5_clear_32 rfl rfl rfl rfl rfl ?_
  refine tt_iconst (M := MX5_clear) (pc := 33) dX5_clear_33 ?_
  refine tt_putI (M := MX5_clear) (pc := 34) dX5_clear_34 rfl rfl (Or.inl rfl) h0.1 rfl ?_
  refine tt_ld (M := MX5_clear) (pc := 37) dX5_clear_37 rfl rfl rfl rfl rfl ?_
  refine tt_iconst (M := MX5_clear) (pc := 38) dX5_clear_38 ?_
  refine tt_putI (M := MX5_clear) (pc := 39) dX5_clear_39 rfl rfl (Or.inl rfl) h0.1 rfl ?_
  exact tt_ret (M := MX5_clear) (pc := 42) dX5_clear_42 rfl
theorem qX5_become_0 {sc : Nat × (Nat → Int32)} {SH : List mCell} {S : mStore} {r : mR × mW} {a0 a1 : Nat} (h0 : sPlan SH a0) (h1 : sPlan SH a1) : (((I ((up (up (up (up S a0 0 (S a1 0)) a0 1 ((up S a0 0 (S a1 0)) a1 1)) a0 2 ((up (up S a0 0 (S a1 0)) a0 1 ((up S a0 0 (S a1 0)) a1 1)) a1 2)) a0 3 ((up (up (up S a0 0 (S a1 0)) a0 1 ((up S a0 0 (S a1 0)) a1 1)) a0 2 ((up (up S a0 0 (S a1 0)) a0 1 ((up S a0 0 (S a1 0)) a1 1)) a1 2)) a1 3)) a1 4) = I 0 ∨ I ((up (up (up (up S a0 0 (S a1 0)) a0 1 ((up S a0 0 (S a1 0)) a1 1)) a0 2 ((up (up S a0 0 (S a1 0)) a0 1 ((up S a0 0 (S a1 0)) a1 1)) a1 2)) a0 3 ((up (up (up S a0 0 (S a1 0)) a0 1 ((up S a0 0 (S a1 0)) a1 1)) a0 2 ((up (up S a0 0 (S a1 0)) a0 1 ((up S a0 0 (S a1 0)) a1 1)) a1 2)) a1 3)) a1 4) = I 1) ∧ ((I ((up (up (up (up (up S a0 0 (S a1 0)) a0 1 ((up S a0 0 (S a1 0)) a1 1)) a0 2 ((up (up S a0 0 (S a1 0)) a0 1 ((up S a0 0 (S a1 0)) a1 1)) a1 2)) a0 3 ((up (up (up S a0 0 (S a1 0)) a0 1 ((up S a0 0 (S a1 0)) a1 1)) a0 2 ((up (up S a0 0 (S a1 0)) a0 1 ((up S a0 0 (S a1 0)) a1 1)) a1 2)) a1 3)) a0 4 ((up (up (up (up S a0 0 (S a1 0)) a0 1 ((up S a0 0 (S a1 0)) a1 1)) a0 2 ((up (up S a0 0 (S a1 0)) a0 1 ((up S a0 0 (S a1 0)) a1 1)) a1 2)) a0 3 ((up (up (up S a0 0 (S a1 0)) a0 1 ((up S a0 0 (S a1 0)) a1 1)) a0 2 ((up (up S a0 0 (S a1 0)) a0 1 ((up S a0 0 (S a1 0)) a1 1)) a1 2)) a1 3)) a1 4)) a1 5) = I 0 ∨ I ((up (up (up (up (up S a0 0 (S a1 0)) a0 1 ((up S a0 0 (S a1 0)) a1 1)) a0 2 ((up (up S a0 0 (S a1 0)) a0 1 ((up S a0 0 (S a1 0)) a1 1)) a1 2)) a0 3 ((up (up (up S a0 0 (S a1 0)) a0 1 ((up S a0 0 (S a1 0)) a1 1)) a0 2 ((up (up S a0 0 (S a1 0)) a0 1 ((up S a0 0 (S a1 0)) a1 1)) a1 2)) a1 3)) a0 4 ((up (up (up (up S a0 0 (S a1 0)) a0 1 ((up S a0 0 (S a1 0)) a1 1)) a0 2 ((up (up S a0 0 (S a1 0)) a0 1 ((up S a0 0 (S a1 0)) a1 1)) a1 2)) a0 3 ((up (up (up S a0 0 (S a1 0)) a0 1 ((up S a0 0 (S a1 0)) a1 1)) a0 2 ((up (up S a0 0 (S a1 0)) a0 1 ((up S a0 0 (S a1 0)) a1 1)) a1 2)) a1 3)) a1 4)) a1 5) = I 1) ∧ r = rV SH (cpy (cpy (cpy (cpy (up (up (up (up (up (up (up (up S a0 0 (S a1 0)) a0 1 ((up S a0 0 (S a1 0)) a1 1)) a0 2 ((up (up S a0 0 (S a1 0)) a0 1 ((up S a0 0 (S a1 0)) a1 1)) a1 2)) a0 3 ((up (up (up S a0 0 (S a1 0)) a0 1 ((up S a0 0 (S a1 0)) a1 1)) a0 2 ((up (up S a0 0 (S a1 0)) a0 1 ((up S a0 0 (S a1 0)) a1 1)) a1 2)) a1 3)) a0 4 ((up (up (up (up S a0 0 (S a1 0)) a0 1 ((up S a0 0 (S a1 0)) a1 1)) a0 2 ((up (up S a0 0 (S a1 0)) a0 1 ((up S a0 0 (S a1 0)) a1 1)) a1 2)) a0 3 ((up (up (up S a0 0 (S a1 0)) a0 1 ((up S a0 0 (S a1 0)) a1 1)) a0 2 ((up (up S a0 0 (S a1 0)) a0 1 ((up S a0 0 (S a1 0)) a1 1)) a1 2)) a1 3)) a1 4)) a0 5 ((up (up (up (up (up S a0 0 (S a1 0)) a0 1 ((up S a0 0 (S a1 0)) a1 1)) a0 2 ((up (up S a0 0 (S a1 0)) a0 1 ((up S a0 0 (S a1 0)) a1 1)) a1 2)) a0 3 ((up (up (up S a0 0 (S a1 0)) a0 1 ((up S a0 0 (S a1 0)) a1 1)) a0 2 ((up (up S a0 0 (S a1 0)) a0 1 ((up S a0 0 (S a1 0)) a1 1)) a1 2)) a1 3)) a0 4 ((up (up (up (up S a0 0 (S a1 0)) a0 1 ((up S a0 0 (S a1 0)) a1 1)) a0 2 ((up (up S a0 0 (S a1 0)) a0 1 ((up S a0 0 (S a1 0)) a1 1)) a1 2)) a0 3 ((up (up (up S a0 0 (S a1 0)) a0 1 ((up S a0 0 (S a1 0)) a1 1)) a0 2 ((up (up S a0 0 (S a1 0)) a0 1 ((up S a0 0 (S a1 0)) a1 1)) a1 2)) a1 3)) a1 4)) a1 5)) a0 6 ((up (up (up (up (up (up S a0 0 (S a1 0)) a0 1 ((up S a0 0 (S a1 0)) a1 1)) a0 2 ((up (up S a0 0 (S a1 0)) a0 1 ((up S a0 0 (S a1 0)) a1 1)) a1 2)) a0 3 ((up (up (up S a0 0 (S a1 0)) a0 1 ((up S a0 0 (S a1 0)) a1 1)) a0 2 ((up (up S a0 0 (S a1 0)) a0 1 ((up S a0 0 (S a1 0)) a1 1)) a1 2)) a1 3)) a0 4 ((up (up (up (up S a0 0 (S a1 0)) a0 1 ((up S a0 0 (S a1 0)) a1 1)) a0 2 ((up (up S a0 0 (S a1 0)) a0 1 ((up S a0 0 (S a1 0)) a1 1)) a1 2)) a0 3 ((up (up (up S a0 0 (S a1 0)) a0 1 ((up S a0 0 (S a1 0)) a1 1)) a0 2 ((up (up S a0 0 (S a1 0)) a0 1 ((up S a0 0 (S a1 0)) a1 1)) a1 2)) a1 3)) a1 4)) a0 5 ((up (up (up (up (up S a0 0 (S a1 0)) a0 1 ((up S a0 0 (S a1 0)) a1 1)) a0 2 ((up (up S a0 0 (S a1 0)) a0 1 ((up S a0 0 (S a1 0)) a1 1)) a1 2)) a0 3 ((up (up (up S a0 0 (S a1 0)) a0 1 ((up S a0 0 (S a1 0)) a1 1)) a0 2 ((up (up S a0 0 (S a1 0)) a0 1 ((up S a0 0 (S a1 0)) a1 1)) a1 2)) a1 3)) a0 4 ((up (up (up (up S a0 0 (S a1 0)) a0 1 ((up S a0 0 (S a1 0)) a1 1)) a0 2 ((up (up S a0 0 (S a1 0)) a0 1 ((up S a0 0 (S a1 0)) a1 1)) a1 2)) a0 3 ((up (up (up S a0 0 (S a1 0)) a0 1 ((up S a0 0 (S a1 0)) a1 1)) a0 2 ((up (up S a0 0 (S a1 0)) a0 1 ((up S a0 0 (S a1 0)) a1 1)) a1 2)) a1 3)) a1 4)) a1 5)) a1 6)) a0 7 ((up (up (up (up (up (up (up S a0 0 (S a1 0)) a0 1 ((up S a0 0 (S a1 0)) a1 1)) a0 2 ((up (up S a0 0 (S a1 0)) a0 1 ((up S a0 0 (S a1 0)) a1 1)) a1 2)) a0 3 ((up (up (up S a0 0 (S a1 0)) a0 1 ((up S a0 0 (S a1 0)) a1 1)) a0 2 ((up (up S a0 0 (S a1 0)) a0 1 ((up S a0 0 (S a1 0)) a1 1)) a1 2)) a1 3)) a0 4 ((up (up (up (up S a0 0 (S a1 0)) a0 1 ((up S a0 0 (S a1 0)) a1 1)) a0 2 ((up (up S a0 0 (S a1 0)) a0 1 ((up S a0 0 (S a1 0)) a1 1)) a1 2)) a0 3 ((up (up (up S a0 0 (S a1 0)) a0 1 ((up S a0 0 (S a1 0)) a1 1)) a0 2 ((up (up S a0 0 (S a1 0)) a0 1 ((up S a0 0 (S a1 0)) a1 1)) a1 2)) a1 3)) a1 4)) a0 5 ((up (up (up (up (up S a0 0 (S a1 0)) a0 1 ((up S a0 0 (S a1 0)) a1 1)) a0 2 ((up (up S a0 0 (S a1 0)) a0 1 ((up S a0 0 (S a1 0)) a1 1)) a1 2)) a0 3 ((up (up (up S a0 0 (S a1 0)) a0 1 ((up S a0 0 (S a1 0)) a1 1)) a0 2 ((up (up S a0 0 (S a1 0)) a0 1 ((up S a0 0 (S a1 0)) a1 1)) a1 2)) a1 3)) a0 4 ((up (up (up (up S a0 0 (S a1 0)) a0 1 ((up S a0 0 (S a1 0)) a1 1)) a0 2 ((up (up S a0 0 (S a1 0)) a0 1 ((up S a0 0 (S a1 0)) a1 1)) a1 2)) a0 3 ((up (up (up S a0 0 (S a1 0)) a0 1 ((up S a0 0 (S a1 0)) a1 1)) a0 2 ((up (up S a0 0 (S a1 0)) a0 1 ((up S a0 0 (S a1 0)) a1 1)) a1 2)) a1 3)) a1 4)) a1 5)) a0 6 ((up (up (up (up (up (up S a0 0 (S a1 0)) a0 1 ((up S a0 0 (S a1 0)) a1 1)) a0 2 ((up (up S a0 0 (S a1 0)) a0 1 ((up S a0 0 (S a1 0)) a1 1)) a1 2)) a0 3 ((up (up (up S a0 0 (S a1 0)) a0 1 ((up S a0 0 (S a1 0)) a1 1)) a0 2 ((up (up S a0 0 (S a1 0)) a0 1 ((up S a0 0 (S a1 0)) a1 1)) a1 2)) a1 3)) a0 4 ((up (up (up (up S a0 0 (S a1 0)) a0 1 ((up S a0 0 (S a1 0)) a1 1)) a0 2 ((up (up S a0 0 (S a1 0)) a0 1 ((up S a0 0 (S a1 0)) a1 1)) a1 2)) a0 3 ((up (up (up S a0 0 (S a1 0)) a0 1 ((up S a0 0 (S a1 0)) a1 1)) a0 2 ((up (up S a0 0 (S a1 0)) a0 1 ((up S a0 0 (S a1 0)) a1 1)) a1 2)) a1 3)) a1 4)) a0 5 ((up (up (up (up (up S a0 0 (S a1 0)) a0 1 ((up S a0 0 (S a1 0)) a1 1)) a0 2 ((up (up S a0 0 (S a1 0)) a0 1 ((up S a0 0 (S a1 0)) a1 1)) a1 2)) a0 3 ((up (up (up S a0 0 (S a1 0)) a0 1 ((up S a0 0 (S a1 0)) a1 1)) a0 2 ((up (up S a0 0 (S a1 0)) a0 1 ((up S a0 0 (S a1 0)) a1 1)) a1 2)) a1 3)) a0 4 ((up (up (up (up S a0 0 (S a1 0)) a0 1 ((up S a0 0 (S a1 0)) a1 1)) a0 2 ((up (up S a0 0 (S a1 0)) a0 1 ((up S a0 0 (S a1 0)) a1 1)) a1 2)) a0 3 ((up (up (up S a0 0 (S a1 0)) a0 1 ((up S a0 0 (S a1 0)) a1 1)) a0 2 ((up (up S a0 0 (S a1 0)) a0 1 ((up S a0 0 (S a1 0)) a1 1)) a1 2)) a1 3)) a1 4)) a1 5)) a1 6)) a1 7)) (a1 + 1) (a0 + 1) 4) (a1 + 2) (a0 + 2) 4) (a1 + 3) (a0 + 3) 4) (a1 + 4) (a0 + 4) 48)))) → G sc MX5_become 0 [some (.ref a0), some (.ref a1)] [] SH S r := by
  refine tt_ld (M := MX5_become) (pc := 0) dX5_become_0 rfl rfl rfl rfl rfl ?_
  refine tt_ld (M := MX5_become) (pc := 1) dX5_become_1 rfl rfl rfl rfl rfl ?_
  refine tt_getI (M := MX5_become) (pc := 2) dX5_become_2 rfl h1.1 rfl ?_
  refine tt_putI (M := MX5_become) (pc := 5) dX5_become_5 rfl rfl (Or.inl rfl) h0.1 rfl ?_
  refine tt_ld (M := MX5_become) (pc := 8) dX5_become_8 rfl rfl rfl rfl rfl ?_
  refine tt_ld (M := MX5_become) (pc := 9) dX5_become_9 rfl rfl rfl rfl rfl ?_
  refine tt_getI (M := MX5_become) (pc := 10) dX5_become_10 rfl h1.1 rfl ?_
  refine tt_putI (M := MX5_become) (pc := 13) dX5_become_13 rfl rfl (Or.inl rfl) h0.1 rfl ?_
  refine tt_ld (M := MX5_become) (pc := 16) dX5_become_16 rfl rfl rfl rfl rfl ?_
  refine tt_ld (M := MX5_become) (pc := 17) dX5_become_17 rfl rfl rfl rfl rfl ?_
  refine tt_getI (M := MX5_become) (pc := 18) dX5_become_18 rfl h1.1 rfl ?_
  refine tt_putI (M := MX5_become) (pc := 21) dX5_become_21 rfl rfl (Or.inl rfl) h0.1 rfl ?_
  refine tt_ld (M := MX5_become) (pc := 24) dX5_become_24 rfl rfl rfl rfl rfl ?_
  refine tt_ld (M := MX5_become) (pc := 25) dX5_become_25 rfl rfl rfl rfl rfl ?_
  refine tt_getI (M := MX5_become) (pc := 26) dX5_become_26 rfl h1.1 rfl ?_
  refine tt_putI (M := MX5_become) (pc := 29) dX5_become_29 rfl rfl (Or.inl rfl) h0.1 rfl ?_
  refine tt_ld (M := MX5_become) (pc := 32) dX5_become_32 rfl rfl rfl rfl rfl ?_
  refine tt_ld (M := MX5_become) (pc := 33) dX5_become_33 rfl rfl rfl rfl rfl ?_
  refine tt_getI (M := MX5_become) (pc := 34) dX5_become_34 rfl h1.1 rfl ?_
  refine tt_putZ (M := MX5_become) (pc := 37) dX5_become_37 rfl rfl (Or.inl rfl) h0.1 rfl ?_
  refine tt_ld (M := MX5_become) (pc := 40) dX5_become_40 rfl rfl rfl rfl rfl ?_
  refine tt_ld (M := MX5_become) (pc := 41) dX5_become_41 rfl rfl rfl rfl rfl ?_
  refine tt_getI (M := MX5_become) (pc := 42) dX5_become_42 rfl h1.1 rfl ?_
  refine tt_putZ (M := MX5_become) (pc := 45) dX5_become_45 rfl rfl (Or.inl rfl) h0.1 rfl ?_
  refine tt_ld (M := MX5_become) (pc := 48) dX5_become_48 rfl rfl rfl rfl rfl ?_
  refine tt_ld (M := MX5_become) (pc := 49) dX5_become_49 rfl rfl rfl rfl rfl ?_
  refine tt_getI (M := MX5_become) (pc := 50) dX5_become_50 rfl h1.1 rfl ?_
  refine tt_putI (M := MX5_become) (pc := 53) dX5_become_53 rfl rfl (Or.inl rfl) h0.1 rfl ?_
  refine tt_ld (M := MX5_become) (pc := 56) dX5_become_56 rfl rfl rfl rfl rfl ?_
  refine tt_ld (M := MX5_become) (pc := 57) dX5_become_57 rfl rfl rfl rfl rfl ?_
  refine tt_getI (M := MX5_become) (pc := 58) dX5_become_58 rfl h1.1 rfl ?_
  refine tt_putI (M := MX5_become) (pc := 61) dX5_become_61 rfl rfl (Or.inl rfl) h0.1 rfl ?_
  refine tt_ld (M := MX5_become) (pc := 64) dX5_become_64 rfl rfl rfl rfl rfl ?_
  refine tt_getR (M := MX5_become) (pc := 65) dX5_become_65 rfl h1.1 rfl ?_
  refine tt_iconst (M := MX5_become) (pc := 68) dX5_become_68 ?_
  refine tt_ld (M := MX5_become) (pc := 69) dX5_become_69 rfl rfl rfl rfl rfl ?_
  refine tt_getR (M := MX5_become) (pc := 70) dX5_become_70 rfl h0.1 rfl ?_
  refine tt_iconst (M := MX5_become) (pc := 73) dX5_become_73 ?_
  refine tt_iconst (M := MX5_become) (pc := 74) dX5_become_74 ?_
  refine tt_copy (M := MX5_become) (pc := 75) dX5_become_75 rfl [] rfl ⟨rfl, by decide, Nat.le_of_ble_eq_true rfl⟩ h1.2.1 h0.2.1 (by decide) ?_
  refine tt_ld (M := MX5_become) (pc := 78) dX5_become_78 rfl rfl rfl rfl rfl ?_
  refine tt_getR (M := MX5_become) (pc := 79) dX5_become_79 rfl h1.1 rfl ?_
  refine tt_iconst (M := MX5_become) (pc := 82) dX5_become_82 ?_
  refine tt_ld (M := MX5_become) (pc := 83) dX5_become_83 rfl rfl rfl rfl rfl ?_
  refine tt_getR (M := MX5_become) (pc := 84) dX5_become_84 rfl h0.1 rfl ?_
  refine tt_iconst (M := MX5_become) (pc := 87) dX5_become_87 ?_
  refine tt_iconst (M := MX5_become) (pc := 88) dX5_become_88 ?_
  refine tt_copy (M := MX5_become) (pc := 89) dX5_become_89 rfl [] rfl ⟨rfl, by decide, Nat.le_of_ble_eq_true rfl⟩ h1.2.2.1 h0.2.2.1 (by decide) ?_
  refine tt_ld (M := MX5_become) (pc := 92) dX5_become_92 rfl rfl rfl rfl rfl ?_
  refine tt_getR (M := MX5_become) (pc := 93) dX5_become_93 rfl h1.1 rfl ?_
  refine tt_iconst (M := MX5_become) (pc := 96) dX5_become_96 ?_
  refine tt_ld (M := MX5_become) (pc := 97) dX5_become_97 rfl rfl rfl rfl rfl ?_
  refine tt_getR (M := MX5_become) (pc := 98) dX5_become_98 rfl h0.1 rfl ?_
  refine tt_iconst (M := MX5_become) (pc := 101) dX5_become_101 ?_
  refine tt_iconst (M := MX5_become) (pc := 102) dX5_become_102 ?_
  refine tt_copy (M := MX5_become) (pc := 103) dX5_become_103 rfl [] rfl ⟨rfl, by decide, Nat.le_of_ble_eq_true rfl⟩ h1.2.2.2.1 h0.2.2.2.1 (by decide) ?_
  refine tt_ld (M := MX5_become) (pc := 106) dX5_become_106 rfl rfl rfl rfl rfl ?_
  refine tt_getR (M := MX5_become) (pc := 107) dX5_become_107 rfl h1.1 rfl ?_
  refine tt_iconst (M := MX5_become) (pc := 110) dX5_become_110 ?_
  refine tt_ld (M := MX5_become) (pc := 111) dX5_become_111 rfl rfl rfl rfl rfl ?_
  refine tt_getR (M := MX5_become) (pc := 112) dX5_become_112 rfl h0.1 rfl ?_
  refine tt_iconst (M := MX5_become) (pc := 115) dX5_become_115 ?_
  refine tt_bipush (M := MX5_become) (pc := 116) dX5_become_116 (by decide) ?_
  refine tt_copy (M := MX5_become) (pc := 118) dX5_become_118 rfl [] rfl ⟨rfl, by decide, Nat.le_of_ble_eq_true rfl⟩ h1.2.2.2.2 h0.2.2.2.2 (by decide) ?_
  exact tt_ret (M := MX5_become) (pc := 121) dX5_become_121 rfl
theorem qX5_addGuest_0 {sc : Nat × (Nat → Int32)} {SH : List mCell} {S : mStore} {r : mR × mW} {a0 : Nat} (h0 : sPlan SH a0) {l1 : Int} {l2 : Int} {u3 : Option Value} : ((if I 4 ≤ I (S a0 6) then r = rV SH S else (if I ((S a0 7) + l1) ≤ I 48 then (((0 : Int) ≤ S a0 6 ∧ S a0 6 < 4) ∧ (((0 : Int) ≤ (up S (a0 + 1) (S a0 6) l1) a0 6 ∧ (up S (a0 + 1) (S a0 6) l1) a0 6 < 4) ∧ (((0 : Int) ≤ (up (up S (a0 + 1) (S a0 6) l1) (a0 + 2) ((up S (a0 + 1) (S a0 6) l1) a0 6) l2) a0 6 ∧ (up (up S (a0 + 1) (S a0 6) l1) (a0 + 2) ((up S (a0 + 1) (S a0 6) l1) a0 6) l2) a0 6 < 4) ∧ G sc MX5_addGuest 55 [some (.ref a0), some (.int (I l1)), some (.int (I l2)), some (.int (I 0))] [] SH (up (up (up S (a0 + 1) (S a0 6) l1) (a0 + 2) ((up S (a0 + 1) (S a0 6) l1) a0 6) l2) (a0 + 3) ((up (up S (a0 + 1) (S a0 6) l1) (a0 + 2) ((up S (a0 + 1) (S a0 6) l1) a0 6) l2) a0 6) ((up (up S (a0 + 1) (S a0 6) l1) (a0 + 2) ((up S (a0 + 1) (S a0 6) l1) a0 6) l2) a0 7)) r))) else r = rV SH S))) → G sc MX5_addGuest 0 [some (.ref a0), some (.int (I l1)), some (.int (I l2)), u3] [] SH S r := by
  refine tt_ld (M := MX5_addGuest) (pc := 0) dX5_addGuest_0 rfl rfl rfl rfl rfl ?_
  refine tt_getI (M := MX5_addGuest) (pc := 1) dX5_addGuest_1 rfl h0.1 rfl ?_
  refine tt_iconst (M := MX5_addGuest) (pc := 4) dX5_addGuest_4 ?_
  refine tt_ic_ge (M := MX5_addGuest) (pc := 5) 19 dX5_addGuest_5 rfl ?_ ?_
  · exact tt_ret (M := MX5_addGuest) (pc := 19) dX5_addGuest_19 rfl
  · refine tt_ld (M := MX5_addGuest) (pc := 8) dX5_addGuest_8 rfl rfl rfl rfl rfl ?_
    refine tt_getI (M := MX5_addGuest) (pc := 9) dX5_addGuest_9 rfl h0.1 rfl ?_
    refine tt_ld (M := MX5_addGuest) (pc := 12) dX5_addGuest_12 rfl rfl rfl rfl rfl ?_
    refine tt_iadd (M := MX5_addGuest) (pc := 13) dX5_addGuest_13 ?_
    refine tt_bipush (M := MX5_addGuest) (pc := 14) dX5_addGuest_14 (by decide) ?_
    refine tt_ic_le (M := MX5_addGuest) (pc := 16) 20 dX5_addGuest_16 rfl ?_ ?_
    · refine tt_ld (M := MX5_addGuest) (pc := 20) dX5_addGuest_20 rfl rfl rfl rfl rfl ?_
      refine tt_getR (M := MX5_addGuest) (pc := 21) dX5_addGuest_21 rfl h0.1 rfl ?_
      refine tt_ld (M := MX5_addGuest) (pc := 24) dX5_addGuest_24 rfl rfl rfl rfl rfl ?_
      refine tt_getI (M := MX5_addGuest) (pc := 25) dX5_addGuest_25 rfl h0.1 rfl ?_
      refine tt_ld (M := MX5_addGuest) (pc := 28) dX5_addGuest_28 rfl rfl rfl rfl rfl ?_
      refine tt_iastore (M := MX5_addGuest) (pc := 29) dX5_addGuest_29 h0.2.1 rfl ?_
      refine tt_ld (M := MX5_addGuest) (pc := 30) dX5_addGuest_30 rfl rfl rfl rfl rfl ?_
      refine tt_getR (M := MX5_addGuest) (pc := 31) dX5_addGuest_31 rfl h0.1 rfl ?_
      refine tt_ld (M := MX5_addGuest) (pc := 34) dX5_addGuest_34 rfl rfl rfl rfl rfl ?_
      refine tt_getI (M := MX5_addGuest) (pc := 35) dX5_addGuest_35 rfl h0.1 rfl ?_
      refine tt_ld (M := MX5_addGuest) (pc := 38) dX5_addGuest_38 rfl rfl rfl rfl rfl ?_
      refine tt_iastore (M := MX5_addGuest) (pc := 39) dX5_addGuest_39 h0.2.2.1 rfl ?_
      refine tt_ld (M := MX5_addGuest) (pc := 40) dX5_addGuest_40 rfl rfl rfl rfl rfl ?_
      refine tt_getR (M := MX5_addGuest) (pc := 41) dX5_addGuest_41 rfl h0.1 rfl ?_
      refine tt_ld (M := MX5_addGuest) (pc := 44) dX5_addGuest_44 rfl rfl rfl rfl rfl ?_
      refine tt_getI (M := MX5_addGuest) (pc := 45) dX5_addGuest_45 rfl h0.1 rfl ?_
      refine tt_ld (M := MX5_addGuest) (pc := 48) dX5_addGuest_48 rfl rfl rfl rfl rfl ?_
      refine tt_getI (M := MX5_addGuest) (pc := 49) dX5_addGuest_49 rfl h0.1 rfl ?_
      refine tt_iastore (M := MX5_addGuest) (pc := 52) dX5_addGuest_52 h0.2.2.2.1 rfl ?_
      refine tt_iconst (M := MX5_addGuest) (pc := 53) dX5_addGuest_53 ?_
      refine tt_st (M := MX5_addGuest) (pc := 54) [some (.ref a0), some (.int (I l1)), some (.int (I l2)), some (.int (I 0))] dX5_addGuest_54 rfl rfl rfl rfl rfl rfl ?_
      exact id
    · exact tt_ret (M := MX5_addGuest) (pc := 19) dX5_addGuest_19 rfl
theorem qX5_addGuest_55 {sc : Nat × (Nat → Int32)} {SH : List mCell} {S : mStore} {r : mR × mW} {a0 : Nat} (h0 : sPlan SH a0) {l1 : Int} {l2 : Int} {l3 : Int} : ((if I l1 ≤ I l3 then r = rV SH (up (up S a0 7 ((S a0 7) + l1)) a0 6 (((up S a0 7 ((S a0 7) + l1)) a0 6) + 1)) else (((0 : Int) ≤ (S a0 7) + l3 ∧ (S a0 7) + l3 < 48) ∧ G sc MX5_addGuest 55 [some (.ref a0), some (.int (I l1)), some (.int (I l2)), some (.int (I (l3 + 1)))] [] SH (up S (a0 + 4) ((S a0 7) + l3) (S a0 6)) r))) → G sc MX5_addGuest 55 [some (.ref a0), some (.int (I l1)), some (.int (I l2)), some (.int (I l3))] [] SH S r := by
  refine tt_ld (M := MX5_addGuest) (pc := 55) dX5_addGuest_55 rfl rfl rfl rfl rfl ?_
  refine tt_ld (M := MX5_addGuest) (pc := 56) dX5_addGuest_56 rfl rfl rfl rfl rfl ?_
  refine tt_ic_ge (M := MX5_addGuest) (pc := 57) 81 dX5_addGuest_57 rfl ?_ ?_
  · refine tt_ld (M := MX5_addGuest) (pc := 81) dX5_addGuest_81 rfl rfl rfl rfl rfl ?_
    refine tt_dup (M := MX5_addGuest) (pc := 82) dX5_addGuest_82 rfl ?_
    refine tt_getI (M := MX5_addGuest) (pc := 83) dX5_addGuest_83 rfl h0.1 rfl ?_
    refine tt_ld (M := MX5_addGuest) (pc := 86) dX5_addGuest_86 rfl rfl rfl rfl rfl ?_
    refine tt_iadd (M := MX5_addGuest) (pc := 87) dX5_addGuest_87 ?_
    refine tt_putI (M := MX5_addGuest) (pc := 88) dX5_addGuest_88 rfl rfl (Or.inl rfl) h0.1 rfl ?_
    refine tt_ld (M := MX5_addGuest) (pc := 91) dX5_addGuest_91 rfl rfl rfl rfl rfl ?_
    refine tt_dup (M := MX5_addGuest) (pc := 92) dX5_addGuest_92 rfl ?_
    refine tt_getI (M := MX5_addGuest) (pc := 93) dX5_addGuest_93 rfl h0.1 rfl ?_
    refine tt_iconst (M := MX5_addGuest) (pc := 96) dX5_addGuest_96 ?_
    refine tt_iadd (M := MX5_addGuest) (pc := 97) dX5_addGuest_97 ?_
    refine tt_putI (M := MX5_addGuest) (pc := 98) dX5_addGuest_98 rfl rfl (Or.inl rfl) h0.1 rfl ?_
    exact tt_ret (M := MX5_addGuest) (pc := 101) dX5_addGuest_101 rfl
  · refine tt_ld (M := MX5_addGuest) (pc := 60) dX5_addGuest_60 rfl rfl rfl rfl rfl ?_
    refine tt_getR (M := MX5_addGuest) (pc := 61) dX5_addGuest_61 rfl h0.1 rfl ?_
    refine tt_ld (M := MX5_addGuest) (pc := 64) dX5_addGuest_64 rfl rfl rfl rfl rfl ?_
    refine tt_getI (M := MX5_addGuest) (pc := 65) dX5_addGuest_65 rfl h0.1 rfl ?_
    refine tt_ld (M := MX5_addGuest) (pc := 68) dX5_addGuest_68 rfl rfl rfl rfl rfl ?_
    refine tt_iadd (M := MX5_addGuest) (pc := 69) dX5_addGuest_69 ?_
    refine tt_ld (M := MX5_addGuest) (pc := 70) dX5_addGuest_70 rfl rfl rfl rfl rfl ?_
    refine tt_getI (M := MX5_addGuest) (pc := 71) dX5_addGuest_71 rfl h0.1 rfl ?_
    refine tt_iastore (M := MX5_addGuest) (pc := 74) dX5_addGuest_74 h0.2.2.2.2 rfl ?_
    refine tt_iinc (M := MX5_addGuest) (pc := 75) [some (.ref a0), some (.int (I l1)), some (.int (I l2)), some (.int (I (l3 + 1)))] dX5_addGuest_75 rfl rfl ?_
    refine tt_goto (M := MX5_addGuest) (pc := 78) 55 dX5_addGuest_78 rfl ?_
    exact id
theorem qX5_placeAt_0 {sc : Nat × (Nat → Int32)} {SH : List mCell} {S : mStore} {r : mR × mW} {a0 : Nat} (h0 : sPlan SH a0) {l1 : Int} {l2 : Int} : ((if I l1 < I 0 then r = rI (-1) SH S else (if I (S a0 6) ≤ I l1 then r = rI (-1) SH S else (if I l2 < I 0 then r = rI (-1) SH S else (((0 : Int) ≤ l1 ∧ l1 < 4) ∧ (if I l2 < I (S (a0 + 1) l1) then (((0 : Int) ≤ l1 ∧ l1 < 4) ∧ r = rI ((S (a0 + 3) l1) + l2) SH S) else r = rI (-1) SH S)))))) → G sc MX5_placeAt 0 [some (.ref a0), some (.int (I l1)), some (.int (I l2))] [] SH S r := by
  refine tt_ld (M := MX5_placeAt) (pc := 0) dX5_placeAt_0 rfl rfl rfl rfl rfl ?_
  refine tt_if_lt (M := MX5_placeAt) (pc := 1) 26 dX5_placeAt_1 rfl ?_ ?_
  · refine tt_iconst (M := MX5_placeAt) (pc := 26) dX5_placeAt_26 ?_
    exact tt_iret (M := MX5_placeAt) (pc := 27) dX5_placeAt_27 rfl
  · refine tt_ld (M := MX5_placeAt) (pc := 4) dX5_placeAt_4 rfl rfl rfl rfl rfl ?_
    refine tt_ld (M := MX5_placeAt) (pc := 5) dX5_placeAt_5 rfl rfl rfl rfl rfl ?_
    refine tt_getI (M := MX5_placeAt) (pc := 6) dX5_placeAt_6 rfl h0.1 rfl ?_
    refine tt_ic_ge (M := MX5_placeAt) (pc := 9) 26 dX5_placeAt_9 rfl ?_ ?_
    · refine tt_iconst (M := MX5_placeAt) (pc := 26) dX5_placeAt_26 ?_
      exact tt_iret (M := MX5_placeAt) (pc := 27) dX5_placeAt_27 rfl
    · refine tt_ld (M := MX5_placeAt) (pc := 12) dX5_placeAt_12 rfl rfl rfl rfl rfl ?_
      refine tt_if_lt (M := MX5_placeAt) (pc := 13) 26 dX5_placeAt_13 rfl ?_ ?_
      · refine tt_iconst (M := MX5_placeAt) (pc := 26) dX5_placeAt_26 ?_
        exact tt_iret (M := MX5_placeAt) (pc := 27) dX5_placeAt_27 rfl
      · refine tt_ld (M := MX5_placeAt) (pc := 16) dX5_placeAt_16 rfl rfl rfl rfl rfl ?_
        refine tt_ld (M := MX5_placeAt) (pc := 17) dX5_placeAt_17 rfl rfl rfl rfl rfl ?_
        refine tt_getR (M := MX5_placeAt) (pc := 18) dX5_placeAt_18 rfl h0.1 rfl ?_
        refine tt_ld (M := MX5_placeAt) (pc := 21) dX5_placeAt_21 rfl rfl rfl rfl rfl ?_
        refine tt_iaload (M := MX5_placeAt) (pc := 22) dX5_placeAt_22 h0.2.1 rfl ?_
        refine tt_ic_lt (M := MX5_placeAt) (pc := 23) 28 dX5_placeAt_23 rfl ?_ ?_
        · refine tt_ld (M := MX5_placeAt) (pc := 28) dX5_placeAt_28 rfl rfl rfl rfl rfl ?_
          refine tt_getR (M := MX5_placeAt) (pc := 29) dX5_placeAt_29 rfl h0.1 rfl ?_
          refine tt_ld (M := MX5_placeAt) (pc := 32) dX5_placeAt_32 rfl rfl rfl rfl rfl ?_
          refine tt_iaload (M := MX5_placeAt) (pc := 33) dX5_placeAt_33 h0.2.2.2.1 rfl ?_
          refine tt_ld (M := MX5_placeAt) (pc := 34) dX5_placeAt_34 rfl rfl rfl rfl rfl ?_
          refine tt_iadd (M := MX5_placeAt) (pc := 35) dX5_placeAt_35 ?_
          exact tt_iret (M := MX5_placeAt) (pc := 36) dX5_placeAt_36 rfl
        · refine tt_iconst (M := MX5_placeAt) (pc := 26) dX5_placeAt_26 ?_
          exact tt_iret (M := MX5_placeAt) (pc := 27) dX5_placeAt_27 rfl
theorem qX5_labelOf_0 {sc : Nat × (Nat → Int32)} {SH : List mCell} {S : mStore} {r : mR × mW} {a0 : Nat} (h0 : sPlan SH a0) {l1 : Int} {u2 : Option Value} : ((if I l1 < I 0 then r = rI (-1) SH S else (if I l1 < I (S a0 7) then (((0 : Int) ≤ l1 ∧ l1 < 48) ∧ (((0 : Int) ≤ S (a0 + 4) l1 ∧ S (a0 + 4) l1 < 4) ∧ r = rI (((12 * (S (a0 + 4) l1)) + l1) - (S (a0 + 3) (S (a0 + 4) l1))) SH S)) else r = rI (-1) SH S))) → G sc MX5_labelOf 0 [some (.ref a0), some (.int (I l1)), u2] [] SH S r := by
  refine tt_ld (M := MX5_labelOf) (pc := 0) dX5_labelOf_0 rfl rfl rfl rfl rfl ?_
  refine tt_if_lt (M := MX5_labelOf) (pc := 1) 12 dX5_labelOf_1 rfl ?_ ?_
  · refine tt_iconst (M := MX5_labelOf) (pc := 12) dX5_labelOf_12 ?_
    exact tt_iret (M := MX5_labelOf) (pc := 13) dX5_labelOf_13 rfl
  · refine tt_ld (M := MX5_labelOf) (pc := 4) dX5_labelOf_4 rfl rfl rfl rfl rfl ?_
    refine tt_ld (M := MX5_labelOf) (pc := 5) dX5_labelOf_5 rfl rfl rfl rfl rfl ?_
    refine tt_getI (M := MX5_labelOf) (pc := 6) dX5_labelOf_6 rfl h0.1 rfl ?_
    refine tt_ic_lt (M := MX5_labelOf) (pc := 9) 14 dX5_labelOf_9 rfl ?_ ?_
    · refine tt_ld (M := MX5_labelOf) (pc := 14) dX5_labelOf_14 rfl rfl rfl rfl rfl ?_
      refine tt_getR (M := MX5_labelOf) (pc := 15) dX5_labelOf_15 rfl h0.1 rfl ?_
      refine tt_ld (M := MX5_labelOf) (pc := 18) dX5_labelOf_18 rfl rfl rfl rfl rfl ?_
      refine tt_iaload (M := MX5_labelOf) (pc := 19) dX5_labelOf_19 h0.2.2.2.2 rfl ?_
      refine tt_st (M := MX5_labelOf) (pc := 20) [some (.ref a0), some (.int (I l1)), some (.int (I (S (a0 + 4) l1)))] dX5_labelOf_20 rfl rfl rfl rfl rfl rfl ?_
      refine tt_bipush (M := MX5_labelOf) (pc := 21) dX5_labelOf_21 (by decide) ?_
      refine tt_ld (M := MX5_labelOf) (pc := 23) dX5_labelOf_23 rfl rfl rfl rfl rfl ?_
      refine tt_imul (M := MX5_labelOf) (pc := 24) dX5_labelOf_24 ?_
      refine tt_ld (M := MX5_labelOf) (pc := 25) dX5_labelOf_25 rfl rfl rfl rfl rfl ?_
      refine tt_iadd (M := MX5_labelOf) (pc := 26) dX5_labelOf_26 ?_
      refine tt_ld (M := MX5_labelOf) (pc := 27) dX5_labelOf_27 rfl rfl rfl rfl rfl ?_
      refine tt_getR (M := MX5_labelOf) (pc := 28) dX5_labelOf_28 rfl h0.1 rfl ?_
      refine tt_ld (M := MX5_labelOf) (pc := 31) dX5_labelOf_31 rfl rfl rfl rfl rfl ?_
      refine tt_iaload (M := MX5_labelOf) (pc := 32) dX5_labelOf_32 h0.2.2.2.1 rfl ?_
      refine tt_isub (M := MX5_labelOf) (pc := 33) dX5_labelOf_33 ?_
      exact tt_iret (M := MX5_labelOf) (pc := 34) dX5_labelOf_34 rfl
    · refine tt_iconst (M := MX5_labelOf) (pc := 12) dX5_labelOf_12 ?_
      exact tt_iret (M := MX5_labelOf) (pc := 13) dX5_labelOf_13 rfl
theorem qX5_realmOf_0 {sc : Nat × (Nat → Int32)} {SH : List mCell} {S : mStore} {r : mR × mW} {a0 : Nat} (h0 : sPlan SH a0) {l1 : Int} : ((if I l1 < I 0 then r = rI 0 SH S else (if I (S a0 7) ≤ I l1 then r = rI 0 SH S else (((0 : Int) ≤ l1 ∧ l1 < 48) ∧ (((0 : Int) ≤ S (a0 + 4) l1 ∧ S (a0 + 4) l1 < 4) ∧ r = rI (S (a0 + 2) (S (a0 + 4) l1)) SH S))))) → G sc MX5_realmOf 0 [some (.ref a0), some (.int (I l1))] [] SH S r := by
  refine tt_ld (M := MX5_realmOf) (pc := 0) dX5_realmOf_0 rfl rfl rfl rfl rfl ?_
  refine tt_if_lt (M := MX5_realmOf) (pc := 1) 26 dX5_realmOf_1 rfl ?_ ?_
  · refine tt_iconst (M := MX5_realmOf) (pc := 26) dX5_realmOf_26 ?_
    exact tt_iret (M := MX5_realmOf) (pc := 27) dX5_realmOf_27 rfl
  · refine tt_ld (M := MX5_realmOf) (pc := 4) dX5_realmOf_4 rfl rfl rfl rfl rfl ?_
    refine tt_ld (M := MX5_realmOf) (pc := 5) dX5_realmOf_5 rfl rfl rfl rfl rfl ?_
    refine tt_getI (M := MX5_realmOf) (pc := 6) dX5_realmOf_6 rfl h0.1 rfl ?_
    refine tt_ic_ge (M := MX5_realmOf) (pc := 9) 26 dX5_realmOf_9 rfl ?_ ?_
    · refine tt_iconst (M := MX5_realmOf) (pc := 26) dX5_realmOf_26 ?_
      exact tt_iret (M := MX5_realmOf) (pc := 27) dX5_realmOf_27 rfl
    · refine tt_ld (M := MX5_realmOf) (pc := 12) dX5_realmOf_12 rfl rfl rfl rfl rfl ?_
      refine tt_getR (M := MX5_realmOf) (pc := 13) dX5_realmOf_13 rfl h0.1 rfl ?_
      refine tt_ld (M := MX5_realmOf) (pc := 16) dX5_realmOf_16 rfl rfl rfl rfl rfl ?_
      refine tt_getR (M := MX5_realmOf) (pc := 17) dX5_realmOf_17 rfl h0.1 rfl ?_
      refine tt_ld (M := MX5_realmOf) (pc := 20) dX5_realmOf_20 rfl rfl rfl rfl rfl ?_
      refine tt_iaload (M := MX5_realmOf) (pc := 21) dX5_realmOf_21 h0.2.2.2.2 rfl ?_
      refine tt_iaload (M := MX5_realmOf) (pc := 22) dX5_realmOf_22 h0.2.2.1 rfl ?_
      refine tt_goto (M := MX5_realmOf) (pc := 23) 27 dX5_realmOf_23 rfl ?_
      exact tt_iret (M := MX5_realmOf) (pc := 27) dX5_realmOf_27 rfl
