-- needs: 43.tshape
/-! ===== the program as conditions (gen_vc.py) ===== -/
theorem qX10_toAdvise_0 {sc : Nat × (Nat → Int32)} {SH : List mCell} {S : mStore} {r : mR × mW} (h0 : sGP SH) {l1 : Int} {l2 : Int} {u3 : Option Value} {u4 : Option Value} {u5 : Option Value} {u6 : Option Value} : ((if I l2 = I 0 then ((∃ S101, G sc MX10_mustBe 0 [some (.int (I 1))] [] SH S (rV SH S101) ∧ (if I l1 < I 0 then ((∃ S102, G sc MX10_mustFit 0 [some (.int (I 0))] [] SH S101 (rV SH S102) ∧ G sc MX10_toAdvise 43 [some (.ref 0), some (.int (I l1)), some (.int (I l2)), some (.int (I (-1))), some (.int (I (-1))), some (.int (I 0)), u6] [] SH S102 r) ∨ (∃ e SH1 S1, G sc MX10_mustFit 0 [some (.int (I 0))] [] SH S101 (rX e SH1 S1) ∧ r = rX e SH1 S1)) else (if I 40 < I l1 then ((∃ S103, G sc MX10_mustFit 0 [some (.int (I 0))] [] SH S101 (rV SH S103) ∧ G sc MX10_toAdvise 43 [some (.ref 0), some (.int (I l1)), some (.int (I l2)), some (.int (I (-1))), some (.int (I (-1))), some (.int (I 0)), u6] [] SH S103 r) ∨ (∃ e SH1 S1, G sc MX10_mustFit 0 [some (.int (I 0))] [] SH S101 (rX e SH1 S1) ∧ r = rX e SH1 S1)) else ((∃ S104, G sc MX10_mustFit 0 [some (.int (I 1))] [] SH S101 (rV SH S104) ∧ G sc MX10_toAdvise 43 [some (.ref 0), some (.int (I l1)), some (.int (I l2)), some (.int (I (-1))), some (.int (I (-1))), some (.int (I 0)), u6] [] SH S104 r) ∨ (∃ e SH1 S1, G sc MX10_mustFit 0 [some (.int (I 1))] [] SH S101 (rX e SH1 S1) ∧ r = rX e SH1 S1))))) ∨ (∃ e SH1 S1, G sc MX10_mustBe 0 [some (.int (I 1))] [] SH S (rX e SH1 S1) ∧ r = rX e SH1 S1)) else (if I l2 = I 1 then ((∃ S109, G sc MX10_mustBe 0 [some (.int (I 1))] [] SH S (rV SH S109) ∧ (if I l1 < I 0 then ((∃ S110, G sc MX10_mustFit 0 [some (.int (I 0))] [] SH S109 (rV SH S110) ∧ G sc MX10_toAdvise 43 [some (.ref 0), some (.int (I l1)), some (.int (I l2)), some (.int (I (-1))), some (.int (I (-1))), some (.int (I 0)), u6] [] SH S110 r) ∨ (∃ e SH1 S1, G sc MX10_mustFit 0 [some (.int (I 0))] [] SH S109 (rX e SH1 S1) ∧ r = rX e SH1 S1)) else (if I 40 < I l1 then ((∃ S111, G sc MX10_mustFit 0 [some (.int (I 0))] [] SH S109 (rV SH S111) ∧ G sc MX10_toAdvise 43 [some (.ref 0), some (.int (I l1)), some (.int (I l2)), some (.int (I (-1))), some (.int (I (-1))), some (.int (I 0)), u6] [] SH S111 r) ∨ (∃ e SH1 S1, G sc MX10_mustFit 0 [some (.int (I 0))] [] SH S109 (rX e SH1 S1) ∧ r = rX e SH1 S1)) else ((∃ S112, G sc MX10_mustFit 0 [some (.int (I 1))] [] SH S109 (rV SH S112) ∧ G sc MX10_toAdvise 43 [some (.ref 0), some (.int (I l1)), some (.int (I l2)), some (.int (I (-1))), some (.int (I (-1))), some (.int (I 0)), u6] [] SH S112 r) ∨ (∃ e SH1 S1, G sc MX10_mustFit 0 [some (.int (I 1))] [] SH S109 (rX e SH1 S1) ∧ r = rX e SH1 S1))))) ∨ (∃ e SH1 S1, G sc MX10_mustBe 0 [some (.int (I 1))] [] SH S (rX e SH1 S1) ∧ r = rX e SH1 S1)) else ((∃ S105, G sc MX10_mustBe 0 [some (.int (I 0))] [] SH S (rV SH S105) ∧ (if I l1 < I 0 then ((∃ S106, G sc MX10_mustFit 0 [some (.int (I 0))] [] SH S105 (rV SH S106) ∧ G sc MX10_toAdvise 43 [some (.ref 0), some (.int (I l1)), some (.int (I l2)), some (.int (I (-1))), some (.int (I (-1))), some (.int (I 0)), u6] [] SH S106 r) ∨ (∃ e SH1 S1, G sc MX10_mustFit 0 [some (.int (I 0))] [] SH S105 (rX e SH1 S1) ∧ r = rX e SH1 S1)) else (if I 40 < I l1 then ((∃ S107, G sc MX10_mustFit 0 [some (.int (I 0))] [] SH S105 (rV SH S107) ∧ G sc MX10_toAdvise 43 [some (.ref 0), some (.int (I l1)), some (.int (I l2)), some (.int (I (-1))), some (.int (I (-1))), some (.int (I 0)), u6] [] SH S107 r) ∨ (∃ e SH1 S1, G sc MX10_mustFit 0 [some (.int (I 0))] [] SH S105 (rX e SH1 S1) ∧ r = rX e SH1 S1)) else ((∃ S108, G sc MX10_mustFit 0 [some (.int (I 1))] [] SH S105 (rV SH S108) ∧ G sc MX10_toAdvise 43 [some (.ref 0), some (.int (I l1)), some (.int (I l2)), some (.int (I (-1))), some (.int (I (-1))), some (.int (I 0)), u6] [] SH S108 r) ∨ (∃ e SH1 S1, G sc MX10_mustFit 0 [some (.int (I 1))] [] SH S105 (rX e SH1 S1) ∧ r = rX e SH1 S1))))) ∨ (∃ e SH1 S1, G sc MX10_mustBe 0 [some (.int (I 0))] [] SH S (rX e SH1 S1) ∧ r = rX e SH1 S1))))) → G sc MX10_toAdvise 0 [some (.ref 0), some (.int (I l1)), some (.int (I l2)), u3, u4, u5, u6] [] SH S r := by
  refine tt_ld (M := MX10_toAdvise) (pc := 0) dX10_toAdvise_0 rfl rfl rfl rfl rfl ?_
  refine tt_if_eq (M := MX10_toAdvise) (pc := 1) 9 dX10_toAdvise_1 rfl ?_ ?_
  · refine tt_iconst (M := MX10_toAdvise) (pc := 9) dX10_toAdvise_9 ?_
    refine tt_goto (M := MX10_toAdvise) (pc := 10) 14 dX10_toAdvise_10 rfl ?_
    refine tt_scV (M := MX10_toAdvise) (pc := 14) dX10_toAdvise_14 rfl [] rfl rfl ⟨rfl, by decide, Nat.le_of_ble_eq_true rfl⟩ rfl fun S101 => ?_
    refine tt_ld (M := MX10_toAdvise) (pc := 17) dX10_toAdvise_17 rfl rfl rfl rfl rfl ?_
    refine tt_if_lt (M := MX10_toAdvise) (pc := 18) 31 dX10_toAdvise_18 rfl ?_ ?_
    · refine tt_iconst (M := MX10_toAdvise) (pc := 31) dX10_toAdvise_31 ?_
      refine tt_scV (M := MX10_toAdvise) (pc := 32) dX10_toAdvise_32 rfl [] rfl rfl ⟨rfl, by decide, Nat.le_of_ble_eq_true rfl⟩ rfl fun S102 => ?_
      refine tt_iconst (M := MX10_toAdvise) (pc := 35) dX10_toAdvise_35 ?_
      refine tt_st (M := MX10_toAdvise) (pc := 36) [some (.ref 0), some (.int (I l1)), some (.int (I l2)), some (.int (I (-1))), u4, u5, u6] dX10_toAdvise_36 rfl rfl rfl rfl rfl rfl ?_
      refine tt_iconst (M := MX10_toAdvise) (pc := 37) dX10_toAdvise_37 ?_
      refine tt_st (M := MX10_toAdvise) (pc := 38) [some (.ref 0), some (.int (I l1)), some (.int (I l2)), some (.int (I (-1))), some (.int (I (-1))), u5, u6] dX10_toAdvise_38 rfl rfl rfl rfl rfl rfl ?_
      refine tt_iconst (M := MX10_toAdvise) (pc := 40) dX10_toAdvise_40 ?_
      refine tt_st (M := MX10_toAdvise) (pc := 41) [some (.ref 0), some (.int (I l1)), some (.int (I l2)), some (.int (I (-1))), some (.int (I (-1))), some (.int (I 0)), u6] dX10_toAdvise_41 rfl rfl rfl rfl rfl rfl ?_
      exact id
    · refine tt_ld (M := MX10_toAdvise) (pc := 21) dX10_toAdvise_21 rfl rfl rfl rfl rfl ?_
      refine tt_bipush (M := MX10_toAdvise) (pc := 22) dX10_toAdvise_22 (by decide) ?_
      refine tt_ic_gt (M := MX10_toAdvise) (pc := 24) 31 dX10_toAdvise_24 rfl ?_ ?_
      · refine tt_iconst (M := MX10_toAdvise) (pc := 31) dX10_toAdvise_31 ?_
        refine tt_scV (M := MX10_toAdvise) (pc := 32) dX10_toAdvise_32 rfl [] rfl rfl ⟨rfl, by decide, Nat.le_of_ble_eq_true rfl⟩ rfl fun S103 => ?_
        refine tt_iconst (M := MX10_toAdvise) (pc := 35) dX10_toAdvise_35 ?_
        refine tt_st (M := MX10_toAdvise) (pc := 36) [some (.ref 0), some (.int (I l1)), some (.int (I l2)), some (.int (I (-1))), u4, u5, u6] dX10_toAdvise_36 rfl rfl rfl rfl rfl rfl ?_
        refine tt_iconst (M := MX10_toAdvise) (pc := 37) dX10_toAdvise_37 ?_
        refine tt_st (M := MX10_toAdvise) (pc := 38) [some (.ref 0), some (.int (I l1)), some (.int (I l2)), some (.int (I (-1))), some (.int (I (-1))), u5, u6] dX10_toAdvise_38 rfl rfl rfl rfl rfl rfl ?_
        refine tt_iconst (M := MX10_toAdvise) (pc := 40) dX10_toAdvise_40 ?_
        refine tt_st (M := MX10_toAdvise) (pc := 41) [some (.ref 0), some (.int (I l1)), some (.int (I l2)), some (.int (I (-1))), some (.int (I (-1))), some (.int (I 0)), u6] dX10_toAdvise_41 rfl rfl rfl rfl rfl rfl ?_
        exact id
      · refine tt_iconst (M := MX10_toAdvise) (pc := 27) dX10_toAdvise_27 ?_
        refine tt_goto (M := MX10_toAdvise) (pc := 28) 32 dX10_toAdvise_28 rfl ?_
        refine tt_scV (M := MX10_toAdvise) (pc := 32) dX10_toAdvise_32 rfl [] rfl rfl ⟨rfl, by decide, Nat.le_of_ble_eq_true rfl⟩ rfl fun S104 => ?_
        refine tt_iconst (M := MX10_toAdvise) (pc := 35) dX10_toAdvise_35 ?_
        refine tt_st (M := MX10_toAdvise) (pc := 36) [some (.ref 0), some (.int (I l1)), some (.int (I l2)), some (.int (I (-1))), u4, u5, u6] dX10_toAdvise_36 rfl rfl rfl rfl rfl rfl ?_
        refine tt_iconst (M := MX10_toAdvise) (pc := 37) dX10_toAdvise_37 ?_
        refine tt_st (M := MX10_toAdvise) (pc := 38) [some (.ref 0), some (.int (I l1)), some (.int (I l2)), some (.int (I (-1))), some (.int (I (-1))), u5, u6] dX10_toAdvise_38 rfl rfl rfl rfl rfl rfl ?_
        refine tt_iconst (M := MX10_toAdvise) (pc := 40) dX10_toAdvise_40 ?_
        refine tt_st (M := MX10_toAdvise) (pc := 41) [some (.ref 0), some (.int (I l1)), some (.int (I l2)), some (.int (I (-1))), some (.int (I (-1))), some (.int (I 0)), u6] dX10_toAdvise_41 rfl rfl rfl rfl rfl rfl ?_
        exact id
  · refine tt_ld (M := MX10_toAdvise) (pc := 4) dX10_toAdvise_4 rfl rfl rfl rfl rfl ?_
    refine tt_iconst (M := MX10_toAdvise) (pc := 5) dX10_toAdvise_5 ?_
    refine tt_ic_ne (M := MX10_toAdvise) (pc := 6) 13 dX10_toAdvise_6 rfl ?_ ?_
    · refine tt_iconst (M := MX10_toAdvise) (pc := 13) dX10_toAdvise_13 ?_
      refine tt_scV (M := MX10_toAdvise) (pc := 14) dX10_toAdvise_14 rfl [] rfl rfl ⟨rfl, by decide, Nat.le_of_ble_eq_true rfl⟩ rfl fun S105 => ?_
      refine tt_ld (M := MX10_toAdvise) (pc := 17) dX10_toAdvise_17 rfl rfl rfl rfl rfl ?_
      refine tt_if_lt (M := MX10_toAdvise) (pc := 18) 31 dX10_toAdvise_18 rfl ?_ ?_
      · refine tt_iconst (M := MX10_toAdvise) (pc := 31) dX10_toAdvise_31 ?_
        refine tt_scV (M := MX10_toAdvise) (pc := 32) dX10_toAdvise_32 rfl [] rfl rfl ⟨rfl, by decide, Nat.le_of_ble_eq_true rfl⟩ rfl fun S106 => ?_
        refine tt_iconst (M := MX10_toAdvise) (pc := 35) dX10_toAdvise_35 ?_
        refine tt_st (M := MX10_toAdvise) (pc := 36) [some (.ref 0), some (.int (I l1)), some (.int (I l2)), some (.int (I (-1))), u4, u5, u6] dX10_toAdvise_36 rfl rfl rfl rfl rfl rfl ?_
        refine tt_iconst (M := MX10_toAdvise) (pc := 37) dX10_toAdvise_37 ?_
        refine tt_st (M := MX10_toAdvise) (pc := 38) [some (.ref 0), some (.int (I l1)), some (.int (I l2)), some (.int (I (-1))), some (.int (I (-1))), u5, u6] dX10_toAdvise_38 rfl rfl rfl rfl rfl rfl ?_
        refine tt_iconst (M := MX10_toAdvise) (pc := 40) dX10_toAdvise_40 ?_
        refine tt_st (M := MX10_toAdvise) (pc := 41) [some (.ref 0), some (.int (I l1)), some (.int (I l2)), some (.int (I (-1))), some (.int (I (-1))), some (.int (I 0)), u6] dX10_toAdvise_41 rfl rfl rfl rfl rfl rfl ?_
        exact id
      · refine tt_ld (M := MX10_toAdvise) (pc := 21) dX10_toAdvise_21 rfl rfl rfl rfl rfl ?_
        refine tt_bipush (M := MX10_toAdvise) (pc := 22) dX10_toAdvise_22 (by decide) ?_
        refine tt_ic_gt (M := MX10_toAdvise) (pc := 24) 31 dX10_toAdvise_24 rfl ?_ ?_
        · refine tt_iconst (M := MX10_toAdvise) (pc := 31) dX10_toAdvise_31 ?_
          refine tt_scV (M := MX10_toAdvise) (pc := 32) dX10_toAdvise_32 rfl [] rfl rfl ⟨rfl, by decide, Nat.le_of_ble_eq_true rfl⟩ rfl fun S107 => ?_
          refine tt_iconst (M := MX10_toAdvise) (pc := 35) dX10_toAdvise_35 ?_
          refine tt_st (M := MX10_toAdvise) (pc := 36) [some (.ref 0), some (.int (I l1)), some (.int (I l2)), some (.int (I (-1))), u4, u5, u6] dX10_toAdvise_36 rfl rfl rfl rfl rfl rfl ?_
          refine tt_iconst (M := MX10_toAdvise) (pc := 37) dX10_toAdvise_37 ?_
          refine tt_st (M := MX10_toAdvise) (pc := 38) [some (.ref 0), some (.int (I l1)), some (.int (I l2)), some (.int (I (-1))), some (.int (I (-1))), u5, u6] dX10_toAdvise_38 rfl rfl rfl rfl rfl rfl ?_
          refine tt_iconst (M := MX10_toAdvise) (pc := 40) dX10_toAdvise_40 ?_
          refine tt_st (M := MX10_toAdvise) (pc := 41) [some (.ref 0), some (.int (I l1)), some (.int (I l2)), some (.int (I (-1))), some (.int (I (-1))), some (.int (I 0)), u6] dX10_toAdvise_41 rfl rfl rfl rfl rfl rfl ?_
          exact id
        · refine tt_iconst (M := MX10_toAdvise) (pc := 27) dX10_toAdvise_27 ?_
          refine tt_goto (M := MX10_toAdvise) (pc := 28) 32 dX10_toAdvise_28 rfl ?_
          refine tt_scV (M := MX10_toAdvise) (pc := 32) dX10_toAdvise_32 rfl [] rfl rfl ⟨rfl, by decide, Nat.le_of_ble_eq_true rfl⟩ rfl fun S108 => ?_
          refine tt_iconst (M := MX10_toAdvise) (pc := 35) dX10_toAdvise_35 ?_
          refine tt_st (M := MX10_toAdvise) (pc := 36) [some (.ref 0), some (.int (I l1)), some (.int (I l2)), some (.int (I (-1))), u4, u5, u6] dX10_toAdvise_36 rfl rfl rfl rfl rfl rfl ?_
          refine tt_iconst (M := MX10_toAdvise) (pc := 37) dX10_toAdvise_37 ?_
          refine tt_st (M := MX10_toAdvise) (pc := 38) [some (.ref 0), some (.int (I l1)), some (.int (I l2)), some (.int (I (-1))), some (.int (I (-1))), u5, u6] dX10_toAdvise_38 rfl rfl rfl rfl rfl rfl ?_
          refine tt_iconst (M := MX10_toAdvise) (pc := 40) dX10_toAdvise_40 ?_
          refine tt_st (M := MX10_toAdvise) (pc := 41) [some (.ref 0), some (.int (I l1)), some (.int (I l2)), some (.int (I (-1))), some (.int (I (-1))), some (.int (I 0)), u6] dX10_toAdvise_41 rfl rfl rfl rfl rfl rfl ?_
          exact id
    · refine tt_iconst (M := MX10_toAdvise) (pc := 9) dX10_toAdvise_9 ?_
      refine tt_goto (M := MX10_toAdvise) (pc := 10) 14 dX10_toAdvise_10 rfl ?_
      refine tt_scV (M := MX10_toAdvise) (pc := 14) dX10_toAdvise_14 rfl [] rfl rfl ⟨rfl, by decide, Nat.le_of_ble_eq_true rfl⟩ rfl fun S109 => ?_
      refine tt_ld (M := MX10_toAdvise) (pc := 17) dX10_toAdvise_17 rfl rfl rfl rfl rfl ?_
      refine tt_if_lt (M := MX10_toAdvise) (pc := 18) 31 dX10_toAdvise_18 rfl ?_ ?_
      · refine tt_iconst (M := MX10_toAdvise) (pc := 31) dX10_toAdvise_31 ?_
        refine tt_scV (M := MX10_toAdvise) (pc := 32) dX10_toAdvise_32 rfl [] rfl rfl ⟨rfl, by decide, Nat.le_of_ble_eq_true rfl⟩ rfl fun S110 => ?_
        refine tt_iconst (M := MX10_toAdvise) (pc := 35) dX10_toAdvise_35 ?_
        refine tt_st (M := MX10_toAdvise) (pc := 36) [some (.ref 0), some (.int (I l1)), some (.int (I l2)), some (.int (I (-1))), u4, u5, u6] dX10_toAdvise_36 rfl rfl rfl rfl rfl rfl ?_
        refine tt_iconst (M := MX10_toAdvise) (pc := 37) dX10_toAdvise_37 ?_
        refine tt_st (M := MX10_toAdvise) (pc := 38) [some (.ref 0), some (.int (I l1)), some (.int (I l2)), some (.int (I (-1))), some (.int (I (-1))), u5, u6] dX10_toAdvise_38 rfl rfl rfl rfl rfl rfl ?_
        refine tt_iconst (M := MX10_toAdvise) (pc := 40) dX10_toAdvise_40 ?_
        refine tt_st (M := MX10_toAdvise) (pc := 41) [some (.ref 0), some (.int (I l1)), some (.int (I l2)), some (.int (I (-1))), some (.int (I (-1))), some (.int (I 0)), u6] dX10_toAdvise_41 rfl rfl rfl rfl rfl rfl ?_
        exact id
      · refine tt_ld (M := MX10_toAdvise) (pc := 21) dX10_toAdvise_21 rfl rfl rfl rfl rfl ?_
        refine tt_bipush (M := MX10_toAdvise) (pc := 22) dX10_toAdvise_22 (by decide) ?_
        refine tt_ic_gt (M := MX10_toAdvise) (pc := 24) 31 dX10_toAdvise_24 rfl ?_ ?_
        · refine tt_iconst (M := MX10_toAdvise) (pc := 31) dX10_toAdvise_31 ?_
          refine tt_scV (M := MX10_toAdvise) (pc := 32) dX10_toAdvise_32 rfl [] rfl rfl ⟨rfl, by decide, Nat.le_of_ble_eq_true rfl⟩ rfl fun S111 => ?_
          refine tt_iconst (M := MX10_toAdvise) (pc := 35) dX10_toAdvise_35 ?_
          refine tt_st (M := MX10_toAdvise) (pc := 36) [some (.ref 0), some (.int (I l1)), some (.int (I l2)), some (.int (I (-1))), u4, u5, u6] dX10_toAdvise_36 rfl rfl rfl rfl rfl rfl ?_
          refine tt_iconst (M := MX10_toAdvise) (pc := 37) dX10_toAdvise_37 ?_
          refine tt_st (M := MX10_toAdvise) (pc := 38) [some (.ref 0), some (.int (I l1)), some (.int (I l2)), some (.int (I (-1))), some (.int (I (-1))), u5, u6] dX10_toAdvise_38 rfl rfl rfl rfl rfl rfl ?_
          refine tt_iconst (M := MX10_toAdvise) (pc := 40) dX10_toAdvise_40 ?_
          refine tt_st (M := MX10_toAdvise) (pc := 41) [some (.ref 0), some (.int (I l1)), some (.int (I l2)), some (.int (I (-1))), some (.int (I (-1))), some (.int (I 0)), u6] dX10_toAdvise_41 rfl rfl rfl rfl rfl rfl ?_
          exact id
        · refine tt_iconst (M := MX10_toAdvise) (pc := 27) dX10_toAdvise_27 ?_
          refine tt_goto (M := MX10_toAdvise) (pc := 28) 32 dX10_toAdvise_28 rfl ?_
          refine tt_scV (M := MX10_toAdvise) (pc := 32) dX10_toAdvise_32 rfl [] rfl rfl ⟨rfl, by decide, Nat.le_of_ble_eq_true rfl⟩ rfl fun S112 => ?_
          refine tt_iconst (M := MX10_toAdvise) (pc := 35) dX10_toAdvise_35 ?_
          refine tt_st (M := MX10_toAdvise) (pc := 36) [some (.ref 0), some (.int (I l1)), some (.int (I l2)), some (.int (I (-1))), u4, u5, u6] dX10_toAdvise_36 rfl rfl rfl rfl rfl rfl ?_
          refine tt_iconst (M := MX10_toAdvise) (pc := 37) dX10_toAdvise_37 ?_
          refine tt_st (M := MX10_toAdvise) (pc := 38) [some (.ref 0), some (.int (I l1)), some (.int (I l2)), some (.int (I (-1))), some (.int (I (-1))), u5, u6] dX10_toAdvise_38 rfl rfl rfl rfl rfl rfl ?_
          refine tt_iconst (M := MX10_toAdvise) (pc := 40) dX10_toAdvise_40 ?_
          refine tt_st (M := MX10_toAdvise) (pc := 41) [some (.ref 0), some (.int (I l1)), some (.int (I l2)), some (.int (I (-1))), some (.int (I (-1))), some (.int (I 0)), u6] dX10_toAdvise_41 rfl rfl rfl rfl rfl rfl ?_
          exact id
theorem qX10_toAdvise_43 {sc : Nat × (Nat → Int32)} {SH : List mCell} {S : mStore} {r : mR × mW} (h0 : sGP SH) {l1 : Int} {l2 : Int} {l3 : Int} {l4 : Int} {l5 : Int} {u6 : Option Value} : ((if I (S 1 6) ≤ I l5 then (if I l2 = I 0 then r = rI l3 SH S else r = rI l4 SH S) else (∃ S101, G sc MX7_become 0 [some (.ref 65), some (.ref 17)] [] SH S (rV SH S101) ∧ (((0 : Int) ≤ l5 ∧ l5 < 4) ∧ (((0 : Int) ≤ l5 ∧ l5 < 4) ∧ (((0 : Int) ≤ l5 ∧ l5 < 4) ∧ (∃ v102 S103, G sc MX7_adviseAll 0 [some (.ref 65), some (.int (I (S101 (1 + 3) l5))), some (.int (I (((S101 (1 + 3) l5) + (S101 (1 + 1) l5)) - 1))), none, none] [] SH S101 (rI v102 SH S103) ∧ (∃ v104 S105, G sc MX7_tick 0 [some (.ref 65), some (.int (I l1)), none, none, none, none] [] SH S103 (rI v104 SH S105) ∧ (∃ v106 S107, G sc MX7_used 0 [some (.ref 65), none, none] [] SH S105 (rI v106 SH S107) ∧ (if I l3 = I (-1) then G sc MX10_toAdvise 43 [some (.ref 0), some (.int (I l1)), some (.int (I l2)), some (.int (I l5)), some (.int (I v106)), some (.int (I (l5 + 1))), some (.int (I v106))] [] SH S107 r else (if I l4 ≤ I v106 then G sc MX10_toAdvise 43 [some (.ref 0), some (.int (I l1)), some (.int (I l2)), some (.int (I l3)), some (.int (I l4)), some (.int (I (l5 + 1))), some (.int (I v106))] [] SH S107 r else G sc MX10_toAdvise 43 [some (.ref 0), some (.int (I l1)), some (.int (I l2)), some (.int (I l5)), some (.int (I v106)), some (.int (I (l5 + 1))), some (.int (I v106))] [] SH S107 r))))))))))) → G sc MX10_toAdvise 43 [some (.ref 0), some (.int (I l1)), some (.int (I l2)), some (.int (I l3)), some (.int (I l4)), some (.int (I l5)), u6] [] SH S r := by
  refine tt_ld (M := MX10_toAdvise) (pc := 43) dX10_toAdvise_43 rfl rfl rfl rfl rfl ?_
  refine tt_ld (M := MX10_toAdvise) (pc := 45) dX10_toAdvise_45 rfl rfl rfl rfl rfl ?_
  refine tt_getR (M := MX10_toAdvise) (pc := 46) dX10_toAdvise_46 rfl h0.1 rfl ?_
  refine tt_getI (M := MX10_toAdvise) (pc := 49) dX10_toAdvise_49 rfl h0.2.2.2.1.2.2.2.2.1.2.2.2.2.2.2.2.2.2.2.2.2.1 rfl ?_
  refine tt_ic_ge (M := MX10_toAdvise) (pc := 52) 153 dX10_toAdvise_52 rfl ?_ ?_
  · refine tt_ld (M := MX10_toAdvise) (pc := 153) dX10_toAdvise_153 rfl rfl rfl rfl rfl ?_
    refine tt_if_ne (M := MX10_toAdvise) (pc := 154) 161 dX10_toAdvise_154 rfl ?_ ?_
    · refine tt_ld (M := MX10_toAdvise) (pc := 161) dX10_toAdvise_161 rfl rfl rfl rfl rfl ?_
      exact tt_iret (M := MX10_toAdvise) (pc := 163) dX10_toAdvise_163 rfl
    · refine tt_ld (M := MX10_toAdvise) (pc := 157) dX10_toAdvise_157 rfl rfl rfl rfl rfl ?_
      refine tt_goto (M := MX10_toAdvise) (pc := 158) 163 dX10_toAdvise_158 rfl ?_
      exact tt_iret (M := MX10_toAdvise) (pc := 163) dX10_toAdvise_163 rfl
  · refine tt_ld (M := MX10_toAdvise) (pc := 55) dX10_toAdvise_55 rfl rfl rfl rfl rfl ?_
    refine tt_getR (M := MX10_toAdvise) (pc := 56) dX10_toAdvise_56 rfl h0.1 rfl ?_
    refine tt_ld (M := MX10_toAdvise) (pc := 59) dX10_toAdvise_59 rfl rfl rfl rfl rfl ?_
    refine tt_getR (M := MX10_toAdvise) (pc := 60) dX10_toAdvise_60 rfl h0.1 rfl ?_
    refine tt_getR (M := MX10_toAdvise) (pc := 63) dX10_toAdvise_63 rfl h0.2.2.2.1.1 rfl ?_
    refine tt_vcVN (M := MX10_toAdvise) (pc := 66) dX10_toAdvise_66 rfl rfl [] rfl rfl ⟨rfl, by decide, Nat.le_of_ble_eq_true rfl⟩ h0.2.2.2.2.2.1.1 fun S101 => ?_
    refine tt_ld (M := MX10_toAdvise) (pc := 69) dX10_toAdvise_69 rfl rfl rfl rfl rfl ?_
    refine tt_getR (M := MX10_toAdvise) (pc := 70) dX10_toAdvise_70 rfl h0.1 rfl ?_
    refine tt_ld (M := MX10_toAdvise) (pc := 73) dX10_toAdvise_73 rfl rfl rfl rfl rfl ?_
    refine tt_getR (M := MX10_toAdvise) (pc := 74) dX10_toAdvise_74 rfl h0.1 rfl ?_
    refine tt_getR (M := MX10_toAdvise) (pc := 77) dX10_toAdvise_77 rfl h0.2.2.2.1.2.2.2.2.1.2.2.2.2.2.2.2.2.2.2.2.2.1 rfl ?_
    refine tt_ld (M := MX10_toAdvise) (pc := 80) dX10_toAdvise_80 rfl rfl rfl rfl rfl ?_
    refine tt_iaload (M := MX10_toAdvise) (pc := 82) dX10_toAdvise_82 h0.2.2.2.1.2.2.2.2.1.2.2.2.2.2.2.2.2.2.2.2.2.2.2.2.1 rfl ?_
    refine tt_ld (M := MX10_toAdvise) (pc := 83) dX10_toAdvise_83 rfl rfl rfl rfl rfl ?_
    refine tt_getR (M := MX10_toAdvise) (pc := 84) dX10_toAdvise_84 rfl h0.1 rfl ?_
    refine tt_getR (M := MX10_toAdvise) (pc := 87) dX10_toAdvise_87 rfl h0.2.2.2.1.2.2.2.2.1.2.2.2.2.2.2.2.2.2.2.2.2.1 rfl ?_
    refine tt_ld (M := MX10_toAdvise) (pc := 90) dX10_toAdvise_90 rfl rfl rfl rfl rfl ?_
    refine tt_iaload (M := MX10_toAdvise) (pc := 92) dX10_toAdvise_92 h0.2.2.2.1.2.2.2.2.1.2.2.2.2.2.2.2.2.2.2.2.2.2.2.2.1 rfl ?_
    refine tt_ld (M := MX10_toAdvise) (pc := 93) dX10_toAdvise_93 rfl rfl rfl rfl rfl ?_
    refine tt_getR (M := MX10_toAdvise) (pc := 94) dX10_toAdvise_94 rfl h0.1 rfl ?_
    refine tt_getR (M := MX10_toAdvise) (pc := 97) dX10_toAdvise_97 rfl h0.2.2.2.1.2.2.2.2.1.2.2.2.2.2.2.2.2.2.2.2.2.1 rfl ?_
    refine tt_ld (M := MX10_toAdvise) (pc := 100) dX10_toAdvise_100 rfl rfl rfl rfl rfl ?_
    refine tt_iaload (M := MX10_toAdvise) (pc := 102) dX10_toAdvise_102 h0.2.2.2.1.2.2.2.2.1.2.2.2.2.2.2.2.2.2.2.2.2.2.1 rfl ?_
    refine tt_iadd (M := MX10_toAdvise) (pc := 103) dX10_toAdvise_103 ?_
    refine tt_iconst (M := MX10_toAdvise) (pc := 104) dX10_toAdvise_104 ?_
    refine tt_isub (M := MX10_toAdvise) (pc := 105) dX10_toAdvise_105 ?_
    refine tt_vcIN (M := MX10_toAdvise) (pc := 106) dX10_toAdvise_106 rfl rfl [] rfl rfl ⟨rfl, by decide, Nat.le_of_ble_eq_true rfl⟩ h0.2.2.2.2.2.1.1 fun v102 S103 => ?_
    refine tt_pop (M := MX10_toAdvise) (pc := 109) dX10_toAdvise_109 rfl ?_
    refine tt_ld (M := MX10_toAdvise) (pc := 110) dX10_toAdvise_110 rfl rfl rfl rfl rfl ?_
    refine tt_getR (M := MX10_toAdvise) (pc := 111) dX10_toAdvise_111 rfl h0.1 rfl ?_
    refine tt_ld (M := MX10_toAdvise) (pc := 114) dX10_toAdvise_114 rfl rfl rfl rfl rfl ?_
    refine tt_vcIN (M := MX10_toAdvise) (pc := 115) dX10_toAdvise_115 rfl rfl [] rfl rfl ⟨rfl, by decide, Nat.le_of_ble_eq_true rfl⟩ h0.2.2.2.2.2.1.1 fun v104 S105 => ?_
    refine tt_pop (M := MX10_toAdvise) (pc := 118) dX10_toAdvise_118 rfl ?_
    refine tt_ld (M := MX10_toAdvise) (pc := 119) dX10_toAdvise_119 rfl rfl rfl rfl rfl ?_
    refine tt_getR (M := MX10_toAdvise) (pc := 120) dX10_toAdvise_120 rfl h0.1 rfl ?_
    refine tt_vcIN (M := MX10_toAdvise) (pc := 123) dX10_toAdvise_123 rfl rfl [] rfl rfl ⟨rfl, by decide, Nat.le_of_ble_eq_true rfl⟩ h0.2.2.2.2.2.1.1 fun v106 S107 => ?_
    refine tt_st (M := MX10_toAdvise) (pc := 126) [some (.ref 0), some (.int (I l1)), some (.int (I l2)), some (.int (I l3)), some (.int (I l4)), some (.int (I l5)), some (.int (I v106))] dX10_toAdvise_126 rfl rfl rfl rfl rfl rfl ?_
    refine tt_ld (M := MX10_toAdvise) (pc := 128) dX10_toAdvise_128 rfl rfl rfl rfl rfl ?_
    refine tt_iconst (M := MX10_toAdvise) (pc := 129) dX10_toAdvise_129 ?_
    refine tt_ic_eq (M := MX10_toAdvise) (pc := 130) 140 dX10_toAdvise_130 rfl ?_ ?_
    · refine tt_ld (M := MX10_toAdvise) (pc := 140) dX10_toAdvise_140 rfl rfl rfl rfl rfl ?_
      refine tt_st (M := MX10_toAdvise) (pc := 142) [some (.ref 0), some (.int (I l1)), some (.int (I l2)), some (.int (I l5)), some (.int (I l4)), some (.int (I l5)), some (.int (I v106))] dX10_toAdvise_142 rfl rfl rfl rfl rfl rfl ?_
      refine tt_ld (M := MX10_toAdvise) (pc := 143) dX10_toAdvise_143 rfl rfl rfl rfl rfl ?_
      refine tt_st (M := MX10_toAdvise) (pc := 145) [some (.ref 0), some (.int (I l1)), some (.int (I l2)), some (.int (I l5)), some (.int (I v106)), some (.int (I l5)), some (.int (I v106))] dX10_toAdvise_145 rfl rfl rfl rfl rfl rfl ?_
      refine tt_iinc (M := MX10_toAdvise) (pc := 147) [some (.ref 0), some (.int (I l1)), some (.int (I l2)), some (.int (I l5)), some (.int (I v106)), some (.int (I (l5 + 1))), some (.int (I v106))] dX10_toAdvise_147 rfl rfl ?_
      refine tt_goto (M := MX10_toAdvise) (pc := 150) 43 dX10_toAdvise_150 rfl ?_
      exact id
    · refine tt_ld (M := MX10_toAdvise) (pc := 133) dX10_toAdvise_133 rfl rfl rfl rfl rfl ?_
      refine tt_ld (M := MX10_toAdvise) (pc := 135) dX10_toAdvise_135 rfl rfl rfl rfl rfl ?_
      refine tt_ic_ge (M := MX10_toAdvise) (pc := 137) 147 dX10_toAdvise_137 rfl ?_ ?_
      · refine tt_iinc (M := MX10_toAdvise) (pc := 147) [some (.ref 0), some (.int (I l1)), some (.int (I l2)), some (.int (I l3)), some (.int (I l4)), some (.int (I (l5 + 1))), some (.int (I v106))] dX10_toAdvise_147 rfl rfl ?_
        refine tt_goto (M := MX10_toAdvise) (pc := 150) 43 dX10_toAdvise_150 rfl ?_
        exact id
      · refine tt_ld (M := MX10_toAdvise) (pc := 140) dX10_toAdvise_140 rfl rfl rfl rfl rfl ?_
        refine tt_st (M := MX10_toAdvise) (pc := 142) [some (.ref 0), some (.int (I l1)), some (.int (I l2)), some (.int (I l5)), some (.int (I l4)), some (.int (I l5)), some (.int (I v106))] dX10_toAdvise_142 rfl rfl rfl rfl rfl rfl ?_
        refine tt_ld (M := MX10_toAdvise) (pc := 143) dX10_toAdvise_143 rfl rfl rfl rfl rfl ?_
        refine tt_st (M := MX10_toAdvise) (pc := 145) [some (.ref 0), some (.int (I l1)), some (.int (I l2)), some (.int (I l5)), some (.int (I v106)), some (.int (I l5)), some (.int (I v106))] dX10_toAdvise_145 rfl rfl rfl rfl rfl rfl ?_
        refine tt_iinc (M := MX10_toAdvise) (pc := 147) [some (.ref 0), some (.int (I l1)), some (.int (I l2)), some (.int (I l5)), some (.int (I v106)), some (.int (I (l5 + 1))), some (.int (I v106))] dX10_toAdvise_147 rfl rfl ?_
        refine tt_goto (M := MX10_toAdvise) (pc := 150) 43 dX10_toAdvise_150 rfl ?_
        exact id
theorem qX10_toRate_0 {sc : Nat × (Nat → Int32)} {SH : List mCell} {S : mStore} {r : mR × mW} (h0 : sGP SH) {l1 : Int} {l2 : Int} {u3 : Option Value} {u4 : Option Value} {u5 : Option Value} {u6 : Option Value} {u7 : Option Value} {u8 : Option Value} : ((if I l2 = I 0 then ((∃ S101, G sc MX10_mustBe 0 [some (.int (I 1))] [] SH S (rV SH S101) ∧ (if I l1 < I 1 then G sc MX10_toRate 33 [some (.ref 0), some (.int (I l1)), some (.int (I l2)), u3, u4, u5, u6, u7, u8] [.int (I 0)] SH S101 r else (if I 20 < I l1 then G sc MX10_toRate 33 [some (.ref 0), some (.int (I l1)), some (.int (I l2)), u3, u4, u5, u6, u7, u8] [.int (I 0)] SH S101 r else G sc MX10_toRate 33 [some (.ref 0), some (.int (I l1)), some (.int (I l2)), u3, u4, u5, u6, u7, u8] [.int (I 1)] SH S101 r))) ∨ (∃ e SH1 S1, G sc MX10_mustBe 0 [some (.int (I 1))] [] SH S (rX e SH1 S1) ∧ r = rX e SH1 S1)) else (if I l2 = I 1 then ((∃ S103, G sc MX10_mustBe 0 [some (.int (I 1))] [] SH S (rV SH S103) ∧ (if I l1 < I 1 then G sc MX10_toRate 33 [some (.ref 0), some (.int (I l1)), some (.int (I l2)), u3, u4, u5, u6, u7, u8] [.int (I 0)] SH S103 r else (if I 20 < I l1 then G sc MX10_toRate 33 [some (.ref 0), some (.int (I l1)), some (.int (I l2)), u3, u4, u5, u6, u7, u8] [.int (I 0)] SH S103 r else G sc MX10_toRate 33 [some (.ref 0), some (.int (I l1)), some (.int (I l2)), u3, u4, u5, u6, u7, u8] [.int (I 1)] SH S103 r))) ∨ (∃ e SH1 S1, G sc MX10_mustBe 0 [some (.int (I 1))] [] SH S (rX e SH1 S1) ∧ r = rX e SH1 S1)) else ((∃ S102, G sc MX10_mustBe 0 [some (.int (I 0))] [] SH S (rV SH S102) ∧ (if I l1 < I 1 then G sc MX10_toRate 33 [some (.ref 0), some (.int (I l1)), some (.int (I l2)), u3, u4, u5, u6, u7, u8] [.int (I 0)] SH S102 r else (if I 20 < I l1 then G sc MX10_toRate 33 [some (.ref 0), some (.int (I l1)), some (.int (I l2)), u3, u4, u5, u6, u7, u8] [.int (I 0)] SH S102 r else G sc MX10_toRate 33 [some (.ref 0), some (.int (I l1)), some (.int (I l2)), u3, u4, u5, u6, u7, u8] [.int (I 1)] SH S102 r))) ∨ (∃ e SH1 S1, G sc MX10_mustBe 0 [some (.int (I 0))] [] SH S (rX e SH1 S1) ∧ r = rX e SH1 S1))))) → G sc MX10_toRate 0 [some (.ref 0), some (.int (I l1)), some (.int (I l2)), u3, u4, u5, u6, u7, u8] [] SH S r := by
  refine tt_ld (M := MX10_toRate) (pc := 0) dX10_toRate_0 rfl rfl rfl rfl rfl ?_
  refine tt_if_eq (M := MX10_toRate) (pc := 1) 9 dX10_toRate_1 rfl ?_ ?_
  · refine tt_iconst (M := MX10_toRate) (pc := 9) dX10_toRate_9 ?_
    refine tt_goto (M := MX10_toRate) (pc := 10) 14 dX10_toRate_10 rfl ?_
    refine tt_scV (M := MX10_toRate) (pc := 14) dX10_toRate_14 rfl [] rfl rfl ⟨rfl, by decide, Nat.le_of_ble_eq_true rfl⟩ rfl fun S101 => ?_
    refine tt_ld (M := MX10_toRate) (pc := 17) dX10_toRate_17 rfl rfl rfl rfl rfl ?_
    refine tt_iconst (M := MX10_toRate) (pc := 18) dX10_toRate_18 ?_
    refine tt_ic_lt (M := MX10_toRate) (pc := 19) 32 dX10_toRate_19 rfl ?_ ?_
    · refine tt_iconst (M := MX10_toRate) (pc := 32) dX10_toRate_32 ?_
      exact id
    · refine tt_ld (M := MX10_toRate) (pc := 22) dX10_toRate_22 rfl rfl rfl rfl rfl ?_
      refine tt_bipush (M := MX10_toRate) (pc := 23) dX10_toRate_23 (by decide) ?_
      refine tt_ic_gt (M := MX10_toRate) (pc := 25) 32 dX10_toRate_25 rfl ?_ ?_
      · refine tt_iconst (M := MX10_toRate) (pc := 32) dX10_toRate_32 ?_
        exact id
      · refine tt_iconst (M := MX10_toRate) (pc := 28) dX10_toRate_28 ?_
        refine tt_goto (M := MX10_toRate) (pc := 29) 33 dX10_toRate_29 rfl ?_
        exact id
  · refine tt_ld (M := MX10_toRate) (pc := 4) dX10_toRate_4 rfl rfl rfl rfl rfl ?_
    refine tt_iconst (M := MX10_toRate) (pc := 5) dX10_toRate_5 ?_
    refine tt_ic_ne (M := MX10_toRate) (pc := 6) 13 dX10_toRate_6 rfl ?_ ?_
    · refine tt_iconst (M := MX10_toRate) (pc := 13) dX10_toRate_13 ?_
      refine tt_scV (M := MX10_toRate) (pc := 14) dX10_toRate_14 rfl [] rfl rfl ⟨rfl, by decide, Nat.le_of_ble_eq_true rfl⟩ rfl fun S102 => ?_
      refine tt_ld (M := MX10_toRate) (pc := 17) dX10_toRate_17 rfl rfl rfl rfl rfl ?_
      refine tt_iconst (M := MX10_toRate) (pc := 18) dX10_toRate_18 ?_
      refine tt_ic_lt (M := MX10_toRate) (pc := 19) 32 dX10_toRate_19 rfl ?_ ?_
      · refine tt_iconst (M := MX10_toRate) (pc := 32) dX10_toRate_32 ?_
        exact id
      · refine tt_ld (M := MX10_toRate) (pc := 22) dX10_toRate_22 rfl rfl rfl rfl rfl ?_
        refine tt_bipush (M := MX10_toRate) (pc := 23) dX10_toRate_23 (by decide) ?_
        refine tt_ic_gt (M := MX10_toRate) (pc := 25) 32 dX10_toRate_25 rfl ?_ ?_
        · refine tt_iconst (M := MX10_toRate) (pc := 32) dX10_toRate_32 ?_
          exact id
        · refine tt_iconst (M := MX10_toRate) (pc := 28) dX10_toRate_28 ?_
          refine tt_goto (M := MX10_toRate) (pc := 29) 33 dX10_toRate_29 rfl ?_
          exact id
    · refine tt_iconst (M := MX10_toRate) (pc := 9) dX10_toRate_9 ?_
      refine tt_goto (M := MX10_toRate) (pc := 10) 14 dX10_toRate_10 rfl ?_
      refine tt_scV (M := MX10_toRate) (pc := 14) dX10_toRate_14 rfl [] rfl rfl ⟨rfl, by decide, Nat.le_of_ble_eq_true rfl⟩ rfl fun S103 => ?_
      refine tt_ld (M := MX10_toRate) (pc := 17) dX10_toRate_17 rfl rfl rfl rfl rfl ?_
      refine tt_iconst (M := MX10_toRate) (pc := 18) dX10_toRate_18 ?_
      refine tt_ic_lt (M := MX10_toRate) (pc := 19) 32 dX10_toRate_19 rfl ?_ ?_
      · refine tt_iconst (M := MX10_toRate) (pc := 32) dX10_toRate_32 ?_
        exact id
      · refine tt_ld (M := MX10_toRate) (pc := 22) dX10_toRate_22 rfl rfl rfl rfl rfl ?_
        refine tt_bipush (M := MX10_toRate) (pc := 23) dX10_toRate_23 (by decide) ?_
        refine tt_ic_gt (M := MX10_toRate) (pc := 25) 32 dX10_toRate_25 rfl ?_ ?_
        · refine tt_iconst (M := MX10_toRate) (pc := 32) dX10_toRate_32 ?_
          exact id
        · refine tt_iconst (M := MX10_toRate) (pc := 28) dX10_toRate_28 ?_
          refine tt_goto (M := MX10_toRate) (pc := 29) 33 dX10_toRate_29 rfl ?_
          exact id
theorem qX10_toRate_33 {sc : Nat × (Nat → Int32)} {SH : List mCell} {S : mStore} {r : mR × mW} (h0 : sGP SH) {l1 : Int} {l2 : Int} {u3 : Option Value} {u4 : Option Value} {u5 : Option Value} {u6 : Option Value} {u7 : Option Value} {u8 : Option Value} {s0 : Int} : (((∃ S101, G sc MX10_mustFit 0 [some (.int (I s0))] [] SH S (rV SH S101) ∧ G sc MX10_toRate 53 [some (.ref 0), some (.int (I l1)), some (.int (I l2)), some (.int (I (-1))), some (.int (I (-1))), some (.int (I (-1))), some (.int (I (S101 1 2))), u7, u8] [] SH S101 r) ∨ (∃ e SH1 S1, G sc MX10_mustFit 0 [some (.int (I s0))] [] SH S (rX e SH1 S1) ∧ r = rX e SH1 S1))) → G sc MX10_toRate 33 [some (.ref 0), some (.int (I l1)), some (.int (I l2)), u3, u4, u5, u6, u7, u8] [.int (I s0)] SH S r := by
  refine tt_scV (M := MX10_toRate) (pc := 33) dX10_toRate_33 rfl [] rfl rfl ⟨rfl, by decide, Nat.le_of_ble_eq_true rfl⟩ rfl fun S101 => ?_
  refine tt_iconst (M := MX10_toRate) (pc := 36) dX10_toRate_36 ?_
  refine tt_st (M := MX10_toRate) (pc := 37) [some (.ref 0), some (.int (I l1)), some (.int (I l2)), some (.int (I (-1))), u4, u5, u6, u7, u8] dX10_toRate_37 rfl rfl rfl rfl rfl rfl ?_
  refine tt_iconst (M := MX10_toRate) (pc := 38) dX10_toRate_38 ?_
  refine tt_st (M := MX10_toRate) (pc := 39) [some (.ref 0), some (.int (I l1)), some (.int (I l2)), some (.int (I (-1))), some (.int (I (-1))), u5, u6, u7, u8] dX10_toRate_39 rfl rfl rfl rfl rfl rfl ?_
  refine tt_iconst (M := MX10_toRate) (pc := 41) dX10_toRate_41 ?_
  refine tt_st (M := MX10_toRate) (pc := 42) [some (.ref 0), some (.int (I l1)), some (.int (I l2)), some (.int (I (-1))), some (.int (I (-1))), some (.int (I (-1))), u6, u7, u8] dX10_toRate_42 rfl rfl rfl rfl rfl rfl ?_
  refine tt_ld (M := MX10_toRate) (pc := 44) dX10_toRate_44 rfl rfl rfl rfl rfl ?_
  refine tt_getR (M := MX10_toRate) (pc := 45) dX10_toRate_45 rfl h0.1 rfl ?_
  refine tt_getI (M := MX10_toRate) (pc := 48) dX10_toRate_48 rfl h0.2.2.2.1.2.2.2.2.1.2.2.2.2.2.2.2.2.2.2.2.2.1 rfl ?_
  refine tt_st (M := MX10_toRate) (pc := 51) [some (.ref 0), some (.int (I l1)), some (.int (I l2)), some (.int (I (-1))), some (.int (I (-1))), some (.int (I (-1))), some (.int (I (S101 1 2))), u7, u8] dX10_toRate_51 rfl rfl rfl rfl rfl rfl ?_
  exact id
theorem qX10_toRate_53 {sc : Nat × (Nat → Int32)} {SH : List mCell} {S : mStore} {r : mR × mW} (h0 : sGP SH) {l1 : Int} {l2 : Int} {l3 : Int} {l4 : Int} {l5 : Int} {l6 : Int} {u7 : Option Value} {u8 : Option Value} : ((if I (S 1 3) < I l6 then (if I l2 = I 0 then r = rI l3 SH S else r = rI l4 SH S) else (∃ S101, G sc MX7_become 0 [some (.ref 65), some (.ref 17)] [] SH S (rV SH S101) ∧ (((0 : Int) ≤ 0 ∧ (0 : Int) < 12) ∧ (∃ v102 S103, G sc MX7_tick 0 [some (.ref 65), some (.int (I l1)), none, none, none, none] [] SH (up S101 (65 + 19) 0 l6) (rI v102 SH S103) ∧ (∃ v104 S105, G sc MX7_used 0 [some (.ref 65), none, none] [] SH S103 (rI v104 SH S105) ∧ (((0 : Int) ≤ 3 ∧ (3 : Int) < 12) ∧ (if I l3 = I (-1) then G sc MX10_toRate 53 [some (.ref 0), some (.int (I l1)), some (.int (I l2)), some (.int (I l6)), some (.int (I v104)), some (.int (I (S105 (65 + 19) 3))), some (.int (I (l6 + 1))), some (.int (I v104)), some (.int (I (S105 (65 + 19) 3)))] [] SH S105 r else (if I v104 < I l4 then G sc MX10_toRate 53 [some (.ref 0), some (.int (I l1)), some (.int (I l2)), some (.int (I l6)), some (.int (I v104)), some (.int (I (S105 (65 + 19) 3))), some (.int (I (l6 + 1))), some (.int (I v104)), some (.int (I (S105 (65 + 19) 3)))] [] SH S105 r else (if I v104 = I l4 then (if I l5 ≤ I (S105 (65 + 19) 3) then G sc MX10_toRate 53 [some (.ref 0), some (.int (I l1)), some (.int (I l2)), some (.int (I l3)), some (.int (I l4)), some (.int (I l5)), some (.int (I (l6 + 1))), some (.int (I v104)), some (.int (I (S105 (65 + 19) 3)))] [] SH S105 r else G sc MX10_toRate 53 [some (.ref 0), some (.int (I l1)), some (.int (I l2)), some (.int (I l6)), some (.int (I v104)), some (.int (I (S105 (65 + 19) 3))), some (.int (I (l6 + 1))), some (.int (I v104)), some (.int (I (S105 (65 + 19) 3)))] [] SH S105 r) else G sc MX10_toRate 53 [some (.ref 0), some (.int (I l1)), some (.int (I l2)), some (.int (I l3)), some (.int (I l4)), some (.int (I l5)), some (.int (I (l6 + 1))), some (.int (I v104)), some (.int (I (S105 (65 + 19) 3)))] [] SH S105 r)))))))))) → G sc MX10_toRate 53 [some (.ref 0), some (.int (I l1)), some (.int (I l2)), some (.int (I l3)), some (.int (I l4)), some (.int (I l5)), some (.int (I l6)), u7, u8] [] SH S r := by
  refine tt_ld (M := MX10_toRate) (pc := 53) dX10_toRate_53 rfl rfl rfl rfl rfl ?_
  refine tt_ld (M := MX10_toRate) (pc := 55) dX10_toRate_55 rfl rfl rfl rfl rfl ?_
  refine tt_getR (M := MX10_toRate) (pc := 56) dX10_toRate_56 rfl h0.1 rfl ?_
  refine tt_getI (M := MX10_toRate) (pc := 59) dX10_toRate_59 rfl h0.2.2.2.1.2.2.2.2.1.2.2.2.2.2.2.2.2.2.2.2.2.1 rfl ?_
  refine tt_ic_gt (M := MX10_toRate) (pc := 62) 162 dX10_toRate_62 rfl ?_ ?_
  · refine tt_ld (M := MX10_toRate) (pc := 162) dX10_toRate_162 rfl rfl rfl rfl rfl ?_
    refine tt_if_ne (M := MX10_toRate) (pc := 163) 170 dX10_toRate_163 rfl ?_ ?_
    · refine tt_ld (M := MX10_toRate) (pc := 170) dX10_toRate_170 rfl rfl rfl rfl rfl ?_
      exact tt_iret (M := MX10_toRate) (pc := 172) dX10_toRate_172 rfl
    · refine tt_ld (M := MX10_toRate) (pc := 166) dX10_toRate_166 rfl rfl rfl rfl rfl ?_
      refine tt_goto (M := MX10_toRate) (pc := 167) 172 dX10_toRate_167 rfl ?_
      exact tt_iret (M := MX10_toRate) (pc := 172) dX10_toRate_172 rfl
  · refine tt_ld (M := MX10_toRate) (pc := 65) dX10_toRate_65 rfl rfl rfl rfl rfl ?_
    refine tt_getR (M := MX10_toRate) (pc := 66) dX10_toRate_66 rfl h0.1 rfl ?_
    refine tt_ld (M := MX10_toRate) (pc := 69) dX10_toRate_69 rfl rfl rfl rfl rfl ?_
    refine tt_getR (M := MX10_toRate) (pc := 70) dX10_toRate_70 rfl h0.1 rfl ?_
    refine tt_getR (M := MX10_toRate) (pc := 73) dX10_toRate_73 rfl h0.2.2.2.1.1 rfl ?_
    refine tt_vcVN (M := MX10_toRate) (pc := 76) dX10_toRate_76 rfl rfl [] rfl rfl ⟨rfl, by decide, Nat.le_of_ble_eq_true rfl⟩ h0.2.2.2.2.2.1.1 fun S101 => ?_
    refine tt_ld (M := MX10_toRate) (pc := 79) dX10_toRate_79 rfl rfl rfl rfl rfl ?_
    refine tt_getR (M := MX10_toRate) (pc := 80) dX10_toRate_80 rfl h0.1 rfl ?_
    refine tt_getR (M := MX10_toRate) (pc := 83) dX10_toRate_83 rfl h0.2.2.2.2.2.1.1 rfl ?_
    refine tt_iconst (M := MX10_toRate) (pc := 86) dX10_toRate_86 ?_
    refine tt_ld (M := MX10_toRate) (pc := 87) dX10_toRate_87 rfl rfl rfl rfl rfl ?_
    refine tt_iastore (M := MX10_toRate) (pc := 89) dX10_toRate_89 h0.2.2.2.2.2.1.2.2.2.2.2.2.2.2.2.2.2.1 rfl ?_
    refine tt_ld (M := MX10_toRate) (pc := 90) dX10_toRate_90 rfl rfl rfl rfl rfl ?_
    refine tt_getR (M := MX10_toRate) (pc := 91) dX10_toRate_91 rfl h0.1 rfl ?_
    refine tt_ld (M := MX10_toRate) (pc := 94) dX10_toRate_94 rfl rfl rfl rfl rfl ?_
    refine tt_vcIN (M := MX10_toRate) (pc := 95) dX10_toRate_95 rfl rfl [] rfl rfl ⟨rfl, by decide, Nat.le_of_ble_eq_true rfl⟩ h0.2.2.2.2.2.1.1 fun v102 S103 => ?_
    refine tt_pop (M := MX10_toRate) (pc := 98) dX10_toRate_98 rfl ?_
    refine tt_ld (M := MX10_toRate) (pc := 99) dX10_toRate_99 rfl rfl rfl rfl rfl ?_
    refine tt_getR (M := MX10_toRate) (pc := 100) dX10_toRate_100 rfl h0.1 rfl ?_
    refine tt_vcIN (M := MX10_toRate) (pc := 103) dX10_toRate_103 rfl rfl [] rfl rfl ⟨rfl, by decide, Nat.le_of_ble_eq_true rfl⟩ h0.2.2.2.2.2.1.1 fun v104 S105 => ?_
    refine tt_st (M := MX10_toRate) (pc := 106) [some (.ref 0), some (.int (I l1)), some (.int (I l2)), some (.int (I l3)), some (.int (I l4)), some (.int (I l5)), some (.int (I l6)), some (.int (I v104)), u8] dX10_toRate_106 rfl rfl rfl rfl rfl rfl ?_
    refine tt_ld (M := MX10_toRate) (pc := 108) dX10_toRate_108 rfl rfl rfl rfl rfl ?_
    refine tt_getR (M := MX10_toRate) (pc := 109) dX10_toRate_109 rfl h0.1 rfl ?_
    refine tt_getR (M := MX10_toRate) (pc := 112) dX10_toRate_112 rfl h0.2.2.2.2.2.1.1 rfl ?_
    refine tt_iconst (M := MX10_toRate) (pc := 115) dX10_toRate_115 ?_
    refine tt_iaload (M := MX10_toRate) (pc := 116) dX10_toRate_116 h0.2.2.2.2.2.1.2.2.2.2.2.2.2.2.2.2.2.1 rfl ?_
    refine tt_st (M := MX10_toRate) (pc := 117) [some (.ref 0), some (.int (I l1)), some (.int (I l2)), some (.int (I l3)), some (.int (I l4)), some (.int (I l5)), some (.int (I l6)), some (.int (I v104)), some (.int (I (S105 (65 + 19) 3)))] dX10_toRate_117 rfl rfl rfl rfl rfl rfl ?_
    refine tt_ld (M := MX10_toRate) (pc := 119) dX10_toRate_119 rfl rfl rfl rfl rfl ?_
    refine tt_iconst (M := MX10_toRate) (pc := 120) dX10_toRate_120 ?_
    refine tt_ic_eq (M := MX10_toRate) (pc := 121) 145 dX10_toRate_121 rfl ?_ ?_
    · refine tt_ld (M := MX10_toRate) (pc := 145) dX10_toRate_145 rfl rfl rfl rfl rfl ?_
      refine tt_st (M := MX10_toRate) (pc := 147) [some (.ref 0), some (.int (I l1)), some (.int (I l2)), some (.int (I l6)), some (.int (I l4)), some (.int (I l5)), some (.int (I l6)), some (.int (I v104)), some (.int (I (S105 (65 + 19) 3)))] dX10_toRate_147 rfl rfl rfl rfl rfl rfl ?_
      refine tt_ld (M := MX10_toRate) (pc := 148) dX10_toRate_148 rfl rfl rfl rfl rfl ?_
      refine tt_st (M := MX10_toRate) (pc := 150) [some (.ref 0), some (.int (I l1)), some (.int (I l2)), some (.int (I l6)), some (.int (I v104)), some (.int (I l5)), some (.int (I l6)), some (.int (I v104)), some (.int (I (S105 (65 + 19) 3)))] dX10_toRate_150 rfl rfl rfl rfl rfl rfl ?_
      refine tt_ld (M := MX10_toRate) (pc := 152) dX10_toRate_152 rfl rfl rfl rfl rfl ?_
      refine tt_st (M := MX10_toRate) (pc := 154) [some (.ref 0), some (.int (I l1)), some (.int (I l2)), some (.int (I l6)), some (.int (I v104)), some (.int (I (S105 (65 + 19) 3))), some (.int (I l6)), some (.int (I v104)), some (.int (I (S105 (65 + 19) 3)))] dX10_toRate_154 rfl rfl rfl rfl rfl rfl ?_
      refine tt_iinc (M := MX10_toRate) (pc := 156) [some (.ref 0), some (.int (I l1)), some (.int (I l2)), some (.int (I l6)), some (.int (I v104)), some (.int (I (S105 (65 + 19) 3))), some (.int (I (l6 + 1))), some (.int (I v104)), some (.int (I (S105 (65 + 19) 3)))] dX10_toRate_156 rfl rfl ?_
      refine tt_goto (M := MX10_toRate) (pc := 159) 53 dX10_toRate_159 rfl ?_
      exact id
    · refine tt_ld (M := MX10_toRate) (pc := 124) dX10_toRate_124 rfl rfl rfl rfl rfl ?_
      refine tt_ld (M := MX10_toRate) (pc := 126) dX10_toRate_126 rfl rfl rfl rfl rfl ?_
      refine tt_ic_lt (M := MX10_toRate) (pc := 128) 145 dX10_toRate_128 rfl ?_ ?_
      · refine tt_ld (M := MX10_toRate) (pc := 145) dX10_toRate_145 rfl rfl rfl rfl rfl ?_
        refine tt_st (M := MX10_toRate) (pc := 147) [some (.ref 0), some (.int (I l1)), some (.int (I l2)), some (.int (I l6)), some (.int (I l4)), some (.int (I l5)), some (.int (I l6)), some (.int (I v104)), some (.int (I (S105 (65 + 19) 3)))] dX10_toRate_147 rfl rfl rfl rfl rfl rfl ?_
        refine tt_ld (M := MX10_toRate) (pc := 148) dX10_toRate_148 rfl rfl rfl rfl rfl ?_
        refine tt_st (M := MX10_toRate) (pc := 150) [some (.ref 0), some (.int (I l1)), some (.int (I l2)), some (.int (I l6)), some (.int (I v104)), some (.int (I l5)), some (.int (I l6)), some (.int (I v104)), some (.int (I (S105 (65 + 19) 3)))] dX10_toRate_150 rfl rfl rfl rfl rfl rfl ?_
        refine tt_ld (M := MX10_toRate) (pc := 152) dX10_toRate_152 rfl rfl rfl rfl rfl ?_
        refine tt_st (M := MX10_toRate) (pc := 154) [some (.ref 0), some (.int (I l1)), some (.int (I l2)), some (.int (I l6)), some (.int (I v104)), some (.int (I (S105 (65 + 19) 3))), some (.int (I l6)), some (.int (I v104)), some (.int (I (S105 (65 + 19) 3)))] dX10_toRate_154 rfl rfl rfl rfl rfl rfl ?_
        refine tt_iinc (M := MX10_toRate) (pc := 156) [some (.ref 0), some (.int (I l1)), some (.int (I l2)), some (.int (I l6)), some (.int (I v104)), some (.int (I (S105 (65 + 19) 3))), some (.int (I (l6 + 1))), some (.int (I v104)), some (.int (I (S105 (65 + 19) 3)))] dX10_toRate_156 rfl rfl ?_
        refine tt_goto (M := MX10_toRate) (pc := 159) 53 dX10_toRate_159 rfl ?_
        exact id
      · refine tt_ld (M := MX10_toRate) (pc := 131) dX10_toRate_131 rfl rfl rfl rfl rfl ?_
        refine tt_ld (M := MX10_toRate) (pc := 133) dX10_toRate_133 rfl rfl rfl rfl rfl ?_
        refine tt_ic_ne (M := MX10_toRate) (pc := 135) 156 dX10_toRate_135 rfl ?_ ?_
        · refine tt_iinc (M := MX10_toRate) (pc := 156) [some (.ref 0), some (.int (I l1)), some (.int (I l2)), some (.int (I l3)), some (.int (I l4)), some (.int (I l5)), some (.int (I (l6 + 1))), some (.int (I v104)), some (.int (I (S105 (65 + 19) 3)))] dX10_toRate_156 rfl rfl ?_
          refine tt_goto (M := MX10_toRate) (pc := 159) 53 dX10_toRate_159 rfl ?_
          exact id
        · refine tt_ld (M := MX10_toRate) (pc := 138) dX10_toRate_138 rfl rfl rfl rfl rfl ?_
          refine tt_ld (M := MX10_toRate) (pc := 140) dX10_toRate_140 rfl rfl rfl rfl rfl ?_
          refine tt_ic_ge (M := MX10_toRate) (pc := 142) 156 dX10_toRate_142 rfl ?_ ?_
          · refine tt_iinc (M := MX10_toRate) (pc := 156) [some (.ref 0), some (.int (I l1)), some (.int (I l2)), some (.int (I l3)), some (.int (I l4)), some (.int (I l5)), some (.int (I (l6 + 1))), some (.int (I v104)), some (.int (I (S105 (65 + 19) 3)))] dX10_toRate_156 rfl rfl ?_
            refine tt_goto (M := MX10_toRate) (pc := 159) 53 dX10_toRate_159 rfl ?_
            exact id
          · refine tt_ld (M := MX10_toRate) (pc := 145) dX10_toRate_145 rfl rfl rfl rfl rfl ?_
            refine tt_st (M := MX10_toRate) (pc := 147) [some (.ref 0), some (.int (I l1)), some (.int (I l2)), some (.int (I l6)), some (.int (I l4)), some (.int (I l5)), some (.int (I l6)), some (.int (I v104)), some (.int (I (S105 (65 + 19) 3)))] dX10_toRate_147 rfl rfl rfl rfl rfl rfl ?_
            refine tt_ld (M := MX10_toRate) (pc := 148) dX10_toRate_148 rfl rfl rfl rfl rfl ?_
            refine tt_st (M := MX10_toRate) (pc := 150) [some (.ref 0), some (.int (I l1)), some (.int (I l2)), some (.int (I l6)), some (.int (I v104)), some (.int (I l5)), some (.int (I l6)), some (.int (I v104)), some (.int (I (S105 (65 + 19) 3)))] dX10_toRate_150 rfl rfl rfl rfl rfl rfl ?_
            refine tt_ld (M := MX10_toRate) (pc := 152) dX10_toRate_152 rfl rfl rfl rfl rfl ?_
            refine tt_st (M := MX10_toRate) (pc := 154) [some (.ref 0), some (.int (I l1)), some (.int (I l2)), some (.int (I l6)), some (.int (I v104)), some (.int (I (S105 (65 + 19) 3))), some (.int (I l6)), some (.int (I v104)), some (.int (I (S105 (65 + 19) 3)))] dX10_toRate_154 rfl rfl rfl rfl rfl rfl ?_
            refine tt_iinc (M := MX10_toRate) (pc := 156) [some (.ref 0), some (.int (I l1)), some (.int (I l2)), some (.int (I l6)), some (.int (I v104)), some (.int (I (S105 (65 + 19) 3))), some (.int (I (l6 + 1))), some (.int (I v104)), some (.int (I (S105 (65 + 19) 3)))] dX10_toRate_156 rfl rfl ?_
            refine tt_goto (M := MX10_toRate) (pc := 159) 53 dX10_toRate_159 rfl ?_
            exact id
theorem qX10_note_0 {sc : Nat × (Nat → Int32)} {SH : List mCell} {S : mStore} {r : mR × mW} (h0 : sGP SH) {l1 : Int} {l2 : Int} : ((if I 8 ≤ I (S 13 5) then (((0 : Int) ≤ 2 ∧ (2 : Int) < 3) ∧ (((0 : Int) ≤ 2 ∧ (2 : Int) < 3) ∧ r = rI (-1) SH (up S 16 2 ((S 16 2) + 1)))) else (if I l1 < I 0 then (((0 : Int) ≤ 2 ∧ (2 : Int) < 3) ∧ (((0 : Int) ≤ 2 ∧ (2 : Int) < 3) ∧ r = rI (-1) SH (up S 16 2 ((S 16 2) + 1)))) else (if I 20 < I l1 then (((0 : Int) ≤ 2 ∧ (2 : Int) < 3) ∧ (((0 : Int) ≤ 2 ∧ (2 : Int) < 3) ∧ r = rI (-1) SH (up S 16 2 ((S 16 2) + 1)))) else (if I l2 < I 0 then (((0 : Int) ≤ 2 ∧ (2 : Int) < 3) ∧ (((0 : Int) ≤ 2 ∧ (2 : Int) < 3) ∧ r = rI (-1) SH (up S 16 2 ((S 16 2) + 1)))) else (if I l2 ≤ I 48 then (((0 : Int) ≤ S 13 5 ∧ S 13 5 < 8) ∧ (((0 : Int) ≤ (up S 14 (S 13 5) l1) 13 5 ∧ (up S 14 (S 13 5) l1) 13 5 < 8) ∧ r = rI ((up (up (up S 14 (S 13 5) l1) 15 ((up S 14 (S 13 5) l1) 13 5) l2) 13 5 (((up (up S 14 (S 13 5) l1) 15 ((up S 14 (S 13 5) l1) 13 5) l2) 13 5) + 1)) 13 5) SH (up (up (up S 14 (S 13 5) l1) 15 ((up S 14 (S 13 5) l1) 13 5) l2) 13 5 (((up (up S 14 (S 13 5) l1) 15 ((up S 14 (S 13 5) l1) 13 5) l2) 13 5) + 1)))) else (((0 : Int) ≤ 2 ∧ (2 : Int) < 3) ∧ (((0 : Int) ≤ 2 ∧ (2 : Int) < 3) ∧ r = rI (-1) SH (up S 16 2 ((S 16 2) + 1)))))))))) → G sc MX10_note 0 [some (.ref 0), some (.int (I l1)), some (.int (I l2))] [] SH S r := by
  refine tt_ld (M := MX10_note) (pc := 0) dX10_note_0 rfl rfl rfl rfl rfl ?_
  refine tt_getR (M := MX10_note) (pc := 1) dX10_note_1 rfl h0.1 rfl ?_
  refine tt_getI (M := MX10_note) (pc := 4) dX10_note_4 rfl h0.2.2.2.1.1 rfl ?_
  refine tt_bipush (M := MX10_note) (pc := 7) dX10_note_7 (by decide) ?_
  refine tt_ic_ge (M := MX10_note) (pc := 9) 32 dX10_note_9 rfl ?_ ?_
  · refine tt_ld (M := MX10_note) (pc := 32) dX10_note_32 rfl rfl rfl rfl rfl ?_
    refine tt_getR (M := MX10_note) (pc := 33) dX10_note_33 rfl h0.1 rfl ?_
    refine tt_getR (M := MX10_note) (pc := 36) dX10_note_36 rfl h0.2.2.2.1.1 rfl ?_
    refine tt_iconst (M := MX10_note) (pc := 39) dX10_note_39 ?_
    refine tt_dup2 (M := MX10_note) (pc := 40) dX10_note_40 rfl rfl ?_
    refine tt_iaload (M := MX10_note) (pc := 41) dX10_note_41 h0.2.2.2.1.2.2.2.1 rfl ?_
    refine tt_iconst (M := MX10_note) (pc := 42) dX10_note_42 ?_
    refine tt_iadd (M := MX10_note) (pc := 43) dX10_note_43 ?_
    refine tt_iastore (M := MX10_note) (pc := 44) dX10_note_44 h0.2.2.2.1.2.2.2.1 rfl ?_
    refine tt_iconst (M := MX10_note) (pc := 45) dX10_note_45 ?_
    exact tt_iret (M := MX10_note) (pc := 46) dX10_note_46 rfl
  · refine tt_ld (M := MX10_note) (pc := 12) dX10_note_12 rfl rfl rfl rfl rfl ?_
    refine tt_if_lt (M := MX10_note) (pc := 13) 32 dX10_note_13 rfl ?_ ?_
    · refine tt_ld (M := MX10_note) (pc := 32) dX10_note_32 rfl rfl rfl rfl rfl ?_
      refine tt_getR (M := MX10_note) (pc := 33) dX10_note_33 rfl h0.1 rfl ?_
      refine tt_getR (M := MX10_note) (pc := 36) dX10_note_36 rfl h0.2.2.2.1.1 rfl ?_
      refine tt_iconst (M := MX10_note) (pc := 39) dX10_note_39 ?_
      refine tt_dup2 (M := MX10_note) (pc := 40) dX10_note_40 rfl rfl ?_
      refine tt_iaload (M := MX10_note) (pc := 41) dX10_note_41 h0.2.2.2.1.2.2.2.1 rfl ?_
      refine tt_iconst (M := MX10_note) (pc := 42) dX10_note_42 ?_
      refine tt_iadd (M := MX10_note) (pc := 43) dX10_note_43 ?_
      refine tt_iastore (M := MX10_note) (pc := 44) dX10_note_44 h0.2.2.2.1.2.2.2.1 rfl ?_
      refine tt_iconst (M := MX10_note) (pc := 45) dX10_note_45 ?_
      exact tt_iret (M := MX10_note) (pc := 46) dX10_note_46 rfl
    · refine tt_ld (M := MX10_note) (pc := 16) dX10_note_16 rfl rfl rfl rfl rfl ?_
      refine tt_bipush (M := MX10_note) (pc := 17) dX10_note_17 (by decide) ?_
      refine tt_ic_gt (M := MX10_note) (pc := 19) 32 dX10_note_19 rfl ?_ ?_
      · refine tt_ld (M := MX10_note) (pc := 32) dX10_note_32 rfl rfl rfl rfl rfl ?_
        refine tt_getR (M := MX10_note) (pc := 33) dX10_note_33 rfl h0.1 rfl ?_
        refine tt_getR (M := MX10_note) (pc := 36) dX10_note_36 rfl h0.2.2.2.1.1 rfl ?_
        refine tt_iconst (M := MX10_note) (pc := 39) dX10_note_39 ?_
        refine tt_dup2 (M := MX10_note) (pc := 40) dX10_note_40 rfl rfl ?_
        refine tt_iaload (M := MX10_note) (pc := 41) dX10_note_41 h0.2.2.2.1.2.2.2.1 rfl ?_
        refine tt_iconst (M := MX10_note) (pc := 42) dX10_note_42 ?_
        refine tt_iadd (M := MX10_note) (pc := 43) dX10_note_43 ?_
        refine tt_iastore (M := MX10_note) (pc := 44) dX10_note_44 h0.2.2.2.1.2.2.2.1 rfl ?_
        refine tt_iconst (M := MX10_note) (pc := 45) dX10_note_45 ?_
        exact tt_iret (M := MX10_note) (pc := 46) dX10_note_46 rfl
      · refine tt_ld (M := MX10_note) (pc := 22) dX10_note_22 rfl rfl rfl rfl rfl ?_
        refine tt_if_lt (M := MX10_note) (pc := 23) 32 dX10_note_23 rfl ?_ ?_
        · refine tt_ld (M := MX10_note) (pc := 32) dX10_note_32 rfl rfl rfl rfl rfl ?_
          refine tt_getR (M := MX10_note) (pc := 33) dX10_note_33 rfl h0.1 rfl ?_
          refine tt_getR (M := MX10_note) (pc := 36) dX10_note_36 rfl h0.2.2.2.1.1 rfl ?_
          refine tt_iconst (M := MX10_note) (pc := 39) dX10_note_39 ?_
          refine tt_dup2 (M := MX10_note) (pc := 40) dX10_note_40 rfl rfl ?_
          refine tt_iaload (M := MX10_note) (pc := 41) dX10_note_41 h0.2.2.2.1.2.2.2.1 rfl ?_
          refine tt_iconst (M := MX10_note) (pc := 42) dX10_note_42 ?_
          refine tt_iadd (M := MX10_note) (pc := 43) dX10_note_43 ?_
          refine tt_iastore (M := MX10_note) (pc := 44) dX10_note_44 h0.2.2.2.1.2.2.2.1 rfl ?_
          refine tt_iconst (M := MX10_note) (pc := 45) dX10_note_45 ?_
          exact tt_iret (M := MX10_note) (pc := 46) dX10_note_46 rfl
        · refine tt_ld (M := MX10_note) (pc := 26) dX10_note_26 rfl rfl rfl rfl rfl ?_
          refine tt_bipush (M := MX10_note) (pc := 27) dX10_note_27 (by decide) ?_
          refine tt_ic_le (M := MX10_note) (pc := 29) 47 dX10_note_29 rfl ?_ ?_
          · refine tt_ld (M := MX10_note) (pc := 47) dX10_note_47 rfl rfl rfl rfl rfl ?_
            refine tt_getR (M := MX10_note) (pc := 48) dX10_note_48 rfl h0.1 rfl ?_
            refine tt_getR (M := MX10_note) (pc := 51) dX10_note_51 rfl h0.2.2.2.1.1 rfl ?_
            refine tt_ld (M := MX10_note) (pc := 54) dX10_note_54 rfl rfl rfl rfl rfl ?_
            refine tt_getR (M := MX10_note) (pc := 55) dX10_note_55 rfl h0.1 rfl ?_
            refine tt_getI (M := MX10_note) (pc := 58) dX10_note_58 rfl h0.2.2.2.1.1 rfl ?_
            refine tt_ld (M := MX10_note) (pc := 61) dX10_note_61 rfl rfl rfl rfl rfl ?_
            refine tt_iastore (M := MX10_note) (pc := 62) dX10_note_62 h0.2.2.2.1.2.1 rfl ?_
            refine tt_ld (M := MX10_note) (pc := 63) dX10_note_63 rfl rfl rfl rfl rfl ?_
            refine tt_getR (M := MX10_note) (pc := 64) dX10_note_64 rfl h0.1 rfl ?_
            refine tt_getR (M := MX10_note) (pc := 67) dX10_note_67 rfl h0.2.2.2.1.1 rfl ?_
            refine tt_ld (M := MX10_note) (pc := 70) dX10_note_70 rfl rfl rfl rfl rfl ?_
            refine tt_getR (M := MX10_note) (pc := 71) dX10_note_71 rfl h0.1 rfl ?_
            refine tt_getI (M := MX10_note) (pc := 74) dX10_note_74 rfl h0.2.2.2.1.1 rfl ?_
            refine tt_ld (M := MX10_note) (pc := 77) dX10_note_77 rfl rfl rfl rfl rfl ?_
            refine tt_iastore (M := MX10_note) (pc := 78) dX10_note_78 h0.2.2.2.1.2.2.1 rfl ?_
            refine tt_ld (M := MX10_note) (pc := 79) dX10_note_79 rfl rfl rfl rfl rfl ?_
            refine tt_getR (M := MX10_note) (pc := 80) dX10_note_80 rfl h0.1 rfl ?_
            refine tt_dup (M := MX10_note) (pc := 83) dX10_note_83 rfl ?_
            refine tt_getI (M := MX10_note) (pc := 84) dX10_note_84 rfl h0.2.2.2.1.1 rfl ?_
            refine tt_iconst (M := MX10_note) (pc := 87) dX10_note_87 ?_
            refine tt_iadd (M := MX10_note) (pc := 88) dX10_note_88 ?_
            refine tt_putI (M := MX10_note) (pc := 89) dX10_note_89 rfl rfl (Or.inl rfl) h0.2.2.2.1.1 rfl ?_
            refine tt_ld (M := MX10_note) (pc := 92) dX10_note_92 rfl rfl rfl rfl rfl ?_
            refine tt_getR (M := MX10_note) (pc := 93) dX10_note_93 rfl h0.1 rfl ?_
            refine tt_getI (M := MX10_note) (pc := 96) dX10_note_96 rfl h0.2.2.2.1.1 rfl ?_
            exact tt_iret (M := MX10_note) (pc := 99) dX10_note_99 rfl
          · refine tt_ld (M := MX10_note) (pc := 32) dX10_note_32 rfl rfl rfl rfl rfl ?_
            refine tt_getR (M := MX10_note) (pc := 33) dX10_note_33 rfl h0.1 rfl ?_
            refine tt_getR (M := MX10_note) (pc := 36) dX10_note_36 rfl h0.2.2.2.1.1 rfl ?_
            refine tt_iconst (M := MX10_note) (pc := 39) dX10_note_39 ?_
            refine tt_dup2 (M := MX10_note) (pc := 40) dX10_note_40 rfl rfl ?_
            refine tt_iaload (M := MX10_note) (pc := 41) dX10_note_41 h0.2.2.2.1.2.2.2.1 rfl ?_
            refine tt_iconst (M := MX10_note) (pc := 42) dX10_note_42 ?_
            refine tt_iadd (M := MX10_note) (pc := 43) dX10_note_43 ?_
            refine tt_iastore (M := MX10_note) (pc := 44) dX10_note_44 h0.2.2.2.1.2.2.2.1 rfl ?_
            refine tt_iconst (M := MX10_note) (pc := 45) dX10_note_45 ?_
            exact tt_iret (M := MX10_note) (pc := 46) dX10_note_46 rfl
theorem qX10_guess_0 {sc : Nat × (Nat → Int32)} {SH : List mCell} {S : mStore} {r : mR × mW} (h0 : sGP SH) {l1 : Int} {l2 : Int} {l3 : Int} {l4 : Int} {u5 : Option Value} {u6 : Option Value} {u7 : Option Value} {u8 : Option Value} {u9 : Option Value} : (((∃ v101 S102, G sc MX10_placeOf 0 [some (.ref 0), some (.int (I l1)), some (.int (I l2)), none] [] SH S (rI v101 SH S102) ∧ ((∃ S103, G sc MX10_mustBeCell 0 [some (.int (I l3))] [] SH S102 (rV SH S103) ∧ (if I l4 < I 0 then ((∃ S104, G sc MX10_mustBe 0 [some (.int (I 0))] [] SH S103 (rV SH S104) ∧ (∃ v105 S106, G sc MX1_lastNoted 0 [some (.ref 13), none, none] [] SH S104 (rI v105 SH S106) ∧ (if I l4 = I 2 then (∃ v111 S112, G sc MX10_fits 0 [some (.ref 0), some (.int (I v101)), some (.int (I l3)), some (.int (I (-1))), some (.int (I v105)), none] [] SH S106 (rI v111 SH S112) ∧ (if I v111 = I 0 then r = rI 0 SH S112 else r = rI 1 SH S112)) else (∃ v107 S108, G sc MX7_cellsAt 0 [some (.ref 17), some (.int (I v101)), none] [] SH S106 (rI v107 SH S108) ∧ (∃ v109 S110, G sc MX10_cellOf 0 [some (.int (I v107)), some (.int (I l3))] [] SH S108 (rI v109 SH S110) ∧ G sc MX10_guess 89 [some (.ref 0), some (.int (I l1)), some (.int (I l2)), some (.int (I l3)), some (.int (I l4)), some (.int (I v101)), some (.int (I v105)), some (.int (I v109)), some (.int (I 0)), some (.int (I 0))] [] SH S110 r))))) ∨ (∃ e SH1 S1, G sc MX10_mustBe 0 [some (.int (I 0))] [] SH S103 (rX e SH1 S1) ∧ r = rX e SH1 S1)) else (if I 2 < I l4 then ((∃ S113, G sc MX10_mustBe 0 [some (.int (I 0))] [] SH S103 (rV SH S113) ∧ (∃ v114 S115, G sc MX1_lastNoted 0 [some (.ref 13), none, none] [] SH S113 (rI v114 SH S115) ∧ (if I l4 = I 2 then (∃ v120 S121, G sc MX10_fits 0 [some (.ref 0), some (.int (I v101)), some (.int (I l3)), some (.int (I (-1))), some (.int (I v114)), none] [] SH S115 (rI v120 SH S121) ∧ (if I v120 = I 0 then r = rI 0 SH S121 else r = rI 1 SH S121)) else (∃ v116 S117, G sc MX7_cellsAt 0 [some (.ref 17), some (.int (I v101)), none] [] SH S115 (rI v116 SH S117) ∧ (∃ v118 S119, G sc MX10_cellOf 0 [some (.int (I v116)), some (.int (I l3))] [] SH S117 (rI v118 SH S119) ∧ G sc MX10_guess 89 [some (.ref 0), some (.int (I l1)), some (.int (I l2)), some (.int (I l3)), some (.int (I l4)), some (.int (I v101)), some (.int (I v114)), some (.int (I v118)), some (.int (I 0)), some (.int (I 0))] [] SH S119 r))))) ∨ (∃ e SH1 S1, G sc MX10_mustBe 0 [some (.int (I 0))] [] SH S103 (rX e SH1 S1) ∧ r = rX e SH1 S1)) else ((∃ S122, G sc MX10_mustBe 0 [some (.int (I 1))] [] SH S103 (rV SH S122) ∧ (∃ v123 S124, G sc MX1_lastNoted 0 [some (.ref 13), none, none] [] SH S122 (rI v123 SH S124) ∧ (if I l4 = I 2 then (∃ v129 S130, G sc MX10_fits 0 [some (.ref 0), some (.int (I v101)), some (.int (I l3)), some (.int (I (-1))), some (.int (I v123)), none] [] SH S124 (rI v129 SH S130) ∧ (if I v129 = I 0 then r = rI 0 SH S130 else r = rI 1 SH S130)) else (∃ v125 S126, G sc MX7_cellsAt 0 [some (.ref 17), some (.int (I v101)), none] [] SH S124 (rI v125 SH S126) ∧ (∃ v127 S128, G sc MX10_cellOf 0 [some (.int (I v125)), some (.int (I l3))] [] SH S126 (rI v127 SH S128) ∧ G sc MX10_guess 89 [some (.ref 0), some (.int (I l1)), some (.int (I l2)), some (.int (I l3)), some (.int (I l4)), some (.int (I v101)), some (.int (I v123)), some (.int (I v127)), some (.int (I 0)), some (.int (I 0))] [] SH S128 r))))) ∨ (∃ e SH1 S1, G sc MX10_mustBe 0 [some (.int (I 1))] [] SH S103 (rX e SH1 S1) ∧ r = rX e SH1 S1))))) ∨ (∃ e SH1 S1, G sc MX10_mustBeCell 0 [some (.int (I l3))] [] SH S102 (rX e SH1 S1) ∧ r = rX e SH1 S1))) ∨ (∃ e SH1 S1, G sc MX10_placeOf 0 [some (.ref 0), some (.int (I l1)), some (.int (I l2)), none] [] SH S (rX e SH1 S1) ∧ r = rX e SH1 S1))) → G sc MX10_guess 0 [some (.ref 0), some (.int (I l1)), some (.int (I l2)), some (.int (I l3)), some (.int (I l4)), u5, u6, u7, u8, u9] [] SH S r := by
  refine tt_ld (M := MX10_guess) (pc := 0) dX10_guess_0 rfl rfl rfl rfl rfl ?_
  refine tt_ld (M := MX10_guess) (pc := 1) dX10_guess_1 rfl rfl rfl rfl rfl ?_
  refine tt_ld (M := MX10_guess) (pc := 2) dX10_guess_2 rfl rfl rfl rfl rfl ?_
  refine tt_vcI (M := MX10_guess) (pc := 3) dX10_guess_3 rfl rfl [] rfl rfl ⟨rfl, by decide, Nat.le_of_ble_eq_true rfl⟩ h0.1 rfl fun v101 S102 => ?_
  refine tt_st (M := MX10_guess) (pc := 6) [some (.ref 0), some (.int (I l1)), some (.int (I l2)), some (.int (I l3)), some (.int (I l4)), some (.int (I v101)), u6, u7, u8, u9] dX10_guess_6 rfl rfl rfl rfl rfl rfl ?_
  refine tt_ld (M := MX10_guess) (pc := 8) dX10_guess_8 rfl rfl rfl rfl rfl ?_
  refine tt_scV (M := MX10_guess) (pc := 9) dX10_guess_9 rfl [] rfl rfl ⟨rfl, by decide, Nat.le_of_ble_eq_true rfl⟩ rfl fun S103 => ?_
  refine tt_ld (M := MX10_guess) (pc := 12) dX10_guess_12 rfl rfl rfl rfl rfl ?_
  refine tt_if_lt (M := MX10_guess) (pc := 14) 27 dX10_guess_14 rfl ?_ ?_
  · refine tt_iconst (M := MX10_guess) (pc := 27) dX10_guess_27 ?_
    refine tt_scV (M := MX10_guess) (pc := 28) dX10_guess_28 rfl [] rfl rfl ⟨rfl, by decide, Nat.le_of_ble_eq_true rfl⟩ rfl fun S104 => ?_
    refine tt_ld (M := MX10_guess) (pc := 31) dX10_guess_31 rfl rfl rfl rfl rfl ?_
    refine tt_getR (M := MX10_guess) (pc := 32) dX10_guess_32 rfl h0.1 rfl ?_
    refine tt_vcIN (M := MX10_guess) (pc := 35) dX10_guess_35 rfl rfl [] rfl rfl ⟨rfl, by decide, Nat.le_of_ble_eq_true rfl⟩ h0.2.2.2.1.1 fun v105 S106 => ?_
    refine tt_st (M := MX10_guess) (pc := 38) [some (.ref 0), some (.int (I l1)), some (.int (I l2)), some (.int (I l3)), some (.int (I l4)), some (.int (I v101)), some (.int (I v105)), u7, u8, u9] dX10_guess_38 rfl rfl rfl rfl rfl rfl ?_
    refine tt_ld (M := MX10_guess) (pc := 40) dX10_guess_40 rfl rfl rfl rfl rfl ?_
    refine tt_iconst (M := MX10_guess) (pc := 42) dX10_guess_42 ?_
    refine tt_ic_ne (M := MX10_guess) (pc := 43) 65 dX10_guess_43 rfl ?_ ?_
    · refine tt_ld (M := MX10_guess) (pc := 65) dX10_guess_65 rfl rfl rfl rfl rfl ?_
      refine tt_getR (M := MX10_guess) (pc := 66) dX10_guess_66 rfl h0.1 rfl ?_
      refine tt_getR (M := MX10_guess) (pc := 69) dX10_guess_69 rfl h0.2.2.2.1.1 rfl ?_
      refine tt_ld (M := MX10_guess) (pc := 72) dX10_guess_72 rfl rfl rfl rfl rfl ?_
      refine tt_vcIN (M := MX10_guess) (pc := 74) dX10_guess_74 rfl rfl [] rfl rfl ⟨rfl, by decide, Nat.le_of_ble_eq_true rfl⟩ h0.2.2.2.1.2.2.2.2.1.1 fun v107 S108 => ?_
      refine tt_ld (M := MX10_guess) (pc := 77) dX10_guess_77 rfl rfl rfl rfl rfl ?_
      refine tt_scIN (M := MX10_guess) (pc := 78) dX10_guess_78 rfl [] rfl rfl ⟨rfl, by decide, Nat.le_of_ble_eq_true rfl⟩ fun v109 S110 => ?_
      refine tt_st (M := MX10_guess) (pc := 81) [some (.ref 0), some (.int (I l1)), some (.int (I l2)), some (.int (I l3)), some (.int (I l4)), some (.int (I v101)), some (.int (I v105)), some (.int (I v109)), u8, u9] dX10_guess_81 rfl rfl rfl rfl rfl rfl ?_
      refine tt_iconst (M := MX10_guess) (pc := 83) dX10_guess_83 ?_
      refine tt_st (M := MX10_guess) (pc := 84) [some (.ref 0), some (.int (I l1)), some (.int (I l2)), some (.int (I l3)), some (.int (I l4)), some (.int (I v101)), some (.int (I v105)), some (.int (I v109)), some (.int (I 0)), u9] dX10_guess_84 rfl rfl rfl rfl rfl rfl ?_
      refine tt_iconst (M := MX10_guess) (pc := 86) dX10_guess_86 ?_
      refine tt_st (M := MX10_guess) (pc := 87) [some (.ref 0), some (.int (I l1)), some (.int (I l2)), some (.int (I l3)), some (.int (I l4)), some (.int (I v101)), some (.int (I v105)), some (.int (I v109)), some (.int (I 0)), some (.int (I 0))] dX10_guess_87 rfl rfl rfl rfl rfl rfl ?_
      exact id
    · refine tt_ld (M := MX10_guess) (pc := 46) dX10_guess_46 rfl rfl rfl rfl rfl ?_
      refine tt_ld (M := MX10_guess) (pc := 47) dX10_guess_47 rfl rfl rfl rfl rfl ?_
      refine tt_ld (M := MX10_guess) (pc := 49) dX10_guess_49 rfl rfl rfl rfl rfl ?_
      refine tt_iconst (M := MX10_guess) (pc := 50) dX10_guess_50 ?_
      refine tt_ld (M := MX10_guess) (pc := 51) dX10_guess_51 rfl rfl rfl rfl rfl ?_
      refine tt_vcIN (M := MX10_guess) (pc := 53) dX10_guess_53 rfl rfl [] rfl rfl ⟨rfl, by decide, Nat.le_of_ble_eq_true rfl⟩ h0.1 fun v111 S112 => ?_
      refine tt_if_eq (M := MX10_guess) (pc := 56) 63 dX10_guess_56 rfl ?_ ?_
      · refine tt_iconst (M := MX10_guess) (pc := 63) dX10_guess_63 ?_
        exact tt_iret (M := MX10_guess) (pc := 64) dX10_guess_64 rfl
      · refine tt_iconst (M := MX10_guess) (pc := 59) dX10_guess_59 ?_
        refine tt_goto (M := MX10_guess) (pc := 60) 64 dX10_guess_60 rfl ?_
        exact tt_iret (M := MX10_guess) (pc := 64) dX10_guess_64 rfl
  · refine tt_ld (M := MX10_guess) (pc := 17) dX10_guess_17 rfl rfl rfl rfl rfl ?_
    refine tt_iconst (M := MX10_guess) (pc := 19) dX10_guess_19 ?_
    refine tt_ic_gt (M := MX10_guess) (pc := 20) 27 dX10_guess_20 rfl ?_ ?_
    · refine tt_iconst (M := MX10_guess) (pc := 27) dX10_guess_27 ?_
      refine tt_scV (M := MX10_guess) (pc := 28) dX10_guess_28 rfl [] rfl rfl ⟨rfl, by decide, Nat.le_of_ble_eq_true rfl⟩ rfl fun S113 => ?_
      refine tt_ld (M := MX10_guess) (pc := 31) dX10_guess_31 rfl rfl rfl rfl rfl ?_
      refine tt_getR (M := MX10_guess) (pc := 32) dX10_guess_32 rfl h0.1 rfl ?_
      refine tt_vcIN (M := MX10_guess) (pc := 35) dX10_guess_35 rfl rfl [] rfl rfl ⟨rfl, by decide, Nat.le_of_ble_eq_true rfl⟩ h0.2.2.2.1.1 fun v114 S115 => ?_
      refine tt_st (M := MX10_guess) (pc := 38) [some (.ref 0), some (.int (I l1)), some (.int (I l2)), some (.int (I l3)), some (.int (I l4)), some (.int (I v101)), some (.int (I v114)), u7, u8, u9] dX10_guess_38 rfl rfl rfl rfl rfl rfl ?_
      refine tt_ld (M := MX10_guess) (pc := 40) dX10_guess_40 rfl rfl rfl rfl rfl ?_
      refine tt_iconst (M := MX10_guess) (pc := 42) dX10_guess_42 ?_
      refine tt_ic_ne (M := MX10_guess) (pc := 43) 65 dX10_guess_43 rfl ?_ ?_
      · refine tt_ld (M := MX10_guess) (pc := 65) dX10_guess_65 rfl rfl rfl rfl rfl ?_
        refine tt_getR (M := MX10_guess) (pc := 66) dX10_guess_66 rfl h0.1 rfl ?_
        refine tt_getR (M := MX10_guess) (pc := 69) dX10_guess_69 rfl h0.2.2.2.1.1 rfl ?_
        refine tt_ld (M := MX10_guess) (pc := 72) dX10_guess_72 rfl rfl rfl rfl rfl ?_
        refine tt_vcIN (M := MX10_guess) (pc := 74) dX10_guess_74 rfl rfl [] rfl rfl ⟨rfl, by decide, Nat.le_of_ble_eq_true rfl⟩ h0.2.2.2.1.2.2.2.2.1.1 fun v116 S117 => ?_
        refine tt_ld (M := MX10_guess) (pc := 77) dX10_guess_77 rfl rfl rfl rfl rfl ?_
        refine tt_scIN (M := MX10_guess) (pc := 78) dX10_guess_78 rfl [] rfl rfl ⟨rfl, by decide, Nat.le_of_ble_eq_true rfl⟩ fun v118 S119 => ?_
        refine tt_st (M := MX10_guess) (pc := 81) [some (.ref 0), some (.int (I l1)), some (.int (I l2)), some (.int (I l3)), some (.int (I l4)), some (.int (I v101)), some (.int (I v114)), some (.int (I v118)), u8, u9] dX10_guess_81 rfl rfl rfl rfl rfl rfl ?_
        refine tt_iconst (M := MX10_guess) (pc := 83) dX10_guess_83 ?_
        refine tt_st (M := MX10_guess) (pc := 84) [some (.ref 0), some (.int (I l1)), some (.int (I l2)), some (.int (I l3)), some (.int (I l4)), some (.int (I v101)), some (.int (I v114)), some (.int (I v118)), some (.int (I 0)), u9] dX10_guess_84 rfl rfl rfl rfl rfl rfl ?_
        refine tt_iconst (M := MX10_guess) (pc := 86) dX10_guess_86 ?_
        refine tt_st (M := MX10_guess) (pc := 87) [some (.ref 0), some (.int (I l1)), some (.int (I l2)), some (.int (I l3)), some (.int (I l4)), some (.int (I v101)), some (.int (I v114)), some (.int (I v118)), some (.int (I 0)), some (.int (I 0))] dX10_guess_87 rfl rfl rfl rfl rfl rfl ?_
        exact id
      · refine tt_ld (M := MX10_guess) (pc := 46) dX10_guess_46 rfl rfl rfl rfl rfl ?_
        refine tt_ld (M := MX10_guess) (pc := 47) dX10_guess_47 rfl rfl rfl rfl rfl ?_
        refine tt_ld (M := MX10_guess) (pc := 49) dX10_guess_49 rfl rfl rfl rfl rfl ?_
        refine tt_iconst (M := MX10_guess) (pc := 50) dX10_guess_50 ?_
        refine tt_ld (M := MX10_guess) (pc := 51) dX10_guess_51 rfl rfl rfl rfl rfl ?_
        refine tt_vcIN (M := MX10_guess) (pc := 53) dX10_guess_53 rfl rfl [] rfl rfl ⟨rfl, by decide, Nat.le_of_ble_eq_true rfl⟩ h0.1 fun v120 S121 => ?_
        refine tt_if_eq (M := MX10_guess) (pc := 56) 63 dX10_guess_56 rfl ?_ ?_
        · refine tt_iconst (M := MX10_guess) (pc := 63) dX10_guess_63 ?_
          exact tt_iret (M := MX10_guess) (pc := 64) dX10_guess_64 rfl
        · refine tt_iconst (M := MX10_guess) (pc := 59) dX10_guess_59 ?_
          refine tt_goto (M := MX10_guess) (pc := 60) 64 dX10_guess_60 rfl ?_
          exact tt_iret (M := MX10_guess) (pc := 64) dX10_guess_64 rfl
    · refine tt_iconst (M := MX10_guess) (pc := 23) dX10_guess_23 ?_
      refine tt_goto (M := MX10_guess) (pc := 24) 28 dX10_guess_24 rfl ?_
      refine tt_scV (M := MX10_guess) (pc := 28) dX10_guess_28 rfl [] rfl rfl ⟨rfl, by decide, Nat.le_of_ble_eq_true rfl⟩ rfl fun S122 => ?_
      refine tt_ld (M := MX10_guess) (pc := 31) dX10_guess_31 rfl rfl rfl rfl rfl ?_
      refine tt_getR (M := MX10_guess) (pc := 32) dX10_guess_32 rfl h0.1 rfl ?_
      refine tt_vcIN (M := MX10_guess) (pc := 35) dX10_guess_35 rfl rfl [] rfl rfl ⟨rfl, by decide, Nat.le_of_ble_eq_true rfl⟩ h0.2.2.2.1.1 fun v123 S124 => ?_
      refine tt_st (M := MX10_guess) (pc := 38) [some (.ref 0), some (.int (I l1)), some (.int (I l2)), some (.int (I l3)), some (.int (I l4)), some (.int (I v101)), some (.int (I v123)), u7, u8, u9] dX10_guess_38 rfl rfl rfl rfl rfl rfl ?_
      refine tt_ld (M := MX10_guess) (pc := 40) dX10_guess_40 rfl rfl rfl rfl rfl ?_
      refine tt_iconst (M := MX10_guess) (pc := 42) dX10_guess_42 ?_
      refine tt_ic_ne (M := MX10_guess) (pc := 43) 65 dX10_guess_43 rfl ?_ ?_
      · refine tt_ld (M := MX10_guess) (pc := 65) dX10_guess_65 rfl rfl rfl rfl rfl ?_
        refine tt_getR (M := MX10_guess) (pc := 66) dX10_guess_66 rfl h0.1 rfl ?_
        refine tt_getR (M := MX10_guess) (pc := 69) dX10_guess_69 rfl h0.2.2.2.1.1 rfl ?_
        refine tt_ld (M := MX10_guess) (pc := 72) dX10_guess_72 rfl rfl rfl rfl rfl ?_
        refine tt_vcIN (M := MX10_guess) (pc := 74) dX10_guess_74 rfl rfl [] rfl rfl ⟨rfl, by decide, Nat.le_of_ble_eq_true rfl⟩ h0.2.2.2.1.2.2.2.2.1.1 fun v125 S126 => ?_
        refine tt_ld (M := MX10_guess) (pc := 77) dX10_guess_77 rfl rfl rfl rfl rfl ?_
        refine tt_scIN (M := MX10_guess) (pc := 78) dX10_guess_78 rfl [] rfl rfl ⟨rfl, by decide, Nat.le_of_ble_eq_true rfl⟩ fun v127 S128 => ?_
        refine tt_st (M := MX10_guess) (pc := 81) [some (.ref 0), some (.int (I l1)), some (.int (I l2)), some (.int (I l3)), some (.int (I l4)), some (.int (I v101)), some (.int (I v123)), some (.int (I v127)), u8, u9] dX10_guess_81 rfl rfl rfl rfl rfl rfl ?_
        refine tt_iconst (M := MX10_guess) (pc := 83) dX10_guess_83 ?_
        refine tt_st (M := MX10_guess) (pc := 84) [some (.ref 0), some (.int (I l1)), some (.int (I l2)), some (.int (I l3)), some (.int (I l4)), some (.int (I v101)), some (.int (I v123)), some (.int (I v127)), some (.int (I 0)), u9] dX10_guess_84 rfl rfl rfl rfl rfl rfl ?_
        refine tt_iconst (M := MX10_guess) (pc := 86) dX10_guess_86 ?_
        refine tt_st (M := MX10_guess) (pc := 87) [some (.ref 0), some (.int (I l1)), some (.int (I l2)), some (.int (I l3)), some (.int (I l4)), some (.int (I v101)), some (.int (I v123)), some (.int (I v127)), some (.int (I 0)), some (.int (I 0))] dX10_guess_87 rfl rfl rfl rfl rfl rfl ?_
        exact id
      · refine tt_ld (M := MX10_guess) (pc := 46) dX10_guess_46 rfl rfl rfl rfl rfl ?_
        refine tt_ld (M := MX10_guess) (pc := 47) dX10_guess_47 rfl rfl rfl rfl rfl ?_
        refine tt_ld (M := MX10_guess) (pc := 49) dX10_guess_49 rfl rfl rfl rfl rfl ?_
        refine tt_iconst (M := MX10_guess) (pc := 50) dX10_guess_50 ?_
        refine tt_ld (M := MX10_guess) (pc := 51) dX10_guess_51 rfl rfl rfl rfl rfl ?_
        refine tt_vcIN (M := MX10_guess) (pc := 53) dX10_guess_53 rfl rfl [] rfl rfl ⟨rfl, by decide, Nat.le_of_ble_eq_true rfl⟩ h0.1 fun v129 S130 => ?_
        refine tt_if_eq (M := MX10_guess) (pc := 56) 63 dX10_guess_56 rfl ?_ ?_
        · refine tt_iconst (M := MX10_guess) (pc := 63) dX10_guess_63 ?_
          exact tt_iret (M := MX10_guess) (pc := 64) dX10_guess_64 rfl
        · refine tt_iconst (M := MX10_guess) (pc := 59) dX10_guess_59 ?_
          refine tt_goto (M := MX10_guess) (pc := 60) 64 dX10_guess_60 rfl ?_
          exact tt_iret (M := MX10_guess) (pc := 64) dX10_guess_64 rfl
theorem qX10_guess_89 {sc : Nat × (Nat → Int32)} {SH : List mCell} {S : mStore} {r : mR × mW} (h0 : sGP SH) {l1 : Int} {l2 : Int} {l3 : Int} {l4 : Int} {l5 : Int} {l6 : Int} {l7 : Int} {l8 : Int} {l9 : Int} : ((if I 15 < I l9 then (if I l4 = I 0 then r = rI l8 SH S else r = rI (-1) SH S) else (if I l9 = I l7 then G sc MX10_guess 89 [some (.ref 0), some (.int (I l1)), some (.int (I l2)), some (.int (I l3)), some (.int (I l4)), some (.int (I l5)), some (.int (I l6)), some (.int (I l7)), some (.int (I l8)), some (.int (I (l9 + 1)))] [] SH S r else (∃ v101 S102, G sc MX10_fits 0 [some (.ref 0), some (.int (I l5)), some (.int (I l3)), some (.int (I l9)), some (.int (I l6)), none] [] SH S (rI v101 SH S102) ∧ (if I v101 = I 0 then G sc MX10_guess 89 [some (.ref 0), some (.int (I l1)), some (.int (I l2)), some (.int (I l3)), some (.int (I l4)), some (.int (I l5)), some (.int (I l6)), some (.int (I l7)), some (.int (I l8)), some (.int (I (l9 + 1)))] [] SH S102 r else (if I l4 = I 1 then r = rI l9 SH S102 else G sc MX10_guess 89 [some (.ref 0), some (.int (I l1)), some (.int (I l2)), some (.int (I l3)), some (.int (I l4)), some (.int (I l5)), some (.int (I l6)), some (.int (I l7)), some (.int (I (l8 + 1))), some (.int (I (l9 + 1)))] [] SH S102 r)))))) → G sc MX10_guess 89 [some (.ref 0), some (.int (I l1)), some (.int (I l2)), some (.int (I l3)), some (.int (I l4)), some (.int (I l5)), some (.int (I l6)), some (.int (I l7)), some (.int (I l8)), some (.int (I l9))] [] SH S r := by
  refine tt_ld (M := MX10_guess) (pc := 89) dX10_guess_89 rfl rfl rfl rfl rfl ?_
  refine tt_bipush (M := MX10_guess) (pc := 91) dX10_guess_91 (by decide) ?_
  refine tt_ic_gt (M := MX10_guess) (pc := 93) 138 dX10_guess_93 rfl ?_ ?_
  · refine tt_ld (M := MX10_guess) (pc := 138) dX10_guess_138 rfl rfl rfl rfl rfl ?_
    refine tt_if_ne (M := MX10_guess) (pc := 140) 148 dX10_guess_140 rfl ?_ ?_
    · refine tt_iconst (M := MX10_guess) (pc := 148) dX10_guess_148 ?_
      exact tt_iret (M := MX10_guess) (pc := 149) dX10_guess_149 rfl
    · refine tt_ld (M := MX10_guess) (pc := 143) dX10_guess_143 rfl rfl rfl rfl rfl ?_
      refine tt_goto (M := MX10_guess) (pc := 145) 149 dX10_guess_145 rfl ?_
      exact tt_iret (M := MX10_guess) (pc := 149) dX10_guess_149 rfl
  · refine tt_ld (M := MX10_guess) (pc := 96) dX10_guess_96 rfl rfl rfl rfl rfl ?_
    refine tt_ld (M := MX10_guess) (pc := 98) dX10_guess_98 rfl rfl rfl rfl rfl ?_
    refine tt_ic_eq (M := MX10_guess) (pc := 100) 132 dX10_guess_100 rfl ?_ ?_
    · refine tt_iinc (M := MX10_guess) (pc := 132) [some (.ref 0), some (.int (I l1)), some (.int (I l2)), some (.int (I l3)), some (.int (I l4)), some (.int (I l5)), some (.int (I l6)), some (.int (I l7)), some (.int (I l8)), some (.int (I (l9 + 1)))] dX10_guess_132 rfl rfl ?_
      refine tt_goto (M := MX10_guess) (pc := 135) 89 dX10_guess_135 rfl ?_
      exact id
    · refine tt_ld (M := MX10_guess) (pc := 103) dX10_guess_103 rfl rfl rfl rfl rfl ?_
      refine tt_ld (M := MX10_guess) (pc := 104) dX10_guess_104 rfl rfl rfl rfl rfl ?_
      refine tt_ld (M := MX10_guess) (pc := 106) dX10_guess_106 rfl rfl rfl rfl rfl ?_
      refine tt_ld (M := MX10_guess) (pc := 107) dX10_guess_107 rfl rfl rfl rfl rfl ?_
      refine tt_ld (M := MX10_guess) (pc := 109) dX10_guess_109 rfl rfl rfl rfl rfl ?_
      refine tt_vcIN (M := MX10_guess) (pc := 111) dX10_guess_111 rfl rfl [] rfl rfl ⟨rfl, by decide, Nat.le_of_ble_eq_true rfl⟩ h0.1 fun v101 S102 => ?_
      refine tt_if_ne (M := MX10_guess) (pc := 114) 120 dX10_guess_114 rfl ?_ ?_
      · refine tt_ld (M := MX10_guess) (pc := 120) dX10_guess_120 rfl rfl rfl rfl rfl ?_
        refine tt_iconst (M := MX10_guess) (pc := 122) dX10_guess_122 ?_
        refine tt_ic_ne (M := MX10_guess) (pc := 123) 129 dX10_guess_123 rfl ?_ ?_
        · refine tt_iinc (M := MX10_guess) (pc := 129) [some (.ref 0), some (.int (I l1)), some (.int (I l2)), some (.int (I l3)), some (.int (I l4)), some (.int (I l5)), some (.int (I l6)), some (.int (I l7)), some (.int (I (l8 + 1))), some (.int (I l9))] dX10_guess_129 rfl rfl ?_
          refine tt_iinc (M := MX10_guess) (pc := 132) [some (.ref 0), some (.int (I l1)), some (.int (I l2)), some (.int (I l3)), some (.int (I l4)), some (.int (I l5)), some (.int (I l6)), some (.int (I l7)), some (.int (I (l8 + 1))), some (.int (I (l9 + 1)))] dX10_guess_132 rfl rfl ?_
          refine tt_goto (M := MX10_guess) (pc := 135) 89 dX10_guess_135 rfl ?_
          exact id
        · refine tt_ld (M := MX10_guess) (pc := 126) dX10_guess_126 rfl rfl rfl rfl rfl ?_
          exact tt_iret (M := MX10_guess) (pc := 128) dX10_guess_128 rfl
      · refine tt_goto (M := MX10_guess) (pc := 117) 132 dX10_guess_117 rfl ?_
        refine tt_iinc (M := MX10_guess) (pc := 132) [some (.ref 0), some (.int (I l1)), some (.int (I l2)), some (.int (I l3)), some (.int (I l4)), some (.int (I l5)), some (.int (I l6)), some (.int (I l7)), some (.int (I l8)), some (.int (I (l9 + 1)))] dX10_guess_132 rfl rfl ?_
        refine tt_goto (M := MX10_guess) (pc := 135) 89 dX10_guess_135 rfl ?_
        exact id
theorem qX10_look_0 {sc : Nat × (Nat → Int32)} {SH : List mCell} {S : mStore} {r : mR × mW} (h0 : sGP SH) {l1 : Int} {l2 : Int} {l3 : Int} {l4 : Int} {u5 : Option Value} {u6 : Option Value} {u7 : Option Value} {u8 : Option Value} {u9 : Option Value} {u10 : Option Value} : (((∃ v101 S102, G sc MX10_placeOf 0 [some (.ref 0), some (.int (I l1)), some (.int (I l2)), none] [] SH S (rI v101 SH S102) ∧ ((∃ S103, G sc MX10_mustBeCell 0 [some (.int (I l3))] [] SH S102 (rV SH S103) ∧ (if I l4 = I 0 then ((∃ S104, G sc MX10_mustBe 0 [some (.int (I 1))] [] SH S103 (rV SH S104) ∧ (∃ v105 S106, G sc MX7_cellsAt 0 [some (.ref 17), some (.int (I v101)), none] [] SH S104 (rI v105 SH S106) ∧ (∃ v107 S108, G sc MX10_cellOf 0 [some (.int (I v105)), some (.int (I l3))] [] SH S106 (rI v107 SH S108) ∧ (∃ S109, G sc MJ7_fill_d0a16 0 [some (.ref 89), some (.long 0), none, none, none] [] SH S108 (rV SH S109) ∧ G sc MX10_look 60 [some (.ref 0), some (.int (I l1)), some (.int (I l2)), some (.int (I l3)), some (.int (I l4)), some (.int (I v101)), some (.int (I v107)), some (.int (I 0)), u8, u9, u10] [] SH S109 r)))) ∨ (∃ e SH1 S1, G sc MX10_mustBe 0 [some (.int (I 1))] [] SH S103 (rX e SH1 S1) ∧ r = rX e SH1 S1)) else (if I l4 = I 1 then ((∃ S116, G sc MX10_mustBe 0 [some (.int (I 1))] [] SH S103 (rV SH S116) ∧ (∃ v117 S118, G sc MX7_cellsAt 0 [some (.ref 17), some (.int (I v101)), none] [] SH S116 (rI v117 SH S118) ∧ (∃ v119 S120, G sc MX10_cellOf 0 [some (.int (I v117)), some (.int (I l3))] [] SH S118 (rI v119 SH S120) ∧ (∃ S121, G sc MJ7_fill_d0a16 0 [some (.ref 89), some (.long 0), none, none, none] [] SH S120 (rV SH S121) ∧ G sc MX10_look 60 [some (.ref 0), some (.int (I l1)), some (.int (I l2)), some (.int (I l3)), some (.int (I l4)), some (.int (I v101)), some (.int (I v119)), some (.int (I 0)), u8, u9, u10] [] SH S121 r)))) ∨ (∃ e SH1 S1, G sc MX10_mustBe 0 [some (.int (I 1))] [] SH S103 (rX e SH1 S1) ∧ r = rX e SH1 S1)) else ((∃ S110, G sc MX10_mustBe 0 [some (.int (I 0))] [] SH S103 (rV SH S110) ∧ (∃ v111 S112, G sc MX7_cellsAt 0 [some (.ref 17), some (.int (I v101)), none] [] SH S110 (rI v111 SH S112) ∧ (∃ v113 S114, G sc MX10_cellOf 0 [some (.int (I v111)), some (.int (I l3))] [] SH S112 (rI v113 SH S114) ∧ (∃ S115, G sc MJ7_fill_d0a16 0 [some (.ref 89), some (.long 0), none, none, none] [] SH S114 (rV SH S115) ∧ G sc MX10_look 60 [some (.ref 0), some (.int (I l1)), some (.int (I l2)), some (.int (I l3)), some (.int (I l4)), some (.int (I v101)), some (.int (I v113)), some (.int (I 0)), u8, u9, u10] [] SH S115 r)))) ∨ (∃ e SH1 S1, G sc MX10_mustBe 0 [some (.int (I 0))] [] SH S103 (rX e SH1 S1) ∧ r = rX e SH1 S1))))) ∨ (∃ e SH1 S1, G sc MX10_mustBeCell 0 [some (.int (I l3))] [] SH S102 (rX e SH1 S1) ∧ r = rX e SH1 S1))) ∨ (∃ e SH1 S1, G sc MX10_placeOf 0 [some (.ref 0), some (.int (I l1)), some (.int (I l2)), none] [] SH S (rX e SH1 S1) ∧ r = rX e SH1 S1))) → G sc MX10_look 0 [some (.ref 0), some (.int (I l1)), some (.int (I l2)), some (.int (I l3)), some (.int (I l4)), u5, u6, u7, u8, u9, u10] [] SH S r := by
  refine tt_ld (M := MX10_look) (pc := 0) dX10_look_0 rfl rfl rfl rfl rfl ?_
  refine tt_ld (M := MX10_look) (pc := 1) dX10_look_1 rfl rfl rfl rfl rfl ?_
  refine tt_ld (M := MX10_look) (pc := 2) dX10_look_2 rfl rfl rfl rfl rfl ?_
  refine tt_vcI (M := MX10_look) (pc := 3) dX10_look_3 rfl rfl [] rfl rfl ⟨rfl, by decide, Nat.le_of_ble_eq_true rfl⟩ h0.1 rfl fun v101 S102 => ?_
  refine tt_st (M := MX10_look) (pc := 6) [some (.ref 0), some (.int (I l1)), some (.int (I l2)), some (.int (I l3)), some (.int (I l4)), some (.int (I v101)), u6, u7, u8, u9, u10] dX10_look_6 rfl rfl rfl rfl rfl rfl ?_
  refine tt_ld (M := MX10_look) (pc := 8) dX10_look_8 rfl rfl rfl rfl rfl ?_
  refine tt_scV (M := MX10_look) (pc := 9) dX10_look_9 rfl [] rfl rfl ⟨rfl, by decide, Nat.le_of_ble_eq_true rfl⟩ rfl fun S103 => ?_
  refine tt_ld (M := MX10_look) (pc := 12) dX10_look_12 rfl rfl rfl rfl rfl ?_
  refine tt_if_eq (M := MX10_look) (pc := 14) 23 dX10_look_14 rfl ?_ ?_
  · refine tt_iconst (M := MX10_look) (pc := 23) dX10_look_23 ?_
    refine tt_goto (M := MX10_look) (pc := 24) 28 dX10_look_24 rfl ?_
    refine tt_scV (M := MX10_look) (pc := 28) dX10_look_28 rfl [] rfl rfl ⟨rfl, by decide, Nat.le_of_ble_eq_true rfl⟩ rfl fun S104 => ?_
    refine tt_ld (M := MX10_look) (pc := 31) dX10_look_31 rfl rfl rfl rfl rfl ?_
    refine tt_getR (M := MX10_look) (pc := 32) dX10_look_32 rfl h0.1 rfl ?_
    refine tt_getR (M := MX10_look) (pc := 35) dX10_look_35 rfl h0.2.2.2.1.1 rfl ?_
    refine tt_ld (M := MX10_look) (pc := 38) dX10_look_38 rfl rfl rfl rfl rfl ?_
    refine tt_vcIN (M := MX10_look) (pc := 40) dX10_look_40 rfl rfl [] rfl rfl ⟨rfl, by decide, Nat.le_of_ble_eq_true rfl⟩ h0.2.2.2.1.2.2.2.2.1.1 fun v105 S106 => ?_
    refine tt_ld (M := MX10_look) (pc := 43) dX10_look_43 rfl rfl rfl rfl rfl ?_
    refine tt_scIN (M := MX10_look) (pc := 44) dX10_look_44 rfl [] rfl rfl ⟨rfl, by decide, Nat.le_of_ble_eq_true rfl⟩ fun v107 S108 => ?_
    refine tt_st (M := MX10_look) (pc := 47) [some (.ref 0), some (.int (I l1)), some (.int (I l2)), some (.int (I l3)), some (.int (I l4)), some (.int (I v101)), some (.int (I v107)), u7, u8, u9, u10] dX10_look_47 rfl rfl rfl rfl rfl rfl ?_
    refine tt_ld (M := MX10_look) (pc := 49) dX10_look_49 rfl rfl rfl rfl rfl ?_
    refine tt_getR (M := MX10_look) (pc := 50) dX10_look_50 rfl h0.1 rfl ?_
    refine tt_pushv (M := MX10_look) (pc := 53) (.long 0) dX10_look_53 rfl rfl ?_
    refine tt_scVN (M := MX10_look) (pc := 54) dX10_look_54 rfl [] rfl rfl ⟨rfl, by decide, Nat.le_of_ble_eq_true rfl⟩ fun S109 => ?_
    refine tt_iconst (M := MX10_look) (pc := 57) dX10_look_57 ?_
    refine tt_st (M := MX10_look) (pc := 58) [some (.ref 0), some (.int (I l1)), some (.int (I l2)), some (.int (I l3)), some (.int (I l4)), some (.int (I v101)), some (.int (I v107)), some (.int (I 0)), u8, u9, u10] dX10_look_58 rfl rfl rfl rfl rfl rfl ?_
    exact id
  · refine tt_ld (M := MX10_look) (pc := 17) dX10_look_17 rfl rfl rfl rfl rfl ?_
    refine tt_iconst (M := MX10_look) (pc := 19) dX10_look_19 ?_
    refine tt_ic_ne (M := MX10_look) (pc := 20) 27 dX10_look_20 rfl ?_ ?_
    · refine tt_iconst (M := MX10_look) (pc := 27) dX10_look_27 ?_
      refine tt_scV (M := MX10_look) (pc := 28) dX10_look_28 rfl [] rfl rfl ⟨rfl, by decide, Nat.le_of_ble_eq_true rfl⟩ rfl fun S110 => ?_
      refine tt_ld (M := MX10_look) (pc := 31) dX10_look_31 rfl rfl rfl rfl rfl ?_
      refine tt_getR (M := MX10_look) (pc := 32) dX10_look_32 rfl h0.1 rfl ?_
      refine tt_getR (M := MX10_look) (pc := 35) dX10_look_35 rfl h0.2.2.2.1.1 rfl ?_
      refine tt_ld (M := MX10_look) (pc := 38) dX10_look_38 rfl rfl rfl rfl rfl ?_
      refine tt_vcIN (M := MX10_look) (pc := 40) dX10_look_40 rfl rfl [] rfl rfl ⟨rfl, by decide, Nat.le_of_ble_eq_true rfl⟩ h0.2.2.2.1.2.2.2.2.1.1 fun v111 S112 => ?_
      refine tt_ld (M := MX10_look) (pc := 43) dX10_look_43 rfl rfl rfl rfl rfl ?_
      refine tt_scIN (M := MX10_look) (pc := 44) dX10_look_44 rfl [] rfl rfl ⟨rfl, by decide, Nat.le_of_ble_eq_true rfl⟩ fun v113 S114 => ?_
      refine tt_st (M := MX10_look) (pc := 47) [some (.ref 0), some (.int (I l1)), some (.int (I l2)), some (.int (I l3)), some (.int (I l4)), some (.int (I v101)), some (.int (I v113)), u7, u8, u9, u10] dX10_look_47 rfl rfl rfl rfl rfl rfl ?_
      refine tt_ld (M := MX10_look) (pc := 49) dX10_look_49 rfl rfl rfl rfl rfl ?_
      refine tt_getR (M := MX10_look) (pc := 50) dX10_look_50 rfl h0.1 rfl ?_
      refine tt_pushv (M := MX10_look) (pc := 53) (.long 0) dX10_look_53 rfl rfl ?_
      refine tt_scVN (M := MX10_look) (pc := 54) dX10_look_54 rfl [] rfl rfl ⟨rfl, by decide, Nat.le_of_ble_eq_true rfl⟩ fun S115 => ?_
      refine tt_iconst (M := MX10_look) (pc := 57) dX10_look_57 ?_
      refine tt_st (M := MX10_look) (pc := 58) [some (.ref 0), some (.int (I l1)), some (.int (I l2)), some (.int (I l3)), some (.int (I l4)), some (.int (I v101)), some (.int (I v113)), some (.int (I 0)), u8, u9, u10] dX10_look_58 rfl rfl rfl rfl rfl rfl ?_
      exact id
    · refine tt_iconst (M := MX10_look) (pc := 23) dX10_look_23 ?_
      refine tt_goto (M := MX10_look) (pc := 24) 28 dX10_look_24 rfl ?_
      refine tt_scV (M := MX10_look) (pc := 28) dX10_look_28 rfl [] rfl rfl ⟨rfl, by decide, Nat.le_of_ble_eq_true rfl⟩ rfl fun S116 => ?_
      refine tt_ld (M := MX10_look) (pc := 31) dX10_look_31 rfl rfl rfl rfl rfl ?_
      refine tt_getR (M := MX10_look) (pc := 32) dX10_look_32 rfl h0.1 rfl ?_
      refine tt_getR (M := MX10_look) (pc := 35) dX10_look_35 rfl h0.2.2.2.1.1 rfl ?_
      refine tt_ld (M := MX10_look) (pc := 38) dX10_look_38 rfl rfl rfl rfl rfl ?_
      refine tt_vcIN (M := MX10_look) (pc := 40) dX10_look_40 rfl rfl [] rfl rfl ⟨rfl, by decide, Nat.le_of_ble_eq_true rfl⟩ h0.2.2.2.1.2.2.2.2.1.1 fun v117 S118 => ?_
      refine tt_ld (M := MX10_look) (pc := 43) dX10_look_43 rfl rfl rfl rfl rfl ?_
      refine tt_scIN (M := MX10_look) (pc := 44) dX10_look_44 rfl [] rfl rfl ⟨rfl, by decide, Nat.le_of_ble_eq_true rfl⟩ fun v119 S120 => ?_
      refine tt_st (M := MX10_look) (pc := 47) [some (.ref 0), some (.int (I l1)), some (.int (I l2)), some (.int (I l3)), some (.int (I l4)), some (.int (I v101)), some (.int (I v119)), u7, u8, u9, u10] dX10_look_47 rfl rfl rfl rfl rfl rfl ?_
      refine tt_ld (M := MX10_look) (pc := 49) dX10_look_49 rfl rfl rfl rfl rfl ?_
      refine tt_getR (M := MX10_look) (pc := 50) dX10_look_50 rfl h0.1 rfl ?_
      refine tt_pushv (M := MX10_look) (pc := 53) (.long 0) dX10_look_53 rfl rfl ?_
      refine tt_scVN (M := MX10_look) (pc := 54) dX10_look_54 rfl [] rfl rfl ⟨rfl, by decide, Nat.le_of_ble_eq_true rfl⟩ fun S121 => ?_
      refine tt_iconst (M := MX10_look) (pc := 57) dX10_look_57 ?_
      refine tt_st (M := MX10_look) (pc := 58) [some (.ref 0), some (.int (I l1)), some (.int (I l2)), some (.int (I l3)), some (.int (I l4)), some (.int (I v101)), some (.int (I v119)), some (.int (I 0)), u8, u9, u10] dX10_look_58 rfl rfl rfl rfl rfl rfl ?_
      exact id
theorem qX10_look_60 {sc : Nat × (Nat → Int32)} {SH : List mCell} {S : mStore} {r : mR × mW} (h0 : sGP SH) {l1 : Int} {l2 : Int} {l3 : Int} {l4 : Int} {l5 : Int} {l6 : Int} {l7 : Int} {u8 : Option Value} {u9 : Option Value} {u10 : Option Value} : ((if I 15 < I l7 then G sc MX10_look 138 [some (.ref 0), some (.int (I l1)), some (.int (I l2)), some (.int (I l3)), some (.int (I l4)), some (.int (I l5)), some (.int (I l6)), some (.int (I (-1))), some (.int (I 0)), some (.int (I 1)), u10] [] SH S r else (if I l7 = I l6 then G sc MX10_look 123 [some (.ref 0), some (.int (I l1)), some (.int (I l2)), some (.int (I l3)), some (.int (I l4)), some (.int (I l5)), some (.int (I l6)), some (.int (I l7)), u8, u9, u10] [] SH S r else (∃ v101 S102, G sc MX10_fits 0 [some (.ref 0), some (.int (I l5)), some (.int (I l3)), some (.int (I l7)), some (.int (I 20)), none] [] SH S (rI v101 SH S102) ∧ (if I v101 = I 0 then G sc MX10_look 123 [some (.ref 0), some (.int (I l1)), some (.int (I l2)), some (.int (I l3)), some (.int (I l4)), some (.int (I l5)), some (.int (I l6)), some (.int (I l7)), u8, u9, u10] [] SH S102 r else G sc MX10_look 91 [some (.ref 0), some (.int (I l1)), some (.int (I l2)), some (.int (I l3)), some (.int (I l4)), some (.int (I l5)), some (.int (I l6)), some (.int (I l7)), some (.int (I 1)), u9, u10] [] SH S102 r))))) → G sc MX10_look 60 [some (.ref 0), some (.int (I l1)), some (.int (I l2)), some (.int (I l3)), some (.int (I l4)), some (.int (I l5)), some (.int (I l6)), some (.int (I l7)), u8, u9, u10] [] SH S r := by
  refine tt_ld (M := MX10_look) (pc := 60) dX10_look_60 rfl rfl rfl rfl rfl ?_
  refine tt_bipush (M := MX10_look) (pc := 62) dX10_look_62 (by decide) ?_
  refine tt_ic_gt (M := MX10_look) (pc := 64) 129 dX10_look_64 rfl ?_ ?_
  · refine tt_iconst (M := MX10_look) (pc := 129) dX10_look_129 ?_
    refine tt_st (M := MX10_look) (pc := 130) [some (.ref 0), some (.int (I l1)), some (.int (I l2)), some (.int (I l3)), some (.int (I l4)), some (.int (I l5)), some (.int (I l6)), some (.int (I (-1))), u8, u9, u10] dX10_look_130 rfl rfl rfl rfl rfl rfl ?_
    refine tt_iconst (M := MX10_look) (pc := 132) dX10_look_132 ?_
    refine tt_st (M := MX10_look) (pc := 133) [some (.ref 0), some (.int (I l1)), some (.int (I l2)), some (.int (I l3)), some (.int (I l4)), some (.int (I l5)), some (.int (I l6)), some (.int (I (-1))), some (.int (I 0)), u9, u10] dX10_look_133 rfl rfl rfl rfl rfl rfl ?_
    refine tt_iconst (M := MX10_look) (pc := 135) dX10_look_135 ?_
    refine tt_st (M := MX10_look) (pc := 136) [some (.ref 0), some (.int (I l1)), some (.int (I l2)), some (.int (I l3)), some (.int (I l4)), some (.int (I l5)), some (.int (I l6)), some (.int (I (-1))), some (.int (I 0)), some (.int (I 1)), u10] dX10_look_136 rfl rfl rfl rfl rfl rfl ?_
    exact id
  · refine tt_ld (M := MX10_look) (pc := 67) dX10_look_67 rfl rfl rfl rfl rfl ?_
    refine tt_ld (M := MX10_look) (pc := 69) dX10_look_69 rfl rfl rfl rfl rfl ?_
    refine tt_ic_eq (M := MX10_look) (pc := 71) 123 dX10_look_71 rfl ?_ ?_
    · exact id
    · refine tt_ld (M := MX10_look) (pc := 74) dX10_look_74 rfl rfl rfl rfl rfl ?_
      refine tt_ld (M := MX10_look) (pc := 75) dX10_look_75 rfl rfl rfl rfl rfl ?_
      refine tt_ld (M := MX10_look) (pc := 77) dX10_look_77 rfl rfl rfl rfl rfl ?_
      refine tt_ld (M := MX10_look) (pc := 78) dX10_look_78 rfl rfl rfl rfl rfl ?_
      refine tt_bipush (M := MX10_look) (pc := 80) dX10_look_80 (by decide) ?_
      refine tt_vcIN (M := MX10_look) (pc := 82) dX10_look_82 rfl rfl [] rfl rfl ⟨rfl, by decide, Nat.le_of_ble_eq_true rfl⟩ h0.1 fun v101 S102 => ?_
      refine tt_if_eq (M := MX10_look) (pc := 85) 123 dX10_look_85 rfl ?_ ?_
      · exact id
      · refine tt_iconst (M := MX10_look) (pc := 88) dX10_look_88 ?_
        refine tt_st (M := MX10_look) (pc := 89) [some (.ref 0), some (.int (I l1)), some (.int (I l2)), some (.int (I l3)), some (.int (I l4)), some (.int (I l5)), some (.int (I l6)), some (.int (I l7)), some (.int (I 1)), u9, u10] dX10_look_89 rfl rfl rfl rfl rfl rfl ?_
        exact id
theorem qX10_look_91 {sc : Nat × (Nat → Int32)} {SH : List mCell} {S : mStore} {r : mR × mW} (h0 : sGP SH) {l1 : Int} {l2 : Int} {l3 : Int} {l4 : Int} {l5 : Int} {l6 : Int} {l7 : Int} {l8 : Int} {u9 : Option Value} {u10 : Option Value} : ((if I 20 < I l8 then G sc MX10_look 123 [some (.ref 0), some (.int (I l1)), some (.int (I l2)), some (.int (I l3)), some (.int (I l4)), some (.int (I l5)), some (.int (I l6)), some (.int (I l7)), some (.int (I l8)), u9, u10] [] SH S r else (((0 : Int) ≤ l8 ∧ l8 < 21) ∧ (((0 : Int) ≤ l8 ∧ l8 < 21) ∧ (((0 : Int) ≤ l8 ∧ l8 < 21) ∧ G sc MX10_look 91 [some (.ref 0), some (.int (I l1)), some (.int (I l2)), some (.int (I l3)), some (.int (I l4)), some (.int (I l5)), some (.int (I l6)), some (.int (I l7)), some (.int (I (l8 + 1))), u9, u10] [] SH (up S 89 l8 (((Int64.ofInt (S 89 l8)) ||| (jsl 1 (S 88 l8)) : Int64)).toInt) r))))) → G sc MX10_look 91 [some (.ref 0), some (.int (I l1)), some (.int (I l2)), some (.int (I l3)), some (.int (I l4)), some (.int (I l5)), some (.int (I l6)), some (.int (I l7)), some (.int (I l8)), u9, u10] [] SH S r := by
  refine tt_ld (M := MX10_look) (pc := 91) dX10_look_91 rfl rfl rfl rfl rfl ?_
  refine tt_bipush (M := MX10_look) (pc := 93) dX10_look_93 (by decide) ?_
  refine tt_ic_gt (M := MX10_look) (pc := 95) 123 dX10_look_95 rfl ?_ ?_
  · exact id
  · refine tt_ld (M := MX10_look) (pc := 98) dX10_look_98 rfl rfl rfl rfl rfl ?_
    refine tt_getR (M := MX10_look) (pc := 99) dX10_look_99 rfl h0.1 rfl ?_
    refine tt_ld (M := MX10_look) (pc := 102) dX10_look_102 rfl rfl rfl rfl rfl ?_
    refine tt_dup2 (M := MX10_look) (pc := 104) dX10_look_104 rfl rfl ?_
    refine tt_laload (M := MX10_look) (pc := 105) dX10_look_105 h0.2.2.2.2.2.2.2.2.2.2 rfl ?_
    refine tt_pushv (M := MX10_look) (pc := 106) (.long 1) dX10_look_106 rfl rfl ?_
    refine tt_ld (M := MX10_look) (pc := 107) dX10_look_107 rfl rfl rfl rfl rfl ?_
    refine tt_getR (M := MX10_look) (pc := 108) dX10_look_108 rfl h0.1 rfl ?_
    refine tt_ld (M := MX10_look) (pc := 111) dX10_look_111 rfl rfl rfl rfl rfl ?_
    refine tt_iaload (M := MX10_look) (pc := 113) dX10_look_113 h0.2.2.2.2.2.2.2.2.2.1 rfl ?_
    refine tt_lshl (M := MX10_look) (pc := 114) dX10_look_114 ?_
    refine tt_lor (M := MX10_look) (pc := 115) dX10_look_115 ?_
    refine tt_lastore (M := MX10_look) (pc := 116) dX10_look_116 h0.2.2.2.2.2.2.2.2.2.2 rfl ?_
    refine tt_iinc (M := MX10_look) (pc := 117) [some (.ref 0), some (.int (I l1)), some (.int (I l2)), some (.int (I l3)), some (.int (I l4)), some (.int (I l5)), some (.int (I l6)), some (.int (I l7)), some (.int (I (l8 + 1))), u9, u10] dX10_look_117 rfl rfl ?_
    refine tt_goto (M := MX10_look) (pc := 120) 91 dX10_look_120 rfl ?_
    exact id
theorem qX10_look_123 {sc : Nat × (Nat → Int32)} {SH : List mCell} {S : mStore} {r : mR × mW} (h0 : sGP SH) {l1 : Int} {l2 : Int} {l3 : Int} {l4 : Int} {l5 : Int} {l6 : Int} {l7 : Int} {u8 : Option Value} {u9 : Option Value} {u10 : Option Value} : (G sc MX10_look 60 [some (.ref 0), some (.int (I l1)), some (.int (I l2)), some (.int (I l3)), some (.int (I l4)), some (.int (I l5)), some (.int (I l6)), some (.int (I (l7 + 1))), u8, u9, u10] [] SH S r) → G sc MX10_look 123 [some (.ref 0), some (.int (I l1)), some (.int (I l2)), some (.int (I l3)), some (.int (I l4)), some (.int (I l5)), some (.int (I l6)), some (.int (I l7)), u8, u9, u10] [] SH S r := by
  refine tt_iinc (M := MX10_look) (pc := 123) [some (.ref 0), some (.int (I l1)), some (.int (I l2)), some (.int (I l3)), some (.int (I l4)), some (.int (I l5)), some (.int (I l6)), some (.int (I (l7 + 1))), u8, u9, u10] dX10_look_123 rfl rfl ?_
  refine tt_goto (M := MX10_look) (pc := 126) 60 dX10_look_126 rfl ?_
  exact id
theorem qX10_look_138 {sc : Nat × (Nat → Int32)} {SH : List mCell} {S : mStore} {r : mR × mW} (h0 : sGP SH) {l1 : Int} {l2 : Int} {l3 : Int} {l4 : Int} {l5 : Int} {l6 : Int} {l7 : Int} {l8 : Int} {l9 : Int} {u10 : Option Value} : ((if I 20 < I l9 then (if I l4 = I 0 then r = rI l7 SH S else r = rI l8 SH S) else (((0 : Int) ≤ l9 ∧ l9 < 21) ∧ (∃ v101 S102, G sc MJ13_bitCount_95d88 0 [some (.long (Int64.ofInt (S 89 l9))), none] [] SH S (rI v101 SH S102) ∧ (if I v101 ≤ I l8 then G sc MX10_look 138 [some (.ref 0), some (.int (I l1)), some (.int (I l2)), some (.int (I l3)), some (.int (I l4)), some (.int (I l5)), some (.int (I l6)), some (.int (I l7)), some (.int (I l8)), some (.int (I (l9 + 1))), some (.int (I v101))] [] SH S102 r else G sc MX10_look 138 [some (.ref 0), some (.int (I l1)), some (.int (I l2)), some (.int (I l3)), some (.int (I l4)), some (.int (I l5)), some (.int (I l6)), some (.int (I l9)), some (.int (I v101)), some (.int (I (l9 + 1))), some (.int (I v101))] [] SH S102 r))))) → G sc MX10_look 138 [some (.ref 0), some (.int (I l1)), some (.int (I l2)), some (.int (I l3)), some (.int (I l4)), some (.int (I l5)), some (.int (I l6)), some (.int (I l7)), some (.int (I l8)), some (.int (I l9)), u10] [] SH S r := by
  refine tt_ld (M := MX10_look) (pc := 138) dX10_look_138 rfl rfl rfl rfl rfl ?_
  refine tt_bipush (M := MX10_look) (pc := 140) dX10_look_140 (by decide) ?_
  refine tt_ic_gt (M := MX10_look) (pc := 142) 178 dX10_look_142 rfl ?_ ?_
  · refine tt_ld (M := MX10_look) (pc := 178) dX10_look_178 rfl rfl rfl rfl rfl ?_
    refine tt_if_ne (M := MX10_look) (pc := 180) 188 dX10_look_180 rfl ?_ ?_
    · refine tt_ld (M := MX10_look) (pc := 188) dX10_look_188 rfl rfl rfl rfl rfl ?_
      exact tt_iret (M := MX10_look) (pc := 190) dX10_look_190 rfl
    · refine tt_ld (M := MX10_look) (pc := 183) dX10_look_183 rfl rfl rfl rfl rfl ?_
      refine tt_goto (M := MX10_look) (pc := 185) 190 dX10_look_185 rfl ?_
      exact tt_iret (M := MX10_look) (pc := 190) dX10_look_190 rfl
  · refine tt_ld (M := MX10_look) (pc := 145) dX10_look_145 rfl rfl rfl rfl rfl ?_
    refine tt_getR (M := MX10_look) (pc := 146) dX10_look_146 rfl h0.1 rfl ?_
    refine tt_ld (M := MX10_look) (pc := 149) dX10_look_149 rfl rfl rfl rfl rfl ?_
    refine tt_laload (M := MX10_look) (pc := 151) dX10_look_151 h0.2.2.2.2.2.2.2.2.2.2 rfl ?_
    refine tt_scIN (M := MX10_look) (pc := 152) dX10_look_152 rfl [] rfl rfl ⟨rfl, by decide, Nat.le_of_ble_eq_true rfl⟩ fun v101 S102 => ?_
    refine tt_st (M := MX10_look) (pc := 155) [some (.ref 0), some (.int (I l1)), some (.int (I l2)), some (.int (I l3)), some (.int (I l4)), some (.int (I l5)), some (.int (I l6)), some (.int (I l7)), some (.int (I l8)), some (.int (I l9)), some (.int (I v101))] dX10_look_155 rfl rfl rfl rfl rfl rfl ?_
    refine tt_ld (M := MX10_look) (pc := 157) dX10_look_157 rfl rfl rfl rfl rfl ?_
    refine tt_ld (M := MX10_look) (pc := 159) dX10_look_159 rfl rfl rfl rfl rfl ?_
    refine tt_ic_le (M := MX10_look) (pc := 161) 172 dX10_look_161 rfl ?_ ?_
    · refine tt_iinc (M := MX10_look) (pc := 172) [some (.ref 0), some (.int (I l1)), some (.int (I l2)), some (.int (I l3)), some (.int (I l4)), some (.int (I l5)), some (.int (I l6)), some (.int (I l7)), some (.int (I l8)), some (.int (I (l9 + 1))), some (.int (I v101))] dX10_look_172 rfl rfl ?_
      refine tt_goto (M := MX10_look) (pc := 175) 138 dX10_look_175 rfl ?_
      exact id
    · refine tt_ld (M := MX10_look) (pc := 164) dX10_look_164 rfl rfl rfl rfl rfl ?_
      refine tt_st (M := MX10_look) (pc := 166) [some (.ref 0), some (.int (I l1)), some (.int (I l2)), some (.int (I l3)), some (.int (I l4)), some (.int (I l5)), some (.int (I l6)), some (.int (I l9)), some (.int (I l8)), some (.int (I l9)), some (.int (I v101))] dX10_look_166 rfl rfl rfl rfl rfl rfl ?_
      refine tt_ld (M := MX10_look) (pc := 168) dX10_look_168 rfl rfl rfl rfl rfl ?_
      refine tt_st (M := MX10_look) (pc := 170) [some (.ref 0), some (.int (I l1)), some (.int (I l2)), some (.int (I l3)), some (.int (I l4)), some (.int (I l5)), some (.int (I l6)), some (.int (I l9)), some (.int (I v101)), some (.int (I l9)), some (.int (I v101))] dX10_look_170 rfl rfl rfl rfl rfl rfl ?_
      refine tt_iinc (M := MX10_look) (pc := 172) [some (.ref 0), some (.int (I l1)), some (.int (I l2)), some (.int (I l3)), some (.int (I l4)), some (.int (I l5)), some (.int (I l6)), some (.int (I l9)), some (.int (I v101)), some (.int (I (l9 + 1))), some (.int (I v101))] dX10_look_172 rfl rfl ?_
      refine tt_goto (M := MX10_look) (pc := 175) 138 dX10_look_175 rfl ?_
      exact id
