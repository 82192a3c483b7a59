/-! ===== the law's loop (gen_loop.py) ===== -/
theorem ian63 (v : Int) : 0 ≤ ian v 63 ∧ ian v 63 ≤ 63 := by
  unfold ian
  generalize I v = y
  have e : (y &&& I 63).toBitVec.toNat < 64 := by
    rw [Int32.toBitVec_and, BitVec.toNat_and]
    have : y.toBitVec.toNat &&& (I 63).toBitVec.toNat ≤ (I 63).toBitVec.toNat := Nat.and_le_right
    rw [show (I 63).toBitVec.toNat = 63 from rfl] at this ⊢
    omega
  have e2 := toInt_nat (x := y &&& I 63) rfl (by omega)
  rw [e2]
  omega
theorem msz_wc (s : Int → Int) (c : mCell) : msz (wc s c) = msz c := by
  rcases c with ⟨t, n, f⟩ | ⟨n, f⟩ | ⟨n, f⟩ | ⟨c, fs⟩ <;> rfl
theorem msl_wd (SH : List mCell) (S : mStore) : msl (wd SH S) = msl SH := by
  have e : (wd SH S).map msz = SH.map msz := by
    apply List.ext_getElem?
    intro j
    rw [List.getElem?_map, List.getElem?_map, wd_get]
    cases SH[j]? with
    | none => rfl
    | some c => show some (msz (wc (S j) c)) = some (msz c); rw [msz_wc]
  unfold msl
  rw [e]
section
variable {sc : Nat × (Nat → Int32)} {SH : List mCell} {S : mStore} {r : mR × mW} {ls : List (Option Value)} {st : List Value}
theorem lw_sw {x off : Int} (tgt : Nat) (hx : 0 ≤ x ∧ x < 35) (ho : (#[156, 229, 285, 341, 354, 410, 478, 558, 638, 706, 774, 882, 962, 1054, 1146, 1214, 1322, 1347, 1372, 1397, 1410, 1478, 1491, 1559, 1615, 1707, 1775, 1843, 1880, 1972, 2064, 2075, 2179, 2259, 2270] : Array Int)[x.toNat]? = some off) (ht : ((40 : Nat) : Int) + off = (tgt : Int)) (h : G sc ML_law tgt ls st SH S r) : G sc ML_law 40 ls (.int (I x) :: st) SH S r := by
  refine (R_one (M := ML_law) (pc := 40) dL_law_40 rfl (fun K => ?_) (oLe.rf _)).go h
  show (if (I x).toInt < 0 ∨ 34 < (I x).toInt then mto K ML_law ls st (wd SH S) 40 2283 else (match (#[156, 229, 285, 341, 354, 410, 478, 558, 638, 706, 774, 882, 962, 1054, 1146, 1214, 1322, 1347, 1372, 1397, 1410, 1478, 1491, 1559, 1615, 1707, 1775, 1843, 1880, 1972, 2064, 2075, 2179, 2259, 2270] : Array Int)[((I x).toInt - 0).toNat]? with
    | some off => mto K ML_law ls st (wd SH S) 40 off
    | none => none)) = _
  rw [I_toInt ⟨by omega, by omega⟩, if_neg (by omega), Int.sub_zero, ho]
  show mto K ML_law ls st (wd SH S) 40 off = _
  unfold mto
  rw [ht, if_neg (by omega)]
  rfl
theorem lw_swD {x : Int} (hx : 35 ≤ x ∧ x ≤ 63) (h : G sc ML_law 2323 ls st SH S r) : G sc ML_law 40 ls (.int (I x) :: st) SH S r := by
  refine (R_one (M := ML_law) (pc := 40) dL_law_40 rfl (fun K => ?_) (oLe.rf _)).go h
  show (if (I x).toInt < 0 ∨ 34 < (I x).toInt then mto K ML_law ls st (wd SH S) 40 2283 else (match (#[156, 229, 285, 341, 354, 410, 478, 558, 638, 706, 774, 882, 962, 1054, 1146, 1214, 1322, 1347, 1372, 1397, 1410, 1478, 1491, 1559, 1615, 1707, 1775, 1843, 1880, 1972, 2064, 2075, 2179, 2259, 2270] : Array Int)[((I x).toInt - 0).toNat]? with
    | some off => mto K ML_law ls st (wd SH S) 40 off
    | none => none)) = _
  rw [I_toInt ⟨by omega, by omega⟩, if_pos (by omega)]
  rfl
end
section
variable {sc : Nat × (Nat → Int32)} {SH : List mCell} {F : Nat → Nat → Option Nat} {S : mStore} {e : Nat} {N i : Int} {W : aW} {u5 u6 : Option Value}
theorem lw_case (hc : clR SH F e S W) (hW : wfW W) (hm : mdR S N W) (hN : 0 ≤ N ∧ N < 900000000) (hi : 0 ≤ i ∧ i + 6 ≤ sc.1 ∧ sc.1 ≤ 3072) (K : LK sc i e N) {x : Int} (hx : 0 ≤ x ∧ x ≤ 63) : ∃ r, good r ∧ G sc ML_law 40 (lsL i u5 u6) [.int (I x)] SH S r := by
  by_cases hd : 35 ≤ x
  · obtain ⟨r, hr, g⟩ := K SH F e S W N u5 u6 hc hW hm hN.1 (by omega) (Nat.le_succ _)
    exact ⟨r, hr, lw_swD ⟨hd, hx.2⟩ g⟩
  rcases (show x = 0 ∨ x = 1 ∨ x = 2 ∨ x = 3 ∨ x = 4 ∨ x = 5 ∨ x = 6 ∨ x = 7 ∨ x = 8 ∨ x = 9 ∨ x = 10 ∨ x = 11 ∨ x = 12 ∨ x = 13 ∨ x = 14 ∨ x = 15 ∨ x = 16 ∨ x = 17 ∨ x = 18 ∨ x = 19 ∨ x = 20 ∨ x = 21 ∨ x = 22 ∨ x = 23 ∨ x = 24 ∨ x = 25 ∨ x = 26 ∨ x = 27 ∨ x = 28 ∨ x = 29 ∨ x = 30 ∨ x = 31 ∨ x = 32 ∨ x = 33 ∨ x = 34 by omega) with rfl | rfl | rfl | rfl | rfl | rfl | rfl | rfl | rfl | rfl | rfl | rfl | rfl | rfl | rfl | rfl | rfl | rfl | rfl | rfl | rfl | rfl | rfl | rfl | rfl | rfl | rfl | rfl | rfl | rfl | rfl | rfl | rfl | rfl | rfl
  · obtain ⟨r, hr, g⟩ := lc_0 (u5 := u5) (u6 := u6) hc hW hm hN hi K
    exact ⟨r, hr, lw_sw 196 (by decide) rfl rfl g⟩
  · obtain ⟨r, hr, g⟩ := lc_1 (u5 := u5) (u6 := u6) hc hW hm hN hi K
    exact ⟨r, hr, lw_sw 269 (by decide) rfl rfl g⟩
  · obtain ⟨r, hr, g⟩ := lc_2 (u5 := u5) (u6 := u6) hc hW hm hN hi K
    exact ⟨r, hr, lw_sw 325 (by decide) rfl rfl g⟩
  · obtain ⟨r, hr, g⟩ := lc_3 (u5 := u5) (u6 := u6) hc hW hm hN hi K
    exact ⟨r, hr, lw_sw 381 (by decide) rfl rfl g⟩
  · obtain ⟨r, hr, g⟩ := lc_4 (u5 := u5) (u6 := u6) hc hW hm hN hi K
    exact ⟨r, hr, lw_sw 394 (by decide) rfl rfl g⟩
  · obtain ⟨r, hr, g⟩ := lc_5 (u5 := u5) (u6 := u6) hc hW hm hN hi K
    exact ⟨r, hr, lw_sw 450 (by decide) rfl rfl g⟩
  · obtain ⟨r, hr, g⟩ := lc_6 (u5 := u5) (u6 := u6) hc hW hm hN hi K
    exact ⟨r, hr, lw_sw 518 (by decide) rfl rfl g⟩
  · obtain ⟨r, hr, g⟩ := lc_7 (u5 := u5) (u6 := u6) hc hW hm hN hi K
    exact ⟨r, hr, lw_sw 598 (by decide) rfl rfl g⟩
  · obtain ⟨r, hr, g⟩ := lc_8 (u5 := u5) (u6 := u6) hc hW hm hN hi K
    exact ⟨r, hr, lw_sw 678 (by decide) rfl rfl g⟩
  · obtain ⟨r, hr, g⟩ := lc_9 (u5 := u5) (u6 := u6) hc hW hm hN hi K
    exact ⟨r, hr, lw_sw 746 (by decide) rfl rfl g⟩
  · obtain ⟨r, hr, g⟩ := lc_10 (u5 := u5) (u6 := u6) hc hW hm hN hi K
    exact ⟨r, hr, lw_sw 814 (by decide) rfl rfl g⟩
  · obtain ⟨r, hr, g⟩ := lc_11 (u5 := u5) (u6 := u6) hc hW hm hN hi K
    exact ⟨r, hr, lw_sw 922 (by decide) rfl rfl g⟩
  · obtain ⟨r, hr, g⟩ := lc_12 (u5 := u5) (u6 := u6) hc hW hm hN hi K
    exact ⟨r, hr, lw_sw 1002 (by decide) rfl rfl g⟩
  · obtain ⟨r, hr, g⟩ := lc_13 (u5 := u5) (u6 := u6) hc hW hm hN hi K
    exact ⟨r, hr, lw_sw 1094 (by decide) rfl rfl g⟩
  · obtain ⟨r, hr, g⟩ := lc_14 (u5 := u5) (u6 := u6) hc hW hm hN hi K
    exact ⟨r, hr, lw_sw 1186 (by decide) rfl rfl g⟩
  · obtain ⟨r, hr, g⟩ := lc_15 (u5 := u5) (u6 := u6) hc hW hm hN hi K
    exact ⟨r, hr, lw_sw 1254 (by decide) rfl rfl g⟩
  · obtain ⟨r, hr, g⟩ := lc_16 (u5 := u5) (u6 := u6) hc hW hm hN hi K
    exact ⟨r, hr, lw_sw 1362 (by decide) rfl rfl g⟩
  · obtain ⟨r, hr, g⟩ := lc_17 (u5 := u5) (u6 := u6) hc hW hm hN hi K
    exact ⟨r, hr, lw_sw 1387 (by decide) rfl rfl g⟩
  · obtain ⟨r, hr, g⟩ := lc_18 (u5 := u5) (u6 := u6) hc hW hm hN hi K
    exact ⟨r, hr, lw_sw 1412 (by decide) rfl rfl g⟩
  · obtain ⟨r, hr, g⟩ := lc_19 (u5 := u5) (u6 := u6) hc hW hm hN hi K
    exact ⟨r, hr, lw_sw 1437 (by decide) rfl rfl g⟩
  · obtain ⟨r, hr, g⟩ := lc_20 (u5 := u5) (u6 := u6) hc hW hm hN hi K
    exact ⟨r, hr, lw_sw 1450 (by decide) rfl rfl g⟩
  · obtain ⟨r, hr, g⟩ := lc_21 (u5 := u5) (u6 := u6) hc hW hm hN hi K
    exact ⟨r, hr, lw_sw 1518 (by decide) rfl rfl g⟩
  · obtain ⟨r, hr, g⟩ := lc_22 (u5 := u5) (u6 := u6) hc hW hm hN hi K
    exact ⟨r, hr, lw_sw 1531 (by decide) rfl rfl g⟩
  · obtain ⟨r, hr, g⟩ := lc_23 (u5 := u5) (u6 := u6) hc hW hm hN hi K
    exact ⟨r, hr, lw_sw 1599 (by decide) rfl rfl g⟩
  · obtain ⟨r, hr, g⟩ := lc_24 (u5 := u5) (u6 := u6) hc hW hm hN hi K
    exact ⟨r, hr, lw_sw 1655 (by decide) rfl rfl g⟩
  · obtain ⟨r, hr, g⟩ := lc_25 (u5 := u5) (u6 := u6) hc hW hm hN hi K
    exact ⟨r, hr, lw_sw 1747 (by decide) rfl rfl g⟩
  · obtain ⟨r, hr, g⟩ := lc_26 (u5 := u5) (u6 := u6) hc hW hm hN hi K
    exact ⟨r, hr, lw_sw 1815 (by decide) rfl rfl g⟩
  · obtain ⟨r, hr, g⟩ := lc_27 (u5 := u5) (u6 := u6) hc hW hm hN hi K
    exact ⟨r, hr, lw_sw 1883 (by decide) rfl rfl g⟩
  · obtain ⟨r, hr, g⟩ := lc_28 (u5 := u5) (u6 := u6) hc hW hm hN hi K
    exact ⟨r, hr, lw_sw 1920 (by decide) rfl rfl g⟩
  · obtain ⟨r, hr, g⟩ := lc_29 (u5 := u5) (u6 := u6) hc hW hm hN hi K
    exact ⟨r, hr, lw_sw 2012 (by decide) rfl rfl g⟩
  · obtain ⟨r, hr, g⟩ := lc_30 (u5 := u5) (u6 := u6) hc hW hm hN hi K
    exact ⟨r, hr, lw_sw 2104 (by decide) rfl rfl g⟩
  · obtain ⟨r, hr, g⟩ := lc_31 (u5 := u5) (u6 := u6) hc hW hm hN hi K
    exact ⟨r, hr, lw_sw 2115 (by decide) rfl rfl g⟩
  · obtain ⟨r, hr, g⟩ := lc_32 (u5 := u5) (u6 := u6) hc hW hm hN hi K
    exact ⟨r, hr, lw_sw 2219 (by decide) rfl rfl g⟩
  · obtain ⟨r, hr, g⟩ := lc_33 (u5 := u5) (u6 := u6) hc hW hm hN hi K
    exact ⟨r, hr, lw_sw 2299 (by decide) rfl rfl g⟩
  · obtain ⟨r, hr, g⟩ := lc_34 (u5 := u5) (u6 := u6) hc hW hm hN hi K
    exact ⟨r, hr, lw_sw 2310 (by decide) rfl rfl g⟩
theorem lw_loop (hs : sc.1 ≤ 3072) : ∀ (n j : Nat) (SH : List mCell) (F : Nat → Nat → Option Nat) (e : Nat) (S : mStore) (W : aW) (N : Int) (u5 u6 : Option Value), sc.1 < 6 * j + 6 * n → 6 * j ≤ sc.1 → clR SH F e S W → wfW W → mdR S N W → 0 ≤ N → N ≤ 50000 * (j : Int) → e ≤ j → LG sc 23 (6 * (j : Int)) u5 u6 SH S := by
  intro n
  induction n with
  | zero => intro j SH F e S W N u5 u6 h1 h2; omega
  | succ n ih =>
    intro j SH F e S W N u5 u6 h1 h2 hc hW hm n0 n1 he
    have head : ∀ r, (if (sc.1 : Int) - 6 < 6 * (j : Int) then G sc ML_law 2329 (lsL (6 * (j : Int)) u5 u6) [] SH S r else G sc ML_law 33 (lsL (6 * (j : Int)) u5 u6) [] SH S r) → G sc ML_law 23 (lsL (6 * (j : Int)) u5 u6) [] SH S r := by
      intro r hr
      refine tt_ld (P := True) (M := ML_law) (pc := 23) dL_law_23 rfl rfl rfl rfl rfl (fun _ => ?_) trivial
      refine tt_ld (P := True) (M := ML_law) (pc := 25) dL_law_25 rfl rfl rfl rfl rfl (fun _ => ?_) trivial
      refine tt_lenK (P := True) (n := sc.1) (M := ML_law) (pc := 26) dL_law_26 rfl (fun _ => ?_) trivial
      refine tt_bipush (P := True) (M := ML_law) (pc := 27) dL_law_27 (by decide) (fun _ => ?_) trivial
      refine tt_isub (P := True) (M := ML_law) (pc := 29) dL_law_29 (fun _ => ?_) trivial
      refine tt_ic_gt (P1 := G sc ML_law 2329 (lsL (6 * (j : Int)) u5 u6) [] SH S r) (P2 := G sc ML_law 33 (lsL (6 * (j : Int)) u5 u6) [] SH S r) (M := ML_law) (pc := 30) 2329 dL_law_30 rfl (fun h => h) (fun h => h) ?_
      by_cases c : (sc.1 : Int) - 6 < 6 * (j : Int)
      · rw [if_pos c] at hr
        rw [if_pos ((I_lt ⟨by omega, by omega⟩ ⟨by omega, by omega⟩).mpr c)]
        exact hr
      · rw [if_neg c] at hr
        rw [if_neg (fun q => c ((I_lt ⟨by omega, by omega⟩ ⟨by omega, by omega⟩).mp q))]
        exact hr
    by_cases hle : 6 * j + 6 ≤ sc.1
    · have K : LK sc (6 * (j : Int)) e N := by
        intro SH' F' e' S' W' N' v5 v6 hc' hW' hm' a b c
        obtain ⟨r, hr, g⟩ := ih (j + 1) SH' F' e' S' W' N' v5 v6 (by omega) (by omega) hc' hW' hm' a (by omega) (by omega)
        rw [show (6 * ((j + 1 : Nat) : Int)) = 6 * (j : Int) + 6 by omega] at g
        refine ⟨r, hr, ?_⟩
        refine tt_iinc (P := True) (M := ML_law) (pc := 2323) (lsL (6 * (j : Int) + 6) v5 v6) dL_law_2323 rfl rfl (fun _ => ?_) trivial
        exact tt_goto (P := True) (M := ML_law) (pc := 2326) 23 dL_law_2326 rfl (fun _ => g) trivial
      obtain ⟨r, hr, g⟩ := lw_case (sc := sc) (i := 6 * (j : Int)) (u5 := u5) (u6 := u6) hc hW hm ⟨n0, by omega⟩ ⟨by omega, by omega, hs⟩ K (ian63 (xs sc (6 * (j : Int)) 0))
      refine ⟨r, hr, head r ?_⟩
      rw [if_neg (by omega)]
      refine tt_ld (P := True) (M := ML_law) (pc := 33) dL_law_33 rfl rfl rfl rfl rfl (fun _ => ?_) trivial
      refine tt_ld (P := True) (M := ML_law) (pc := 34) dL_law_34 rfl rfl rfl rfl rfl (fun _ => ?_) trivial
      refine tt_scload (P := True) (M := ML_law) (pc := 36) dL_law_36 (fun _ => ?_) ⟨⟨by omega, by omega, by omega⟩, trivial⟩
      refine tt_bipush (P := True) (M := ML_law) (pc := 37) dL_law_37 (by decide) (fun _ => ?_) trivial
      refine tt_iand (P := True) (M := ML_law) (pc := 39) dL_law_39 (fun _ => ?_) trivial
      unfold xs at g
      rw [Int.add_zero] at g
      exact g
    · obtain ⟨q1, q2, q3⟩ := hc.1.2.2.2.2
      refine ⟨rI 1 SH S, ⟨rfl, ?_, ?_⟩, head _ ?_⟩
      · show (wd SH S).length ≤ 601024
        rw [wd_len]; omega
      · show msl (wd SH S) ≤ 7293034
        rw [msl_wd]; omega
      · rw [if_pos (by omega)]
        refine tt_iconst (P := True) (M := ML_law) (pc := 2329) dL_law_2329 (fun _ => ?_) trivial
        exact tt_zret (M := ML_law) (pc := 2330) dL_law_2330 rfl ⟨Or.inr rfl, rfl⟩
end
