/-! ===== the law, case by case (gen_law.py) ===== -/
section
variable {sc : Nat × (Nat → Int32)} {SH : List mCell} {F : Nat → Nat → Option Nat} {S : mStore} {e : Nat} {N i : Int} {W : aW} {u5 u6 : Option Value}
theorem lc_18 (hc : clR SH F e S W) (hW : wfW W) (hm : mdR S N W) (hN : 0 ≤ N ∧ N < 900000000) (hi : 0 ≤ i ∧ i + 6 ≤ sc.1 ∧ sc.1 ≤ 3072) (K : LK sc i e N) : LG sc 1412 i u5 u6 SH S := by
  obtain ⟨SH', F', e', S', g1, c1, e1, f1⟩ := rate_cl (sc := sc)  (u := none) (n := (xs sc i 1)) hc hW (xs_rg sc i 1)
  obtain ⟨b, S2, g2, m2, v2, x2, f2⟩ := rate_md (sc := sc) (SH := SH') (u := none) (n := (xs sc i 1)) (y := 1) c1.1.1.2.1 hW (mdR_cl hm (fun j a b => f1 j a (by omega))) (xs_rg sc i 1)
  obtain ⟨v, hv⟩ := v_rate (W := W) (p1 := (xs sc i 1))
  rw [hv] at g1
  obtain ⟨rfl, -⟩ := v2 v hv
  replace g1 : G sc MX10_rate 0 [some (.ref 0), some (.int (I (xs sc i 1))), none] [] SH S (rI b SH' S') := g1
  obtain ⟨r, hr, K⟩ := K SH' F' e' S2 (rateF W (xs sc i 1)).2 N u5 u6 (clR_md c1 (fun j h => f2 j (by omega))) (wf_rateF hW) m2 (by omega) (by omega) e1
  refine ⟨r, hr, ?_⟩
  refine tt_ld (P := True) (M := ML_law) (pc := 1412) dL_law_1412 rfl rfl rfl rfl rfl (fun _ => ?_) trivial
  refine lw_arg 1 hi (by decide) dL_law_1413 dL_law_1414 dL_law_1416 dL_law_1417 dL_law_1418 ?_
  refine tt_vcHI (M := ML_law) (pc := 1419) dL_law_1419 rfl rfl [] rfl rfl ⟨rfl, by decide, Nat.le_of_ble_eq_true rfl⟩ hc.1.1.1.1 g1 ?_
  refine tt_ld (P := True) (M := ML_law) (pc := 1422) dL_law_1422 rfl rfl rfl rfl rfl (fun _ => ?_) trivial
  refine lw_arg 1 hi (by decide) dL_law_1423 dL_law_1424 dL_law_1426 dL_law_1427 dL_law_1428 ?_
  refine tt_vcHI (M := ML_law) (pc := 1429) dL_law_1429 rfl rfl [.int (I b)] rfl rfl ⟨rfl, by decide, Nat.le_of_ble_eq_true rfl⟩ c1.1.1.2.1.1 g2 ?_
  exact tt_ic_eq (P1 := True) (P2 := False) (M := ML_law) (pc := 1432) 2323 dL_law_1432 rfl (fun _ => K) (fun h => h.elim) (by rw [if_pos rfl]; trivial)
theorem lc_19 (hc : clR SH F e S W) (hW : wfW W) (hm : mdR S N W) (hN : 0 ≤ N ∧ N < 900000000) (hi : 0 ≤ i ∧ i + 6 ≤ sc.1 ∧ sc.1 ≤ 3072) (K : LK sc i e N) : LG sc 1437 i u5 u6 SH S := by
  obtain ⟨SH', F', e', S', g1, c1, e1, f1⟩ := undo_cl (sc := sc)   hc hW
  obtain ⟨b, S2, g2, m2, v2, x2, f2⟩ := undo_md (sc := sc) (SH := SH') (y := 1) c1.1.1.2.1 hW (mdR_cl hm (fun j a b => f1 j a (by omega)))
  obtain ⟨v, hv⟩ := v_undo (W := W)
  rw [hv] at g1
  obtain ⟨rfl, -⟩ := v2 v hv
  replace g1 : G sc MX10_undo 0 [some (.ref 0)] [] SH S (rI b SH' S') := g1
  obtain ⟨r, hr, K⟩ := K SH' F' e' S2 (undoF W ).2 N u5 u6 (clR_md c1 (fun j h => f2 j (by omega))) (wf_undo hW) m2 (by omega) (by omega) e1
  refine ⟨r, hr, ?_⟩
  refine tt_ld (P := True) (M := ML_law) (pc := 1437) dL_law_1437 rfl rfl rfl rfl rfl (fun _ => ?_) trivial
  refine tt_vcHI (M := ML_law) (pc := 1438) dL_law_1438 rfl rfl [] rfl rfl ⟨rfl, by decide, Nat.le_of_ble_eq_true rfl⟩ hc.1.1.1.1 g1 ?_
  refine tt_ld (P := True) (M := ML_law) (pc := 1441) dL_law_1441 rfl rfl rfl rfl rfl (fun _ => ?_) trivial
  refine tt_vcHI (M := ML_law) (pc := 1442) dL_law_1442 rfl rfl [.int (I b)] rfl rfl ⟨rfl, by decide, Nat.le_of_ble_eq_true rfl⟩ c1.1.1.2.1.1 g2 ?_
  exact tt_ic_eq (P1 := True) (P2 := False) (M := ML_law) (pc := 1445) 2323 dL_law_1445 rfl (fun _ => K) (fun h => h.elim) (by rw [if_pos rfl]; trivial)
theorem lc_20 (hc : clR SH F e S W) (hW : wfW W) (hm : mdR S N W) (hN : 0 ≤ N ∧ N < 900000000) (hi : 0 ≤ i ∧ i + 6 ≤ sc.1 ∧ sc.1 ≤ 3072) (K : LK sc i e N) : LG sc 1450 i u5 u6 SH S := by
  obtain ⟨k, SH', F', e', S', g1, c1, e1, f1, v1, x1⟩ := w_then (p1 := (xs sc i 1)) (p2 := (xs sc i 2)) hc.1.1.1 (fun _ h => k_then h) (then_cl (sc := sc)  (n := (xs sc i 1)) (x := (xs sc i 2)) hc hW (xs_rg sc i 1) (xs_rg sc i 2))
  obtain ⟨b, S2, g2, m2, v2, x2, f2⟩ := then_md (sc := sc) (SH := SH') (n := (xs sc i 1)) (x := (xs sc i 2)) c1.1.1.2.1 hW (mdR_cl hm (fun j a b => f1 j a (by omega))) (by omega) (xs_rg sc i 1) (xs_rg sc i 2)
  have q1 := lw_agree (.inr rfl) v1 x1 v2 x2 (f2 110 (by omega))
  obtain ⟨r, hr, K⟩ := K SH' F' e' S2 W N (some (.int (I k))) (some (.int (I b))) (clR_md c1 (fun j h => f2 j (by omega))) (hW) m2 (by omega) (by omega) e1
  refine ⟨r, hr, ?_⟩
  refine tt_ld (P := True) (M := ML_law) (pc := 1450) dL_law_1450 rfl rfl rfl rfl rfl (fun _ => ?_) trivial
  refine lw_arg 1 hi (by decide) dL_law_1451 dL_law_1452 dL_law_1454 dL_law_1455 dL_law_1456 ?_
  refine lw_arg 2 hi (by decide) dL_law_1457 dL_law_1458 dL_law_1460 dL_law_1461 dL_law_1462 ?_
  refine tt_ld (P := True) (M := ML_law) (pc := 1463) dL_law_1463 rfl rfl rfl rfl rfl (fun _ => ?_) trivial
  refine tt_scA (M := ML_law) (pc := 1464) dL_law_1464 rfl [] rfl rfl ⟨rfl, by decide, Nat.le_of_ble_eq_true rfl⟩ g1 ?_
  refine tt_st (P := True) (M := ML_law) (pc := 1467) (lsL i (some (.int (I k))) u6) dL_law_1467 rfl rfl rfl rfl rfl rfl (fun _ => ?_) trivial
  refine tt_ld (P := True) (M := ML_law) (pc := 1469) dL_law_1469 rfl rfl rfl rfl rfl (fun _ => ?_) trivial
  refine lw_arg 1 hi (by decide) dL_law_1470 dL_law_1471 dL_law_1473 dL_law_1474 dL_law_1475 ?_
  refine lw_arg 2 hi (by decide) dL_law_1476 dL_law_1477 dL_law_1479 dL_law_1480 dL_law_1481 ?_
  refine tt_vcHI (M := ML_law) (pc := 1482) dL_law_1482 rfl rfl [] rfl rfl ⟨rfl, by decide, Nat.le_of_ble_eq_true rfl⟩ c1.1.1.2.1.1 g2 ?_
  exact lw_tail c1.1.1.2.1 c1.1.1.2.2 q1 dL_law_1485 dL_law_1487 dL_law_1488 dL_law_1491 dL_law_1493 dL_law_1498 dL_law_1500 dL_law_1503 dL_law_1504 dL_law_1505 dL_law_1506 dL_law_1508 dL_law_1509 dL_law_1510 dL_law_1515 rfl K
theorem lc_21 (hc : clR SH F e S W) (hW : wfW W) (hm : mdR S N W) (hN : 0 ≤ N ∧ N < 900000000) (hi : 0 ≤ i ∧ i + 6 ≤ sc.1 ∧ sc.1 ≤ 3072) (K : LK sc i e N) : LG sc 1518 i u5 u6 SH S := by
  obtain ⟨SH', F', e', S', g1, c1, e1, f1⟩ := quiet_cl (sc := sc)  (u := none) (u' := none) hc hW
  obtain ⟨b, S2, g2, m2, v2, x2, f2⟩ := quiet_md (sc := sc) (SH := SH') (u := none) (u' := none) (y := 1) c1.1.1.2.1 hW (mdR_cl hm (fun j a b => f1 j a (by omega))) (by omega)
  obtain ⟨v, hv⟩ : ∃ v, v = qtA W.1 60 1 0 W.2.1.1 := ⟨_, rfl⟩
  rw [← hv] at g1 v2
  obtain ⟨rfl, -⟩ := v2 v rfl
  replace g1 : G sc MX10_quiet 0 [some (.ref 0), none, none] [] SH S (rI b SH' S') := g1
  obtain ⟨r, hr, K⟩ := K SH' F' e' S2 W N u5 u6 (clR_md c1 (fun j h => f2 j (by omega))) (hW) m2 (by omega) (by omega) e1
  refine ⟨r, hr, ?_⟩
  refine tt_ld (P := True) (M := ML_law) (pc := 1518) dL_law_1518 rfl rfl rfl rfl rfl (fun _ => ?_) trivial
  refine tt_vcHI (M := ML_law) (pc := 1519) dL_law_1519 rfl rfl [] rfl rfl ⟨rfl, by decide, Nat.le_of_ble_eq_true rfl⟩ hc.1.1.1.1 g1 ?_
  refine tt_ld (P := True) (M := ML_law) (pc := 1522) dL_law_1522 rfl rfl rfl rfl rfl (fun _ => ?_) trivial
  refine tt_vcHI (M := ML_law) (pc := 1523) dL_law_1523 rfl rfl [.int (I b)] rfl rfl ⟨rfl, by decide, Nat.le_of_ble_eq_true rfl⟩ c1.1.1.2.1.1 g2 ?_
  exact tt_ic_eq (P1 := True) (P2 := False) (M := ML_law) (pc := 1526) 2323 dL_law_1526 rfl (fun _ => K) (fun h => h.elim) (by rw [if_pos rfl]; trivial)
theorem lc_22 (hc : clR SH F e S W) (hW : wfW W) (hm : mdR S N W) (hN : 0 ≤ N ∧ N < 900000000) (hi : 0 ≤ i ∧ i + 6 ≤ sc.1 ∧ sc.1 ≤ 3072) (K : LK sc i e N) : LG sc 1531 i u5 u6 SH S := by
  obtain ⟨k, SH', F', e', S', g1, c1, e1, f1, v1, x1⟩ := w_merges (p1 := (xs sc i 1)) (p2 := (xs sc i 2)) hc.1.1.1 (fun _ h => k_merges h) (merges_cl (sc := sc)  (u := none) (u' := none) (g := (xs sc i 1)) (p := (xs sc i 2)) hc hW (xs_rg sc i 1) (xs_rg sc i 2))
  obtain ⟨b, S2, g2, m2, v2, x2, f2⟩ := merges_md (sc := sc) (SH := SH') (u := none) (g := (xs sc i 1)) (p := (xs sc i 2)) (y := 1) c1.1.1.2.1 hW (mdR_cl hm (fun j a b => f1 j a (by omega))) (by omega) (xs_rg sc i 1) (xs_rg sc i 2)
  have q1 := lw_agree (.inl rfl) v1 x1 v2 x2 (f2 110 (by omega))
  obtain ⟨r, hr, K⟩ := K SH' F' e' S2 W N (some (.int (I k))) (some (.int (I b))) (clR_md c1 (fun j h => f2 j (by omega))) (hW) m2 (by omega) (by omega) e1
  refine ⟨r, hr, ?_⟩
  refine tt_ld (P := True) (M := ML_law) (pc := 1531) dL_law_1531 rfl rfl rfl rfl rfl (fun _ => ?_) trivial
  refine lw_arg 1 hi (by decide) dL_law_1532 dL_law_1533 dL_law_1535 dL_law_1536 dL_law_1537 ?_
  refine lw_arg 2 hi (by decide) dL_law_1538 dL_law_1539 dL_law_1541 dL_law_1542 dL_law_1543 ?_
  refine tt_ld (P := True) (M := ML_law) (pc := 1544) dL_law_1544 rfl rfl rfl rfl rfl (fun _ => ?_) trivial
  refine tt_scA (M := ML_law) (pc := 1545) dL_law_1545 rfl [] rfl rfl ⟨rfl, by decide, Nat.le_of_ble_eq_true rfl⟩ g1 ?_
  refine tt_st (P := True) (M := ML_law) (pc := 1548) (lsL i (some (.int (I k))) u6) dL_law_1548 rfl rfl rfl rfl rfl rfl (fun _ => ?_) trivial
  refine tt_ld (P := True) (M := ML_law) (pc := 1550) dL_law_1550 rfl rfl rfl rfl rfl (fun _ => ?_) trivial
  refine lw_arg 1 hi (by decide) dL_law_1551 dL_law_1552 dL_law_1554 dL_law_1555 dL_law_1556 ?_
  refine lw_arg 2 hi (by decide) dL_law_1557 dL_law_1558 dL_law_1560 dL_law_1561 dL_law_1562 ?_
  refine tt_vcHI (M := ML_law) (pc := 1563) dL_law_1563 rfl rfl [] rfl rfl ⟨rfl, by decide, Nat.le_of_ble_eq_true rfl⟩ c1.1.1.2.1.1 g2 ?_
  exact lw_tail c1.1.1.2.1 c1.1.1.2.2 q1 dL_law_1566 dL_law_1568 dL_law_1569 dL_law_1572 dL_law_1574 dL_law_1579 dL_law_1581 dL_law_1584 dL_law_1585 dL_law_1586 dL_law_1587 dL_law_1589 dL_law_1590 dL_law_1591 dL_law_1596 rfl K
theorem lc_23 (hc : clR SH F e S W) (hW : wfW W) (hm : mdR S N W) (hN : 0 ≤ N ∧ N < 900000000) (hi : 0 ≤ i ∧ i + 6 ≤ sc.1 ∧ sc.1 ≤ 3072) (K : LK sc i e N) : LG sc 1599 i u5 u6 SH S := by
  obtain ⟨k, SH', F', e', S', g1, c1, e1, f1, v1, x1⟩ := w_ideal (p1 := (xs sc i 1)) hc.1.1.1 (fun _ h => k_ideal h) (ideal_cl (sc := sc)  (x := (xs sc i 1)) hc hW (xs_rg sc i 1))
  obtain ⟨b, S2, g2, m2, v2, x2, f2⟩ := ideal_md (sc := sc) (SH := SH') (x := (xs sc i 1)) (y := 1) c1.1.1.2.1 hW (mdR_cl hm (fun j a b => f1 j a (by omega))) (xs_rg sc i 1)
  have q1 := lw_agree (.inl rfl) v1 x1 v2 x2 (f2 110 (by omega))
  obtain ⟨r, hr, K⟩ := K SH' F' e' S2 W N (some (.int (I k))) (some (.int (I b))) (clR_md c1 (fun j h => f2 j (by omega))) (hW) m2 (by omega) (by omega) e1
  refine ⟨r, hr, ?_⟩
  refine tt_ld (P := True) (M := ML_law) (pc := 1599) dL_law_1599 rfl rfl rfl rfl rfl (fun _ => ?_) trivial
  refine lw_arg 1 hi (by decide) dL_law_1600 dL_law_1601 dL_law_1603 dL_law_1604 dL_law_1605 ?_
  refine tt_ld (P := True) (M := ML_law) (pc := 1606) dL_law_1606 rfl rfl rfl rfl rfl (fun _ => ?_) trivial
  refine tt_scA (M := ML_law) (pc := 1607) dL_law_1607 rfl [] rfl rfl ⟨rfl, by decide, Nat.le_of_ble_eq_true rfl⟩ g1 ?_
  refine tt_st (P := True) (M := ML_law) (pc := 1610) (lsL i (some (.int (I k))) u6) dL_law_1610 rfl rfl rfl rfl rfl rfl (fun _ => ?_) trivial
  refine tt_ld (P := True) (M := ML_law) (pc := 1612) dL_law_1612 rfl rfl rfl rfl rfl (fun _ => ?_) trivial
  refine lw_arg 1 hi (by decide) dL_law_1613 dL_law_1614 dL_law_1616 dL_law_1617 dL_law_1618 ?_
  refine tt_vcHI (M := ML_law) (pc := 1619) dL_law_1619 rfl rfl [] rfl rfl ⟨rfl, by decide, Nat.le_of_ble_eq_true rfl⟩ c1.1.1.2.1.1 g2 ?_
  exact lw_tail c1.1.1.2.1 c1.1.1.2.2 q1 dL_law_1622 dL_law_1624 dL_law_1625 dL_law_1628 dL_law_1630 dL_law_1635 dL_law_1637 dL_law_1640 dL_law_1641 dL_law_1642 dL_law_1643 dL_law_1645 dL_law_1646 dL_law_1647 dL_law_1652 rfl K
theorem lc_24 (hc : clR SH F e S W) (hW : wfW W) (hm : mdR S N W) (hN : 0 ≤ N ∧ N < 900000000) (hi : 0 ≤ i ∧ i + 6 ≤ sc.1 ∧ sc.1 ≤ 3072) (K : LK sc i e N) : LG sc 1655 i u5 u6 SH S := by
  obtain ⟨k, SH', F', e', S', g1, c1, e1, f1, v1, x1⟩ := w_probe (p1 := (xs sc i 1)) (p2 := (xs sc i 2)) (p3 := (xs sc i 3)) (p4 := (xs sc i 4)) hc.1.1.1 (fun _ h => k_probe h) (probe_cl (sc := sc)  (u := none) (u' := none) (g := (xs sc i 1)) (p := (xs sc i 2)) (c := (xs sc i 3)) (t := (xs sc i 4)) hc hW (xs_rg sc i 1) (xs_rg sc i 2) (xs_rg sc i 3) (xs_rg sc i 4))
  obtain ⟨b, S2, g2, m2, v2, x2, f2⟩ := probe_md (sc := sc) (SH := SH') (u := none) (u' := none) (g := (xs sc i 1)) (p := (xs sc i 2)) (c := (xs sc i 3)) (t := (xs sc i 4)) c1.1.1.2.1 hW (mdR_cl hm (fun j a b => f1 j a (by omega))) (by omega) (xs_rg sc i 1) (xs_rg sc i 2) (xs_rg sc i 3) (xs_rg sc i 4)
  have q1 := lw_agree (.inr rfl) v1 x1 v2 x2 (f2 110 (by omega))
  obtain ⟨r, hr, K⟩ := K SH' F' e' S2 W N (some (.int (I k))) (some (.int (I b))) (clR_md c1 (fun j h => f2 j (by omega))) (hW) m2 (by omega) (by omega) e1
  refine ⟨r, hr, ?_⟩
  refine tt_ld (P := True) (M := ML_law) (pc := 1655) dL_law_1655 rfl rfl rfl rfl rfl (fun _ => ?_) trivial
  refine lw_arg 1 hi (by decide) dL_law_1656 dL_law_1657 dL_law_1659 dL_law_1660 dL_law_1661 ?_
  refine lw_arg 2 hi (by decide) dL_law_1662 dL_law_1663 dL_law_1665 dL_law_1666 dL_law_1667 ?_
  refine lw_arg 3 hi (by decide) dL_law_1668 dL_law_1669 dL_law_1671 dL_law_1672 dL_law_1673 ?_
  refine lw_arg 4 hi (by decide) dL_law_1674 dL_law_1675 dL_law_1677 dL_law_1678 dL_law_1679 ?_
  refine tt_ld (P := True) (M := ML_law) (pc := 1680) dL_law_1680 rfl rfl rfl rfl rfl (fun _ => ?_) trivial
  refine tt_scA (M := ML_law) (pc := 1681) dL_law_1681 rfl [] rfl rfl ⟨rfl, by decide, Nat.le_of_ble_eq_true rfl⟩ g1 ?_
  refine tt_st (P := True) (M := ML_law) (pc := 1684) (lsL i (some (.int (I k))) u6) dL_law_1684 rfl rfl rfl rfl rfl rfl (fun _ => ?_) trivial
  refine tt_ld (P := True) (M := ML_law) (pc := 1686) dL_law_1686 rfl rfl rfl rfl rfl (fun _ => ?_) trivial
  refine lw_arg 1 hi (by decide) dL_law_1687 dL_law_1688 dL_law_1690 dL_law_1691 dL_law_1692 ?_
  refine lw_arg 2 hi (by decide) dL_law_1693 dL_law_1694 dL_law_1696 dL_law_1697 dL_law_1698 ?_
  refine lw_arg 3 hi (by decide) dL_law_1699 dL_law_1700 dL_law_1702 dL_law_1703 dL_law_1704 ?_
  refine lw_arg 4 hi (by decide) dL_law_1705 dL_law_1706 dL_law_1708 dL_law_1709 dL_law_1710 ?_
  refine tt_vcHI (M := ML_law) (pc := 1711) dL_law_1711 rfl rfl [] rfl rfl ⟨rfl, by decide, Nat.le_of_ble_eq_true rfl⟩ c1.1.1.2.1.1 g2 ?_
  exact lw_tail c1.1.1.2.1 c1.1.1.2.2 q1 dL_law_1714 dL_law_1716 dL_law_1717 dL_law_1720 dL_law_1722 dL_law_1727 dL_law_1729 dL_law_1732 dL_law_1733 dL_law_1734 dL_law_1735 dL_law_1737 dL_law_1738 dL_law_1739 dL_law_1744 rfl K
theorem lc_25 (hc : clR SH F e S W) (hW : wfW W) (hm : mdR S N W) (hN : 0 ≤ N ∧ N < 900000000) (hi : 0 ≤ i ∧ i + 6 ≤ sc.1 ∧ sc.1 ≤ 3072) (K : LK sc i e N) : LG sc 1747 i u5 u6 SH S := by
  obtain ⟨k, SH', F', e', S', g1, c1, e1, f1, v1, x1⟩ := w_toAdvise (p1 := (xs sc i 1)) (p2 := (xs sc i 2)) hc.1.1.1 (fun _ h => k_toAdvise h) (toAdvise_cl (sc := sc)  (u3 := none) (u4 := none) (u5 := none) (u6 := none) (t := (xs sc i 1)) (x := (xs sc i 2)) hc hW (xs_rg sc i 1) (xs_rg sc i 2))
  obtain ⟨b, S2, g2, m2, v2, x2, f2⟩ := toAdvise_md (sc := sc) (SH := SH') (u3 := none) (u4 := none) (u5 := none) (u6 := none) (t := (xs sc i 1)) (x := (xs sc i 2)) c1.1.1.2.1 hW (mdR_cl hm (fun j a b => f1 j a (by omega))) (by omega) (xs_rg sc i 1) (xs_rg sc i 2)
  have q1 := lw_agree (.inr rfl) v1 x1 v2 x2 (f2 110 (by omega))
  obtain ⟨r, hr, K⟩ := K SH' F' e' S2 W N (some (.int (I k))) (some (.int (I b))) (clR_md c1 (fun j h => f2 j (by omega))) (hW) m2 (by omega) (by omega) e1
  refine ⟨r, hr, ?_⟩
  refine tt_ld (P := True) (M := ML_law) (pc := 1747) dL_law_1747 rfl rfl rfl rfl rfl (fun _ => ?_) trivial
  refine lw_arg 1 hi (by decide) dL_law_1748 dL_law_1749 dL_law_1751 dL_law_1752 dL_law_1753 ?_
  refine lw_arg 2 hi (by decide) dL_law_1754 dL_law_1755 dL_law_1757 dL_law_1758 dL_law_1759 ?_
  refine tt_ld (P := True) (M := ML_law) (pc := 1760) dL_law_1760 rfl rfl rfl rfl rfl (fun _ => ?_) trivial
  refine tt_scA (M := ML_law) (pc := 1761) dL_law_1761 rfl [] rfl rfl ⟨rfl, by decide, Nat.le_of_ble_eq_true rfl⟩ g1 ?_
  refine tt_st (P := True) (M := ML_law) (pc := 1764) (lsL i (some (.int (I k))) u6) dL_law_1764 rfl rfl rfl rfl rfl rfl (fun _ => ?_) trivial
  refine tt_ld (P := True) (M := ML_law) (pc := 1766) dL_law_1766 rfl rfl rfl rfl rfl (fun _ => ?_) trivial
  refine lw_arg 1 hi (by decide) dL_law_1767 dL_law_1768 dL_law_1770 dL_law_1771 dL_law_1772 ?_
  refine lw_arg 2 hi (by decide) dL_law_1773 dL_law_1774 dL_law_1776 dL_law_1777 dL_law_1778 ?_
  refine tt_vcHI (M := ML_law) (pc := 1779) dL_law_1779 rfl rfl [] rfl rfl ⟨rfl, by decide, Nat.le_of_ble_eq_true rfl⟩ c1.1.1.2.1.1 g2 ?_
  exact lw_tail c1.1.1.2.1 c1.1.1.2.2 q1 dL_law_1782 dL_law_1784 dL_law_1785 dL_law_1788 dL_law_1790 dL_law_1795 dL_law_1797 dL_law_1800 dL_law_1801 dL_law_1802 dL_law_1803 dL_law_1805 dL_law_1806 dL_law_1807 dL_law_1812 rfl K
theorem lc_26 (hc : clR SH F e S W) (hW : wfW W) (hm : mdR S N W) (hN : 0 ≤ N ∧ N < 900000000) (hi : 0 ≤ i ∧ i + 6 ≤ sc.1 ∧ sc.1 ≤ 3072) (K : LK sc i e N) : LG sc 1815 i u5 u6 SH S := by
  obtain ⟨k, SH', F', e', S', g1, c1, e1, f1, v1, x1⟩ := w_toRate (p1 := (xs sc i 1)) (p2 := (xs sc i 2)) hc.1.1.1 (fun _ h => k_toRate h) (toRate_cl (sc := sc)  (u3 := none) (u4 := none) (u5 := none) (u6 := none) (u7 := none) (u8 := none) (t := (xs sc i 1)) (x := (xs sc i 2)) hc hW (xs_rg sc i 1) (xs_rg sc i 2))
  obtain ⟨b, S2, g2, m2, v2, x2, f2⟩ := toRate_md (sc := sc) (SH := SH') (u3 := none) (u4 := none) (u5 := none) (u6 := none) (u7 := none) (t := (xs sc i 1)) (x := (xs sc i 2)) c1.1.1.2.1 hW (mdR_cl hm (fun j a b => f1 j a (by omega))) (by omega) (xs_rg sc i 1) (xs_rg sc i 2)
  have q1 := lw_agree (.inr rfl) v1 x1 v2 x2 (f2 110 (by omega))
  obtain ⟨r, hr, K⟩ := K SH' F' e' S2 W N (some (.int (I k))) (some (.int (I b))) (clR_md c1 (fun j h => f2 j (by omega))) (hW) m2 (by omega) (by omega) e1
  refine ⟨r, hr, ?_⟩
  refine tt_ld (P := True) (M := ML_law) (pc := 1815) dL_law_1815 rfl rfl rfl rfl rfl (fun _ => ?_) trivial
  refine lw_arg 1 hi (by decide) dL_law_1816 dL_law_1817 dL_law_1819 dL_law_1820 dL_law_1821 ?_
  refine lw_arg 2 hi (by decide) dL_law_1822 dL_law_1823 dL_law_1825 dL_law_1826 dL_law_1827 ?_
  refine tt_ld (P := True) (M := ML_law) (pc := 1828) dL_law_1828 rfl rfl rfl rfl rfl (fun _ => ?_) trivial
  refine tt_scA (M := ML_law) (pc := 1829) dL_law_1829 rfl [] rfl rfl ⟨rfl, by decide, Nat.le_of_ble_eq_true rfl⟩ g1 ?_
  refine tt_st (P := True) (M := ML_law) (pc := 1832) (lsL i (some (.int (I k))) u6) dL_law_1832 rfl rfl rfl rfl rfl rfl (fun _ => ?_) trivial
  refine tt_ld (P := True) (M := ML_law) (pc := 1834) dL_law_1834 rfl rfl rfl rfl rfl (fun _ => ?_) trivial
  refine lw_arg 1 hi (by decide) dL_law_1835 dL_law_1836 dL_law_1838 dL_law_1839 dL_law_1840 ?_
  refine lw_arg 2 hi (by decide) dL_law_1841 dL_law_1842 dL_law_1844 dL_law_1845 dL_law_1846 ?_
  refine tt_vcHI (M := ML_law) (pc := 1847) dL_law_1847 rfl rfl [] rfl rfl ⟨rfl, by decide, Nat.le_of_ble_eq_true rfl⟩ c1.1.1.2.1.1 g2 ?_
  exact lw_tail c1.1.1.2.1 c1.1.1.2.2 q1 dL_law_1850 dL_law_1852 dL_law_1853 dL_law_1856 dL_law_1858 dL_law_1863 dL_law_1865 dL_law_1868 dL_law_1869 dL_law_1870 dL_law_1871 dL_law_1873 dL_law_1874 dL_law_1875 dL_law_1880 rfl K
theorem lc_27 (hc : clR SH F e S W) (hW : wfW W) (hm : mdR S N W) (hN : 0 ≤ N ∧ N < 900000000) (hi : 0 ≤ i ∧ i + 6 ≤ sc.1 ∧ sc.1 ≤ 3072) (K : LK sc i e N) : LG sc 1883 i u5 u6 SH S := by
  obtain ⟨SH', F', e', S', g1, c1, e1, f1⟩ := note_cl (sc := sc)  (t := (xs sc i 1)) (u := (xs sc i 2)) hc hW (xs_rg sc i 1) (xs_rg sc i 2)
  obtain ⟨b, S2, g2, m2, v2, x2, f2⟩ := note_md (sc := sc) (SH := SH') (t := (xs sc i 1)) (u := (xs sc i 2)) (y := 1) c1.1.1.2.1 hW (mdR_cl hm (fun j a b => f1 j a (by omega))) (xs_rg sc i 1) (xs_rg sc i 2)
  obtain ⟨v, hv⟩ := v_note (W := W) (p1 := (xs sc i 1)) (p2 := (xs sc i 2))
  rw [hv] at g1
  obtain ⟨rfl, -⟩ := v2 v hv
  replace g1 : G sc MX10_note 0 [some (.ref 0), some (.int (I (xs sc i 1))), some (.int (I (xs sc i 2)))] [] SH S (rI b SH' S') := g1
  obtain ⟨r, hr, K⟩ := K SH' F' e' S2 (noteF W (xs sc i 1) (xs sc i 2)).2 N u5 u6 (clR_md c1 (fun j h => f2 j (by omega))) (wf_note hW) m2 (by omega) (by omega) e1
  refine ⟨r, hr, ?_⟩
  refine tt_ld (P := True) (M := ML_law) (pc := 1883) dL_law_1883 rfl rfl rfl rfl rfl (fun _ => ?_) trivial
  refine lw_arg 1 hi (by decide) dL_law_1884 dL_law_1885 dL_law_1887 dL_law_1888 dL_law_1889 ?_
  refine lw_arg 2 hi (by decide) dL_law_1890 dL_law_1891 dL_law_1893 dL_law_1894 dL_law_1895 ?_
  refine tt_vcHI (M := ML_law) (pc := 1896) dL_law_1896 rfl rfl [] rfl rfl ⟨rfl, by decide, Nat.le_of_ble_eq_true rfl⟩ hc.1.1.1.1 g1 ?_
  refine tt_ld (P := True) (M := ML_law) (pc := 1899) dL_law_1899 rfl rfl rfl rfl rfl (fun _ => ?_) trivial
  refine lw_arg 1 hi (by decide) dL_law_1900 dL_law_1901 dL_law_1903 dL_law_1904 dL_law_1905 ?_
  refine lw_arg 2 hi (by decide) dL_law_1906 dL_law_1907 dL_law_1909 dL_law_1910 dL_law_1911 ?_
  refine tt_vcHI (M := ML_law) (pc := 1912) dL_law_1912 rfl rfl [.int (I b)] rfl rfl ⟨rfl, by decide, Nat.le_of_ble_eq_true rfl⟩ c1.1.1.2.1.1 g2 ?_
  exact tt_ic_eq (P1 := True) (P2 := False) (M := ML_law) (pc := 1915) 2323 dL_law_1915 rfl (fun _ => K) (fun h => h.elim) (by rw [if_pos rfl]; trivial)
theorem lc_28 (hc : clR SH F e S W) (hW : wfW W) (hm : mdR S N W) (hN : 0 ≤ N ∧ N < 900000000) (hi : 0 ≤ i ∧ i + 6 ≤ sc.1 ∧ sc.1 ≤ 3072) (K : LK sc i e N) : LG sc 1920 i u5 u6 SH S := by
  obtain ⟨k, SH', F', e', S', g1, c1, e1, f1, v1, x1⟩ := w_guess (p1 := (xs sc i 1)) (p2 := (xs sc i 2)) (p3 := (xs sc i 3)) (p4 := (xs sc i 4)) hc.1.1.1 (fun _ h => k_guess h) (guess_cl (sc := sc)  (u5 := none) (u6 := none) (u7 := none) (u8 := none) (u9 := none) (g := (xs sc i 1)) (p := (xs sc i 2)) (c := (xs sc i 3)) (x := (xs sc i 4)) hc hW (xs_rg sc i 1) (xs_rg sc i 2) (xs_rg sc i 3) (xs_rg sc i 4))
  obtain ⟨b, S2, g2, m2, v2, x2, f2⟩ := guess_md (sc := sc) (SH := SH') (u5 := none) (u6 := none) (u7 := none) (g := (xs sc i 1)) (p := (xs sc i 2)) (c := (xs sc i 3)) (x := (xs sc i 4)) (y := 1) c1.1.1.2.1 hW (mdR_cl hm (fun j a b => f1 j a (by omega))) (by omega) (xs_rg sc i 1) (xs_rg sc i 2) (xs_rg sc i 3) (xs_rg sc i 4)
  have q1 := lw_agree (.inl rfl) v1 x1 v2 x2 (f2 110 (by omega))
  obtain ⟨r, hr, K⟩ := K SH' F' e' S2 W N (some (.int (I k))) (some (.int (I b))) (clR_md c1 (fun j h => f2 j (by omega))) (hW) m2 (by omega) (by omega) e1
  refine ⟨r, hr, ?_⟩
  refine tt_ld (P := True) (M := ML_law) (pc := 1920) dL_law_1920 rfl rfl rfl rfl rfl (fun _ => ?_) trivial
  refine lw_arg 1 hi (by decide) dL_law_1921 dL_law_1922 dL_law_1924 dL_law_1925 dL_law_1926 ?_
  refine lw_arg 2 hi (by decide) dL_law_1927 dL_law_1928 dL_law_1930 dL_law_1931 dL_law_1932 ?_
  refine lw_arg 3 hi (by decide) dL_law_1933 dL_law_1934 dL_law_1936 dL_law_1937 dL_law_1938 ?_
  refine lw_arg 4 hi (by decide) dL_law_1939 dL_law_1940 dL_law_1942 dL_law_1943 dL_law_1944 ?_
  refine tt_ld (P := True) (M := ML_law) (pc := 1945) dL_law_1945 rfl rfl rfl rfl rfl (fun _ => ?_) trivial
  refine tt_scA (M := ML_law) (pc := 1946) dL_law_1946 rfl [] rfl rfl ⟨rfl, by decide, Nat.le_of_ble_eq_true rfl⟩ g1 ?_
  refine tt_st (P := True) (M := ML_law) (pc := 1949) (lsL i (some (.int (I k))) u6) dL_law_1949 rfl rfl rfl rfl rfl rfl (fun _ => ?_) trivial
  refine tt_ld (P := True) (M := ML_law) (pc := 1951) dL_law_1951 rfl rfl rfl rfl rfl (fun _ => ?_) trivial
  refine lw_arg 1 hi (by decide) dL_law_1952 dL_law_1953 dL_law_1955 dL_law_1956 dL_law_1957 ?_
  refine lw_arg 2 hi (by decide) dL_law_1958 dL_law_1959 dL_law_1961 dL_law_1962 dL_law_1963 ?_
  refine lw_arg 3 hi (by decide) dL_law_1964 dL_law_1965 dL_law_1967 dL_law_1968 dL_law_1969 ?_
  refine lw_arg 4 hi (by decide) dL_law_1970 dL_law_1971 dL_law_1973 dL_law_1974 dL_law_1975 ?_
  refine tt_vcHI (M := ML_law) (pc := 1976) dL_law_1976 rfl rfl [] rfl rfl ⟨rfl, by decide, Nat.le_of_ble_eq_true rfl⟩ c1.1.1.2.1.1 g2 ?_
  exact lw_tail c1.1.1.2.1 c1.1.1.2.2 q1 dL_law_1979 dL_law_1981 dL_law_1982 dL_law_1985 dL_law_1987 dL_law_1992 dL_law_1994 dL_law_1997 dL_law_1998 dL_law_1999 dL_law_2000 dL_law_2002 dL_law_2003 dL_law_2004 dL_law_2009 rfl K
theorem lc_29 (hc : clR SH F e S W) (hW : wfW W) (hm : mdR S N W) (hN : 0 ≤ N ∧ N < 900000000) (hi : 0 ≤ i ∧ i + 6 ≤ sc.1 ∧ sc.1 ≤ 3072) (K : LK sc i e N) : LG sc 2012 i u5 u6 SH S := by
  obtain ⟨k, SH', F', e', S', g1, c1, e1, f1, v1, x1⟩ := w_look (p1 := (xs sc i 1)) (p2 := (xs sc i 2)) (p3 := (xs sc i 3)) (p4 := (xs sc i 4)) hc.1.1.1 (fun _ h => k_look h) (look_cl (sc := sc)  (u5 := none) (u6 := none) (u7 := none) (u8 := none) (u9 := none) (u10 := none) (g := (xs sc i 1)) (p := (xs sc i 2)) (c := (xs sc i 3)) (x := (xs sc i 4)) hc hW (xs_rg sc i 1) (xs_rg sc i 2) (xs_rg sc i 3) (xs_rg sc i 4))
  obtain ⟨b, S2, g2, m2, v2, x2, f2⟩ := look_md (sc := sc) (SH := SH') (u5 := none) (u6 := none) (u7 := none) (g := (xs sc i 1)) (p := (xs sc i 2)) (c := (xs sc i 3)) (x := (xs sc i 4)) (y := 1) c1.1.1.2.1 hW (mdR_cl hm (fun j a b => f1 j a (by omega))) (by omega) (xs_rg sc i 1) (xs_rg sc i 2) (xs_rg sc i 3) (xs_rg sc i 4)
  have q1 := lw_agree (.inl rfl) v1 x1 v2 x2 (f2 110 (by omega))
  obtain ⟨r, hr, K⟩ := K SH' F' e' S2 W N (some (.int (I k))) (some (.int (I b))) (clR_md c1 (fun j h => f2 j (by omega))) (hW) m2 (by omega) (by omega) e1
  refine ⟨r, hr, ?_⟩
  refine tt_ld (P := True) (M := ML_law) (pc := 2012) dL_law_2012 rfl rfl rfl rfl rfl (fun _ => ?_) trivial
  refine lw_arg 1 hi (by decide) dL_law_2013 dL_law_2014 dL_law_2016 dL_law_2017 dL_law_2018 ?_
  refine lw_arg 2 hi (by decide) dL_law_2019 dL_law_2020 dL_law_2022 dL_law_2023 dL_law_2024 ?_
  refine lw_arg 3 hi (by decide) dL_law_2025 dL_law_2026 dL_law_2028 dL_law_2029 dL_law_2030 ?_
  refine lw_arg 4 hi (by decide) dL_law_2031 dL_law_2032 dL_law_2034 dL_law_2035 dL_law_2036 ?_
  refine tt_ld (P := True) (M := ML_law) (pc := 2037) dL_law_2037 rfl rfl rfl rfl rfl (fun _ => ?_) trivial
  refine tt_scA (M := ML_law) (pc := 2038) dL_law_2038 rfl [] rfl rfl ⟨rfl, by decide, Nat.le_of_ble_eq_true rfl⟩ g1 ?_
  refine tt_st (P := True) (M := ML_law) (pc := 2041) (lsL i (some (.int (I k))) u6) dL_law_2041 rfl rfl rfl rfl rfl rfl (fun _ => ?_) trivial
  refine tt_ld (P := True) (M := ML_law) (pc := 2043) dL_law_2043 rfl rfl rfl rfl rfl (fun _ => ?_) trivial
  refine lw_arg 1 hi (by decide) dL_law_2044 dL_law_2045 dL_law_2047 dL_law_2048 dL_law_2049 ?_
  refine lw_arg 2 hi (by decide) dL_law_2050 dL_law_2051 dL_law_2053 dL_law_2054 dL_law_2055 ?_
  refine lw_arg 3 hi (by decide) dL_law_2056 dL_law_2057 dL_law_2059 dL_law_2060 dL_law_2061 ?_
  refine lw_arg 4 hi (by decide) dL_law_2062 dL_law_2063 dL_law_2065 dL_law_2066 dL_law_2067 ?_
  refine tt_vcHI (M := ML_law) (pc := 2068) dL_law_2068 rfl rfl [] rfl rfl ⟨rfl, by decide, Nat.le_of_ble_eq_true rfl⟩ c1.1.1.2.1.1 g2 ?_
  exact lw_tail c1.1.1.2.1 c1.1.1.2.2 q1 dL_law_2071 dL_law_2073 dL_law_2074 dL_law_2077 dL_law_2079 dL_law_2084 dL_law_2086 dL_law_2089 dL_law_2090 dL_law_2091 dL_law_2092 dL_law_2094 dL_law_2095 dL_law_2096 dL_law_2101 rfl K
theorem lc_30 (hc : clR SH F e S W) (hW : wfW W) (hm : mdR S N W) (hN : 0 ≤ N ∧ N < 900000000) (hi : 0 ≤ i ∧ i + 6 ≤ sc.1 ∧ sc.1 ≤ 3072) (K : LK sc i e N) : LG sc 2104 i u5 u6 SH S := by
  obtain ⟨SH', F', S', g1, c1, f1⟩ := forget_cl (sc := sc)   hc
  obtain ⟨S2, g2, m2, f2⟩ := forget_md (sc := sc) (SH := SH')  c1.1.1.2.1 hW (mdR_cl hm (fun j a b => f1 j a (by omega)))
  obtain ⟨r, hr, K⟩ := K SH' F' e S2 (forgW W) N u5 u6 (clR_md c1 (fun j h => f2 j (by omega))) (wf_forget hW) m2 (by omega) (by omega) (Nat.le_succ _)
  refine ⟨r, hr, ?_⟩
  refine tt_ld (P := True) (M := ML_law) (pc := 2104) dL_law_2104 rfl rfl rfl rfl rfl (fun _ => ?_) trivial
  refine tt_vcVN1 (M := ML_law) (pc := 2105) dL_law_2105 rfl rfl [] rfl rfl ⟨rfl, by decide, Nat.le_of_ble_eq_true rfl⟩ hc.1.1.1.1 g1 ?_
  refine tt_ld (P := True) (M := ML_law) (pc := 2108) dL_law_2108 rfl rfl rfl rfl rfl (fun _ => ?_) trivial
  refine tt_vcVN1 (M := ML_law) (pc := 2109) dL_law_2109 rfl rfl [] rfl rfl ⟨rfl, by decide, Nat.le_of_ble_eq_true rfl⟩ c1.1.1.2.1.1 g2 ?_
  exact tt_goto (P := True) (M := ML_law) (pc := 2112) 2323 dL_law_2112 rfl (fun _ => K) trivial
theorem lc_31 (hc : clR SH F e S W) (hW : wfW W) (hm : mdR S N W) (hN : 0 ≤ N ∧ N < 900000000) (hi : 0 ≤ i ∧ i + 6 ≤ sc.1 ∧ sc.1 ≤ 3072) (K : LK sc i e N) : LG sc 2115 i u5 u6 SH S := by
  obtain ⟨k, SH', F', e', S', g1, c1, e1, f1, v1, x1⟩ := w_dirt (p1 := (xs sc i 1)) (p2 := (xs sc i 2)) (p3 := (xs sc i 3)) (p4 := (xs sc i 4)) (p5 := (xs sc i 5)) hc.1.1.1 (fun _ h => k_dirt h) (dirt_cl (sc := sc)  (u6 := none) (u7 := none) (u8 := none) (u9 := none) (u10 := none) (g := (xs sc i 1)) (p := (xs sc i 2)) (t := (xs sc i 3)) (th := (xs sc i 4)) (u := (xs sc i 5)) hc hW (xs_rg sc i 1) (xs_rg sc i 2) (xs_rg sc i 3) (xs_rg sc i 4) (xs_rg sc i 5))
  obtain ⟨b, S2, g2, m2, v2, x2, f2⟩ := dirt_md (sc := sc) (SH := SH') (u6 := none) (u7 := none) (u8 := none) (u9 := none) (u10 := none) (u11 := none) (g := (xs sc i 1)) (p := (xs sc i 2)) (t := (xs sc i 3)) (th := (xs sc i 4)) (u := (xs sc i 5)) c1.1.1.2.1 hW (mdR_cl hm (fun j a b => f1 j a (by omega))) (by omega) (xs_rg sc i 1) (xs_rg sc i 2) (xs_rg sc i 3) (xs_rg sc i 4) (xs_rg sc i 5)
  have q1 := lw_agree (.inr rfl) v1 x1 v2 x2 (f2 110 (by omega))
  obtain ⟨r, hr, K⟩ := K SH' F' e' S2 W N (some (.int (I k))) (some (.int (I b))) (clR_md c1 (fun j h => f2 j (by omega))) (hW) m2 (by omega) (by omega) e1
  refine ⟨r, hr, ?_⟩
  refine tt_ld (P := True) (M := ML_law) (pc := 2115) dL_law_2115 rfl rfl rfl rfl rfl (fun _ => ?_) trivial
  refine lw_arg 1 hi (by decide) dL_law_2116 dL_law_2117 dL_law_2119 dL_law_2120 dL_law_2121 ?_
  refine lw_arg 2 hi (by decide) dL_law_2122 dL_law_2123 dL_law_2125 dL_law_2126 dL_law_2127 ?_
  refine lw_arg 3 hi (by decide) dL_law_2128 dL_law_2129 dL_law_2131 dL_law_2132 dL_law_2133 ?_
  refine lw_arg 4 hi (by decide) dL_law_2134 dL_law_2135 dL_law_2137 dL_law_2138 dL_law_2139 ?_
  refine lw_arg 5 hi (by decide) dL_law_2140 dL_law_2141 dL_law_2143 dL_law_2144 dL_law_2145 ?_
  refine tt_ld (P := True) (M := ML_law) (pc := 2146) dL_law_2146 rfl rfl rfl rfl rfl (fun _ => ?_) trivial
  refine tt_scA (M := ML_law) (pc := 2147) dL_law_2147 rfl [] rfl rfl ⟨rfl, by decide, Nat.le_of_ble_eq_true rfl⟩ g1 ?_
  refine tt_st (P := True) (M := ML_law) (pc := 2150) (lsL i (some (.int (I k))) u6) dL_law_2150 rfl rfl rfl rfl rfl rfl (fun _ => ?_) trivial
  refine tt_ld (P := True) (M := ML_law) (pc := 2152) dL_law_2152 rfl rfl rfl rfl rfl (fun _ => ?_) trivial
  refine lw_arg 1 hi (by decide) dL_law_2153 dL_law_2154 dL_law_2156 dL_law_2157 dL_law_2158 ?_
  refine lw_arg 2 hi (by decide) dL_law_2159 dL_law_2160 dL_law_2162 dL_law_2163 dL_law_2164 ?_
  refine lw_arg 3 hi (by decide) dL_law_2165 dL_law_2166 dL_law_2168 dL_law_2169 dL_law_2170 ?_
  refine lw_arg 4 hi (by decide) dL_law_2171 dL_law_2172 dL_law_2174 dL_law_2175 dL_law_2176 ?_
  refine lw_arg 5 hi (by decide) dL_law_2177 dL_law_2178 dL_law_2180 dL_law_2181 dL_law_2182 ?_
  refine tt_vcHI (M := ML_law) (pc := 2183) dL_law_2183 rfl rfl [] rfl rfl ⟨rfl, by decide, Nat.le_of_ble_eq_true rfl⟩ c1.1.1.2.1.1 g2 ?_
  exact lw_tail c1.1.1.2.1 c1.1.1.2.2 q1 dL_law_2186 dL_law_2188 dL_law_2189 dL_law_2192 dL_law_2194 dL_law_2199 dL_law_2201 dL_law_2204 dL_law_2205 dL_law_2206 dL_law_2207 dL_law_2209 dL_law_2210 dL_law_2211 dL_law_2216 rfl K
theorem lc_32 (hc : clR SH F e S W) (hW : wfW W) (hm : mdR S N W) (hN : 0 ≤ N ∧ N < 900000000) (hi : 0 ≤ i ∧ i + 6 ≤ sc.1 ∧ sc.1 ≤ 3072) (K : LK sc i e N) : LG sc 2219 i u5 u6 SH S := by
  obtain ⟨k, SH', F', e', S', g1, c1, e1, f1, v1, x1⟩ := w_years (p1 := (xs sc i 1)) (p2 := (xs sc i 2)) (p3 := (xs sc i 3)) hc.1.1.1 (fun _ h => k_years h) (years_cl (sc := sc)  (u4 := none) (u5 := none) (u6 := none) (s := (xs sc i 1)) (n := (xs sc i 2)) (x := (xs sc i 3)) hc hW (xs_rg sc i 1) (xs_rg sc i 2) (xs_rg sc i 3))
  obtain ⟨b, S2, g2, m2, v2, x2, f2⟩ := years_md (sc := sc) (SH := SH') (u4 := none) (u5 := none) (u6 := none) (s := (xs sc i 1)) (n := (xs sc i 2)) (x := (xs sc i 3)) c1.1.1.2.1 hW (mdR_cl hm (fun j a b => f1 j a (by omega))) (by omega) (xs_rg sc i 1) (xs_rg sc i 2) (xs_rg sc i 3)
  have q1 := lw_agree (.inr rfl) v1 x1 v2 x2 (f2 110 (by omega))
  obtain ⟨r, hr, K⟩ := K SH' F' e' S2 W N (some (.int (I k))) (some (.int (I b))) (clR_md c1 (fun j h => f2 j (by omega))) (hW) m2 (by omega) (by omega) e1
  refine ⟨r, hr, ?_⟩
  refine tt_ld (P := True) (M := ML_law) (pc := 2219) dL_law_2219 rfl rfl rfl rfl rfl (fun _ => ?_) trivial
  refine lw_arg 1 hi (by decide) dL_law_2220 dL_law_2221 dL_law_2223 dL_law_2224 dL_law_2225 ?_
  refine lw_arg 2 hi (by decide) dL_law_2226 dL_law_2227 dL_law_2229 dL_law_2230 dL_law_2231 ?_
  refine lw_arg 3 hi (by decide) dL_law_2232 dL_law_2233 dL_law_2235 dL_law_2236 dL_law_2237 ?_
  refine tt_ld (P := True) (M := ML_law) (pc := 2238) dL_law_2238 rfl rfl rfl rfl rfl (fun _ => ?_) trivial
  refine tt_scA (M := ML_law) (pc := 2239) dL_law_2239 rfl [] rfl rfl ⟨rfl, by decide, Nat.le_of_ble_eq_true rfl⟩ g1 ?_
  refine tt_st (P := True) (M := ML_law) (pc := 2242) (lsL i (some (.int (I k))) u6) dL_law_2242 rfl rfl rfl rfl rfl rfl (fun _ => ?_) trivial
  refine tt_ld (P := True) (M := ML_law) (pc := 2244) dL_law_2244 rfl rfl rfl rfl rfl (fun _ => ?_) trivial
  refine lw_arg 1 hi (by decide) dL_law_2245 dL_law_2246 dL_law_2248 dL_law_2249 dL_law_2250 ?_
  refine lw_arg 2 hi (by decide) dL_law_2251 dL_law_2252 dL_law_2254 dL_law_2255 dL_law_2256 ?_
  refine lw_arg 3 hi (by decide) dL_law_2257 dL_law_2258 dL_law_2260 dL_law_2261 dL_law_2262 ?_
  refine tt_vcHI (M := ML_law) (pc := 2263) dL_law_2263 rfl rfl [] rfl rfl ⟨rfl, by decide, Nat.le_of_ble_eq_true rfl⟩ c1.1.1.2.1.1 g2 ?_
  exact lw_tail c1.1.1.2.1 c1.1.1.2.2 q1 dL_law_2266 dL_law_2268 dL_law_2269 dL_law_2272 dL_law_2274 dL_law_2279 dL_law_2281 dL_law_2284 dL_law_2285 dL_law_2286 dL_law_2287 dL_law_2289 dL_law_2290 dL_law_2291 dL_law_2296 rfl K
theorem lc_33 (hc : clR SH F e S W) (hW : wfW W) (hm : mdR S N W) (hN : 0 ≤ N ∧ N < 900000000) (hi : 0 ≤ i ∧ i + 6 ≤ sc.1 ∧ sc.1 ≤ 3072) (K : LK sc i e N) : LG sc 2299 i u5 u6 SH S := by
  obtain ⟨SH', F', S', g1, c1, f1⟩ := image_cl (sc := sc)   hc hW
  obtain ⟨S2, g2, m2, f2⟩ := image_md (sc := sc) (SH := SH') (u := none) c1.1.1.2.1 hW (mdR_cl hm (fun j a b => f1 j a (by omega)))
  obtain ⟨r, hr, K⟩ := K SH' F' e S2 (imgW W) N u5 u6 (clR_md c1 (fun j h => f2 j (by omega))) (wf_image hW) m2 (by omega) (by omega) (Nat.le_succ _)
  refine ⟨r, hr, ?_⟩
  refine tt_ld (P := True) (M := ML_law) (pc := 2299) dL_law_2299 rfl rfl rfl rfl rfl (fun _ => ?_) trivial
  refine tt_vcVN1 (M := ML_law) (pc := 2300) dL_law_2300 rfl rfl [] rfl rfl ⟨rfl, by decide, Nat.le_of_ble_eq_true rfl⟩ hc.1.1.1.1 g1 ?_
  refine tt_ld (P := True) (M := ML_law) (pc := 2303) dL_law_2303 rfl rfl rfl rfl rfl (fun _ => ?_) trivial
  refine tt_vcVN1 (M := ML_law) (pc := 2304) dL_law_2304 rfl rfl [] rfl rfl ⟨rfl, by decide, Nat.le_of_ble_eq_true rfl⟩ c1.1.1.2.1.1 g2 ?_
  exact tt_goto (P := True) (M := ML_law) (pc := 2307) 2323 dL_law_2307 rfl (fun _ => K) trivial
theorem lc_34 (hc : clR SH F e S W) (hW : wfW W) (hm : mdR S N W) (hN : 0 ≤ N ∧ N < 900000000) (hi : 0 ≤ i ∧ i + 6 ≤ sc.1 ∧ sc.1 ≤ 3072) (K : LK sc i e N) : LG sc 2310 i u5 u6 SH S := by
  obtain ⟨SH', F', e', S', g1, c1, e1, f1⟩ := restore_cl (sc := sc)   hc hW
  obtain ⟨b, S2, g2, m2, v2, x2, f2⟩ := restore_md (sc := sc) (SH := SH') (u := none) (y := 1) c1.1.1.2.1 hW (mdR_cl hm (fun j a b => f1 j a (by omega)))
  obtain ⟨v, hv⟩ := v_restore (W := W)
  rw [hv] at g1
  obtain ⟨rfl, -⟩ := v2 v hv
  replace g1 : G sc MX10_restore 0 [some (.ref 0)] [] SH S (rI b SH' S') := g1
  obtain ⟨r, hr, K⟩ := K SH' F' e' S2 (restF W ).2 N u5 u6 (clR_md c1 (fun j h => f2 j (by omega))) (wf_restore hW) m2 (by omega) (by omega) e1
  refine ⟨r, hr, ?_⟩
  refine tt_ld (P := True) (M := ML_law) (pc := 2310) dL_law_2310 rfl rfl rfl rfl rfl (fun _ => ?_) trivial
  refine tt_vcHI (M := ML_law) (pc := 2311) dL_law_2311 rfl rfl [] rfl rfl ⟨rfl, by decide, Nat.le_of_ble_eq_true rfl⟩ hc.1.1.1.1 g1 ?_
  refine tt_ld (P := True) (M := ML_law) (pc := 2314) dL_law_2314 rfl rfl rfl rfl rfl (fun _ => ?_) trivial
  refine tt_vcHI (M := ML_law) (pc := 2315) dL_law_2315 rfl rfl [.int (I b)] rfl rfl ⟨rfl, by decide, Nat.le_of_ble_eq_true rfl⟩ c1.1.1.2.1.1 g2 ?_
  exact tt_ic_eq (P1 := True) (P2 := False) (M := ML_law) (pc := 2318) 2323 dL_law_2318 rfl (fun _ => K) (fun h => h.elim) (by rw [if_pos rfl]; trivial)
end
