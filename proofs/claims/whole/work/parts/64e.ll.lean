/-! ===== the law: its cases ===== -/
section Law
variable {b L : Nat} {xs : Nat → Int32} {l : Launch} {K : Kx} {F : List Nat} {x m out : Nat} {am : Nat → Nat} {hh : List (Nat × Nat × Nat × Nat)} {nm : String} {H : Hp} {g k0 : Nat}
set_option maxRecDepth 100000 in
set_option maxHeartbeats 4000000 in
theorem law_19 (htr : l.stackTraces = false) (fx : FX F m out am) (W : WS K F x m out am H g k0) (hg : 7 * g + 7 ≤ L) (hL : L ≤ 3584) (kend : ∀ H3 k, WS K F x m out am H3 (g + 1) k → JL (b, L, xs) l K hh nm 1899 [] [(4, .int (nI (7 * g))), (0, .ref b), (1, .ref x), (2, .ref m), (3, .ref out)] H3 (77 + 400 * (g + 1)) (25893 + 7000 * (g + 1))) :
    JL (b, L, xs) l K hh nm 1409 [] [(4, .int (nI (7 * g))), (0, .ref b), (1, .ref x), (2, .ref m), (3, .ref out)] H (77 + 400 * g) (25893 + 7000 * g) := by
  have hg9 : g + 1 < 2 ^ 20 := by omega
  refine JX_aload_n dL_law_1409 2 rfl ?_
  refine JL_rd (j := 1) dL_law_1410 dL_law_1411 dL_law_1413 (by decide) dL_law_1414 dL_law_1415 (q0 := 1) (q4 := 0) rfl rfl (by omega) (by omega) ?_
  refine JX_aload_n dL_law_1416 4 rfl ?_
  refine JX_callSW (n := 3) (As := [.ref x, .int (xs (7 * g + 1)), .ref out]) (rest := []) dL_law_1417 gL_law_L_drop rfl (by decide +kernel) rfl (by decide) (Nat.le_of_ble_eq_true rfl) (by omega) (by omega) (lw_drop htr fx W hg9) kI_no (kI_kx (fun kq H2 Gq => ?_))
  obtain ⟨kn, r, rfl, k5, hom, ⟨f, hf, hf0⟩, Gq⟩ := Gq
  refine JX_istore (lv' := [(5, .int (nI kn)), (4, .int (nI (7 * g))), (0, .ref b), (1, .ref x), (2, .ref m), (3, .ref out)]) dL_law_1420 (by decide) rfl ?_
  refine JX_aload_n dL_law_1422 4 rfl ?_
  refine JL_rd (j := 1) dL_law_1423 dL_law_1424 dL_law_1426 (by decide) dL_law_1427 dL_law_1428 (q0 := 2) (q4 := 1) rfl rfl (by omega) (by omega) ?_
  refine JX_callV0 (ci := 4) (n := 1) (As := [.int (xs (7 * g + 1))]) (rest := []) dL_law_1429 rfl gL_law_X4_drop rfl (by decide +kernel) rfl (by decide) hom (Nat.le_of_ble_eq_true rfl) (by omega) (by omega) Gq kH_no (kH_kx (fun r' H3 Gr => ?_))
  obtain ⟨W3, o3, hr⟩ := Gr
  refine JX_istore (lv' := [(6, .int r'), (5, .int (nI kn)), (4, .int (nI (7 * g))), (0, .ref b), (1, .ref x), (2, .ref m), (3, .ref out)]) dL_law_1432 (by decide) rfl ?_
  refine JX_aload_n dL_law_1434 5 rfl ?_
  refine JX_callV0 (ci := 4) (n := 0) (As := []) (rest := []) dL_law_1435 rfl gL_law_X4_thrown rfl (by decide +kernel) rfl (by decide) W3.om (Nat.le_of_ble_eq_true rfl) (by omega) (by omega) (W3.thr htr) kI_no (kI_kx (fun tq H4 Gt => ?_))
  obtain ⟨rfl, rfl⟩ := Gt
  refine JX_iload dL_law_1438 1 rfl ?_
  refine JX_icmp_eq (tgt := 1445) dL_law_1440 (by decide) (fun _ => ?_) (fun c => absurd rfl c)
  refine JX_iload dL_law_1445 1 rfl ?_
  refine JX_if_ne (tgt := 1462) dL_law_1447 (by decide) (fun _ => ?_) (fun c => ?_)
  · skip
    refine JX_goto (tgt := 1899) dL_law_1462 (by decide) ?_
    exact JX_sub [2, 3, 4, 5, 6] rfl (JX_wide (by omega) (by omega) (kend _ _ W3))
  · have kn0 : kn = 0 := (nI_eq (by omega) (by omega)).mp c
    have hrr := hr kn0
    have hff := hf0 kn0
    refine JX_aload_n dL_law_1450 6 rfl ?_
    refine JX_iconst (v := nI 0) dL_law_1451 (by decide) ?_
    refine JX_lald (v := f 0) dL_law_1452 (aJ_x (o3.trans hf) (by decide) (by decide)) ?_
    refine JX_iload dL_law_1453 0 rfl ?_
    refine JX_i2l dL_law_1455 ?_
    refine JX_lcmp dL_law_1456 ?_
    refine JX_if_eq (tgt := 1462) dL_law_1457 (by decide) (fun _ => ?_) (fun c9 => absurd (by rw [hff, ← hrr]; exact cmp_self _) c9)
    refine JX_goto (tgt := 1899) dL_law_1462 (by decide) ?_
    exact JX_sub [2, 3, 4, 5, 6] rfl (JX_wide (by omega) (by omega) (kend _ _ W3))
set_option maxRecDepth 100000 in
set_option maxHeartbeats 4000000 in
theorem law_20 (htr : l.stackTraces = false) (fx : FX F m out am) (W : WS K F x m out am H g k0) (hg : 7 * g + 7 ≤ L) (hL : L ≤ 3584) (kend : ∀ H3 k, WS K F x m out am H3 (g + 1) k → JL (b, L, xs) l K hh nm 1899 [] [(4, .int (nI (7 * g))), (0, .ref b), (1, .ref x), (2, .ref m), (3, .ref out)] H3 (77 + 400 * (g + 1)) (25893 + 7000 * (g + 1))) :
    JL (b, L, xs) l K hh nm 1465 [] [(4, .int (nI (7 * g))), (0, .ref b), (1, .ref x), (2, .ref m), (3, .ref out)] H (77 + 400 * g) (25893 + 7000 * g) := by
  have hg9 : g + 1 < 2 ^ 20 := by omega
  refine JX_aload_n dL_law_1465 2 rfl ?_
  refine JL_rd (j := 1) dL_law_1466 dL_law_1467 dL_law_1469 (by decide) dL_law_1470 dL_law_1471 (q0 := 1) (q4 := 0) rfl rfl (by omega) (by omega) ?_
  refine JL_rd (j := 2) dL_law_1472 dL_law_1473 dL_law_1475 (by decide) dL_law_1476 dL_law_1477 (q0 := 1) (q4 := 0) rfl rfl (by omega) (by omega) ?_
  refine JL_rd (j := 3) dL_law_1478 dL_law_1479 dL_law_1481 (by decide) dL_law_1482 dL_law_1483 (q0 := 1) (q4 := 0) rfl rfl (by omega) (by omega) ?_
  refine JX_i2l dL_law_1484 ?_
  refine JX_bipush (v := nI 32) dL_law_1485 (by decide) ?_
  refine JX_lshl dL_law_1487 ?_
  refine JL_rd (j := 4) dL_law_1488 dL_law_1489 dL_law_1491 (by decide) dL_law_1492 dL_law_1493 (q0 := 1) (q4 := 0) rfl rfl (by omega) (by omega) ?_
  refine JX_i2l dL_law_1494 ?_
  refine JX_ldc2 (v := 4294967295) dL_law_1495 law_k93 ?_
  refine JX_land dL_law_1498 ?_
  refine JX_lor dL_law_1499 ?_
  refine JL_rd (j := 5) dL_law_1500 dL_law_1501 dL_law_1503 (by decide) dL_law_1504 dL_law_1505 (q0 := 1) (q4 := 0) rfl rfl (by omega) (by omega) ?_
  refine JL_rd6 (j := 6) dL_law_1506 dL_law_1507 dL_law_1509 (by decide) dL_law_1511 dL_law_1512 (q0 := 1) (q4 := 0) rfl rfl (by omega) (by omega) ?_
  refine JX_aload_n dL_law_1513 4 rfl ?_
  refine JX_callSW (n := 7) (As := [.ref x, .int (xs (7 * g + 1)), .int (xs (7 * g + 2)), .long (((((xs (7 * g + 3)).toInt64) <<< ((nI 32).toInt64 &&& 63)) ||| (((xs (7 * g + 4)).toInt64) &&& 4294967295))), .int (xs (7 * g + 5)), .int (xs (7 * g + 6)), .ref out]) (rest := []) dL_law_1514 gL_law_L_ask rfl (by decide +kernel) rfl (by decide) (Nat.le_of_ble_eq_true rfl) (by omega) (by omega) (lw_ask htr fx W hg9) kI_no (kI_kx (fun kq H2 Gq => ?_))
  obtain ⟨kn, r, rfl, k5, hom, ⟨f, hf, hf0⟩, Gq⟩ := Gq
  refine JX_istore (lv' := [(5, .int (nI kn)), (4, .int (nI (7 * g))), (0, .ref b), (1, .ref x), (2, .ref m), (3, .ref out)]) dL_law_1517 (by decide) rfl ?_
  refine JX_aload_n dL_law_1519 4 rfl ?_
  refine JL_rd (j := 1) dL_law_1520 dL_law_1521 dL_law_1523 (by decide) dL_law_1524 dL_law_1525 (q0 := 2) (q4 := 1) rfl rfl (by omega) (by omega) ?_
  refine JL_rd (j := 2) dL_law_1526 dL_law_1527 dL_law_1529 (by decide) dL_law_1530 dL_law_1531 (q0 := 2) (q4 := 1) rfl rfl (by omega) (by omega) ?_
  refine JL_rd (j := 3) dL_law_1532 dL_law_1533 dL_law_1535 (by decide) dL_law_1536 dL_law_1537 (q0 := 2) (q4 := 1) rfl rfl (by omega) (by omega) ?_
  refine JX_i2l dL_law_1538 ?_
  refine JX_bipush (v := nI 32) dL_law_1539 (by decide) ?_
  refine JX_lshl dL_law_1541 ?_
  refine JL_rd (j := 4) dL_law_1542 dL_law_1543 dL_law_1545 (by decide) dL_law_1546 dL_law_1547 (q0 := 2) (q4 := 1) rfl rfl (by omega) (by omega) ?_
  refine JX_i2l dL_law_1548 ?_
  refine JX_ldc2 (v := 4294967295) dL_law_1549 law_k93 ?_
  refine JX_land dL_law_1552 ?_
  refine JX_lor dL_law_1553 ?_
  refine JL_rd (j := 5) dL_law_1554 dL_law_1555 dL_law_1557 (by decide) dL_law_1558 dL_law_1559 (q0 := 2) (q4 := 1) rfl rfl (by omega) (by omega) ?_
  refine JL_rd6 (j := 6) dL_law_1560 dL_law_1561 dL_law_1563 (by decide) dL_law_1565 dL_law_1566 (q0 := 2) (q4 := 1) rfl rfl (by omega) (by omega) ?_
  refine JX_callV0 (ci := 4) (n := 5) (As := [.int (xs (7 * g + 1)), .int (xs (7 * g + 2)), .long (((((xs (7 * g + 3)).toInt64) <<< ((nI 32).toInt64 &&& 63)) ||| (((xs (7 * g + 4)).toInt64) &&& 4294967295))), .int (xs (7 * g + 5)), .int (xs (7 * g + 6))]) (rest := []) dL_law_1567 rfl gL_law_X4_ask rfl (by decide +kernel) rfl (by decide) hom (Nat.le_of_ble_eq_true rfl) (by omega) (by omega) Gq kH_no (kH_kx (fun r' H3 Gr => ?_))
  obtain ⟨W3, o3, hr⟩ := Gr
  refine JX_lstore (lv' := [(6, .long r'), (5, .int (nI kn)), (4, .int (nI (7 * g))), (0, .ref b), (1, .ref x), (2, .ref m), (3, .ref out)]) dL_law_1570 (by decide) rfl ?_
  refine JX_aload_n dL_law_1572 5 rfl ?_
  refine JX_callV0 (ci := 4) (n := 0) (As := []) (rest := []) dL_law_1573 rfl gL_law_X4_thrown rfl (by decide +kernel) rfl (by decide) W3.om (Nat.le_of_ble_eq_true rfl) (by omega) (by omega) (W3.thr htr) kI_no (kI_kx (fun tq H4 Gt => ?_))
  obtain ⟨rfl, rfl⟩ := Gt
  refine JX_iload dL_law_1576 1 rfl ?_
  refine JX_icmp_eq (tgt := 1583) dL_law_1578 (by decide) (fun _ => ?_) (fun c => absurd rfl c)
  refine JX_iload dL_law_1583 1 rfl ?_
  refine JX_if_ne (tgt := 1599) dL_law_1585 (by decide) (fun _ => ?_) (fun c => ?_)
  · skip
    refine JX_goto (tgt := 1899) dL_law_1599 (by decide) ?_
    exact JX_sub [2, 3, 4, 5, 6] rfl (JX_wide (by omega) (by omega) (kend _ _ W3))
  · have kn0 : kn = 0 := (nI_eq (by omega) (by omega)).mp c
    have hrr := hr kn0
    have hff := hf0 kn0
    refine JX_aload_n dL_law_1588 6 rfl ?_
    refine JX_iconst (v := nI 0) dL_law_1589 (by decide) ?_
    refine JX_lald (v := f 0) dL_law_1590 (aJ_x (o3.trans hf) (by decide) (by decide)) ?_
    refine JX_lload dL_law_1591 0 rfl ?_
    refine JX_lcmp dL_law_1593 ?_
    refine JX_if_eq (tgt := 1599) dL_law_1594 (by decide) (fun _ => ?_) (fun c9 => absurd (by rw [hff, ← hrr]; exact cmp_self _) c9)
    refine JX_goto (tgt := 1899) dL_law_1599 (by decide) ?_
    exact JX_sub [2, 3, 4, 5, 6] rfl (JX_wide (by omega) (by omega) (kend _ _ W3))
set_option maxRecDepth 100000 in
set_option maxHeartbeats 4000000 in
theorem law_21 (htr : l.stackTraces = false) (fx : FX F m out am) (W : WS K F x m out am H g k0) (hg : 7 * g + 7 ≤ L) (hL : L ≤ 3584) (kend : ∀ H3 k, WS K F x m out am H3 (g + 1) k → JL (b, L, xs) l K hh nm 1899 [] [(4, .int (nI (7 * g))), (0, .ref b), (1, .ref x), (2, .ref m), (3, .ref out)] H3 (77 + 400 * (g + 1)) (25893 + 7000 * (g + 1))) :
    JL (b, L, xs) l K hh nm 1602 [] [(4, .int (nI (7 * g))), (0, .ref b), (1, .ref x), (2, .ref m), (3, .ref out)] H (77 + 400 * g) (25893 + 7000 * g) := by
  have hg9 : g + 1 < 2 ^ 20 := by omega
  refine JX_aload_n dL_law_1602 2 rfl ?_
  refine JL_rd (j := 1) dL_law_1603 dL_law_1604 dL_law_1606 (by decide) dL_law_1607 dL_law_1608 (q0 := 1) (q4 := 0) rfl rfl (by omega) (by omega) ?_
  refine JL_rd (j := 2) dL_law_1609 dL_law_1610 dL_law_1612 (by decide) dL_law_1613 dL_law_1614 (q0 := 1) (q4 := 0) rfl rfl (by omega) (by omega) ?_
  refine JX_aload_n dL_law_1615 4 rfl ?_
  refine JX_callSW (n := 4) (As := [.ref x, .int (xs (7 * g + 1)), .int (xs (7 * g + 2)), .ref out]) (rest := []) dL_law_1616 gL_law_L_entries rfl (by decide +kernel) rfl (by decide) (Nat.le_of_ble_eq_true rfl) (by omega) (by omega) (lw_entries htr fx W hg9) kI_no (kI_kx (fun kq H2 Gq => ?_))
  obtain ⟨kn, r, rfl, k5, hom, ⟨f, hf, hf0⟩, Gq⟩ := Gq
  refine JX_istore (lv' := [(5, .int (nI kn)), (4, .int (nI (7 * g))), (0, .ref b), (1, .ref x), (2, .ref m), (3, .ref out)]) dL_law_1619 (by decide) rfl ?_
  refine JX_aload_n dL_law_1621 4 rfl ?_
  refine JL_rd (j := 1) dL_law_1622 dL_law_1623 dL_law_1625 (by decide) dL_law_1626 dL_law_1627 (q0 := 2) (q4 := 1) rfl rfl (by omega) (by omega) ?_
  refine JL_rd (j := 2) dL_law_1628 dL_law_1629 dL_law_1631 (by decide) dL_law_1632 dL_law_1633 (q0 := 2) (q4 := 1) rfl rfl (by omega) (by omega) ?_
  refine JX_callV0 (ci := 4) (n := 2) (As := [.int (xs (7 * g + 1)), .int (xs (7 * g + 2))]) (rest := []) dL_law_1634 rfl gL_law_X4_entries rfl (by decide +kernel) rfl (by decide) hom (Nat.le_of_ble_eq_true rfl) (by omega) (by omega) Gq kH_no (kH_kx (fun r' H3 Gr => ?_))
  obtain ⟨W3, o3, hr⟩ := Gr
  refine JX_istore (lv' := [(6, .int r'), (5, .int (nI kn)), (4, .int (nI (7 * g))), (0, .ref b), (1, .ref x), (2, .ref m), (3, .ref out)]) dL_law_1637 (by decide) rfl ?_
  refine JX_aload_n dL_law_1639 5 rfl ?_
  refine JX_callV0 (ci := 4) (n := 0) (As := []) (rest := []) dL_law_1640 rfl gL_law_X4_thrown rfl (by decide +kernel) rfl (by decide) W3.om (Nat.le_of_ble_eq_true rfl) (by omega) (by omega) (W3.thr htr) kI_no (kI_kx (fun tq H4 Gt => ?_))
  obtain ⟨rfl, rfl⟩ := Gt
  refine JX_iload dL_law_1643 1 rfl ?_
  refine JX_icmp_eq (tgt := 1650) dL_law_1645 (by decide) (fun _ => ?_) (fun c => absurd rfl c)
  refine JX_iload dL_law_1650 1 rfl ?_
  refine JX_if_ne (tgt := 1667) dL_law_1652 (by decide) (fun _ => ?_) (fun c => ?_)
  · skip
    refine JX_goto (tgt := 1899) dL_law_1667 (by decide) ?_
    exact JX_sub [2, 3, 4, 5, 6] rfl (JX_wide (by omega) (by omega) (kend _ _ W3))
  · have kn0 : kn = 0 := (nI_eq (by omega) (by omega)).mp c
    have hrr := hr kn0
    have hff := hf0 kn0
    refine JX_aload_n dL_law_1655 6 rfl ?_
    refine JX_iconst (v := nI 0) dL_law_1656 (by decide) ?_
    refine JX_lald (v := f 0) dL_law_1657 (aJ_x (o3.trans hf) (by decide) (by decide)) ?_
    refine JX_iload dL_law_1658 0 rfl ?_
    refine JX_i2l dL_law_1660 ?_
    refine JX_lcmp dL_law_1661 ?_
    refine JX_if_eq (tgt := 1667) dL_law_1662 (by decide) (fun _ => ?_) (fun c9 => absurd (by rw [hff, ← hrr]; exact cmp_self _) c9)
    refine JX_goto (tgt := 1899) dL_law_1667 (by decide) ?_
    exact JX_sub [2, 3, 4, 5, 6] rfl (JX_wide (by omega) (by omega) (kend _ _ W3))
set_option maxRecDepth 100000 in
set_option maxHeartbeats 4000000 in
theorem law_22 (htr : l.stackTraces = false) (fx : FX F m out am) (W : WS K F x m out am H g k0) (hg : 7 * g + 7 ≤ L) (hL : L ≤ 3584) (kend : ∀ H3 k, WS K F x m out am H3 (g + 1) k → JL (b, L, xs) l K hh nm 1899 [] [(4, .int (nI (7 * g))), (0, .ref b), (1, .ref x), (2, .ref m), (3, .ref out)] H3 (77 + 400 * (g + 1)) (25893 + 7000 * (g + 1))) :
    JL (b, L, xs) l K hh nm 1670 [] [(4, .int (nI (7 * g))), (0, .ref b), (1, .ref x), (2, .ref m), (3, .ref out)] H (77 + 400 * g) (25893 + 7000 * g) := by
  have hg9 : g + 1 < 2 ^ 20 := by omega
  refine JX_aload_n dL_law_1670 2 rfl ?_
  refine JL_rd (j := 1) dL_law_1671 dL_law_1672 dL_law_1674 (by decide) dL_law_1675 dL_law_1676 (q0 := 1) (q4 := 0) rfl rfl (by omega) (by omega) ?_
  refine JX_aload_n dL_law_1677 4 rfl ?_
  refine JX_callSW (n := 3) (As := [.ref x, .int (xs (7 * g + 1)), .ref out]) (rest := []) dL_law_1678 gL_law_L_restore rfl (by decide +kernel) rfl (by decide) (Nat.le_of_ble_eq_true rfl) (by omega) (by omega) (lw_restore htr fx W hg9) kI_no (kI_kx (fun kq H2 Gq => ?_))
  obtain ⟨kn, r, rfl, k5, hom, ⟨f, hf, hf0⟩, Gq⟩ := Gq
  refine JX_istore (lv' := [(5, .int (nI kn)), (4, .int (nI (7 * g))), (0, .ref b), (1, .ref x), (2, .ref m), (3, .ref out)]) dL_law_1681 (by decide) rfl ?_
  refine JX_aload_n dL_law_1683 4 rfl ?_
  refine JL_rd (j := 1) dL_law_1684 dL_law_1685 dL_law_1687 (by decide) dL_law_1688 dL_law_1689 (q0 := 2) (q4 := 1) rfl rfl (by omega) (by omega) ?_
  refine JX_callV0 (ci := 4) (n := 1) (As := [.int (xs (7 * g + 1))]) (rest := []) dL_law_1690 rfl gL_law_X4_restore rfl (by decide +kernel) rfl (by decide) hom (Nat.le_of_ble_eq_true rfl) (by omega) (by omega) Gq kH_no (kH_kx (fun r' H3 Gr => ?_))
  obtain ⟨W3, o3, hr⟩ := Gr
  refine JX_istore (lv' := [(6, .int r'), (5, .int (nI kn)), (4, .int (nI (7 * g))), (0, .ref b), (1, .ref x), (2, .ref m), (3, .ref out)]) dL_law_1693 (by decide) rfl ?_
  refine JX_aload_n dL_law_1695 5 rfl ?_
  refine JX_callV0 (ci := 4) (n := 0) (As := []) (rest := []) dL_law_1696 rfl gL_law_X4_thrown rfl (by decide +kernel) rfl (by decide) W3.om (Nat.le_of_ble_eq_true rfl) (by omega) (by omega) (W3.thr htr) kI_no (kI_kx (fun tq H4 Gt => ?_))
  obtain ⟨rfl, rfl⟩ := Gt
  refine JX_iload dL_law_1699 1 rfl ?_
  refine JX_icmp_eq (tgt := 1706) dL_law_1701 (by decide) (fun _ => ?_) (fun c => absurd rfl c)
  refine JX_iload dL_law_1706 1 rfl ?_
  refine JX_if_ne (tgt := 1723) dL_law_1708 (by decide) (fun _ => ?_) (fun c => ?_)
  · skip
    refine JX_goto (tgt := 1899) dL_law_1723 (by decide) ?_
    exact JX_sub [2, 3, 4, 5, 6] rfl (JX_wide (by omega) (by omega) (kend _ _ W3))
  · have kn0 : kn = 0 := (nI_eq (by omega) (by omega)).mp c
    have hrr := hr kn0
    have hff := hf0 kn0
    refine JX_aload_n dL_law_1711 6 rfl ?_
    refine JX_iconst (v := nI 0) dL_law_1712 (by decide) ?_
    refine JX_lald (v := f 0) dL_law_1713 (aJ_x (o3.trans hf) (by decide) (by decide)) ?_
    refine JX_iload dL_law_1714 0 rfl ?_
    refine JX_i2l dL_law_1716 ?_
    refine JX_lcmp dL_law_1717 ?_
    refine JX_if_eq (tgt := 1723) dL_law_1718 (by decide) (fun _ => ?_) (fun c9 => absurd (by rw [hff, ← hrr]; exact cmp_self _) c9)
    refine JX_goto (tgt := 1899) dL_law_1723 (by decide) ?_
    exact JX_sub [2, 3, 4, 5, 6] rfl (JX_wide (by omega) (by omega) (kend _ _ W3))
set_option maxRecDepth 100000 in
set_option maxHeartbeats 4000000 in
theorem law_23 (htr : l.stackTraces = false) (fx : FX F m out am) (W : WS K F x m out am H g k0) (hg : 7 * g + 7 ≤ L) (hL : L ≤ 3584) (kend : ∀ H3 k, WS K F x m out am H3 (g + 1) k → JL (b, L, xs) l K hh nm 1899 [] [(4, .int (nI (7 * g))), (0, .ref b), (1, .ref x), (2, .ref m), (3, .ref out)] H3 (77 + 400 * (g + 1)) (25893 + 7000 * (g + 1))) :
    JL (b, L, xs) l K hh nm 1726 [] [(4, .int (nI (7 * g))), (0, .ref b), (1, .ref x), (2, .ref m), (3, .ref out)] H (77 + 400 * g) (25893 + 7000 * g) := by
  have hg9 : g + 1 < 2 ^ 20 := by omega
  refine JX_aload_n dL_law_1726 2 rfl ?_
  refine JL_rd (j := 1) dL_law_1727 dL_law_1728 dL_law_1730 (by decide) dL_law_1731 dL_law_1732 (q0 := 1) (q4 := 0) rfl rfl (by omega) (by omega) ?_
  refine JL_rd (j := 2) dL_law_1733 dL_law_1734 dL_law_1736 (by decide) dL_law_1737 dL_law_1738 (q0 := 1) (q4 := 0) rfl rfl (by omega) (by omega) ?_
  refine JL_rd (j := 3) dL_law_1739 dL_law_1740 dL_law_1742 (by decide) dL_law_1743 dL_law_1744 (q0 := 1) (q4 := 0) rfl rfl (by omega) (by omega) ?_
  refine JX_aload_n dL_law_1745 4 rfl ?_
  refine JX_callSW (n := 5) (As := [.ref x, .int (xs (7 * g + 1)), .int (xs (7 * g + 2)), .int (xs (7 * g + 3)), .ref out]) (rest := []) dL_law_1746 gL_law_L_move rfl (by decide +kernel) rfl (by decide) (Nat.le_of_ble_eq_true rfl) (by omega) (by omega) (lw_move htr fx W hg9) kI_no (kI_kx (fun kq H2 Gq => ?_))
  obtain ⟨kn, r, rfl, k5, hom, ⟨f, hf, hf0⟩, Gq⟩ := Gq
  refine JX_istore (lv' := [(5, .int (nI kn)), (4, .int (nI (7 * g))), (0, .ref b), (1, .ref x), (2, .ref m), (3, .ref out)]) dL_law_1749 (by decide) rfl ?_
  refine JX_aload_n dL_law_1751 4 rfl ?_
  refine JL_rd (j := 1) dL_law_1752 dL_law_1753 dL_law_1755 (by decide) dL_law_1756 dL_law_1757 (q0 := 2) (q4 := 1) rfl rfl (by omega) (by omega) ?_
  refine JL_rd (j := 2) dL_law_1758 dL_law_1759 dL_law_1761 (by decide) dL_law_1762 dL_law_1763 (q0 := 2) (q4 := 1) rfl rfl (by omega) (by omega) ?_
  refine JL_rd (j := 3) dL_law_1764 dL_law_1765 dL_law_1767 (by decide) dL_law_1768 dL_law_1769 (q0 := 2) (q4 := 1) rfl rfl (by omega) (by omega) ?_
  refine JX_callV0 (ci := 4) (n := 3) (As := [.int (xs (7 * g + 1)), .int (xs (7 * g + 2)), .int (xs (7 * g + 3))]) (rest := []) dL_law_1770 rfl gL_law_X4_move rfl (by decide +kernel) rfl (by decide) hom (Nat.le_of_ble_eq_true rfl) (by omega) (by omega) Gq kH_no (kH_kx (fun r' H3 Gr => ?_))
  obtain ⟨W3, o3, hr⟩ := Gr
  refine JX_istore (lv' := [(6, .int r'), (5, .int (nI kn)), (4, .int (nI (7 * g))), (0, .ref b), (1, .ref x), (2, .ref m), (3, .ref out)]) dL_law_1773 (by decide) rfl ?_
  refine JX_aload_n dL_law_1775 5 rfl ?_
  refine JX_callV0 (ci := 4) (n := 0) (As := []) (rest := []) dL_law_1776 rfl gL_law_X4_thrown rfl (by decide +kernel) rfl (by decide) W3.om (Nat.le_of_ble_eq_true rfl) (by omega) (by omega) (W3.thr htr) kI_no (kI_kx (fun tq H4 Gt => ?_))
  obtain ⟨rfl, rfl⟩ := Gt
  refine JX_iload dL_law_1779 1 rfl ?_
  refine JX_icmp_eq (tgt := 1786) dL_law_1781 (by decide) (fun _ => ?_) (fun c => absurd rfl c)
  refine JX_iload dL_law_1786 1 rfl ?_
  refine JX_if_ne (tgt := 1803) dL_law_1788 (by decide) (fun _ => ?_) (fun c => ?_)
  · skip
    refine JX_goto (tgt := 1899) dL_law_1803 (by decide) ?_
    exact JX_sub [2, 3, 4, 5, 6] rfl (JX_wide (by omega) (by omega) (kend _ _ W3))
  · have kn0 : kn = 0 := (nI_eq (by omega) (by omega)).mp c
    have hrr := hr kn0
    have hff := hf0 kn0
    refine JX_aload_n dL_law_1791 6 rfl ?_
    refine JX_iconst (v := nI 0) dL_law_1792 (by decide) ?_
    refine JX_lald (v := f 0) dL_law_1793 (aJ_x (o3.trans hf) (by decide) (by decide)) ?_
    refine JX_iload dL_law_1794 0 rfl ?_
    refine JX_i2l dL_law_1796 ?_
    refine JX_lcmp dL_law_1797 ?_
    refine JX_if_eq (tgt := 1803) dL_law_1798 (by decide) (fun _ => ?_) (fun c9 => absurd (by rw [hff, ← hrr]; exact cmp_self _) c9)
    refine JX_goto (tgt := 1899) dL_law_1803 (by decide) ?_
    exact JX_sub [2, 3, 4, 5, 6] rfl (JX_wide (by omega) (by omega) (kend _ _ W3))
set_option maxRecDepth 100000 in
set_option maxHeartbeats 4000000 in
theorem law_24 (htr : l.stackTraces = false) (fx : FX F m out am) (W : WS K F x m out am H g k0) (hg : 7 * g + 7 ≤ L) (hL : L ≤ 3584) (kend : ∀ H3 k, WS K F x m out am H3 (g + 1) k → JL (b, L, xs) l K hh nm 1899 [] [(4, .int (nI (7 * g))), (0, .ref b), (1, .ref x), (2, .ref m), (3, .ref out)] H3 (77 + 400 * (g + 1)) (25893 + 7000 * (g + 1))) :
    JL (b, L, xs) l K hh nm 1806 [] [(4, .int (nI (7 * g))), (0, .ref b), (1, .ref x), (2, .ref m), (3, .ref out)] H (77 + 400 * g) (25893 + 7000 * g) := by
  have hg9 : g + 1 < 2 ^ 20 := by omega
  refine JX_aload_n dL_law_1806 2 rfl ?_
  refine JL_rd (j := 1) dL_law_1807 dL_law_1808 dL_law_1810 (by decide) dL_law_1811 dL_law_1812 (q0 := 1) (q4 := 0) rfl rfl (by omega) (by omega) ?_
  refine JL_rd (j := 2) dL_law_1813 dL_law_1814 dL_law_1816 (by decide) dL_law_1817 dL_law_1818 (q0 := 1) (q4 := 0) rfl rfl (by omega) (by omega) ?_
  refine JX_aload_n dL_law_1819 4 rfl ?_
  refine JX_callSW (n := 4) (As := [.ref x, .int (xs (7 * g + 1)), .int (xs (7 * g + 2)), .ref out]) (rest := []) dL_law_1820 gL_law_L_of rfl (by decide +kernel) rfl (by decide) (Nat.le_of_ble_eq_true rfl) (by omega) (by omega) (lw_of htr fx W hg9) kI_no (kI_kx (fun kq H2 Gq => ?_))
  obtain ⟨kn, r, rfl, k5, hom, ⟨f, hf, hf0⟩, Gq⟩ := Gq
  refine JX_istore (lv' := [(5, .int (nI kn)), (4, .int (nI (7 * g))), (0, .ref b), (1, .ref x), (2, .ref m), (3, .ref out)]) dL_law_1823 (by decide) rfl ?_
  refine JX_aload_n dL_law_1825 4 rfl ?_
  refine JL_rd (j := 1) dL_law_1826 dL_law_1827 dL_law_1829 (by decide) dL_law_1830 dL_law_1831 (q0 := 2) (q4 := 1) rfl rfl (by omega) (by omega) ?_
  refine JL_rd (j := 2) dL_law_1832 dL_law_1833 dL_law_1835 (by decide) dL_law_1836 dL_law_1837 (q0 := 2) (q4 := 1) rfl rfl (by omega) (by omega) ?_
  refine JX_callV0 (ci := 4) (n := 2) (As := [.int (xs (7 * g + 1)), .int (xs (7 * g + 2))]) (rest := []) dL_law_1838 rfl gL_law_X4_of rfl (by decide +kernel) rfl (by decide) hom (Nat.le_of_ble_eq_true rfl) (by omega) (by omega) Gq kH_no (kH_kx (fun r' H3 Gr => ?_))
  obtain ⟨W3, o3, hr⟩ := Gr
  refine JX_istore (lv' := [(6, .int r'), (5, .int (nI kn)), (4, .int (nI (7 * g))), (0, .ref b), (1, .ref x), (2, .ref m), (3, .ref out)]) dL_law_1841 (by decide) rfl ?_
  refine JX_aload_n dL_law_1843 5 rfl ?_
  refine JX_callV0 (ci := 4) (n := 0) (As := []) (rest := []) dL_law_1844 rfl gL_law_X4_thrown rfl (by decide +kernel) rfl (by decide) W3.om (Nat.le_of_ble_eq_true rfl) (by omega) (by omega) (W3.thr htr) kI_no (kI_kx (fun tq H4 Gt => ?_))
  obtain ⟨rfl, rfl⟩ := Gt
  refine JX_iload dL_law_1847 1 rfl ?_
  refine JX_icmp_eq (tgt := 1854) dL_law_1849 (by decide) (fun _ => ?_) (fun c => absurd rfl c)
  refine JX_iload dL_law_1854 1 rfl ?_
  refine JX_if_ne (tgt := 1871) dL_law_1856 (by decide) (fun _ => ?_) (fun c => ?_)
  · skip
    refine JX_goto (tgt := 1899) dL_law_1871 (by decide) ?_
    exact JX_sub [2, 3, 4, 5, 6] rfl (JX_wide (by omega) (by omega) (kend _ _ W3))
  · have kn0 : kn = 0 := (nI_eq (by omega) (by omega)).mp c
    have hrr := hr kn0
    have hff := hf0 kn0
    refine JX_aload_n dL_law_1859 6 rfl ?_
    refine JX_iconst (v := nI 0) dL_law_1860 (by decide) ?_
    refine JX_lald (v := f 0) dL_law_1861 (aJ_x (o3.trans hf) (by decide) (by decide)) ?_
    refine JX_iload dL_law_1862 0 rfl ?_
    refine JX_i2l dL_law_1864 ?_
    refine JX_lcmp dL_law_1865 ?_
    refine JX_if_eq (tgt := 1871) dL_law_1866 (by decide) (fun _ => ?_) (fun c9 => absurd (by rw [hff, ← hrr]; exact cmp_self _) c9)
    refine JX_goto (tgt := 1899) dL_law_1871 (by decide) ?_
    exact JX_sub [2, 3, 4, 5, 6] rfl (JX_wide (by omega) (by omega) (kend _ _ W3))
set_option maxRecDepth 100000 in
set_option maxHeartbeats 4000000 in
theorem law_25 (htr : l.stackTraces = false) (fx : FX F m out am) (W : WS K F x m out am H g k0) (hg : 7 * g + 7 ≤ L) (hL : L ≤ 3584) (kend : ∀ H3 k, WS K F x m out am H3 (g + 1) k → JL (b, L, xs) l K hh nm 1899 [] [(4, .int (nI (7 * g))), (0, .ref b), (1, .ref x), (2, .ref m), (3, .ref out)] H3 (77 + 400 * (g + 1)) (25893 + 7000 * (g + 1))) :
    JL (b, L, xs) l K hh nm 1874 [] [(4, .int (nI (7 * g))), (0, .ref b), (1, .ref x), (2, .ref m), (3, .ref out)] H (77 + 400 * g) (25893 + 7000 * g) := by
  have hg9 : g + 1 < 2 ^ 20 := by omega
  refine JX_aload_n dL_law_1874 2 rfl ?_
  refine JL_rd (j := 1) dL_law_1875 dL_law_1876 dL_law_1878 (by decide) dL_law_1879 dL_law_1880 (q0 := 1) (q4 := 0) rfl rfl (by omega) (by omega) ?_
  refine JX_callV0 (ci := 3) (n := 1) (As := [.int (xs (7 * g + 1))]) (rest := []) dL_law_1881 rfl gL_law_X3_told rfl (by decide +kernel) rfl (by decide) W.ob (Nat.le_of_ble_eq_true rfl) (by omega) (by omega) (tw_told htr fx W hg9) kI_no (kI_kx (fun a H2 Gq => ?_))
  obtain ⟨⟨⟨f, hf⟩, hom⟩, Gq⟩ := Gq
  refine JX_aload_n dL_law_1884 3 rfl ?_
  refine JL_rd (j := 1) dL_law_1885 dL_law_1886 dL_law_1888 (by decide) dL_law_1889 dL_law_1890 (q0 := 1) (q4 := 0) rfl rfl (by omega) (by omega) ?_
  refine JX_callV0 (ci := 4) (n := 1) (As := [.int (xs (7 * g + 1))]) (rest := [.int a]) dL_law_1891 rfl gL_law_X4_told rfl (by decide +kernel) rfl (by decide) hom (Nat.le_of_ble_eq_true rfl) (by omega) (by omega) (Gq _ ⟨fun _ _ => rfl, f, hf⟩) kH_no (kH_kx (fun r' H3 Gr => ?_))
  obtain ⟨W3, o3, hr⟩ := Gr
  refine JX_icmp_eq (tgt := 1899) dL_law_1894 (by decide) (fun _ => ?_) (fun c => absurd (hr rfl).symm c)
  exact JX_sub [0, 1, 2, 3, 4] rfl (JX_wide (by omega) (by omega) (kend _ _ W3))
end Law
