/-! THE LAW'S ARMS, on -/
section LAW
variable {G : ph_G} {B u : Nat × Nat} {d I f dr t n ev wi nx kp dy sa L lc pc : Nat} {l5 l6 : Option Value} {hi : Nat → Nat → Int32} {hl : Nat → Nat → Int64} {Q : Option Value → ph_H → Prop}
theorem lc_1324 (hN : gN G ≤ 3072) (hI : I + 6 ≤ gN G) (h : JA hi hi f dr n ev wi nx kp dy sa L lc pc) (hu : u.1 ≤ B.1 ∧ u.2 ≤ B.2) (K : LK G B d I u Q) : wq G B (d + 41) 326 1324 (lwL I l5 l6) [] u (HP hi hl f dr t) Q := by
  refine wq_aload_n q326_1324 rfl ?_
  refine wq_aload_n q326_1325 rfl ?_
  refine wq_iload q326_1326 rfl ?_
  refine wq_iconst q326_1328 ?_
  refine wq_iadd q326_1329 ?_
  refine wq_scr q326_1330 (sc_in 1 rfl (by decide) hI hN) ?_
  refine cL (As := [_]) q326_1331 m_160 rfl rfl rfl ⟨by decide, rfl⟩ hu rfl (s_belief h _ (fun r hi1 hl1 f1 dr1 t1 ha => ?_))
  refine wq_aload_n q326_1334 rfl ?_
  refine wq_aload_n q326_1335 rfl ?_
  refine wq_iload q326_1336 rfl ?_
  refine wq_iconst q326_1338 ?_
  refine wq_iadd q326_1339 ?_
  refine wq_scr q326_1340 (sc_in 1 rfl (by decide) hI hN) ?_
  refine cL (As := [_]) q326_1341 m_273 rfl rfl rfl ⟨by decide, rfl⟩ hu rfl (ha _ (fun hi2 hl2 t2 hJ => ?_))
  refine wq_icmp_eq q326_1344 (fun _ => ?_) (fun c => absurd rfl c)
  exact K _ _ _ _ _ _ _ _ (Nat.le_succ _) (Nat.le_add_right _ _) hJ
theorem lc_1349 (hN : gN G ≤ 3072) (hI : I + 6 ≤ gN G) (h : JA hi hi f dr n ev wi nx kp dy sa L lc pc) (hu : u.1 ≤ B.1 ∧ u.2 ≤ B.2) (K : LK G B d I u Q) : wq G B (d + 41) 326 1349 (lwL I l5 l6) [] u (HP hi hl f dr t) Q := by
  refine wq_aload_n q326_1349 rfl ?_
  refine wq_aload_n q326_1350 rfl ?_
  refine wq_iload q326_1351 rfl ?_
  refine wq_iconst q326_1353 ?_
  refine wq_iadd q326_1354 ?_
  refine wq_scr q326_1355 (sc_in 1 rfl (by decide) hI hN) ?_
  refine cL (As := [_]) q326_1356 m_135 rfl rfl rfl ⟨by decide, rfl⟩ hu rfl (s_trust h _ (fun r hi1 hl1 f1 dr1 t1 ha => ?_))
  refine wq_aload_n q326_1359 rfl ?_
  refine wq_aload_n q326_1360 rfl ?_
  refine wq_iload q326_1361 rfl ?_
  refine wq_iconst q326_1363 ?_
  refine wq_iadd q326_1364 ?_
  refine wq_scr q326_1365 (sc_in 1 rfl (by decide) hI hN) ?_
  refine cL (As := [_]) q326_1366 m_274 rfl rfl rfl ⟨by decide, rfl⟩ hu rfl (ha _ (fun hi2 hl2 t2 hJ => ?_))
  refine wq_icmp_eq q326_1369 (fun _ => ?_) (fun c => absurd rfl c)
  exact K _ _ _ _ _ _ _ _ (Nat.le_succ _) (Nat.le_add_right _ _) hJ
theorem lc_1374 (hN : gN G ≤ 3072) (hI : I + 6 ≤ gN G) (h : JA hi hi f dr n ev wi nx kp dy sa L lc pc) (hu : u.1 ≤ B.1 ∧ u.2 ≤ B.2) (K : LK G B d I u Q) : wq G B (d + 41) 326 1374 (lwL I l5 l6) [] u (HP hi hl f dr t) Q := by
  refine wq_aload_n q326_1374 rfl ?_
  refine wq_aload_n q326_1375 rfl ?_
  refine wq_iload q326_1376 rfl ?_
  refine wq_iconst q326_1378 ?_
  refine wq_iadd q326_1379 ?_
  refine wq_scr q326_1380 (sc_in 1 rfl (by decide) hI hN) ?_
  refine wq_aload_n q326_1381 rfl ?_
  refine wq_iload q326_1382 rfl ?_
  refine wq_iconst q326_1384 ?_
  refine wq_iadd q326_1385 ?_
  refine wq_scr q326_1386 (sc_in 2 rfl (by decide) hI hN) ?_
  refine cL (As := [_, _]) q326_1387 m_134 rfl rfl rfl ⟨by decide, rfl⟩ hu rfl (s_escape h _ (fun r hi1 hl1 f1 dr1 t1 ha => ?_))
  refine wq_aload_n q326_1390 rfl ?_
  refine wq_aload_n q326_1391 rfl ?_
  refine wq_iload q326_1392 rfl ?_
  refine wq_iconst q326_1394 ?_
  refine wq_iadd q326_1395 ?_
  refine wq_scr q326_1396 (sc_in 1 rfl (by decide) hI hN) ?_
  refine wq_aload_n q326_1397 rfl ?_
  refine wq_iload q326_1398 rfl ?_
  refine wq_iconst q326_1400 ?_
  refine wq_iadd q326_1401 ?_
  refine wq_scr q326_1402 (sc_in 2 rfl (by decide) hI hN) ?_
  refine cL (As := [_, _]) q326_1403 m_276 rfl rfl rfl ⟨by decide, rfl⟩ hu rfl (ha _ (fun hi2 hl2 t2 hJ => ?_))
  refine wq_icmp_eq q326_1406 (fun _ => ?_) (fun c => absurd rfl c)
  exact K _ _ _ _ _ _ _ _ (Nat.le_succ _) (Nat.le_add_right _ _) hJ
theorem lc_1411 (hN : gN G ≤ 3072) (hI : I + 6 ≤ gN G) (h : JA hi hi f dr n ev wi nx kp dy sa L lc pc) (hu : u.1 ≤ B.1 ∧ u.2 ≤ B.2) (K : LK G B d I u Q) : wq G B (d + 41) 326 1411 (lwL I l5 l6) [] u (HP hi hl f dr t) Q := by
  refine wq_aload_n q326_1411 rfl ?_
  refine cL (As := []) q326_1412 m_136 rfl rfl rfl ⟨by decide, rfl⟩ hu rfl (s_wears h _ (fun r hi1 hl1 f1 dr1 t1 ha => ?_))
  refine wq_aload_n q326_1415 rfl ?_
  refine cL (As := []) q326_1416 m_277 rfl rfl rfl ⟨by decide, rfl⟩ hu rfl (ha _ (fun hi2 hl2 t2 hJ => ?_))
  refine wq_icmp_eq q326_1419 (fun _ => ?_) (fun c => absurd rfl c)
  exact K _ _ _ _ _ _ _ _ (Nat.le_succ _) (Nat.le_add_right _ _) hJ
theorem lc_1424 (hN : gN G ≤ 3072) (hI : I + 6 ≤ gN G) (h : JA hi hi f dr n ev wi nx kp dy sa L lc pc) (hu : u.1 ≤ B.1 ∧ u.2 ≤ B.2) (K : LK G B d I u Q) : wq G B (d + 41) 326 1424 (lwL I l5 l6) [] u (HP hi hl f dr t) Q := by
  refine wq_aload_n q326_1424 rfl ?_
  refine wq_aload_n q326_1425 rfl ?_
  refine wq_iload q326_1426 rfl ?_
  refine wq_iconst q326_1428 ?_
  refine wq_iadd q326_1429 ?_
  refine wq_scr q326_1430 (sc_in 1 rfl (by decide) hI hN) ?_
  refine cL (As := [_]) q326_1431 m_133 rfl rfl rfl ⟨by decide, rfl⟩ hu rfl (s_listen h _ (fun r hi1 hl1 f1 dr1 t1 ha => ?_))
  refine wq_aload_n q326_1434 rfl ?_
  refine wq_aload_n q326_1435 rfl ?_
  refine wq_iload q326_1436 rfl ?_
  refine wq_iconst q326_1438 ?_
  refine wq_iadd q326_1439 ?_
  refine wq_scr q326_1440 (sc_in 1 rfl (by decide) hI hN) ?_
  refine cL (As := [_]) q326_1441 m_278 rfl rfl rfl ⟨by decide, rfl⟩ hu rfl (ha _ (fun hi2 hl2 t2 hJ => ?_))
  refine wq_icmp_eq q326_1444 (fun _ => ?_) (fun c => absurd rfl c)
  exact K _ _ _ _ _ _ _ _ (Nat.le_succ _) (Nat.le_add_right _ _) hJ
theorem lc_1449 (hN : gN G ≤ 3072) (hI : I + 6 ≤ gN G) (h : JA hi hi f dr n ev wi nx kp dy sa L lc pc) (hu : u.1 ≤ B.1 ∧ u.2 ≤ B.2) (K : LK G B d I u Q) : wq G B (d + 41) 326 1449 (lwL I l5 l6) [] u (HP hi hl f dr t) Q := by
  refine wq_aload_n q326_1449 rfl ?_
  refine cL (As := []) q326_1450 m_150 rfl rfl rfl ⟨by decide, rfl⟩ hu rfl (s_merits h _ (fun r hi1 hl1 f1 dr1 t1 ha => ?_))
  refine wq_aload_n q326_1453 rfl ?_
  refine cL (As := []) q326_1454 m_279 rfl rfl rfl ⟨by decide, rfl⟩ hu rfl (ha _ (fun hi2 hl2 t2 hJ => ?_))
  refine wq_icmp_eq q326_1457 (fun _ => ?_) (fun c => absurd rfl c)
  exact K _ _ _ _ _ _ _ _ (Nat.le_succ _) (Nat.le_add_right _ _) hJ
theorem lc_1462 (hN : gN G ≤ 3072) (hI : I + 6 ≤ gN G) (h : JA hi hi f dr n ev wi nx kp dy sa L lc pc) (hu : u.1 ≤ B.1 ∧ u.2 ≤ B.2) (K : LK G B d I u Q) : wq G B (d + 41) 326 1462 (lwL I l5 l6) [] u (HP hi hl f dr t) Q := by
  refine wq_aload_n q326_1462 rfl ?_
  refine wq_aload_n q326_1463 rfl ?_
  refine wq_iload q326_1464 rfl ?_
  refine wq_iconst q326_1466 ?_
  refine wq_iadd q326_1467 ?_
  refine wq_scr q326_1468 (sc_in 1 rfl (by decide) hI hN) ?_
  refine cL (As := [_]) q326_1469 m_140 rfl rfl rfl ⟨by decide, rfl⟩ hu rfl (s_swap h _ (fun r hi1 hl1 f1 dr1 t1 ha => ?_))
  refine wq_aload_n q326_1472 rfl ?_
  refine wq_aload_n q326_1473 rfl ?_
  refine wq_iload q326_1474 rfl ?_
  refine wq_iconst q326_1476 ?_
  refine wq_iadd q326_1477 ?_
  refine wq_scr q326_1478 (sc_in 1 rfl (by decide) hI hN) ?_
  refine cL (As := [_]) q326_1479 m_280 rfl rfl rfl ⟨by decide, rfl⟩ hu rfl (ha _ (fun hi2 hl2 t2 hJ => ?_))
  refine wq_icmp_eq q326_1482 (fun _ => ?_) (fun c => absurd rfl c)
  exact K _ _ _ _ _ _ _ _ (Nat.le_succ _) (Nat.le_add_right _ _) hJ
theorem lc_1487 (hN : gN G ≤ 3072) (hI : I + 6 ≤ gN G) (h : JA hi hi f dr n ev wi nx kp dy sa L lc pc) (hu : u.1 ≤ B.1 ∧ u.2 ≤ B.2) (K : LK G B d I u Q) : wq G B (d + 41) 326 1487 (lwL I l5 l6) [] u (HP hi hl f dr t) Q := by
  refine wq_aload_n q326_1487 rfl ?_
  refine cL (As := []) q326_1488 m_151 rfl rfl rfl ⟨by decide, rfl⟩ hu rfl (s_quiet h _ (fun r hi1 hl1 f1 dr1 t1 ha => ?_))
  refine wq_aload_n q326_1491 rfl ?_
  refine cL (As := []) q326_1492 m_281 rfl rfl rfl ⟨by decide, rfl⟩ hu rfl (ha _ (fun hi2 hl2 t2 hJ => ?_))
  refine wq_icmp_eq q326_1495 (fun _ => ?_) (fun c => absurd rfl c)
  exact K _ _ _ _ _ _ _ _ (Nat.le_succ _) (Nat.le_add_right _ _) hJ
theorem lc_1500 (hN : gN G ≤ 3072) (hI : I + 6 ≤ gN G) (h : JA hi hi f dr n ev wi nx kp dy sa L lc pc) (hu : u.1 ≤ B.1 ∧ u.2 ≤ B.2) (K : LK G B d I u Q) : wq G B (d + 41) 326 1500 (lwL I l5 l6) [] u (HP hi hl f dr t) Q := by
  refine wq_aload_n q326_1500 rfl ?_
  refine cL (As := []) q326_1501 m_152 rfl rfl rfl ⟨by decide, rfl⟩ hu rfl (s_rich h _ (fun r hi1 hl1 f1 dr1 t1 ha => ?_))
  refine wq_aload_n q326_1504 rfl ?_
  refine cL (As := []) q326_1505 m_282 rfl rfl rfl ⟨by decide, rfl⟩ hu rfl (ha _ (fun hi2 hl2 t2 hJ => ?_))
  refine wq_icmp_eq q326_1508 (fun _ => ?_) (fun c => absurd rfl c)
  exact K _ _ _ _ _ _ _ _ (Nat.le_succ _) (Nat.le_add_right _ _) hJ
theorem lc_1513 (hN : gN G ≤ 3072) (hI : I + 6 ≤ gN G) (h : JA hi hi f dr n ev wi nx kp dy sa L lc pc) (hu : u.1 ≤ B.1 ∧ u.2 ≤ B.2) (K : LK G B d I u Q) : wq G B (d + 41) 326 1513 (lwL I l5 l6) [] u (HP hi hl f dr t) Q := by
  refine wq_aload_n q326_1513 rfl ?_
  refine cL (As := []) q326_1514 m_153 rfl rfl rfl ⟨by decide, rfl⟩ hu rfl (s_most h _ (fun r hi1 hl1 f1 dr1 t1 ha => ?_))
  refine wq_aload_n q326_1517 rfl ?_
  refine cL (As := []) q326_1518 m_283 rfl rfl rfl ⟨by decide, rfl⟩ hu rfl (ha _ (fun hi2 hl2 t2 hJ => ?_))
  refine wq_icmp_eq q326_1521 (fun _ => ?_) (fun c => absurd rfl c)
  exact K _ _ _ _ _ _ _ _ (Nat.le_succ _) (Nat.le_add_right _ _) hJ
theorem lc_1526 (hN : gN G ≤ 3072) (hI : I + 6 ≤ gN G) (h : JA hi hi f dr n ev wi nx kp dy sa L lc pc) (hu : u.1 ≤ B.1 ∧ u.2 ≤ B.2) (K : LK G B d I u Q) : wq G B (d + 41) 326 1526 (lwL I l5 l6) [] u (HP hi hl f dr t) Q := by
  refine wq_aload_n q326_1526 rfl ?_
  refine wq_aload_n q326_1527 rfl ?_
  refine wq_iload q326_1528 rfl ?_
  refine wq_iconst q326_1530 ?_
  refine wq_iadd q326_1531 ?_
  refine wq_scr q326_1532 (sc_in 1 rfl (by decide) hI hN) ?_
  refine cL (As := [_]) q326_1533 m_141 rfl rfl rfl ⟨by decide, rfl⟩ hu rfl (s_price h _ (fun r hi1 hl1 f1 dr1 t1 ha => ?_))
  refine wq_aload_n q326_1536 rfl ?_
  refine wq_aload_n q326_1537 rfl ?_
  refine wq_iload q326_1538 rfl ?_
  refine wq_iconst q326_1540 ?_
  refine wq_iadd q326_1541 ?_
  refine wq_scr q326_1542 (sc_in 1 rfl (by decide) hI hN) ?_
  refine cL (As := [_]) q326_1543 m_284 rfl rfl rfl ⟨by decide, rfl⟩ hu rfl (ha _ (fun hi2 hl2 t2 hJ => ?_))
  refine wq_icmp_eq q326_1546 (fun _ => ?_) (fun c => absurd rfl c)
  exact K _ _ _ _ _ _ _ _ (Nat.le_succ _) (Nat.le_add_right _ _) hJ
theorem lc_1551 (hN : gN G ≤ 3072) (hI : I + 6 ≤ gN G) (h : JA hi hi f dr n ev wi nx kp dy sa L lc pc) (hu : u.1 ≤ B.1 ∧ u.2 ≤ B.2) (K : LK G B d I u Q) : wq G B (d + 41) 326 1551 (lwL I l5 l6) [] u (HP hi hl f dr t) Q := by
  refine wq_aload_n q326_1551 rfl ?_
  refine wq_aload_n q326_1552 rfl ?_
  refine wq_iload q326_1553 rfl ?_
  refine wq_iconst q326_1555 ?_
  refine wq_iadd q326_1556 ?_
  refine wq_scr q326_1557 (sc_in 1 rfl (by decide) hI hN) ?_
  refine wq_aload_n q326_1558 rfl ?_
  refine wq_iload q326_1559 rfl ?_
  refine wq_iconst q326_1561 ?_
  refine wq_iadd q326_1562 ?_
  refine wq_scr q326_1563 (sc_in 2 rfl (by decide) hI hN) ?_
  refine wq_aload_n q326_1564 rfl ?_
  refine wq_iload q326_1565 rfl ?_
  refine wq_iconst q326_1567 ?_
  refine wq_iadd q326_1568 ?_
  refine wq_scr q326_1569 (sc_in 3 rfl (by decide) hI hN) ?_
  refine wq_aload_n q326_1570 rfl ?_
  refine wq_iload q326_1571 rfl ?_
  refine wq_iconst q326_1573 ?_
  refine wq_iadd q326_1574 ?_
  refine wq_scr q326_1575 (sc_in 4 rfl (by decide) hI hN) ?_
  refine cL (As := [_, _, _, _]) q326_1576 m_142 rfl rfl rfl ⟨by decide, rfl⟩ hu rfl (s_buys h _ (fun r hi1 hl1 f1 dr1 t1 ha => ?_))
  refine wq_aload_n q326_1579 rfl ?_
  refine wq_aload_n q326_1580 rfl ?_
  refine wq_iload q326_1581 rfl ?_
  refine wq_iconst q326_1583 ?_
  refine wq_iadd q326_1584 ?_
  refine wq_scr q326_1585 (sc_in 1 rfl (by decide) hI hN) ?_
  refine wq_aload_n q326_1586 rfl ?_
  refine wq_iload q326_1587 rfl ?_
  refine wq_iconst q326_1589 ?_
  refine wq_iadd q326_1590 ?_
  refine wq_scr q326_1591 (sc_in 2 rfl (by decide) hI hN) ?_
  refine wq_aload_n q326_1592 rfl ?_
  refine wq_iload q326_1593 rfl ?_
  refine wq_iconst q326_1595 ?_
  refine wq_iadd q326_1596 ?_
  refine wq_scr q326_1597 (sc_in 3 rfl (by decide) hI hN) ?_
  refine wq_aload_n q326_1598 rfl ?_
  refine wq_iload q326_1599 rfl ?_
  refine wq_iconst q326_1601 ?_
  refine wq_iadd q326_1602 ?_
  refine wq_scr q326_1603 (sc_in 4 rfl (by decide) hI hN) ?_
  refine cL (As := [_, _, _, _]) q326_1604 m_287 rfl rfl rfl ⟨by decide, rfl⟩ hu rfl (ha _ (fun hi2 hl2 t2 hJ => ?_))
  refine wq_icmp_eq q326_1607 (fun _ => ?_) (fun c => absurd rfl c)
  exact K _ _ _ _ _ _ _ _ (Nat.le_succ _) (Nat.le_add_right _ _) hJ
theorem lc_1612 (hN : gN G ≤ 3072) (hI : I + 6 ≤ gN G) (h : JA hi hi f dr n ev wi nx kp dy sa L lc pc) (hu : u.1 ≤ B.1 ∧ u.2 ≤ B.2) (K : LK G B d I u Q) : wq G B (d + 41) 326 1612 (lwL I l5 l6) [] u (HP hi hl f dr t) Q := by
  refine wq_aload_n q326_1612 rfl ?_
  refine wq_aload_n q326_1613 rfl ?_
  refine wq_iload q326_1614 rfl ?_
  refine wq_iconst q326_1616 ?_
  refine wq_iadd q326_1617 ?_
  refine wq_scr q326_1618 (sc_in 1 rfl (by decide) hI hN) ?_
  refine wq_aload_n q326_1619 rfl ?_
  refine wq_iload q326_1620 rfl ?_
  refine wq_iconst q326_1622 ?_
  refine wq_iadd q326_1623 ?_
  refine wq_scr q326_1624 (sc_in 2 rfl (by decide) hI hN) ?_
  refine wq_aload_n q326_1625 rfl ?_
  refine wq_iload q326_1626 rfl ?_
  refine wq_iconst q326_1628 ?_
  refine wq_iadd q326_1629 ?_
  refine wq_scr q326_1630 (sc_in 3 rfl (by decide) hI hN) ?_
  refine cL (As := [_, _, _]) q326_1631 m_143 rfl rfl rfl ⟨by decide, rfl⟩ hu rfl (s_rests h _ (fun r hi1 hl1 f1 dr1 t1 ha => ?_))
  refine wq_aload_n q326_1634 rfl ?_
  refine wq_aload_n q326_1635 rfl ?_
  refine wq_iload q326_1636 rfl ?_
  refine wq_iconst q326_1638 ?_
  refine wq_iadd q326_1639 ?_
  refine wq_scr q326_1640 (sc_in 1 rfl (by decide) hI hN) ?_
  refine wq_aload_n q326_1641 rfl ?_
  refine wq_iload q326_1642 rfl ?_
  refine wq_iconst q326_1644 ?_
  refine wq_iadd q326_1645 ?_
  refine wq_scr q326_1646 (sc_in 2 rfl (by decide) hI hN) ?_
  refine wq_aload_n q326_1647 rfl ?_
  refine wq_iload q326_1648 rfl ?_
  refine wq_iconst q326_1650 ?_
  refine wq_iadd q326_1651 ?_
  refine wq_scr q326_1652 (sc_in 3 rfl (by decide) hI hN) ?_
  refine cL (As := [_, _, _]) q326_1653 m_288 rfl rfl rfl ⟨by decide, rfl⟩ hu rfl (ha _ (fun hi2 hl2 t2 hJ => ?_))
  refine wq_icmp_eq q326_1656 (fun _ => ?_) (fun c => absurd rfl c)
  exact K _ _ _ _ _ _ _ _ (Nat.le_succ _) (Nat.le_add_right _ _) hJ
theorem lc_1661 (hN : gN G ≤ 3072) (hI : I + 6 ≤ gN G) (h : JA hi hi f dr n ev wi nx kp dy sa L lc pc) (hu : u.1 ≤ B.1 ∧ u.2 ≤ B.2) (K : LK G B d I u Q) : wq G B (d + 41) 326 1661 (lwL I l5 l6) [] u (HP hi hl f dr t) Q := by
  refine wq_aload_n q326_1661 rfl ?_
  refine cL (As := []) q326_1662 m_117 rfl rfl rfl ⟨by decide, rfl⟩ hu rfl (s_image h _ (fun r hi1 hl1 f1 dr1 t1 ha => ?_))
  refine wq_aload_n q326_1665 rfl ?_
  refine cL (As := []) q326_1666 m_289 rfl rfl rfl ⟨by decide, rfl⟩ hu rfl (ha _ (fun hi2 hl2 t2 hJ => ?_))
  refine wq_icmp_eq q326_1669 (fun _ => ?_) (fun c => absurd rfl c)
  exact K _ _ _ _ _ _ _ _ (Nat.le_succ _) (Nat.le_add_right _ _) hJ
theorem lc_1674 (hN : gN G ≤ 3072) (hI : I + 6 ≤ gN G) (h : JA hi hi f dr n ev wi nx kp dy sa L lc pc) (hu : u.1 ≤ B.1 ∧ u.2 ≤ B.2) (K : LK G B d I u Q) : wq G B (d + 41) 326 1674 (lwL I l5 l6) [] u (HP hi hl f dr t) Q := by
  refine wq_aload_n q326_1674 rfl ?_
  refine cL (As := []) q326_1675 m_118 rfl rfl rfl ⟨by decide, rfl⟩ hu rfl (s_back h _ (fun r hi1 hl1 f1 dr1 t1 ha => ?_))
  refine wq_aload_n q326_1678 rfl ?_
  refine cL (As := []) q326_1679 m_290 rfl rfl rfl ⟨by decide, rfl⟩ hu rfl (ha _ (fun hi2 hl2 t2 hJ => ?_))
  refine wq_icmp_eq q326_1682 (fun _ => ?_) (fun c => absurd rfl c)
  exact K _ _ _ _ _ _ _ _ (Nat.le_succ _) (Nat.le_add_right _ _) hJ
theorem lc_1687 (hN : gN G ≤ 3072) (hI : I + 6 ≤ gN G) (h : JA hi hi f dr n ev wi nx kp dy sa L lc pc) (hu : u.1 ≤ B.1 ∧ u.2 ≤ B.2) (K : LK G B d I u Q) : wq G B (d + 41) 326 1687 (lwL I l5 l6) [] u (HP hi hl f dr t) Q := by
  refine wq_aload_n q326_1687 rfl ?_
  refine wq_aload_n q326_1688 rfl ?_
  refine wq_iload q326_1689 rfl ?_
  refine wq_iconst q326_1691 ?_
  refine wq_iadd q326_1692 ?_
  refine wq_scr q326_1693 (sc_in 1 rfl (by decide) hI hN) ?_
  refine cL (As := [_]) q326_1694 m_101 rfl rfl rfl ⟨by decide, rfl⟩ hu rfl (s_count h _ (fun r hi1 hl1 f1 dr1 t1 ha => ?_))
  refine wq_aload_n q326_1697 rfl ?_
  refine wq_aload_n q326_1698 rfl ?_
  refine wq_iload q326_1699 rfl ?_
  refine wq_iconst q326_1701 ?_
  refine wq_iadd q326_1702 ?_
  refine wq_scr q326_1703 (sc_in 1 rfl (by decide) hI hN) ?_
  refine cL (As := [_]) q326_1704 m_291 rfl rfl rfl ⟨by decide, rfl⟩ hu rfl (ha _ (fun hi2 hl2 t2 hJ => ?_))
  refine wq_icmp_eq q326_1707 (fun _ => ?_) (fun c => absurd rfl c)
  exact K _ _ _ _ _ _ _ _ (Nat.le_succ _) (Nat.le_add_right _ _) hJ
end LAW
