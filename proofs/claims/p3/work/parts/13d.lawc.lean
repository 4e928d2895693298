section LAWW
variable {p : Program} {l : Launch} {e : Env} {s : State} {m : MethodId} {below : List Frame} {meth : Method} {c : Code} {b L : Nat} {xs : Nat → Int32} {z : AZ} {pc : Nat} {lv : List (Nat × Value)} {st : List Value} {g : AG}
theorem lwc_gas {Inv0 Inv : AG → Prop} (hsim : Sim_gas Inv0 Inv) (C : LC p s m meth c b L xs z) (hL : L ≤ 3072) {i : Int} (h0 : 0 ≤ i) (h1 : i + 6 ≤ L) (hI : Inv0 g) (kk : ∀ g9, Inv g9 → LW p l e s m below meth c b z 1914 [(3, iv i), (2, rv z 117), (1, rv z 0), (0, .ref b)] [] g9) : LW p l e s m below meth c b z 1376 [(3, iv i), (2, rv z 117), (1, rv z 0), (0, .ref b)] [] g := by
  obtain ⟨r1, r2, e1, e2, hI2⟩ := hsim ((xs (ix (i + 1))).toInt) ((xs (ix (i + 2))).toInt) ((xs (ix (i + 3))).toInt) g (I32_of _) (I32_of _) (I32_of _) hI
  refine LW.aload_n C 2 dL_law_1376 rfl ?_
  refine LW.aload_n C 3 dL_law_1377 rfl ?_
  refine LW.iload_n C 0 dL_law_1378 rfl ?_
  refine LW.iconst C dL_law_1379 ?_
  refine LW.iadd C dL_law_1380 ?_
  refine LW.sld C (lw_in hL h0 h1 (by decide) (by decide)) dL_law_1381 ?_
  refine LW.aload_n C 3 dL_law_1382 rfl ?_
  refine LW.iload_n C 0 dL_law_1383 rfl ?_
  refine LW.iconst C dL_law_1384 ?_
  refine LW.iadd C dL_law_1385 ?_
  refine LW.sld C (lw_in hL h0 h1 (by decide) (by decide)) dL_law_1386 ?_
  refine LW.aload_n C 3 dL_law_1387 rfl ?_
  refine LW.iload_n C 0 dL_law_1388 rfl ?_
  refine LW.iconst C dL_law_1389 ?_
  refine LW.iadd C dL_law_1390 ?_
  refine LW.sld C (lw_in hL h0 h1 (by decide) (by decide)) dL_law_1391 ?_
  refine LW.callV C (As := [iv (xs (ix (i + 1))).toInt, iv (xs (ix (i + 2))).toInt, iv (xs (ix (i + 3))).toInt]) (st := []) (X_gas_ok e1) cqL_134 crL_134 (by decide) rfl dL_law_1392 rfl (Nat.le_of_ble_eq_true rfl) ?_
  refine LW.pop C dL_law_1395 ?_
  refine LW.aload_n C 1 dL_law_1396 rfl ?_
  refine LW.aload_n C 3 dL_law_1397 rfl ?_
  refine LW.iload_n C 0 dL_law_1398 rfl ?_
  refine LW.iconst C dL_law_1399 ?_
  refine LW.iadd C dL_law_1400 ?_
  refine LW.sld C (lw_in hL h0 h1 (by decide) (by decide)) dL_law_1401 ?_
  refine LW.aload_n C 3 dL_law_1402 rfl ?_
  refine LW.iload_n C 0 dL_law_1403 rfl ?_
  refine LW.iconst C dL_law_1404 ?_
  refine LW.iadd C dL_law_1405 ?_
  refine LW.sld C (lw_in hL h0 h1 (by decide) (by decide)) dL_law_1406 ?_
  refine LW.aload_n C 3 dL_law_1407 rfl ?_
  refine LW.iload_n C 0 dL_law_1408 rfl ?_
  refine LW.iconst C dL_law_1409 ?_
  refine LW.iadd C dL_law_1410 ?_
  refine LW.sld C (lw_in hL h0 h1 (by decide) (by decide)) dL_law_1411 ?_
  refine LW.callV C (As := [iv (xs (ix (i + 1))).toInt, iv (xs (ix (i + 2))).toInt, iv (xs (ix (i + 3))).toInt]) (st := []) (M_gas_ok e2) cqL_138 crL_138 (by decide) rfl dL_law_1412 rfl (Nat.le_of_ble_eq_true rfl) ?_
  refine LW.pop C dL_law_1415 ?_
  refine LW.goto (tgt := 1914) C dL_law_1416 (by decide) ?_
  exact kk _ hI2
theorem lwc_dock {Inv0 Inv : AG → Prop} (hsim : Sim_dock Inv0 Inv) (C : LC p s m meth c b L xs z) (hL : L ≤ 3072) {i : Int} (h0 : 0 ≤ i) (h1 : i + 6 ≤ L) (hI : Inv0 g) (kk : ∀ g9, Inv g9 → LW p l e s m below meth c b z 1914 [(3, iv i), (2, rv z 117), (1, rv z 0), (0, .ref b)] [] g9) : LW p l e s m below meth c b z 1419 [(3, iv i), (2, rv z 117), (1, rv z 0), (0, .ref b)] [] g := by
  obtain ⟨r1, r2, e1, e2, hv, hI2⟩ := hsim ((xs (ix (i + 1))).toInt) g (I32_of _) hI
  refine LW.aload_n C 2 dL_law_1419 rfl ?_
  refine LW.aload_n C 3 dL_law_1420 rfl ?_
  refine LW.iload_n C 0 dL_law_1421 rfl ?_
  refine LW.iconst C dL_law_1422 ?_
  refine LW.iadd C dL_law_1423 ?_
  refine LW.sld C (lw_in hL h0 h1 (by decide) (by decide)) dL_law_1424 ?_
  refine LW.callV C (As := [iv (xs (ix (i + 1))).toInt]) (st := []) (X_dock_ok e1) cqL_139 crL_139 (by decide) rfl dL_law_1425 rfl (Nat.le_of_ble_eq_true rfl) ?_
  refine LW.pop C dL_law_1428 ?_
  refine LW.aload_n C 1 dL_law_1429 rfl ?_
  refine LW.aload_n C 3 dL_law_1430 rfl ?_
  refine LW.iload_n C 0 dL_law_1431 rfl ?_
  refine LW.iconst C dL_law_1432 ?_
  refine LW.iadd C dL_law_1433 ?_
  refine LW.sld C (lw_in hL h0 h1 (by decide) (by decide)) dL_law_1434 ?_
  refine LW.callV C (As := [iv (xs (ix (i + 1))).toInt]) (st := []) (M_dock_ok e2) cqL_142 crL_142 (by decide) rfl dL_law_1435 rfl (Nat.le_of_ble_eq_true rfl) ?_
  refine LW.pop C dL_law_1438 ?_
  refine LW.goto (tgt := 1914) C dL_law_1439 (by decide) ?_
  exact kk _ hI2
theorem lwc_job {Inv0 Inv : AG → Prop} (hsim : Sim_job Inv0 Inv) (C : LC p s m meth c b L xs z) (hL : L ≤ 3072) {i : Int} (h0 : 0 ≤ i) (h1 : i + 6 ≤ L) (hI : Inv0 g) (kk : ∀ g9, Inv g9 → LW p l e s m below meth c b z 1914 [(3, iv i), (2, rv z 117), (1, rv z 0), (0, .ref b)] [] g9) : LW p l e s m below meth c b z 1442 [(3, iv i), (2, rv z 117), (1, rv z 0), (0, .ref b)] [] g := by
  obtain ⟨r1, r2, e1, e2, hv, hI2⟩ := hsim ((xs (ix (i + 1))).toInt) g (I32_of _) hI
  refine LW.aload_n C 2 dL_law_1442 rfl ?_
  refine LW.aload_n C 3 dL_law_1443 rfl ?_
  refine LW.iload_n C 0 dL_law_1444 rfl ?_
  refine LW.iconst C dL_law_1445 ?_
  refine LW.iadd C dL_law_1446 ?_
  refine LW.sld C (lw_in hL h0 h1 (by decide) (by decide)) dL_law_1447 ?_
  refine LW.callV C (As := [iv (xs (ix (i + 1))).toInt]) (st := []) (X_job_ok e1) cqL_143 crL_143 (by decide) rfl dL_law_1448 rfl (Nat.le_of_ble_eq_true rfl) ?_
  refine LW.pop C dL_law_1451 ?_
  refine LW.aload_n C 1 dL_law_1452 rfl ?_
  refine LW.aload_n C 3 dL_law_1453 rfl ?_
  refine LW.iload_n C 0 dL_law_1454 rfl ?_
  refine LW.iconst C dL_law_1455 ?_
  refine LW.iadd C dL_law_1456 ?_
  refine LW.sld C (lw_in hL h0 h1 (by decide) (by decide)) dL_law_1457 ?_
  refine LW.callV C (As := [iv (xs (ix (i + 1))).toInt]) (st := []) (M_job_ok e2) cqL_146 crL_146 (by decide) rfl dL_law_1458 rfl (Nat.le_of_ble_eq_true rfl) ?_
  refine LW.pop C dL_law_1461 ?_
  refine LW.goto (tgt := 1914) C dL_law_1462 (by decide) ?_
  exact kk _ hI2
theorem lwc_turned {Inv0 Inv : AG → Prop} (hsim : Sim_turned Inv0 Inv) (C : LC p s m meth c b L xs z) (hL : L ≤ 3072) {i : Int} (h0 : 0 ≤ i) (h1 : i + 6 ≤ L) (hI : Inv0 g) (kk : ∀ g9, Inv g9 → LW p l e s m below meth c b z 1914 [(3, iv i), (2, rv z 117), (1, rv z 0), (0, .ref b)] [] g9) : LW p l e s m below meth c b z 1465 [(3, iv i), (2, rv z 117), (1, rv z 0), (0, .ref b)] [] g := by
  obtain ⟨r1, r2, e1, e2, hv, hI2⟩ := hsim ((xs (ix (i + 1))).toInt) ((xs (ix (i + 2))).toInt) g (I32_of _) (I32_of _) hI
  refine LW.aload_n C 2 dL_law_1465 rfl ?_
  refine LW.aload_n C 3 dL_law_1466 rfl ?_
  refine LW.iload_n C 0 dL_law_1467 rfl ?_
  refine LW.iconst C dL_law_1468 ?_
  refine LW.iadd C dL_law_1469 ?_
  refine LW.sld C (lw_in hL h0 h1 (by decide) (by decide)) dL_law_1470 ?_
  refine LW.aload_n C 3 dL_law_1471 rfl ?_
  refine LW.iload_n C 0 dL_law_1472 rfl ?_
  refine LW.iconst C dL_law_1473 ?_
  refine LW.iadd C dL_law_1474 ?_
  refine LW.sld C (lw_in hL h0 h1 (by decide) (by decide)) dL_law_1475 ?_
  refine LW.callV C (As := [iv (xs (ix (i + 1))).toInt, iv (xs (ix (i + 2))).toInt]) (st := []) (X_turned_ok e1) cqL_147 crL_147 (by decide) rfl dL_law_1476 rfl (Nat.le_of_ble_eq_true rfl) ?_
  refine LW.pop C dL_law_1479 ?_
  refine LW.aload_n C 1 dL_law_1480 rfl ?_
  refine LW.aload_n C 3 dL_law_1481 rfl ?_
  refine LW.iload_n C 0 dL_law_1482 rfl ?_
  refine LW.iconst C dL_law_1483 ?_
  refine LW.iadd C dL_law_1484 ?_
  refine LW.sld C (lw_in hL h0 h1 (by decide) (by decide)) dL_law_1485 ?_
  refine LW.aload_n C 3 dL_law_1486 rfl ?_
  refine LW.iload_n C 0 dL_law_1487 rfl ?_
  refine LW.iconst C dL_law_1488 ?_
  refine LW.iadd C dL_law_1489 ?_
  refine LW.sld C (lw_in hL h0 h1 (by decide) (by decide)) dL_law_1490 ?_
  refine LW.callV C (As := [iv (xs (ix (i + 1))).toInt, iv (xs (ix (i + 2))).toInt]) (st := []) (M_turned_ok e2) cqL_150 crL_150 (by decide) rfl dL_law_1491 rfl (Nat.le_of_ble_eq_true rfl) ?_
  refine LW.pop C dL_law_1494 ?_
  refine LW.goto (tgt := 1914) C dL_law_1495 (by decide) ?_
  exact kk _ hI2
theorem lwc_weight {Inv0 Inv : AG → Prop} (hsim : Sim_weight Inv0 Inv) (C : LC p s m meth c b L xs z) (hL : L ≤ 3072) {i : Int} (h0 : 0 ≤ i) (h1 : i + 6 ≤ L) (hI : Inv0 g) (kk : ∀ g9, Inv g9 → LW p l e s m below meth c b z 1914 [(3, iv i), (2, rv z 117), (1, rv z 0), (0, .ref b)] [] g9) : LW p l e s m below meth c b z 1498 [(3, iv i), (2, rv z 117), (1, rv z 0), (0, .ref b)] [] g := by
  obtain ⟨r1, r2, e1, e2, hv, hI2⟩ := hsim ((xs (ix (i + 1))).toInt) ((xs (ix (i + 2))).toInt) g (I32_of _) (I32_of _) hI
  refine LW.aload_n C 2 dL_law_1498 rfl ?_
  refine LW.aload_n C 3 dL_law_1499 rfl ?_
  refine LW.iload_n C 0 dL_law_1500 rfl ?_
  refine LW.iconst C dL_law_1501 ?_
  refine LW.iadd C dL_law_1502 ?_
  refine LW.sld C (lw_in hL h0 h1 (by decide) (by decide)) dL_law_1503 ?_
  refine LW.aload_n C 3 dL_law_1504 rfl ?_
  refine LW.iload_n C 0 dL_law_1505 rfl ?_
  refine LW.iconst C dL_law_1506 ?_
  refine LW.iadd C dL_law_1507 ?_
  refine LW.sld C (lw_in hL h0 h1 (by decide) (by decide)) dL_law_1508 ?_
  refine LW.callV C (As := [iv (xs (ix (i + 1))).toInt, iv (xs (ix (i + 2))).toInt]) (st := []) (X_weight_ok e1) cqL_151 crL_151 (by decide) rfl dL_law_1509 rfl (Nat.le_of_ble_eq_true rfl) ?_
  refine LW.pop C dL_law_1512 ?_
  refine LW.aload_n C 1 dL_law_1513 rfl ?_
  refine LW.aload_n C 3 dL_law_1514 rfl ?_
  refine LW.iload_n C 0 dL_law_1515 rfl ?_
  refine LW.iconst C dL_law_1516 ?_
  refine LW.iadd C dL_law_1517 ?_
  refine LW.sld C (lw_in hL h0 h1 (by decide) (by decide)) dL_law_1518 ?_
  refine LW.aload_n C 3 dL_law_1519 rfl ?_
  refine LW.iload_n C 0 dL_law_1520 rfl ?_
  refine LW.iconst C dL_law_1521 ?_
  refine LW.iadd C dL_law_1522 ?_
  refine LW.sld C (lw_in hL h0 h1 (by decide) (by decide)) dL_law_1523 ?_
  refine LW.callV C (As := [iv (xs (ix (i + 1))).toInt, iv (xs (ix (i + 2))).toInt]) (st := []) (M_weight_ok e2) cqL_155 crL_155 (by decide) rfl dL_law_1524 rfl (Nat.le_of_ble_eq_true rfl) ?_
  refine LW.pop C dL_law_1527 ?_
  refine LW.goto (tgt := 1914) C dL_law_1528 (by decide) ?_
  exact kk _ hI2
theorem lwc_van {Inv0 Inv : AG → Prop} (hsim : Sim_van Inv0 Inv) (C : LC p s m meth c b L xs z) (hL : L ≤ 3072) {i : Int} (h0 : 0 ≤ i) (h1 : i + 6 ≤ L) (hI : Inv0 g) (kk : ∀ g9, Inv g9 → LW p l e s m below meth c b z 1914 [(3, iv i), (2, rv z 117), (1, rv z 0), (0, .ref b)] [] g9) : LW p l e s m below meth c b z 1531 [(3, iv i), (2, rv z 117), (1, rv z 0), (0, .ref b)] [] g := by
  obtain ⟨r1, v2, e1, e2, hv, hI2⟩ := hsim ((xs (ix (i + 1))).toInt) g (I32_of _) hI
  refine LW.aload_n C 2 dL_law_1531 rfl ?_
  refine LW.aload_n C 3 dL_law_1532 rfl ?_
  refine LW.iload_n C 0 dL_law_1533 rfl ?_
  refine LW.iconst C dL_law_1534 ?_
  refine LW.iadd C dL_law_1535 ?_
  refine LW.sld C (lw_in hL h0 h1 (by decide) (by decide)) dL_law_1536 ?_
  refine LW.callV C (As := [iv (xs (ix (i + 1))).toInt]) (st := []) (X_van_ok e1) cqL_156 crL_156 (by decide) rfl dL_law_1537 rfl (Nat.le_of_ble_eq_true rfl) ?_
  refine LW.pop C dL_law_1540 ?_
  refine LW.aload_n C 1 dL_law_1541 rfl ?_
  refine LW.aload_n C 3 dL_law_1542 rfl ?_
  refine LW.iload_n C 0 dL_law_1543 rfl ?_
  refine LW.iconst C dL_law_1544 ?_
  refine LW.iadd C dL_law_1545 ?_
  refine LW.sld C (lw_in hL h0 h1 (by decide) (by decide)) dL_law_1546 ?_
  refine LW.callV C (As := [iv (xs (ix (i + 1))).toInt]) (st := []) (M_van_ok e2) cqL_159 crL_159 (by decide) rfl dL_law_1547 rfl (Nat.le_of_ble_eq_true rfl) ?_
  refine LW.pop C dL_law_1550 ?_
  refine LW.goto (tgt := 1914) C dL_law_1551 (by decide) ?_
  exact kk _ hI2
theorem lwc_vans {Inv0 Inv : AG → Prop} (hsim : Sim_vans Inv0 Inv) (C : LC p s m meth c b L xs z) (hL : L ≤ 3072) {i : Int} (h0 : 0 ≤ i) (h1 : i + 6 ≤ L) (hI : Inv0 g) (kk : ∀ g9, Inv g9 → LW p l e s m below meth c b z 1914 [(3, iv i), (2, rv z 117), (1, rv z 0), (0, .ref b)] [] g9) : LW p l e s m below meth c b z 1554 [(3, iv i), (2, rv z 117), (1, rv z 0), (0, .ref b)] [] g := by
  obtain ⟨r1, v2, e1, e2, hv, hI2⟩ := hsim ((xs (ix (i + 1))).toInt) g (I32_of _) hI
  refine LW.aload_n C 2 dL_law_1554 rfl ?_
  refine LW.aload_n C 3 dL_law_1555 rfl ?_
  refine LW.iload_n C 0 dL_law_1556 rfl ?_
  refine LW.iconst C dL_law_1557 ?_
  refine LW.iadd C dL_law_1558 ?_
  refine LW.sld C (lw_in hL h0 h1 (by decide) (by decide)) dL_law_1559 ?_
  refine LW.callV C (As := [iv (xs (ix (i + 1))).toInt]) (st := []) (X_vans_ok e1) cqL_160 crL_160 (by decide) rfl dL_law_1560 rfl (Nat.le_of_ble_eq_true rfl) ?_
  refine LW.pop C dL_law_1563 ?_
  refine LW.aload_n C 1 dL_law_1564 rfl ?_
  refine LW.aload_n C 3 dL_law_1565 rfl ?_
  refine LW.iload_n C 0 dL_law_1566 rfl ?_
  refine LW.iconst C dL_law_1567 ?_
  refine LW.iadd C dL_law_1568 ?_
  refine LW.sld C (lw_in hL h0 h1 (by decide) (by decide)) dL_law_1569 ?_
  refine LW.callV C (As := [iv (xs (ix (i + 1))).toInt]) (st := []) (M_vans_ok e2) cqL_163 crL_163 (by decide) rfl dL_law_1570 rfl (Nat.le_of_ble_eq_true rfl) ?_
  refine LW.pop C dL_law_1573 ?_
  refine LW.goto (tgt := 1914) C dL_law_1574 (by decide) ?_
  exact kk _ hI2
theorem lwc_call {Inv0 Inv : AG → Prop} (hsim : Sim_call Inv0 Inv) (C : LC p s m meth c b L xs z) (hL : L ≤ 3072) {i : Int} (h0 : 0 ≤ i) (h1 : i + 6 ≤ L) (hI : Inv0 g) (kk : ∀ g9, Inv g9 → LW p l e s m below meth c b z 1914 [(3, iv i), (2, rv z 117), (1, rv z 0), (0, .ref b)] [] g9) : LW p l e s m below meth c b z 1577 [(3, iv i), (2, rv z 117), (1, rv z 0), (0, .ref b)] [] g := by
  obtain ⟨r1, r2, e1, e2, hv, hI2⟩ := hsim ((xs (ix (i + 1))).toInt) ((xs (ix (i + 2))).toInt) ((xs (ix (i + 3))).toInt) g (I32_of _) (I32_of _) (I32_of _) hI
  refine LW.aload_n C 2 dL_law_1577 rfl ?_
  refine LW.aload_n C 3 dL_law_1578 rfl ?_
  refine LW.iload_n C 0 dL_law_1579 rfl ?_
  refine LW.iconst C dL_law_1580 ?_
  refine LW.iadd C dL_law_1581 ?_
  refine LW.sld C (lw_in hL h0 h1 (by decide) (by decide)) dL_law_1582 ?_
  refine LW.aload_n C 3 dL_law_1583 rfl ?_
  refine LW.iload_n C 0 dL_law_1584 rfl ?_
  refine LW.iconst C dL_law_1585 ?_
  refine LW.iadd C dL_law_1586 ?_
  refine LW.sld C (lw_in hL h0 h1 (by decide) (by decide)) dL_law_1587 ?_
  refine LW.aload_n C 3 dL_law_1588 rfl ?_
  refine LW.iload_n C 0 dL_law_1589 rfl ?_
  refine LW.iconst C dL_law_1590 ?_
  refine LW.iadd C dL_law_1591 ?_
  refine LW.sld C (lw_in hL h0 h1 (by decide) (by decide)) dL_law_1592 ?_
  refine LW.callV C (As := [iv (xs (ix (i + 1))).toInt, iv (xs (ix (i + 2))).toInt, iv (xs (ix (i + 3))).toInt]) (st := []) (X_call_ok e1) cqL_164 crL_164 (by decide) rfl dL_law_1593 rfl (Nat.le_of_ble_eq_true rfl) ?_
  refine LW.pop C dL_law_1596 ?_
  refine LW.aload_n C 1 dL_law_1597 rfl ?_
  refine LW.aload_n C 3 dL_law_1598 rfl ?_
  refine LW.iload_n C 0 dL_law_1599 rfl ?_
  refine LW.iconst C dL_law_1600 ?_
  refine LW.iadd C dL_law_1601 ?_
  refine LW.sld C (lw_in hL h0 h1 (by decide) (by decide)) dL_law_1602 ?_
  refine LW.aload_n C 3 dL_law_1603 rfl ?_
  refine LW.iload_n C 0 dL_law_1604 rfl ?_
  refine LW.iconst C dL_law_1605 ?_
  refine LW.iadd C dL_law_1606 ?_
  refine LW.sld C (lw_in hL h0 h1 (by decide) (by decide)) dL_law_1607 ?_
  refine LW.aload_n C 3 dL_law_1608 rfl ?_
  refine LW.iload_n C 0 dL_law_1609 rfl ?_
  refine LW.iconst C dL_law_1610 ?_
  refine LW.iadd C dL_law_1611 ?_
  refine LW.sld C (lw_in hL h0 h1 (by decide) (by decide)) dL_law_1612 ?_
  refine LW.callV C (As := [iv (xs (ix (i + 1))).toInt, iv (xs (ix (i + 2))).toInt, iv (xs (ix (i + 3))).toInt]) (st := []) (M_call_ok e2) cqL_167 crL_167 (by decide) rfl dL_law_1613 rfl (Nat.le_of_ble_eq_true rfl) ?_
  refine LW.pop C dL_law_1616 ?_
  refine LW.goto (tgt := 1914) C dL_law_1617 (by decide) ?_
  exact kk _ hI2
theorem lwc_taken {Inv0 Inv : AG → Prop} (hsim : Sim_taken Inv0 Inv) (C : LC p s m meth c b L xs z) (hL : L ≤ 3072) {i : Int} (h0 : 0 ≤ i) (h1 : i + 6 ≤ L) (hI : Inv0 g) (kk : ∀ g9, Inv g9 → LW p l e s m below meth c b z 1914 [(3, iv i), (2, rv z 117), (1, rv z 0), (0, .ref b)] [] g9) : LW p l e s m below meth c b z 1620 [(3, iv i), (2, rv z 117), (1, rv z 0), (0, .ref b)] [] g := by
  obtain ⟨r1, r2, e1, e2, hv, hI2⟩ := hsim ((xs (ix (i + 1))).toInt) ((xs (ix (i + 2))).toInt) ((xs (ix (i + 3))).toInt) g (I32_of _) (I32_of _) (I32_of _) hI
  refine LW.aload_n C 2 dL_law_1620 rfl ?_
  refine LW.aload_n C 3 dL_law_1621 rfl ?_
  refine LW.iload_n C 0 dL_law_1622 rfl ?_
  refine LW.iconst C dL_law_1623 ?_
  refine LW.iadd C dL_law_1624 ?_
  refine LW.sld C (lw_in hL h0 h1 (by decide) (by decide)) dL_law_1625 ?_
  refine LW.aload_n C 3 dL_law_1626 rfl ?_
  refine LW.iload_n C 0 dL_law_1627 rfl ?_
  refine LW.iconst C dL_law_1628 ?_
  refine LW.iadd C dL_law_1629 ?_
  refine LW.sld C (lw_in hL h0 h1 (by decide) (by decide)) dL_law_1630 ?_
  refine LW.aload_n C 3 dL_law_1631 rfl ?_
  refine LW.iload_n C 0 dL_law_1632 rfl ?_
  refine LW.iconst C dL_law_1633 ?_
  refine LW.iadd C dL_law_1634 ?_
  refine LW.sld C (lw_in hL h0 h1 (by decide) (by decide)) dL_law_1635 ?_
  refine LW.callV C (As := [iv (xs (ix (i + 1))).toInt, iv (xs (ix (i + 2))).toInt, iv (xs (ix (i + 3))).toInt]) (st := []) (X_taken_ok e1) cqL_168 crL_168 (by decide) rfl dL_law_1636 rfl (Nat.le_of_ble_eq_true rfl) ?_
  refine LW.pop C dL_law_1639 ?_
  refine LW.aload_n C 1 dL_law_1640 rfl ?_
  refine LW.aload_n C 3 dL_law_1641 rfl ?_
  refine LW.iload_n C 0 dL_law_1642 rfl ?_
  refine LW.iconst C dL_law_1643 ?_
  refine LW.iadd C dL_law_1644 ?_
  refine LW.sld C (lw_in hL h0 h1 (by decide) (by decide)) dL_law_1645 ?_
  refine LW.aload_n C 3 dL_law_1646 rfl ?_
  refine LW.iload_n C 0 dL_law_1647 rfl ?_
  refine LW.iconst C dL_law_1648 ?_
  refine LW.iadd C dL_law_1649 ?_
  refine LW.sld C (lw_in hL h0 h1 (by decide) (by decide)) dL_law_1650 ?_
  refine LW.aload_n C 3 dL_law_1651 rfl ?_
  refine LW.iload_n C 0 dL_law_1652 rfl ?_
  refine LW.iconst C dL_law_1653 ?_
  refine LW.iadd C dL_law_1654 ?_
  refine LW.sld C (lw_in hL h0 h1 (by decide) (by decide)) dL_law_1655 ?_
  refine LW.callV C (As := [iv (xs (ix (i + 1))).toInt, iv (xs (ix (i + 2))).toInt, iv (xs (ix (i + 3))).toInt]) (st := []) (M_taken_ok e2) cqL_171 crL_171 (by decide) rfl dL_law_1656 rfl (Nat.le_of_ble_eq_true rfl) ?_
  refine LW.pop C dL_law_1659 ?_
  refine LW.goto (tgt := 1914) C dL_law_1660 (by decide) ?_
  exact kk _ hI2
theorem lwc_left {Inv0 Inv : AG → Prop} (hsim : Sim_left Inv0 Inv) (C : LC p s m meth c b L xs z) (hL : L ≤ 3072) {i : Int} (h0 : 0 ≤ i) (h1 : i + 6 ≤ L) (hI : Inv0 g) (kk : ∀ g9, Inv g9 → LW p l e s m below meth c b z 1914 [(3, iv i), (2, rv z 117), (1, rv z 0), (0, .ref b)] [] g9) : LW p l e s m below meth c b z 1663 [(3, iv i), (2, rv z 117), (1, rv z 0), (0, .ref b)] [] g := by
  obtain ⟨r1, r2, e1, e2, hv, hI2⟩ := hsim ((xs (ix (i + 1))).toInt) ((xs (ix (i + 2))).toInt) ((xs (ix (i + 3))).toInt) ((xs (ix (i + 4))).toInt) ((xs (ix (i + 5))).toInt) g (I32_of _) (I32_of _) (I32_of _) (I32_of _) (I32_of _) hI
  refine LW.aload_n C 2 dL_law_1663 rfl ?_
  refine LW.aload_n C 3 dL_law_1664 rfl ?_
  refine LW.iload_n C 0 dL_law_1665 rfl ?_
  refine LW.iconst C dL_law_1666 ?_
  refine LW.iadd C dL_law_1667 ?_
  refine LW.sld C (lw_in hL h0 h1 (by decide) (by decide)) dL_law_1668 ?_
  refine LW.aload_n C 3 dL_law_1669 rfl ?_
  refine LW.iload_n C 0 dL_law_1670 rfl ?_
  refine LW.iconst C dL_law_1671 ?_
  refine LW.iadd C dL_law_1672 ?_
  refine LW.sld C (lw_in hL h0 h1 (by decide) (by decide)) dL_law_1673 ?_
  refine LW.aload_n C 3 dL_law_1674 rfl ?_
  refine LW.iload_n C 0 dL_law_1675 rfl ?_
  refine LW.iconst C dL_law_1676 ?_
  refine LW.iadd C dL_law_1677 ?_
  refine LW.sld C (lw_in hL h0 h1 (by decide) (by decide)) dL_law_1678 ?_
  refine LW.aload_n C 3 dL_law_1679 rfl ?_
  refine LW.iload_n C 0 dL_law_1680 rfl ?_
  refine LW.iconst C dL_law_1681 ?_
  refine LW.iadd C dL_law_1682 ?_
  refine LW.sld C (lw_in hL h0 h1 (by decide) (by decide)) dL_law_1683 ?_
  refine LW.aload_n C 3 dL_law_1684 rfl ?_
  refine LW.iload_n C 0 dL_law_1685 rfl ?_
  refine LW.iconst C dL_law_1686 ?_
  refine LW.iadd C dL_law_1687 ?_
  refine LW.sld C (lw_in hL h0 h1 (by decide) (by decide)) dL_law_1688 ?_
  refine LW.callV C (As := [iv (xs (ix (i + 1))).toInt, iv (xs (ix (i + 2))).toInt, iv (xs (ix (i + 3))).toInt, iv (xs (ix (i + 4))).toInt, iv (xs (ix (i + 5))).toInt]) (st := []) (X_left_ok e1) cqL_172 crL_172 (by decide) rfl dL_law_1689 rfl (Nat.le_of_ble_eq_true rfl) ?_
  refine LW.pop C dL_law_1692 ?_
  refine LW.aload_n C 1 dL_law_1693 rfl ?_
  refine LW.aload_n C 3 dL_law_1694 rfl ?_
  refine LW.iload_n C 0 dL_law_1695 rfl ?_
  refine LW.iconst C dL_law_1696 ?_
  refine LW.iadd C dL_law_1697 ?_
  refine LW.sld C (lw_in hL h0 h1 (by decide) (by decide)) dL_law_1698 ?_
  refine LW.aload_n C 3 dL_law_1699 rfl ?_
  refine LW.iload_n C 0 dL_law_1700 rfl ?_
  refine LW.iconst C dL_law_1701 ?_
  refine LW.iadd C dL_law_1702 ?_
  refine LW.sld C (lw_in hL h0 h1 (by decide) (by decide)) dL_law_1703 ?_
  refine LW.aload_n C 3 dL_law_1704 rfl ?_
  refine LW.iload_n C 0 dL_law_1705 rfl ?_
  refine LW.iconst C dL_law_1706 ?_
  refine LW.iadd C dL_law_1707 ?_
  refine LW.sld C (lw_in hL h0 h1 (by decide) (by decide)) dL_law_1708 ?_
  refine LW.aload_n C 3 dL_law_1709 rfl ?_
  refine LW.iload_n C 0 dL_law_1710 rfl ?_
  refine LW.iconst C dL_law_1711 ?_
  refine LW.iadd C dL_law_1712 ?_
  refine LW.sld C (lw_in hL h0 h1 (by decide) (by decide)) dL_law_1713 ?_
  refine LW.aload_n C 3 dL_law_1714 rfl ?_
  refine LW.iload_n C 0 dL_law_1715 rfl ?_
  refine LW.iconst C dL_law_1716 ?_
  refine LW.iadd C dL_law_1717 ?_
  refine LW.sld C (lw_in hL h0 h1 (by decide) (by decide)) dL_law_1718 ?_
  refine LW.callV C (As := [iv (xs (ix (i + 1))).toInt, iv (xs (ix (i + 2))).toInt, iv (xs (ix (i + 3))).toInt, iv (xs (ix (i + 4))).toInt, iv (xs (ix (i + 5))).toInt]) (st := []) (M_left_ok e2) cqL_175 crL_175 (by decide) rfl dL_law_1719 rfl (Nat.le_of_ble_eq_true rfl) ?_
  refine LW.pop C dL_law_1722 ?_
  refine LW.goto (tgt := 1914) C dL_law_1723 (by decide) ?_
  exact kk _ hI2
theorem lwc_shuts {Inv0 Inv : AG → Prop} (hsim : Sim_shuts Inv0 Inv) (C : LC p s m meth c b L xs z) (hL : L ≤ 3072) {i : Int} (h0 : 0 ≤ i) (h1 : i + 6 ≤ L) (hI : Inv0 g) (kk : ∀ g9, Inv g9 → LW p l e s m below meth c b z 1914 [(3, iv i), (2, rv z 117), (1, rv z 0), (0, .ref b)] [] g9) : LW p l e s m below meth c b z 1726 [(3, iv i), (2, rv z 117), (1, rv z 0), (0, .ref b)] [] g := by
  obtain ⟨r1, r2, e1, e2, hv, hI2⟩ := hsim ((xs (ix (i + 1))).toInt) ((xs (ix (i + 2))).toInt) ((xs (ix (i + 3))).toInt) ((xs (ix (i + 4))).toInt) g (I32_of _) (I32_of _) (I32_of _) (I32_of _) hI
  refine LW.aload_n C 2 dL_law_1726 rfl ?_
  refine LW.aload_n C 3 dL_law_1727 rfl ?_
  refine LW.iload_n C 0 dL_law_1728 rfl ?_
  refine LW.iconst C dL_law_1729 ?_
  refine LW.iadd C dL_law_1730 ?_
  refine LW.sld C (lw_in hL h0 h1 (by decide) (by decide)) dL_law_1731 ?_
  refine LW.aload_n C 3 dL_law_1732 rfl ?_
  refine LW.iload_n C 0 dL_law_1733 rfl ?_
  refine LW.iconst C dL_law_1734 ?_
  refine LW.iadd C dL_law_1735 ?_
  refine LW.sld C (lw_in hL h0 h1 (by decide) (by decide)) dL_law_1736 ?_
  refine LW.aload_n C 3 dL_law_1737 rfl ?_
  refine LW.iload_n C 0 dL_law_1738 rfl ?_
  refine LW.iconst C dL_law_1739 ?_
  refine LW.iadd C dL_law_1740 ?_
  refine LW.sld C (lw_in hL h0 h1 (by decide) (by decide)) dL_law_1741 ?_
  refine LW.aload_n C 3 dL_law_1742 rfl ?_
  refine LW.iload_n C 0 dL_law_1743 rfl ?_
  refine LW.iconst C dL_law_1744 ?_
  refine LW.iadd C dL_law_1745 ?_
  refine LW.sld C (lw_in hL h0 h1 (by decide) (by decide)) dL_law_1746 ?_
  refine LW.callV C (As := [iv (xs (ix (i + 1))).toInt, iv (xs (ix (i + 2))).toInt, iv (xs (ix (i + 3))).toInt, iv (xs (ix (i + 4))).toInt]) (st := []) (X_shuts_ok e1) cqL_176 crL_176 (by decide) rfl dL_law_1747 rfl (Nat.le_of_ble_eq_true rfl) ?_
  refine LW.pop C dL_law_1750 ?_
  refine LW.aload_n C 1 dL_law_1751 rfl ?_
  refine LW.aload_n C 3 dL_law_1752 rfl ?_
  refine LW.iload_n C 0 dL_law_1753 rfl ?_
  refine LW.iconst C dL_law_1754 ?_
  refine LW.iadd C dL_law_1755 ?_
  refine LW.sld C (lw_in hL h0 h1 (by decide) (by decide)) dL_law_1756 ?_
  refine LW.aload_n C 3 dL_law_1757 rfl ?_
  refine LW.iload_n C 0 dL_law_1758 rfl ?_
  refine LW.iconst C dL_law_1759 ?_
  refine LW.iadd C dL_law_1760 ?_
  refine LW.sld C (lw_in hL h0 h1 (by decide) (by decide)) dL_law_1761 ?_
  refine LW.aload_n C 3 dL_law_1762 rfl ?_
  refine LW.iload_n C 0 dL_law_1763 rfl ?_
  refine LW.iconst C dL_law_1764 ?_
  refine LW.iadd C dL_law_1765 ?_
  refine LW.sld C (lw_in hL h0 h1 (by decide) (by decide)) dL_law_1766 ?_
  refine LW.aload_n C 3 dL_law_1767 rfl ?_
  refine LW.iload_n C 0 dL_law_1768 rfl ?_
  refine LW.iconst C dL_law_1769 ?_
  refine LW.iadd C dL_law_1770 ?_
  refine LW.sld C (lw_in hL h0 h1 (by decide) (by decide)) dL_law_1771 ?_
  refine LW.callV C (As := [iv (xs (ix (i + 1))).toInt, iv (xs (ix (i + 2))).toInt, iv (xs (ix (i + 3))).toInt, iv (xs (ix (i + 4))).toInt]) (st := []) (M_shuts_ok e2) cqL_179 crL_179 (by decide) rfl dL_law_1772 rfl (Nat.le_of_ble_eq_true rfl) ?_
  refine LW.pop C dL_law_1775 ?_
  refine LW.goto (tgt := 1914) C dL_law_1776 (by decide) ?_
  exact kk _ hI2
theorem lwc_price {Inv0 Inv : AG → Prop} (hsim : Sim_price Inv0 Inv) (C : LC p s m meth c b L xs z) (hL : L ≤ 3072) {i : Int} (h0 : 0 ≤ i) (h1 : i + 6 ≤ L) (hI : Inv0 g) (kk : ∀ g9, Inv g9 → LW p l e s m below meth c b z 1914 [(3, iv i), (2, rv z 117), (1, rv z 0), (0, .ref b)] [] g9) : LW p l e s m below meth c b z 1779 [(3, iv i), (2, rv z 117), (1, rv z 0), (0, .ref b)] [] g := by
  by_cases hb : nw (xs (ix (i + 3))).toInt = 0
  · obtain ⟨r1, r2, e1, e2, hv, hI2⟩ := hsim ((xs (ix (i + 1))).toInt) ((xs (ix (i + 2))).toInt) (0) g (I32_of _) (I32_of _) (Or.inl rfl) hI
    refine LW.aload_n C 2 dL_law_1779 rfl ?_
    refine LW.aload_n C 3 dL_law_1780 rfl ?_
    refine LW.iload_n C 0 dL_law_1781 rfl ?_
    refine LW.iconst C dL_law_1782 ?_
    refine LW.iadd C dL_law_1783 ?_
    refine LW.sld C (lw_in hL h0 h1 (by decide) (by decide)) dL_law_1784 ?_
    refine LW.aload_n C 3 dL_law_1785 rfl ?_
    refine LW.iload_n C 0 dL_law_1786 rfl ?_
    refine LW.iconst C dL_law_1787 ?_
    refine LW.iadd C dL_law_1788 ?_
    refine LW.sld C (lw_in hL h0 h1 (by decide) (by decide)) dL_law_1789 ?_
    refine LW.aload_n C 3 dL_law_1790 rfl ?_
    refine LW.iload_n C 0 dL_law_1791 rfl ?_
    refine LW.iconst C dL_law_1792 ?_
    refine LW.iadd C dL_law_1793 ?_
    refine LW.sld C (lw_in hL h0 h1 (by decide) (by decide)) dL_law_1794 ?_
    refine LW.if_eq (tgt := 1802) C dL_law_1795 (by decide) (fun _ => ?_) (fun q => absurd hb q)
    refine LW.iconst C dL_law_1802 ?_
    refine LW.callV C (As := [iv (xs (ix (i + 1))).toInt, iv (xs (ix (i + 2))).toInt, iv 0]) (st := []) (X_price_ok e1) cqL_180 crL_180 (by decide) rfl dL_law_1803 rfl (Nat.le_of_ble_eq_true rfl) ?_
    refine LW.pop C dL_law_1806 ?_
    refine LW.aload_n C 1 dL_law_1807 rfl ?_
    refine LW.aload_n C 3 dL_law_1808 rfl ?_
    refine LW.iload_n C 0 dL_law_1809 rfl ?_
    refine LW.iconst C dL_law_1810 ?_
    refine LW.iadd C dL_law_1811 ?_
    refine LW.sld C (lw_in hL h0 h1 (by decide) (by decide)) dL_law_1812 ?_
    refine LW.aload_n C 3 dL_law_1813 rfl ?_
    refine LW.iload_n C 0 dL_law_1814 rfl ?_
    refine LW.iconst C dL_law_1815 ?_
    refine LW.iadd C dL_law_1816 ?_
    refine LW.sld C (lw_in hL h0 h1 (by decide) (by decide)) dL_law_1817 ?_
    refine LW.aload_n C 3 dL_law_1818 rfl ?_
    refine LW.iload_n C 0 dL_law_1819 rfl ?_
    refine LW.iconst C dL_law_1820 ?_
    refine LW.iadd C dL_law_1821 ?_
    refine LW.sld C (lw_in hL h0 h1 (by decide) (by decide)) dL_law_1822 ?_
    refine LW.if_eq (tgt := 1830) C dL_law_1823 (by decide) (fun _ => ?_) (fun q => absurd hb q)
    refine LW.iconst C dL_law_1830 ?_
    refine LW.callV C (As := [iv (xs (ix (i + 1))).toInt, iv (xs (ix (i + 2))).toInt, iv 0]) (st := []) (M_price_ok e2) cqL_184 crL_184 (by decide) rfl dL_law_1831 rfl (Nat.le_of_ble_eq_true rfl) ?_
    refine LW.pop C dL_law_1834 ?_
    refine LW.goto (tgt := 1914) C dL_law_1835 (by decide) ?_
    exact kk _ hI2
  · obtain ⟨r1, r2, e1, e2, hv, hI2⟩ := hsim ((xs (ix (i + 1))).toInt) ((xs (ix (i + 2))).toInt) (1) g (I32_of _) (I32_of _) (Or.inr rfl) hI
    refine LW.aload_n C 2 dL_law_1779 rfl ?_
    refine LW.aload_n C 3 dL_law_1780 rfl ?_
    refine LW.iload_n C 0 dL_law_1781 rfl ?_
    refine LW.iconst C dL_law_1782 ?_
    refine LW.iadd C dL_law_1783 ?_
    refine LW.sld C (lw_in hL h0 h1 (by decide) (by decide)) dL_law_1784 ?_
    refine LW.aload_n C 3 dL_law_1785 rfl ?_
    refine LW.iload_n C 0 dL_law_1786 rfl ?_
    refine LW.iconst C dL_law_1787 ?_
    refine LW.iadd C dL_law_1788 ?_
    refine LW.sld C (lw_in hL h0 h1 (by decide) (by decide)) dL_law_1789 ?_
    refine LW.aload_n C 3 dL_law_1790 rfl ?_
    refine LW.iload_n C 0 dL_law_1791 rfl ?_
    refine LW.iconst C dL_law_1792 ?_
    refine LW.iadd C dL_law_1793 ?_
    refine LW.sld C (lw_in hL h0 h1 (by decide) (by decide)) dL_law_1794 ?_
    refine LW.if_eq (tgt := 1802) C dL_law_1795 (by decide) (fun q => absurd q hb) (fun _ => ?_)
    refine LW.iconst C dL_law_1798 ?_
    refine LW.goto (tgt := 1803) C dL_law_1799 (by decide) ?_
    refine LW.callV C (As := [iv (xs (ix (i + 1))).toInt, iv (xs (ix (i + 2))).toInt, iv 1]) (st := []) (X_price_ok e1) cqL_180 crL_180 (by decide) rfl dL_law_1803 rfl (Nat.le_of_ble_eq_true rfl) ?_
    refine LW.pop C dL_law_1806 ?_
    refine LW.aload_n C 1 dL_law_1807 rfl ?_
    refine LW.aload_n C 3 dL_law_1808 rfl ?_
    refine LW.iload_n C 0 dL_law_1809 rfl ?_
    refine LW.iconst C dL_law_1810 ?_
    refine LW.iadd C dL_law_1811 ?_
    refine LW.sld C (lw_in hL h0 h1 (by decide) (by decide)) dL_law_1812 ?_
    refine LW.aload_n C 3 dL_law_1813 rfl ?_
    refine LW.iload_n C 0 dL_law_1814 rfl ?_
    refine LW.iconst C dL_law_1815 ?_
    refine LW.iadd C dL_law_1816 ?_
    refine LW.sld C (lw_in hL h0 h1 (by decide) (by decide)) dL_law_1817 ?_
    refine LW.aload_n C 3 dL_law_1818 rfl ?_
    refine LW.iload_n C 0 dL_law_1819 rfl ?_
    refine LW.iconst C dL_law_1820 ?_
    refine LW.iadd C dL_law_1821 ?_
    refine LW.sld C (lw_in hL h0 h1 (by decide) (by decide)) dL_law_1822 ?_
    refine LW.if_eq (tgt := 1830) C dL_law_1823 (by decide) (fun q => absurd q hb) (fun _ => ?_)
    refine LW.iconst C dL_law_1826 ?_
    refine LW.goto (tgt := 1831) C dL_law_1827 (by decide) ?_
    refine LW.callV C (As := [iv (xs (ix (i + 1))).toInt, iv (xs (ix (i + 2))).toInt, iv 1]) (st := []) (M_price_ok e2) cqL_184 crL_184 (by decide) rfl dL_law_1831 rfl (Nat.le_of_ble_eq_true rfl) ?_
    refine LW.pop C dL_law_1834 ?_
    refine LW.goto (tgt := 1914) C dL_law_1835 (by decide) ?_
    exact kk _ hI2
theorem lwc_held {Inv0 Inv : AG → Prop} (hsim : Sim_held Inv0 Inv) (C : LC p s m meth c b L xs z) (hL : L ≤ 3072) {i : Int} (h0 : 0 ≤ i) (h1 : i + 6 ≤ L) (hI : Inv0 g) (kk : ∀ g9, Inv g9 → LW p l e s m below meth c b z 1914 [(3, iv i), (2, rv z 117), (1, rv z 0), (0, .ref b)] [] g9) : LW p l e s m below meth c b z 1838 [(3, iv i), (2, rv z 117), (1, rv z 0), (0, .ref b)] [] g := by
  obtain ⟨r1, r2, e1, e2, hv, hI2⟩ := hsim ((xs (ix (i + 1))).toInt) ((xs (ix (i + 2))).toInt) ((xs (ix (i + 3))).toInt) ((xs (ix (i + 4))).toInt) g (I32_of _) (I32_of _) (I32_of _) (I32_of _) hI
  refine LW.aload_n C 2 dL_law_1838 rfl ?_
  refine LW.aload_n C 3 dL_law_1839 rfl ?_
  refine LW.iload_n C 0 dL_law_1840 rfl ?_
  refine LW.iconst C dL_law_1841 ?_
  refine LW.iadd C dL_law_1842 ?_
  refine LW.sld C (lw_in hL h0 h1 (by decide) (by decide)) dL_law_1843 ?_
  refine LW.aload_n C 3 dL_law_1844 rfl ?_
  refine LW.iload_n C 0 dL_law_1845 rfl ?_
  refine LW.iconst C dL_law_1846 ?_
  refine LW.iadd C dL_law_1847 ?_
  refine LW.sld C (lw_in hL h0 h1 (by decide) (by decide)) dL_law_1848 ?_
  refine LW.aload_n C 3 dL_law_1849 rfl ?_
  refine LW.iload_n C 0 dL_law_1850 rfl ?_
  refine LW.iconst C dL_law_1851 ?_
  refine LW.iadd C dL_law_1852 ?_
  refine LW.sld C (lw_in hL h0 h1 (by decide) (by decide)) dL_law_1853 ?_
  refine LW.aload_n C 3 dL_law_1854 rfl ?_
  refine LW.iload_n C 0 dL_law_1855 rfl ?_
  refine LW.iconst C dL_law_1856 ?_
  refine LW.iadd C dL_law_1857 ?_
  refine LW.sld C (lw_in hL h0 h1 (by decide) (by decide)) dL_law_1858 ?_
  refine LW.callV C (As := [iv (xs (ix (i + 1))).toInt, iv (xs (ix (i + 2))).toInt, iv (xs (ix (i + 3))).toInt, iv (xs (ix (i + 4))).toInt]) (st := []) (X_held_ok e1) cqL_185 crL_185 (by decide) rfl dL_law_1859 rfl (Nat.le_of_ble_eq_true rfl) ?_
  refine LW.pop C dL_law_1862 ?_
  refine LW.aload_n C 1 dL_law_1863 rfl ?_
  refine LW.aload_n C 3 dL_law_1864 rfl ?_
  refine LW.iload_n C 0 dL_law_1865 rfl ?_
  refine LW.iconst C dL_law_1866 ?_
  refine LW.iadd C dL_law_1867 ?_
  refine LW.sld C (lw_in hL h0 h1 (by decide) (by decide)) dL_law_1868 ?_
  refine LW.aload_n C 3 dL_law_1869 rfl ?_
  refine LW.iload_n C 0 dL_law_1870 rfl ?_
  refine LW.iconst C dL_law_1871 ?_
  refine LW.iadd C dL_law_1872 ?_
  refine LW.sld C (lw_in hL h0 h1 (by decide) (by decide)) dL_law_1873 ?_
  refine LW.aload_n C 3 dL_law_1874 rfl ?_
  refine LW.iload_n C 0 dL_law_1875 rfl ?_
  refine LW.iconst C dL_law_1876 ?_
  refine LW.iadd C dL_law_1877 ?_
  refine LW.sld C (lw_in hL h0 h1 (by decide) (by decide)) dL_law_1878 ?_
  refine LW.aload_n C 3 dL_law_1879 rfl ?_
  refine LW.iload_n C 0 dL_law_1880 rfl ?_
  refine LW.iconst C dL_law_1881 ?_
  refine LW.iadd C dL_law_1882 ?_
  refine LW.sld C (lw_in hL h0 h1 (by decide) (by decide)) dL_law_1883 ?_
  refine LW.callV C (As := [iv (xs (ix (i + 1))).toInt, iv (xs (ix (i + 2))).toInt, iv (xs (ix (i + 3))).toInt, iv (xs (ix (i + 4))).toInt]) (st := []) (M_held_ok e2) cqL_188 crL_188 (by decide) rfl dL_law_1884 rfl (Nat.le_of_ble_eq_true rfl) ?_
  refine LW.pop C dL_law_1887 ?_
  refine LW.goto (tgt := 1914) C dL_law_1888 (by decide) ?_
  exact kk _ hI2
theorem lwc_look {Inv0 Inv : AG → Prop} (hsim : Sim_look Inv0 Inv) (C : LC p s m meth c b L xs z) (hL : L ≤ 3072) {i : Int} (h0 : 0 ≤ i) (h1 : i + 6 ≤ L) (hI : Inv0 g) (kk : ∀ g9, Inv g9 → LW p l e s m below meth c b z 1914 [(3, iv i), (2, rv z 117), (1, rv z 0), (0, .ref b)] [] g9) : LW p l e s m below meth c b z 1891 [(3, iv i), (2, rv z 117), (1, rv z 0), (0, .ref b)] [] g := by
  obtain ⟨hv, hI2⟩ := hsim ((xs (ix (i + 1))).toInt) g (I32_of _) hI
  refine LW.aload_n C 2 dL_law_1891 rfl ?_
  refine LW.aload_n C 3 dL_law_1892 rfl ?_
  refine LW.iload_n C 0 dL_law_1893 rfl ?_
  refine LW.iconst C dL_law_1894 ?_
  refine LW.iadd C dL_law_1895 ?_
  refine LW.sld C (lw_in hL h0 h1 (by decide) (by decide)) dL_law_1896 ?_
  refine LW.callV C (As := [iv (xs (ix (i + 1))).toInt]) (st := []) (X_look_ok) cqL_189 crL_189 (by decide) rfl dL_law_1897 rfl (Nat.le_of_ble_eq_true rfl) ?_
  refine LW.pop C dL_law_1900 ?_
  refine LW.aload_n C 1 dL_law_1901 rfl ?_
  refine LW.aload_n C 3 dL_law_1902 rfl ?_
  refine LW.iload_n C 0 dL_law_1903 rfl ?_
  refine LW.iconst C dL_law_1904 ?_
  refine LW.iadd C dL_law_1905 ?_
  refine LW.sld C (lw_in hL h0 h1 (by decide) (by decide)) dL_law_1906 ?_
  refine LW.callV C (As := [iv (xs (ix (i + 1))).toInt]) (st := []) (M_look_ok) cqL_192 crL_192 (by decide) rfl dL_law_1907 rfl (Nat.le_of_ble_eq_true rfl) ?_
  refine LW.pop C dL_law_1910 ?_
  refine LW.goto (tgt := 1914) C dL_law_1911 (by decide) ?_
  exact kk _ hI2
end LAWW
