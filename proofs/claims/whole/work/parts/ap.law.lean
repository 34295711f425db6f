/-! ===== the law: its cases, 3 ===== -/
theorem law_unlike {b L : Nat} {xs : Nat → Int32} {h : HP} {t u i : Nat} (hL : L ≤ 3072) (hi : i + 6 ≤ L) (I : Inv h t u) (k : ∀ h' t' u', Inv h' t' u' → V cL_law miL_law (ZL b L xs) 0 1892 [.ref (NUL + 1), .ref 0, .ref 113, .int (nI i)] [] h') : V cL_law miL_law (ZL b L xs) 0 1475 [.ref (NUL + 1), .ref 0, .ref 113, .int (nI i)] [] h := by
  obtain ⟨r, h1, h2, e1, e2, I2⟩ := op_unlike I (((Int32.toInt64 (xs (i + 1)) <<< (Int32.toInt64 32 &&& 63)) ||| (Int32.toInt64 (xs (i + 2)) &&& 4294967295)))
  have ly := I.1.1
  refine V.aload_n dL_law_1475 rfl rfl rfl ?_
  refine V.larg (j := 1) dL_law_1476 dL_law_1477 dL_law_1478 dL_law_1479 dL_law_1480 rfl hL (by omega) ?_
  refine V.i2l dL_law_1481 ?_
  refine V.bipush (v := 32) dL_law_1482 rfl ?_
  refine V.lshl dL_law_1484 ?_
  refine V.larg (j := 2) dL_law_1485 dL_law_1486 dL_law_1487 dL_law_1488 dL_law_1489 rfl hL (by omega) ?_
  refine V.i2l dL_law_1490 ?_
  refine V.ldc2 dL_law_1491 kc_L_32 ?_
  refine V.land dL_law_1494 ?_
  refine V.lor dL_law_1495 ?_
  refine V.lcall (a := 0) (ci := 9) (z := 0) ly dL_law_1496 ml_L_190 mo_X11_unlike mv_X11_unlike rfl (fun q hq => by cases hq; rfl) (by decide) (th_X11_unlike ly I.1.2.2.1.1 I.1.2.2.2.1 e1) rfl rfl ⟨Nat.le_of_ble_eq_true rfl, Nat.le_of_ble_eq_true rfl⟩ ⟨rfl, rfl⟩ (Nat.le_of_ble_eq_true rfl) (fun v0 g0 ex => ?_)
  obtain ⟨r0, rfl, ⟨rfl, rfl⟩, s0⟩ := ex
  have ly1 : Lay g0 := s0.ly ly
  refine V.aload_n dL_law_1499 rfl rfl rfl ?_
  refine V.larg (j := 1) dL_law_1500 dL_law_1501 dL_law_1502 dL_law_1503 dL_law_1504 rfl hL (by omega) ?_
  refine V.i2l dL_law_1505 ?_
  refine V.bipush (v := 32) dL_law_1506 rfl ?_
  refine V.lshl dL_law_1508 ?_
  refine V.larg (j := 2) dL_law_1509 dL_law_1510 dL_law_1511 dL_law_1512 dL_law_1513 rfl hL (by omega) ?_
  refine V.i2l dL_law_1514 ?_
  refine V.ldc2 dL_law_1515 kc_L_32 ?_
  refine V.land dL_law_1518 ?_
  refine V.lor dL_law_1519 ?_
  refine V.lcall (a := 113) (ci := 10) (z := 0) ly1 dL_law_1520 ml_L_193 mo_X12_unlike mv_X12_unlike rfl (fun q hq => by cases hq; rfl) (by decide) (th_X12_unlike ly1 e2) rfl rfl ⟨Nat.le_of_ble_eq_true rfl, Nat.le_of_ble_eq_true rfl⟩ ⟨rfl, rfl⟩ (Nat.le_of_ble_eq_true rfl) (fun v1 g1 ex => ?_)
  obtain ⟨r1, rfl, ⟨rfl, rfl⟩, s1⟩ := ex
  exact V.icmp_eq (tgt := 1892) dL_law_1523 (by decide) (fun _ => k _ _ _ I2) (fun q => absurd rfl q)
theorem law_seen {b L : Nat} {xs : Nat → Int32} {h : HP} {t u i : Nat} (hL : L ≤ 3072) (hi : i + 6 ≤ L) (I : Inv h t u) (k : ∀ h' t' u', Inv h' t' u' → V cL_law miL_law (ZL b L xs) 0 1892 [.ref (NUL + 1), .ref 0, .ref 113, .int (nI i)] [] h') : V cL_law miL_law (ZL b L xs) 0 1528 [.ref (NUL + 1), .ref 0, .ref 113, .int (nI i)] [] h := by
  obtain ⟨r, h1, h2, e1, e2, I2⟩ := op_seen I (xs (i + 1)) (xs (i + 2))
  have ly := I.1.1
  refine V.aload_n dL_law_1528 rfl rfl rfl ?_
  refine V.larg (j := 1) dL_law_1529 dL_law_1530 dL_law_1531 dL_law_1532 dL_law_1533 rfl hL (by omega) ?_
  refine V.larg (j := 2) dL_law_1534 dL_law_1535 dL_law_1536 dL_law_1537 dL_law_1538 rfl hL (by omega) ?_
  refine V.lcall (a := 0) (ci := 9) (z := 0) ly dL_law_1539 ml_L_194 mo_X11_seen mv_X11_seen rfl (fun q hq => by cases hq; rfl) (by decide) (th_X11_seen ly I.1.2.2.1.1 I.1.2.2.2.1 e1) rfl rfl ⟨Nat.le_of_ble_eq_true rfl, Nat.le_of_ble_eq_true rfl⟩ ⟨rfl, rfl⟩ (Nat.le_of_ble_eq_true rfl) (fun v0 g0 ex => ?_)
  obtain ⟨r0, rfl, ⟨rfl, rfl⟩, s0⟩ := ex
  have ly1 : Lay g0 := s0.ly ly
  refine V.aload_n dL_law_1542 rfl rfl rfl ?_
  refine V.larg (j := 1) dL_law_1543 dL_law_1544 dL_law_1545 dL_law_1546 dL_law_1547 rfl hL (by omega) ?_
  refine V.larg (j := 2) dL_law_1548 dL_law_1549 dL_law_1550 dL_law_1551 dL_law_1552 rfl hL (by omega) ?_
  refine V.lcall (a := 113) (ci := 10) (z := 0) ly1 dL_law_1553 ml_L_197 mo_X12_seen mv_X12_seen rfl (fun q hq => by cases hq; rfl) (by decide) (th_X12_seen ly1 e2) rfl rfl ⟨Nat.le_of_ble_eq_true rfl, Nat.le_of_ble_eq_true rfl⟩ ⟨rfl, rfl⟩ (Nat.le_of_ble_eq_true rfl) (fun v1 g1 ex => ?_)
  obtain ⟨r1, rfl, ⟨rfl, rfl⟩, s1⟩ := ex
  exact V.icmp_eq (tgt := 1892) dL_law_1556 (by decide) (fun _ => k _ _ _ I2) (fun q => absurd rfl q)
theorem law_rulesLeft {b L : Nat} {xs : Nat → Int32} {h : HP} {t u i : Nat} (hL : L ≤ 3072) (hi : i + 6 ≤ L) (I : Inv h t u) (k : ∀ h' t' u', Inv h' t' u' → V cL_law miL_law (ZL b L xs) 0 1892 [.ref (NUL + 1), .ref 0, .ref 113, .int (nI i)] [] h') : V cL_law miL_law (ZL b L xs) 0 1561 [.ref (NUL + 1), .ref 0, .ref 113, .int (nI i)] [] h := by
  obtain ⟨r, h1, h2, e1, e2, I2⟩ := op_rulesLeft I
  have ly := I.1.1
  refine V.aload_n dL_law_1561 rfl rfl rfl ?_
  refine V.lcall (a := 0) (ci := 9) (z := 0) ly dL_law_1562 ml_L_198 mo_X11_rulesLeft mv_X11_rulesLeft rfl (fun q hq => by cases hq; rfl) (by decide) (th_X11_rulesLeft ly I.1.2.2.1.1 I.1.2.2.2.1 e1) rfl rfl ⟨Nat.le_of_ble_eq_true rfl, Nat.le_of_ble_eq_true rfl⟩ ⟨rfl, rfl⟩ (Nat.le_of_ble_eq_true rfl) (fun v0 g0 ex => ?_)
  obtain ⟨r0, rfl, ⟨rfl, rfl⟩, s0⟩ := ex
  have ly1 : Lay g0 := s0.ly ly
  refine V.aload_n dL_law_1565 rfl rfl rfl ?_
  refine V.lcall (a := 113) (ci := 10) (z := 0) ly1 dL_law_1566 ml_L_201 mo_X12_rulesLeft mv_X12_rulesLeft rfl (fun q hq => by cases hq; rfl) (by decide) (th_X12_rulesLeft ly1 e2) rfl rfl ⟨Nat.le_of_ble_eq_true rfl, Nat.le_of_ble_eq_true rfl⟩ ⟨rfl, rfl⟩ (Nat.le_of_ble_eq_true rfl) (fun v1 g1 ex => ?_)
  obtain ⟨r1, rfl, ⟨rfl, rfl⟩, s1⟩ := ex
  exact V.icmp_eq (tgt := 1892) dL_law_1569 (by decide) (fun _ => k _ _ _ I2) (fun q => absurd rfl q)
theorem law_fits {b L : Nat} {xs : Nat → Int32} {h : HP} {t u i : Nat} (hL : L ≤ 3072) (hi : i + 6 ≤ L) (I : Inv h t u) (k : ∀ h' t' u', Inv h' t' u' → V cL_law miL_law (ZL b L xs) 0 1892 [.ref (NUL + 1), .ref 0, .ref 113, .int (nI i)] [] h') : V cL_law miL_law (ZL b L xs) 0 1574 [.ref (NUL + 1), .ref 0, .ref 113, .int (nI i)] [] h := by
  obtain ⟨r, h1, h2, e1, e2, I2⟩ := op_fits I
  have ly := I.1.1
  refine V.aload_n dL_law_1574 rfl rfl rfl ?_
  refine V.lcall (a := 0) (ci := 9) (z := 0) ly dL_law_1575 ml_L_202 mo_X11_fits mv_X11_fits rfl (fun q hq => by cases hq; rfl) (by decide) (th_X11_fits ly I.1.2.2.1.1 I.1.2.2.2.1 e1) rfl rfl ⟨Nat.le_of_ble_eq_true rfl, Nat.le_of_ble_eq_true rfl⟩ ⟨rfl, rfl⟩ (Nat.le_of_ble_eq_true rfl) (fun v0 g0 ex => ?_)
  obtain ⟨r0, rfl, ⟨rfl, rfl⟩, s0⟩ := ex
  have ly1 : Lay g0 := s0.ly ly
  refine V.aload_n dL_law_1578 rfl rfl rfl ?_
  refine V.lcall (a := 113) (ci := 10) (z := 0) ly1 dL_law_1579 ml_L_205 mo_X12_fits mv_X12_fits rfl (fun q hq => by cases hq; rfl) (by decide) (th_X12_fits ly1 e2) rfl rfl ⟨Nat.le_of_ble_eq_true rfl, Nat.le_of_ble_eq_true rfl⟩ ⟨rfl, rfl⟩ (Nat.le_of_ble_eq_true rfl) (fun v1 g1 ex => ?_)
  obtain ⟨r1, rfl, ⟨rfl, rfl⟩, s1⟩ := ex
  exact V.icmp_eq (tgt := 1892) dL_law_1582 (by decide) (fun _ => k _ _ _ I2) (fun q => absurd rfl q)
theorem law_forget {b L : Nat} {xs : Nat → Int32} {h : HP} {t u i : Nat} (hL : L ≤ 3072) (hi : i + 6 ≤ L) (I : Inv h t u) (k : ∀ h' t' u', Inv h' t' u' → V cL_law miL_law (ZL b L xs) 0 1892 [.ref (NUL + 1), .ref 0, .ref 113, .int (nI i)] [] h') : V cL_law miL_law (ZL b L xs) 0 1587 [.ref (NUL + 1), .ref 0, .ref 113, .int (nI i)] [] h := by
  obtain ⟨r, h1, h2, e1, e2, I2⟩ := op_forget I
  have ly := I.1.1
  refine V.aload_n dL_law_1587 rfl rfl rfl ?_
  refine V.lcall (a := 0) (ci := 9) (z := 0) ly dL_law_1588 ml_L_206 mo_X11_forget mv_X11_forget rfl (fun q hq => by cases hq; rfl) (by decide) (th_X11_forget ly I.1.2.2.1.1 I.1.2.2.2.1 e1) rfl rfl ⟨Nat.le_of_ble_eq_true rfl, Nat.le_of_ble_eq_true rfl⟩ ⟨rfl, rfl⟩ (Nat.le_of_ble_eq_true rfl) (fun v0 g0 ex => ?_)
  obtain ⟨r0, rfl, ⟨rfl, rfl⟩, s0⟩ := ex
  have ly1 : Lay g0 := s0.ly ly
  refine V.aload_n dL_law_1591 rfl rfl rfl ?_
  refine V.lcall (a := 113) (ci := 10) (z := 0) ly1 dL_law_1592 ml_L_209 mo_X12_forget mv_X12_forget rfl (fun q hq => by cases hq; rfl) (by decide) (th_X12_forget ly1 e2) rfl rfl ⟨Nat.le_of_ble_eq_true rfl, Nat.le_of_ble_eq_true rfl⟩ ⟨rfl, rfl⟩ (Nat.le_of_ble_eq_true rfl) (fun v1 g1 ex => ?_)
  obtain ⟨r1, rfl, ⟨rfl, rfl⟩, s1⟩ := ex
  exact V.icmp_eq (tgt := 1892) dL_law_1595 (by decide) (fun _ => k _ _ _ I2) (fun q => absurd rfl q)
theorem law_shows {b L : Nat} {xs : Nat → Int32} {h : HP} {t u i : Nat} (hL : L ≤ 3072) (hi : i + 6 ≤ L) (I : Inv h t u) (k : ∀ h' t' u', Inv h' t' u' → V cL_law miL_law (ZL b L xs) 0 1892 [.ref (NUL + 1), .ref 0, .ref 113, .int (nI i)] [] h') : V cL_law miL_law (ZL b L xs) 0 1600 [.ref (NUL + 1), .ref 0, .ref 113, .int (nI i)] [] h := by
  obtain ⟨r, h1, h2, e1, e2, I2⟩ := op_shows I
  have ly := I.1.1
  refine V.aload_n dL_law_1600 rfl rfl rfl ?_
  refine V.lcall (a := 0) (ci := 9) (z := 0) ly dL_law_1601 ml_L_210 mo_X11_shows mv_X11_shows rfl (fun q hq => by cases hq; rfl) (by decide) (th_X11_shows ly I.1.2.2.1.1 I.1.2.2.2.1 e1) rfl rfl ⟨Nat.le_of_ble_eq_true rfl, Nat.le_of_ble_eq_true rfl⟩ ⟨rfl, rfl⟩ (Nat.le_of_ble_eq_true rfl) (fun v0 g0 ex => ?_)
  obtain ⟨r0, rfl, ⟨rfl, rfl⟩, s0⟩ := ex
  have ly1 : Lay g0 := s0.ly ly
  refine V.aload_n dL_law_1604 rfl rfl rfl ?_
  refine V.lcall (a := 113) (ci := 10) (z := 0) ly1 dL_law_1605 ml_L_213 mo_X12_shows mv_X12_shows rfl (fun q hq => by cases hq; rfl) (by decide) (th_X12_shows ly1 e2) rfl rfl ⟨Nat.le_of_ble_eq_true rfl, Nat.le_of_ble_eq_true rfl⟩ ⟨rfl, rfl⟩ (Nat.le_of_ble_eq_true rfl) (fun v1 g1 ex => ?_)
  obtain ⟨r1, rfl, ⟨rfl, rfl⟩, s1⟩ := ex
  exact V.icmp_eq (tgt := 1892) dL_law_1608 (by decide) (fun _ => k _ _ _ I2) (fun q => absurd rfl q)
theorem law_vote {b L : Nat} {xs : Nat → Int32} {h : HP} {t u i : Nat} (hL : L ≤ 3072) (hi : i + 6 ≤ L) (I : Inv h t u) (k : ∀ h' t' u', Inv h' t' u' → V cL_law miL_law (ZL b L xs) 0 1892 [.ref (NUL + 1), .ref 0, .ref 113, .int (nI i)] [] h') : V cL_law miL_law (ZL b L xs) 0 1613 [.ref (NUL + 1), .ref 0, .ref 113, .int (nI i)] [] h := by
  obtain ⟨r, h1, h2, e1, e2, I2⟩ := op_vote I (xs (i + 1))
  have ly := I.1.1
  refine V.aload_n dL_law_1613 rfl rfl rfl ?_
  refine V.larg (j := 1) dL_law_1614 dL_law_1615 dL_law_1616 dL_law_1617 dL_law_1618 rfl hL (by omega) ?_
  refine V.lcall (a := 0) (ci := 9) (z := 0) ly dL_law_1619 ml_L_214 mo_X11_vote mv_X11_vote rfl (fun q hq => by cases hq; rfl) (by decide) (th_X11_vote ly I.1.2.2.1.1 I.1.2.2.2.1 e1) rfl rfl ⟨Nat.le_of_ble_eq_true rfl, Nat.le_of_ble_eq_true rfl⟩ ⟨rfl, rfl⟩ (Nat.le_of_ble_eq_true rfl) (fun v0 g0 ex => ?_)
  obtain ⟨r0, rfl, ⟨rfl, rfl⟩, s0⟩ := ex
  have ly1 : Lay g0 := s0.ly ly
  refine V.aload_n dL_law_1622 rfl rfl rfl ?_
  refine V.larg (j := 1) dL_law_1623 dL_law_1624 dL_law_1625 dL_law_1626 dL_law_1627 rfl hL (by omega) ?_
  refine V.lcall (a := 113) (ci := 10) (z := 0) ly1 dL_law_1628 ml_L_217 mo_X12_vote mv_X12_vote rfl (fun q hq => by cases hq; rfl) (by decide) (th_X12_vote ly1 e2) rfl rfl ⟨Nat.le_of_ble_eq_true rfl, Nat.le_of_ble_eq_true rfl⟩ ⟨rfl, rfl⟩ (Nat.le_of_ble_eq_true rfl) (fun v1 g1 ex => ?_)
  obtain ⟨r1, rfl, ⟨rfl, rfl⟩, s1⟩ := ex
  exact V.icmp_eq (tgt := 1892) dL_law_1631 (by decide) (fun _ => k _ _ _ I2) (fun q => absurd rfl q)
theorem law_votes {b L : Nat} {xs : Nat → Int32} {h : HP} {t u i : Nat} (hL : L ≤ 3072) (hi : i + 6 ≤ L) (I : Inv h t u) (k : ∀ h' t' u', Inv h' t' u' → V cL_law miL_law (ZL b L xs) 0 1892 [.ref (NUL + 1), .ref 0, .ref 113, .int (nI i)] [] h') : V cL_law miL_law (ZL b L xs) 0 1636 [.ref (NUL + 1), .ref 0, .ref 113, .int (nI i)] [] h := by
  obtain ⟨r, h1, h2, e1, e2, I2⟩ := op_votes I (xs (i + 1))
  have ly := I.1.1
  refine V.aload_n dL_law_1636 rfl rfl rfl ?_
  refine V.larg (j := 1) dL_law_1637 dL_law_1638 dL_law_1639 dL_law_1640 dL_law_1641 rfl hL (by omega) ?_
  refine V.lcall (a := 0) (ci := 9) (z := 0) ly dL_law_1642 ml_L_218 mo_X11_votes mv_X11_votes rfl (fun q hq => by cases hq; rfl) (by decide) (th_X11_votes ly I.1.2.2.1.1 I.1.2.2.2.1 e1) rfl rfl ⟨Nat.le_of_ble_eq_true rfl, Nat.le_of_ble_eq_true rfl⟩ ⟨rfl, rfl⟩ (Nat.le_of_ble_eq_true rfl) (fun v0 g0 ex => ?_)
  obtain ⟨r0, rfl, ⟨rfl, rfl⟩, s0⟩ := ex
  have ly1 : Lay g0 := s0.ly ly
  refine V.aload_n dL_law_1645 rfl rfl rfl ?_
  refine V.larg (j := 1) dL_law_1646 dL_law_1647 dL_law_1648 dL_law_1649 dL_law_1650 rfl hL (by omega) ?_
  refine V.lcall (a := 113) (ci := 10) (z := 0) ly1 dL_law_1651 ml_L_221 mo_X12_votes mv_X12_votes rfl (fun q hq => by cases hq; rfl) (by decide) (th_X12_votes ly1 e2) rfl rfl ⟨Nat.le_of_ble_eq_true rfl, Nat.le_of_ble_eq_true rfl⟩ ⟨rfl, rfl⟩ (Nat.le_of_ble_eq_true rfl) (fun v1 g1 ex => ?_)
  obtain ⟨r1, rfl, ⟨rfl, rfl⟩, s1⟩ := ex
  exact V.icmp_eq (tgt := 1892) dL_law_1654 (by decide) (fun _ => k _ _ _ I2) (fun q => absurd rfl q)
theorem law_elect {b L : Nat} {xs : Nat → Int32} {h : HP} {t u i : Nat} (hL : L ≤ 3072) (hi : i + 6 ≤ L) (I : Inv h t u) (k : ∀ h' t' u', Inv h' t' u' → V cL_law miL_law (ZL b L xs) 0 1892 [.ref (NUL + 1), .ref 0, .ref 113, .int (nI i)] [] h') : V cL_law miL_law (ZL b L xs) 0 1659 [.ref (NUL + 1), .ref 0, .ref 113, .int (nI i)] [] h := by
  obtain ⟨r, h1, h2, e1, e2, I2⟩ := op_elect I
  have ly := I.1.1
  refine V.aload_n dL_law_1659 rfl rfl rfl ?_
  refine V.lcall (a := 0) (ci := 9) (z := 0) ly dL_law_1660 ml_L_222 mo_X11_elect mv_X11_elect rfl (fun q hq => by cases hq; rfl) (by decide) (th_X11_elect ly I.1.2.2.1.1 I.1.2.2.2.1 e1) rfl rfl ⟨Nat.le_of_ble_eq_true rfl, Nat.le_of_ble_eq_true rfl⟩ ⟨rfl, rfl⟩ (Nat.le_of_ble_eq_true rfl) (fun v0 g0 ex => ?_)
  obtain ⟨r0, rfl, ⟨rfl, rfl⟩, s0⟩ := ex
  have ly1 : Lay g0 := s0.ly ly
  refine V.aload_n dL_law_1663 rfl rfl rfl ?_
  refine V.lcall (a := 113) (ci := 10) (z := 0) ly1 dL_law_1664 ml_L_225 mo_X12_elect mv_X12_elect rfl (fun q hq => by cases hq; rfl) (by decide) (th_X12_elect ly1 e2) rfl rfl ⟨Nat.le_of_ble_eq_true rfl, Nat.le_of_ble_eq_true rfl⟩ ⟨rfl, rfl⟩ (Nat.le_of_ble_eq_true rfl) (fun v1 g1 ex => ?_)
  obtain ⟨r1, rfl, ⟨rfl, rfl⟩, s1⟩ := ex
  exact V.icmp_eq (tgt := 1892) dL_law_1667 (by decide) (fun _ => k _ _ _ I2) (fun q => absurd rfl q)
theorem law_reads {b L : Nat} {xs : Nat → Int32} {h : HP} {t u i : Nat} (hL : L ≤ 3072) (hi : i + 6 ≤ L) (I : Inv h t u) (k : ∀ h' t' u', Inv h' t' u' → V cL_law miL_law (ZL b L xs) 0 1892 [.ref (NUL + 1), .ref 0, .ref 113, .int (nI i)] [] h') : V cL_law miL_law (ZL b L xs) 0 1672 [.ref (NUL + 1), .ref 0, .ref 113, .int (nI i)] [] h := by
  obtain ⟨r, h1, h2, e1, e2, I2⟩ := op_reads I (xs (i + 1)) (xs (i + 2))
  have ly := I.1.1
  refine V.aload_n dL_law_1672 rfl rfl rfl ?_
  refine V.larg (j := 1) dL_law_1673 dL_law_1674 dL_law_1675 dL_law_1676 dL_law_1677 rfl hL (by omega) ?_
  refine V.larg (j := 2) dL_law_1678 dL_law_1679 dL_law_1680 dL_law_1681 dL_law_1682 rfl hL (by omega) ?_
  refine V.lcall (a := 0) (ci := 9) (z := 0) ly dL_law_1683 ml_L_226 mo_X11_reads mv_X11_reads rfl (fun q hq => by cases hq; rfl) (by decide) (th_X11_reads ly I.1.2.2.1.1 I.1.2.2.2.1 e1) rfl rfl ⟨Nat.le_of_ble_eq_true rfl, Nat.le_of_ble_eq_true rfl⟩ ⟨rfl, rfl⟩ (Nat.le_of_ble_eq_true rfl) (fun v0 g0 ex => ?_)
  obtain ⟨r0, rfl, ⟨rfl, rfl⟩, s0⟩ := ex
  have ly1 : Lay g0 := s0.ly ly
  refine V.aload_n dL_law_1686 rfl rfl rfl ?_
  refine V.larg (j := 1) dL_law_1687 dL_law_1688 dL_law_1689 dL_law_1690 dL_law_1691 rfl hL (by omega) ?_
  refine V.larg (j := 2) dL_law_1692 dL_law_1693 dL_law_1694 dL_law_1695 dL_law_1696 rfl hL (by omega) ?_
  refine V.lcall (a := 113) (ci := 10) (z := 0) ly1 dL_law_1697 ml_L_229 mo_X12_reads mv_X12_reads rfl (fun q hq => by cases hq; rfl) (by decide) (th_X12_reads ly1 e2) rfl rfl ⟨Nat.le_of_ble_eq_true rfl, Nat.le_of_ble_eq_true rfl⟩ ⟨rfl, rfl⟩ (Nat.le_of_ble_eq_true rfl) (fun v1 g1 ex => ?_)
  obtain ⟨r1, rfl, ⟨rfl, rfl⟩, s1⟩ := ex
  exact V.icmp_eq (tgt := 1892) dL_law_1700 (by decide) (fun _ => k _ _ _ I2) (fun q => absurd rfl q)
theorem law_mirror {b L : Nat} {xs : Nat → Int32} {h : HP} {t u i : Nat} (hL : L ≤ 3072) (hi : i + 6 ≤ L) (I : Inv h t u) (k : ∀ h' t' u', Inv h' t' u' → V cL_law miL_law (ZL b L xs) 0 1892 [.ref (NUL + 1), .ref 0, .ref 113, .int (nI i)] [] h') : V cL_law miL_law (ZL b L xs) 0 1705 [.ref (NUL + 1), .ref 0, .ref 113, .int (nI i)] [] h := by
  obtain ⟨r, h1, h2, e1, e2, I2⟩ := op_mirror I
  have ly := I.1.1
  refine V.aload_n dL_law_1705 rfl rfl rfl ?_
  refine V.lcall (a := 0) (ci := 9) (z := 0) ly dL_law_1706 ml_L_230 mo_X11_mirror mv_X11_mirror rfl (fun q hq => by cases hq; rfl) (by decide) (th_X11_mirror ly I.1.2.2.1.1 I.1.2.2.2.1 e1) rfl rfl ⟨Nat.le_of_ble_eq_true rfl, Nat.le_of_ble_eq_true rfl⟩ ⟨rfl, rfl⟩ (Nat.le_of_ble_eq_true rfl) (fun v0 g0 ex => ?_)
  obtain ⟨r0, rfl, ⟨rfl, rfl⟩, s0⟩ := ex
  have ly1 : Lay g0 := s0.ly ly
  refine V.aload_n dL_law_1709 rfl rfl rfl ?_
  refine V.lcall (a := 113) (ci := 10) (z := 0) ly1 dL_law_1710 ml_L_233 mo_X12_mirror mv_X12_mirror rfl (fun q hq => by cases hq; rfl) (by decide) (th_X12_mirror ly1 e2) rfl rfl ⟨Nat.le_of_ble_eq_true rfl, Nat.le_of_ble_eq_true rfl⟩ ⟨rfl, rfl⟩ (Nat.le_of_ble_eq_true rfl) (fun v1 g1 ex => ?_)
  obtain ⟨r1, rfl, ⟨rfl, rfl⟩, s1⟩ := ex
  exact V.icmp_eq (tgt := 1892) dL_law_1713 (by decide) (fun _ => k _ _ _ I2) (fun q => absurd rfl q)
theorem law_heaps {b L : Nat} {xs : Nat → Int32} {h : HP} {t u i : Nat} (hL : L ≤ 3072) (hi : i + 6 ≤ L) (I : Inv h t u) (k : ∀ h' t' u', Inv h' t' u' → V cL_law miL_law (ZL b L xs) 0 1892 [.ref (NUL + 1), .ref 0, .ref 113, .int (nI i)] [] h') : V cL_law miL_law (ZL b L xs) 0 1718 [.ref (NUL + 1), .ref 0, .ref 113, .int (nI i)] [] h := by
  obtain ⟨r, h1, h2, e1, e2, I2⟩ := op_heaps I (xs (i + 1))
  have ly := I.1.1
  refine V.aload_n dL_law_1718 rfl rfl rfl ?_
  refine V.larg (j := 1) dL_law_1719 dL_law_1720 dL_law_1721 dL_law_1722 dL_law_1723 rfl hL (by omega) ?_
  refine V.lcall (a := 0) (ci := 9) (z := 0) ly dL_law_1724 ml_L_234 mo_X11_heaps mv_X11_heaps rfl (fun q hq => by cases hq; rfl) (by decide) (th_X11_heaps ly I.1.2.2.1.1 I.1.2.2.2.1 e1) rfl rfl ⟨Nat.le_of_ble_eq_true rfl, Nat.le_of_ble_eq_true rfl⟩ ⟨rfl, rfl⟩ (Nat.le_of_ble_eq_true rfl) (fun v0 g0 ex => ?_)
  obtain ⟨r0, rfl, ⟨rfl, rfl⟩, s0⟩ := ex
  have ly1 : Lay g0 := s0.ly ly
  refine V.aload_n dL_law_1727 rfl rfl rfl ?_
  refine V.larg (j := 1) dL_law_1728 dL_law_1729 dL_law_1730 dL_law_1731 dL_law_1732 rfl hL (by omega) ?_
  refine V.lcall (a := 113) (ci := 10) (z := 0) ly1 dL_law_1733 ml_L_237 mo_X12_heaps mv_X12_heaps rfl (fun q hq => by cases hq; rfl) (by decide) (th_X12_heaps ly1 e2) rfl rfl ⟨Nat.le_of_ble_eq_true rfl, Nat.le_of_ble_eq_true rfl⟩ ⟨rfl, rfl⟩ (Nat.le_of_ble_eq_true rfl) (fun v1 g1 ex => ?_)
  obtain ⟨r1, rfl, ⟨rfl, rfl⟩, s1⟩ := ex
  exact V.icmp_eq (tgt := 1892) dL_law_1736 (by decide) (fun _ => k _ _ _ I2) (fun q => absurd rfl q)
theorem law_heap {b L : Nat} {xs : Nat → Int32} {h : HP} {t u i : Nat} (hL : L ≤ 3072) (hi : i + 6 ≤ L) (I : Inv h t u) (k : ∀ h' t' u', Inv h' t' u' → V cL_law miL_law (ZL b L xs) 0 1892 [.ref (NUL + 1), .ref 0, .ref 113, .int (nI i)] [] h') : V cL_law miL_law (ZL b L xs) 0 1741 [.ref (NUL + 1), .ref 0, .ref 113, .int (nI i)] [] h := by
  obtain ⟨r, h1, h2, e1, e2, I2⟩ := op_heap I (xs (i + 1)) (xs (i + 2))
  have ly := I.1.1
  refine V.aload_n dL_law_1741 rfl rfl rfl ?_
  refine V.larg (j := 1) dL_law_1742 dL_law_1743 dL_law_1744 dL_law_1745 dL_law_1746 rfl hL (by omega) ?_
  refine V.larg (j := 2) dL_law_1747 dL_law_1748 dL_law_1749 dL_law_1750 dL_law_1751 rfl hL (by omega) ?_
  refine V.lcall (a := 0) (ci := 9) (z := 0) ly dL_law_1752 ml_L_238 mo_X11_heap mv_X11_heap rfl (fun q hq => by cases hq; rfl) (by decide) (th_X11_heap ly I.1.2.2.1.1 I.1.2.2.2.1 e1) rfl rfl ⟨Nat.le_of_ble_eq_true rfl, Nat.le_of_ble_eq_true rfl⟩ ⟨rfl, rfl⟩ (Nat.le_of_ble_eq_true rfl) (fun v0 g0 ex => ?_)
  obtain ⟨r0, rfl, ⟨rfl, rfl⟩, s0⟩ := ex
  have ly1 : Lay g0 := s0.ly ly
  refine V.aload_n dL_law_1755 rfl rfl rfl ?_
  refine V.larg (j := 1) dL_law_1756 dL_law_1757 dL_law_1758 dL_law_1759 dL_law_1760 rfl hL (by omega) ?_
  refine V.larg (j := 2) dL_law_1761 dL_law_1762 dL_law_1763 dL_law_1764 dL_law_1765 rfl hL (by omega) ?_
  refine V.lcall (a := 113) (ci := 10) (z := 0) ly1 dL_law_1766 ml_L_241 mo_X12_heap mv_X12_heap rfl (fun q hq => by cases hq; rfl) (by decide) (th_X12_heap ly1 e2) rfl rfl ⟨Nat.le_of_ble_eq_true rfl, Nat.le_of_ble_eq_true rfl⟩ ⟨rfl, rfl⟩ (Nat.le_of_ble_eq_true rfl) (fun v1 g1 ex => ?_)
  obtain ⟨r1, rfl, ⟨rfl, rfl⟩, s1⟩ := ex
  exact V.icmp_eq (tgt := 1892) dL_law_1769 (by decide) (fun _ => k _ _ _ I2) (fun q => absurd rfl q)
theorem law_company {b L : Nat} {xs : Nat → Int32} {h : HP} {t u i : Nat} (hL : L ≤ 3072) (hi : i + 6 ≤ L) (I : Inv h t u) (k : ∀ h' t' u', Inv h' t' u' → V cL_law miL_law (ZL b L xs) 0 1892 [.ref (NUL + 1), .ref 0, .ref 113, .int (nI i)] [] h') : V cL_law miL_law (ZL b L xs) 0 1774 [.ref (NUL + 1), .ref 0, .ref 113, .int (nI i)] [] h := by
  obtain ⟨r, h1, h2, e1, e2, I2⟩ := op_company I
  have ly := I.1.1
  refine V.aload_n dL_law_1774 rfl rfl rfl ?_
  refine V.lcall (a := 0) (ci := 9) (z := 0) ly dL_law_1775 ml_L_242 mo_X11_company mv_X11_company rfl (fun q hq => by cases hq; rfl) (by decide) (th_X11_company ly I.1.2.2.1.1 I.1.2.2.2.1 e1) rfl rfl ⟨Nat.le_of_ble_eq_true rfl, Nat.le_of_ble_eq_true rfl⟩ ⟨rfl, rfl⟩ (Nat.le_of_ble_eq_true rfl) (fun v0 g0 ex => ?_)
  obtain ⟨r0, rfl, ⟨rfl, rfl⟩, s0⟩ := ex
  have ly1 : Lay g0 := s0.ly ly
  refine V.aload_n dL_law_1778 rfl rfl rfl ?_
  refine V.lcall (a := 113) (ci := 10) (z := 0) ly1 dL_law_1779 ml_L_246 mo_X12_company mv_X12_company rfl (fun q hq => by cases hq; rfl) (by decide) (th_X12_company ly1 e2) rfl rfl ⟨Nat.le_of_ble_eq_true rfl, Nat.le_of_ble_eq_true rfl⟩ ⟨rfl, rfl⟩ (Nat.le_of_ble_eq_true rfl) (fun v1 g1 ex => ?_)
  obtain ⟨r1, rfl, ⟨rfl, rfl⟩, s1⟩ := ex
  exact V.icmp_eq (tgt := 1892) dL_law_1782 (by decide) (fun _ => k _ _ _ I2) (fun q => absurd rfl q)
theorem law_live {b L : Nat} {xs : Nat → Int32} {h : HP} {t u i : Nat} (hL : L ≤ 3072) (hi : i + 6 ≤ L) (I : Inv h t u) (k : ∀ h' t' u', Inv h' t' u' → V cL_law miL_law (ZL b L xs) 0 1892 [.ref (NUL + 1), .ref 0, .ref 113, .int (nI i)] [] h') : V cL_law miL_law (ZL b L xs) 0 1787 [.ref (NUL + 1), .ref 0, .ref 113, .int (nI i)] [] h := by
  obtain ⟨r, h1, h2, e1, e2, I2⟩ := op_live I (xs (i + 1))
  have ly := I.1.1
  refine V.aload_n dL_law_1787 rfl rfl rfl ?_
  refine V.larg (j := 1) dL_law_1788 dL_law_1789 dL_law_1790 dL_law_1791 dL_law_1792 rfl hL (by omega) ?_
  refine V.lcall (a := 0) (ci := 9) (z := 0) ly dL_law_1793 ml_L_247 mo_X11_live mv_X11_live rfl (fun q hq => by cases hq; rfl) (by decide) (th_X11_live ly I.1.2.2.1.1 I.1.2.2.2.1 e1) rfl rfl ⟨Nat.le_of_ble_eq_true rfl, Nat.le_of_ble_eq_true rfl⟩ ⟨rfl, rfl⟩ (Nat.le_of_ble_eq_true rfl) (fun v0 g0 ex => ?_)
  obtain ⟨r0, rfl, ⟨rfl, rfl⟩, s0⟩ := ex
  have ly1 : Lay g0 := s0.ly ly
  refine V.aload_n dL_law_1796 rfl rfl rfl ?_
  refine V.larg (j := 1) dL_law_1797 dL_law_1798 dL_law_1799 dL_law_1800 dL_law_1801 rfl hL (by omega) ?_
  refine V.lcall (a := 113) (ci := 10) (z := 0) ly1 dL_law_1802 ml_L_250 mo_X12_live mv_X12_live rfl (fun q hq => by cases hq; rfl) (by decide) (th_X12_live ly1 e2) rfl rfl ⟨Nat.le_of_ble_eq_true rfl, Nat.le_of_ble_eq_true rfl⟩ ⟨rfl, rfl⟩ (Nat.le_of_ble_eq_true rfl) (fun v1 g1 ex => ?_)
  obtain ⟨r1, rfl, ⟨rfl, rfl⟩, s1⟩ := ex
  exact V.icmp_eq (tgt := 1892) dL_law_1805 (by decide) (fun _ => k _ _ _ I2) (fun q => absurd rfl q)
theorem law_lived {b L : Nat} {xs : Nat → Int32} {h : HP} {t u i : Nat} (hL : L ≤ 3072) (hi : i + 6 ≤ L) (I : Inv h t u) (k : ∀ h' t' u', Inv h' t' u' → V cL_law miL_law (ZL b L xs) 0 1892 [.ref (NUL + 1), .ref 0, .ref 113, .int (nI i)] [] h') : V cL_law miL_law (ZL b L xs) 0 1810 [.ref (NUL + 1), .ref 0, .ref 113, .int (nI i)] [] h := by
  obtain ⟨r, h1, h2, e1, e2, I2⟩ := op_lived I (xs (i + 1))
  have ly := I.1.1
  refine V.aload_n dL_law_1810 rfl rfl rfl ?_
  refine V.larg (j := 1) dL_law_1811 dL_law_1812 dL_law_1813 dL_law_1814 dL_law_1815 rfl hL (by omega) ?_
  refine V.lcall (a := 0) (ci := 9) (z := 0) ly dL_law_1816 ml_L_251 mo_X11_lived mv_X11_lived rfl (fun q hq => by cases hq; rfl) (by decide) (th_X11_lived ly I.1.2.2.1.1 I.1.2.2.2.1 e1) rfl rfl ⟨Nat.le_of_ble_eq_true rfl, Nat.le_of_ble_eq_true rfl⟩ ⟨rfl, rfl⟩ (Nat.le_of_ble_eq_true rfl) (fun v0 g0 ex => ?_)
  obtain ⟨r0, rfl, ⟨rfl, rfl⟩, s0⟩ := ex
  have ly1 : Lay g0 := s0.ly ly
  refine V.aload_n dL_law_1819 rfl rfl rfl ?_
  refine V.larg (j := 1) dL_law_1820 dL_law_1821 dL_law_1822 dL_law_1823 dL_law_1824 rfl hL (by omega) ?_
  refine V.lcall (a := 113) (ci := 10) (z := 0) ly1 dL_law_1825 ml_L_254 mo_X12_lived mv_X12_lived rfl (fun q hq => by cases hq; rfl) (by decide) (th_X12_lived ly1 e2) rfl rfl ⟨Nat.le_of_ble_eq_true rfl, Nat.le_of_ble_eq_true rfl⟩ ⟨rfl, rfl⟩ (Nat.le_of_ble_eq_true rfl) (fun v1 g1 ex => ?_)
  obtain ⟨r1, rfl, ⟨rfl, rfl⟩, s1⟩ := ex
  exact V.icmp_eq (tgt := 1892) dL_law_1828 (by decide) (fun _ => k _ _ _ I2) (fun q => absurd rfl q)
theorem law_mean {b L : Nat} {xs : Nat → Int32} {h : HP} {t u i : Nat} (hL : L ≤ 3072) (hi : i + 6 ≤ L) (I : Inv h t u) (k : ∀ h' t' u', Inv h' t' u' → V cL_law miL_law (ZL b L xs) 0 1892 [.ref (NUL + 1), .ref 0, .ref 113, .int (nI i)] [] h') : V cL_law miL_law (ZL b L xs) 0 1833 [.ref (NUL + 1), .ref 0, .ref 113, .int (nI i)] [] h := by
  obtain ⟨r, h1, h2, e1, e2, I2⟩ := op_mean I (xs (i + 1)) (xs (i + 2))
  have ly := I.1.1
  refine V.aload_n dL_law_1833 rfl rfl rfl ?_
  refine V.larg (j := 1) dL_law_1834 dL_law_1835 dL_law_1836 dL_law_1837 dL_law_1838 rfl hL (by omega) ?_
  refine V.larg (j := 2) dL_law_1839 dL_law_1840 dL_law_1841 dL_law_1842 dL_law_1843 rfl hL (by omega) ?_
  refine V.lcall (a := 0) (ci := 9) (z := 0) ly dL_law_1844 ml_L_255 mo_X11_mean mv_X11_mean rfl (fun q hq => by cases hq; rfl) (by decide) (th_X11_mean ly I.1.2.2.1.1 I.1.2.2.1.2.1 I.1.2.2.2.1 I.1.2.2.2.2 e1) rfl rfl ⟨Nat.le_of_ble_eq_true rfl, Nat.le_of_ble_eq_true rfl⟩ ⟨rfl, rfl⟩ (Nat.le_of_ble_eq_true rfl) (fun v0 g0 ex => ?_)
  obtain ⟨r0, rfl, ⟨rfl, rfl⟩, s0⟩ := ex
  have ly1 : Lay g0 := s0.ly ly
  refine V.aload_n dL_law_1847 rfl rfl rfl ?_
  refine V.larg (j := 1) dL_law_1848 dL_law_1849 dL_law_1850 dL_law_1851 dL_law_1852 rfl hL (by omega) ?_
  refine V.larg (j := 2) dL_law_1853 dL_law_1854 dL_law_1855 dL_law_1856 dL_law_1857 rfl hL (by omega) ?_
  refine V.lcall (a := 113) (ci := 10) (z := 0) ly1 dL_law_1858 ml_L_259 mo_X12_mean mv_X12_mean rfl (fun q hq => by cases hq; rfl) (by decide) (th_X12_mean ly1 e2) rfl rfl ⟨Nat.le_of_ble_eq_true rfl, Nat.le_of_ble_eq_true rfl⟩ ⟨rfl, rfl⟩ (Nat.le_of_ble_eq_true rfl) (fun v1 g1 ex => ?_)
  obtain ⟨r1, rfl, ⟨rfl, rfl⟩, s1⟩ := ex
  exact V.icmp_eq (tgt := 1892) dL_law_1861 (by decide) (fun _ => k _ _ _ I2) (fun q => absurd rfl q)
theorem law_mark {b L : Nat} {xs : Nat → Int32} {h : HP} {t u i : Nat} (hL : L ≤ 3072) (hi : i + 6 ≤ L) (I : Inv h t u) (k : ∀ h' t' u', Inv h' t' u' → V cL_law miL_law (ZL b L xs) 0 1892 [.ref (NUL + 1), .ref 0, .ref 113, .int (nI i)] [] h') : V cL_law miL_law (ZL b L xs) 0 1866 [.ref (NUL + 1), .ref 0, .ref 113, .int (nI i)] [] h := by
  obtain ⟨r, h1, h2, e1, e2, I2⟩ := op_mark I
  have ly := I.1.1
  refine V.aload_n dL_law_1866 rfl rfl rfl ?_
  refine V.lcall (a := 0) (ci := 9) (z := 0) ly dL_law_1867 ml_L_260 mo_X11_mark mv_X11_mark rfl (fun q hq => by cases hq; rfl) (by decide) (th_X11_mark ly I.1.2.2.1.1 I.1.2.2.2.1 I.1.2.1 e1) rfl rfl ⟨Nat.le_of_ble_eq_true rfl, Nat.le_of_ble_eq_true rfl⟩ ⟨rfl, rfl⟩ (Nat.le_of_ble_eq_true rfl) (fun v0 g0 ex => ?_)
  obtain ⟨r0, rfl, ⟨rfl, rfl⟩, s0⟩ := ex
  have ly1 : Lay g0 := s0.ly ly
  refine V.aload_n dL_law_1870 rfl rfl rfl ?_
  refine V.lcall (a := 113) (ci := 10) (z := 0) ly1 dL_law_1871 ml_L_263 mo_X12_mark mv_X12_mark rfl (fun q hq => by cases hq; rfl) (by decide) (th_X12_mark ly1 e2) rfl rfl ⟨Nat.le_of_ble_eq_true rfl, Nat.le_of_ble_eq_true rfl⟩ ⟨rfl, rfl⟩ (Nat.le_of_ble_eq_true rfl) (fun v1 g1 ex => ?_)
  obtain ⟨r1, rfl, ⟨rfl, rfl⟩, s1⟩ := ex
  exact V.icmp_eq (tgt := 1892) dL_law_1874 (by decide) (fun _ => k _ _ _ I2) (fun q => absurd rfl q)
theorem law_back {b L : Nat} {xs : Nat → Int32} {h : HP} {t u i : Nat} (hL : L ≤ 3072) (hi : i + 6 ≤ L) (I : Inv h t u) (k : ∀ h' t' u', Inv h' t' u' → V cL_law miL_law (ZL b L xs) 0 1892 [.ref (NUL + 1), .ref 0, .ref 113, .int (nI i)] [] h') : V cL_law miL_law (ZL b L xs) 0 1879 [.ref (NUL + 1), .ref 0, .ref 113, .int (nI i)] [] h := by
  obtain ⟨r, h1, h2, e1, e2, I2⟩ := op_back I
  have ly := I.1.1
  refine V.aload_n dL_law_1879 rfl rfl rfl ?_
  refine V.lcall (a := 0) (ci := 9) (z := 0) ly dL_law_1880 ml_L_264 mo_X11_back mv_X11_back rfl (fun q hq => by cases hq; rfl) (by decide) (th_X11_back ly I.1.2.2.1.1 I.1.2.2.2.1 I.1.2.1 e1) rfl rfl ⟨Nat.le_of_ble_eq_true rfl, Nat.le_of_ble_eq_true rfl⟩ ⟨rfl, rfl⟩ (Nat.le_of_ble_eq_true rfl) (fun v0 g0 ex => ?_)
  obtain ⟨r0, rfl, ⟨rfl, rfl⟩, s0⟩ := ex
  have ly1 : Lay g0 := s0.ly ly
  refine V.aload_n dL_law_1883 rfl rfl rfl ?_
  refine V.lcall (a := 113) (ci := 10) (z := 0) ly1 dL_law_1884 ml_L_267 mo_X12_back mv_X12_back rfl (fun q hq => by cases hq; rfl) (by decide) (th_X12_back ly1 e2) rfl rfl ⟨Nat.le_of_ble_eq_true rfl, Nat.le_of_ble_eq_true rfl⟩ ⟨rfl, rfl⟩ (Nat.le_of_ble_eq_true rfl) (fun v1 g1 ex => ?_)
  obtain ⟨r1, rfl, ⟨rfl, rfl⟩, s1⟩ := ex
  exact V.icmp_eq (tgt := 1892) dL_law_1887 (by decide) (fun _ => k _ _ _ I2) (fun q => absurd rfl q)
