/-! ===== the law: its switch, its loop ===== -/
theorem law_jump {b L : Nat} {xs : Nat → Int32} {h : HP} {t u i : Nat} (hL : L ≤ 3072) (hi : i + 6 ≤ L) (I : Inv h t u) (k : ∀ h' t' u', Inv h' t' u' → V cL_law miL_law (ZL b L xs) 0 1892 [.ref (NUL + 1), .ref 0, .ref 113, .int (nI i)] [] h') : ∀ n, n < 64 → V cL_law miL_law (ZL b L xs) 0 33 [.ref (NUL + 1), .ref 0, .ref 113, .int (nI i)] [.int (nI n)] h
  | 0, _ => V.tableIn (tgt := 284) dL_law_33 (by decide +kernel) (by decide +kernel) rfl (by decide) (law_status hL hi I k)
  | 1, _ => V.tableIn (tgt := 297) dL_law_33 (by decide +kernel) (by decide +kernel) rfl (by decide) (law_top hL hi I k)
  | 2, _ => V.tableIn (tgt := 311) dL_law_33 (by decide +kernel) (by decide +kernel) rfl (by decide) (law_bottom hL hi I k)
  | 3, _ => V.tableIn (tgt := 325) dL_law_33 (by decide +kernel) (by decide +kernel) rfl (by decide) (law_tray hL hi I k)
  | 4, _ => V.tableIn (tgt := 368) dL_law_33 (by decide +kernel) (by decide +kernel) rfl (by decide) (law_write hL hi I k)
  | 5, _ => V.tableIn (tgt := 441) dL_law_33 (by decide +kernel) (by decide +kernel) rfl (by decide) (law_read hL hi I k)
  | 6, _ => V.tableIn (tgt := 475) dL_law_33 (by decide +kernel) (by decide +kernel) rfl (by decide) (law_pour hL hi I k)
  | 7, _ => V.tableIn (tgt := 538) dL_law_33 (by decide +kernel) (by decide +kernel) rfl (by decide) (law_feed hL hi I k)
  | 8, _ => V.tableIn (tgt := 601) dL_law_33 (by decide +kernel) (by decide +kernel) rfl (by decide) (law_town hL hi I k)
  | 9, _ => V.tableIn (tgt := 624) dL_law_33 (by decide +kernel) (by decide +kernel) rfl (by decide) (law_year hL hi I k)
  | 10, _ => V.tableIn (tgt := 647) dL_law_33 (by decide +kernel) (by decide +kernel) rfl (by decide) (law_fault hL hi I k)
  | 11, _ => V.tableIn (tgt := 670) dL_law_33 (by decide +kernel) (by decide +kernel) rfl (by decide) (law_told hL hi I k)
  | 12, _ => V.tableIn (tgt := 693) dL_law_33 (by decide +kernel) (by decide +kernel) rfl (by decide) (law_picture hL hi I k)
  | 13, _ => V.tableIn (tgt := 707) dL_law_33 (by decide +kernel) (by decide +kernel) rfl (by decide) (law_lamp hL hi I k)
  | 14, _ => V.tableIn (tgt := 750) dL_law_33 (by decide +kernel) (by decide +kernel) rfl (by decide) (law_rule hL hi I k)
  | 15, _ => V.tableIn (tgt := 783) dL_law_33 (by decide +kernel) (by decide +kernel) rfl (by decide) (law_citizen hL hi I k)
  | 16, _ => V.tableIn (tgt := 816) dL_law_33 (by decide +kernel) (by decide +kernel) rfl (by decide) (law_turn hL hi I k)
  | 17, _ => V.tableIn (tgt := 849) dL_law_33 (by decide +kernel) (by decide +kernel) rfl (by decide) (law_paint hL hi I k)
  | 18, _ => V.tableIn (tgt := 902) dL_law_33 (by decide +kernel) (by decide +kernel) rfl (by decide) (law_paintRows hL hi I k)
  | 19, _ => V.tableIn (tgt := 925) dL_law_33 (by decide +kernel) (by decide +kernel) rfl (by decide) (law_copyRows hL hi I k)
  | 20, _ => V.tableIn (tgt := 948) dL_law_33 (by decide +kernel) (by decide +kernel) rfl (by decide) (law_mayor hL hi I k)
  | 21, _ => V.tableIn (tgt := 971) dL_law_33 (by decide +kernel) (by decide +kernel) rfl (by decide) (law_bend hL hi I k)
  | 22, _ => V.tableIn (tgt := 1014) dL_law_33 (by decide +kernel) (by decide +kernel) rfl (by decide) (law_night hL hi I k)
  | 23, _ => V.tableIn (tgt := 1037) dL_law_33 (by decide +kernel) (by decide +kernel) rfl (by decide) (law_ahead hL hi I k)
  | 24, _ => V.tableIn (tgt := 1061) dL_law_33 (by decide +kernel) (by decide +kernel) rfl (by decide) (law_again hL hi I k)
  | 25, _ => V.tableIn (tgt := 1084) dL_law_33 (by decide +kernel) (by decide +kernel) rfl (by decide) (law_far hL hi I k)
  | 26, _ => V.tableIn (tgt := 1108) dL_law_33 (by decide +kernel) (by decide +kernel) rfl (by decide) (law_walks hL hi I k)
  | 27, _ => V.tableIn (tgt := 1131) dL_law_33 (by decide +kernel) (by decide +kernel) rfl (by decide) (law_still hL hi I k)
  | 28, _ => V.tableIn (tgt := 1144) dL_law_33 (by decide +kernel) (by decide +kernel) rfl (by decide) (law_next hL hi I k)
  | 29, _ => V.tableIn (tgt := 1167) dL_law_33 (by decide +kernel) (by decide +kernel) rfl (by decide) (law_oil hL hi I k)
  | 30, _ => V.tableIn (tgt := 1190) dL_law_33 (by decide +kernel) (by decide +kernel) rfl (by decide) (law_brightest hL hi I k)
  | 31, _ => V.tableIn (tgt := 1213) dL_law_33 (by decide +kernel) (by decide +kernel) rfl (by decide) (law_ancestors hL hi I k)
  | 32, _ => V.tableIn (tgt := 1227) dL_law_33 (by decide +kernel) (by decide +kernel) rfl (by decide) (law_ancestor hL hi I k)
  | 33, _ => V.tableIn (tgt := 1241) dL_law_33 (by decide +kernel) (by decide +kernel) rfl (by decide) (law_stills hL hi I k)
  | 34, _ => V.tableIn (tgt := 1255) dL_law_33 (by decide +kernel) (by decide +kernel) rfl (by decide) (law_firstStill hL hi I k)
  | 35, _ => V.tableIn (tgt := 1269) dL_law_33 (by decide +kernel) (by decide +kernel) rfl (by decide) (law_pictures hL hi I k)
  | 36, _ => V.tableIn (tgt := 1283) dL_law_33 (by decide +kernel) (by decide +kernel) rfl (by decide) (law_signal hL hi I k)
  | 37, _ => V.tableIn (tgt := 1336) dL_law_33 (by decide +kernel) (by decide +kernel) rfl (by decide) (law_spoils hL hi I k)
  | 38, _ => V.tableIn (tgt := 1379) dL_law_33 (by decide +kernel) (by decide +kernel) rfl (by decide) (law_worst hL hi I k)
  | 39, _ => V.tableIn (tgt := 1412) dL_law_33 (by decide +kernel) (by decide +kernel) rfl (by decide) (law_mend hL hi I k)
  | 40, _ => V.tableIn (tgt := 1475) dL_law_33 (by decide +kernel) (by decide +kernel) rfl (by decide) (law_unlike hL hi I k)
  | 41, _ => V.tableIn (tgt := 1528) dL_law_33 (by decide +kernel) (by decide +kernel) rfl (by decide) (law_seen hL hi I k)
  | 42, _ => V.tableIn (tgt := 1561) dL_law_33 (by decide +kernel) (by decide +kernel) rfl (by decide) (law_rulesLeft hL hi I k)
  | 43, _ => V.tableIn (tgt := 1574) dL_law_33 (by decide +kernel) (by decide +kernel) rfl (by decide) (law_fits hL hi I k)
  | 44, _ => V.tableIn (tgt := 1587) dL_law_33 (by decide +kernel) (by decide +kernel) rfl (by decide) (law_forget hL hi I k)
  | 45, _ => V.tableIn (tgt := 1600) dL_law_33 (by decide +kernel) (by decide +kernel) rfl (by decide) (law_shows hL hi I k)
  | 46, _ => V.tableIn (tgt := 1613) dL_law_33 (by decide +kernel) (by decide +kernel) rfl (by decide) (law_vote hL hi I k)
  | 47, _ => V.tableIn (tgt := 1636) dL_law_33 (by decide +kernel) (by decide +kernel) rfl (by decide) (law_votes hL hi I k)
  | 48, _ => V.tableIn (tgt := 1659) dL_law_33 (by decide +kernel) (by decide +kernel) rfl (by decide) (law_elect hL hi I k)
  | 49, _ => V.tableIn (tgt := 1672) dL_law_33 (by decide +kernel) (by decide +kernel) rfl (by decide) (law_reads hL hi I k)
  | 50, _ => V.tableIn (tgt := 1705) dL_law_33 (by decide +kernel) (by decide +kernel) rfl (by decide) (law_mirror hL hi I k)
  | 51, _ => V.tableIn (tgt := 1718) dL_law_33 (by decide +kernel) (by decide +kernel) rfl (by decide) (law_heaps hL hi I k)
  | 52, _ => V.tableIn (tgt := 1741) dL_law_33 (by decide +kernel) (by decide +kernel) rfl (by decide) (law_heap hL hi I k)
  | 53, _ => V.tableIn (tgt := 1774) dL_law_33 (by decide +kernel) (by decide +kernel) rfl (by decide) (law_company hL hi I k)
  | 54, _ => V.tableIn (tgt := 1787) dL_law_33 (by decide +kernel) (by decide +kernel) rfl (by decide) (law_live hL hi I k)
  | 55, _ => V.tableIn (tgt := 1810) dL_law_33 (by decide +kernel) (by decide +kernel) rfl (by decide) (law_lived hL hi I k)
  | 56, _ => V.tableIn (tgt := 1833) dL_law_33 (by decide +kernel) (by decide +kernel) rfl (by decide) (law_mean hL hi I k)
  | 57, _ => V.tableIn (tgt := 1866) dL_law_33 (by decide +kernel) (by decide +kernel) rfl (by decide) (law_mark hL hi I k)
  | 58, _ => V.tableIn (tgt := 1879) dL_law_33 (by decide +kernel) (by decide +kernel) rfl (by decide) (law_back hL hi I k)
  | n + 59, hn => V.tableOut (tgt := 1892) dL_law_33 (Or.inr (by rw [nI_toInt (by omega)]; omega)) (by decide) (k _ _ _ I)
theorem law_sw {b L : Nat} {xs : Nat → Int32} {h : HP} {t u i : Nat} (hL : L ≤ 3072) (hi : i + 6 ≤ L) (I : Inv h t u) (k : ∀ h' t' u', Inv h' t' u' → V cL_law miL_law (ZL b L xs) 0 1892 [.ref (NUL + 1), .ref 0, .ref 113, .int (nI i)] [] h') : V cL_law miL_law (ZL b L xs) 0 27 [.ref (NUL + 1), .ref 0, .ref 113, .int (nI i)] [] h := by
  refine V.aload_x dL_law_27 rfl rfl ?_
  refine V.iload_n dL_law_28 rfl rfl ?_
  refine V.sld dL_law_29 (by omega) hL ?_
  refine V.bipush (v := 63) dL_law_30 rfl ?_
  refine V.iand dL_law_32 ?_
  obtain ⟨n, hn, e⟩ := and63 (xs i)
  rw [e]
  exact law_jump hL hi I k n hn
theorem law_loop {b L : Nat} {xs : Nat → Int32} (hL : L ≤ 3072) (d : Nat) : ∀ (i : Nat) (h : HP) (t u : Nat), L + 6 ≤ i + d → i ≤ L + 6 → Inv h t u → V cL_law miL_law (ZL b L xs) 0 18 [.ref (NUL + 1), .ref 0, .ref 113, .int (nI i)] [] h := by
  induction d with
  | zero =>
    intro i h t u hd hi I
    exact law_head hL (by omega) I.1.1.1 (fun h6 => absurd h6 (by omega))
  | succ d ih =>
    intro i h t u hd hi I
    refine law_head hL (by omega) I.1.1.1 (fun h6 => law_sw hL h6 I (fun h' t' u' I' => ?_))
    refine V.iinc (v := nI (i + 6)) (ls' := [.ref (NUL + 1), .ref 0, .ref 113, .int (nI (i + 6))]) dL_law_1892 rfl (by decide) (nI_add i 6) rfl ?_
    refine V.goto (tgt := 18) dL_law_1895 (by decide) ?_
    exact ih (i + 6) h' t' u' (by omega) (by omega) I'
