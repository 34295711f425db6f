/-! ===== the law from its entry ===== -/
theorem hz_1 : hz.1 = 0 := rfl
set_option maxHeartbeats 4000000 in
set_option maxRecDepth 100000 in
theorem law_V {b L : Nat} {xs : Nat → Int32} (hL : L ≤ 3072) : V cL_law miL_law (ZL b L xs) 0 0 [.ref (NUL + 1), .null, .null, .null] [] hz := by
  refine V.new (ci := 9) (z := 0) (q := (RX11, TX11, 15)) dL_law_0 rfl cok_X11 kl_L_7 (by rw [hz_1]; rfl) (by rw [hz_1]; exact ⟨by decide, by decide +kernel⟩) (Nat.le_refl _) ?_
  rw [hz_1]
  refine V.nmh (fun h0 e0 => ?_)
  have n0 : h0.1 = 1 := by rw [e0]; rfl
  refine V.dup dL_law_3 rfl ?_
  refine V.callIV (q := (0, 9, 0)) dL_law_4 ml_L_9 mo_X11_init mj_X11_init rfl rfl (mk_X11_0 e0) (rest := [.ref 0]) rfl rfl ⟨Nat.le_of_ble_eq_true rfl, Nat.le_of_ble_eq_true rfl, fun h9 => absurd h9 (by decide)⟩ (Nat.le_of_ble_eq_true rfl) (Or.inr (by rw [n0]; exact ⟨⟨by decide, by decide +kernel⟩, by decide +kernel⟩)) (fun h1 e1 => ?_)
  have a1 : h1 = hA := by rw [e1, e0]; rfl
  have n1 : h1.1 = 113 := by rw [a1]; decide +kernel
  refine V.astore_n (ls' := [.ref (NUL + 1), .ref 0, .null, .null]) (q := (0, 9, 0)) dL_law_7 rfl (by decide) rfl rfl ?_
  refine V.new (ci := 10) (z := 0) (q := (RX12, TX12, 39)) dL_law_8 rfl cok_X12 kl_L_10 (by rw [n1]; rfl) (by rw [n1]; exact ⟨by decide, by decide +kernel⟩) (by rw [n1]; decide +kernel) ?_
  rw [n1]
  refine V.nmh (fun h2 e2 => ?_)
  have n2 : h2.1 = 114 := by rw [e2]; show h1.1 + 1 = 114; rw [n1]
  refine V.dup dL_law_11 rfl ?_
  refine V.callIV (q := (0, 10, 0)) dL_law_12 ml_L_12 mo_X12_init mj_X12_init rfl rfl (mk_X12_113 (by rw [e2, a1])) (rest := [.ref 113]) rfl rfl ⟨Nat.le_of_ble_eq_true rfl, Nat.le_of_ble_eq_true rfl, fun h9 => absurd h9 (by decide)⟩ (Nat.le_of_ble_eq_true rfl) (Or.inr (by rw [n2]; exact ⟨⟨by decide, by decide +kernel⟩, by decide +kernel⟩)) (fun h3 e3 => ?_)
  obtain ⟨g, hg, rfl⟩ := e3
  refine V.astore_n (ls' := [.ref (NUL + 1), .ref 0, .ref 113, .null]) (q := (0, 10, 0)) dL_law_15 rfl (by decide) rfl rfl ?_
  refine V.iconst (v := nI 0) dL_law_16 rfl ?_
  refine V.istore_n (ls' := [.ref (NUL + 1), .ref 0, .ref 113, .int (nI 0)]) dL_law_17 rfl (by decide) rfl ?_
  exact law_loop hL (L + 6) 0 (hC g) 79 96 (by omega) (by omega) (first_Inv hg)
set_option maxHeartbeats 4000000 in
set_option maxRecDepth 100000 in
/-- THE LAW, from its entry, over any machine that the Statement allows -/
theorem whole_start {p : Program} {e : Env} {s : State} {m : MethodId} {below : List Frame} {meth : Method} {c : Code} (l : Launch) (hflags : l.flags = flags0) {b L : Nat} {xs : Nat → Int32} (hL : L ≤ 3072) (C0 : lw_At p s m meth c b L xs) : W p l e room_1 s m #[Value.ref b] below meth c s.heap [] 0 0 (lw_Z below #[Value.ref b] s) (entryFrame m ([Value.ref b] : List Value).toArray 4) := by
  obtain ⟨hx, hb, hr, hml, hown, hts, hX, hbl, hlocks, hgv⟩ := id C0
  obtain ⟨E, hE, hsp, hG⟩ := law_Gd hts hgv
  have hl := lv_entry ([.ref b]) (n := 4) (Nat.le_of_ble_eq_true rfl)
  rw [lg_entry_eq]
  generalize (lg_sl ([.ref b]) ++ List.replicate (4 - (lg_sl ([.ref b])).length) Slot.unset).toArray = la at hl ⊢
  have hl : lv_has la 4 [(0, .ref b)] := hl
  have hl2 : lv_has la 4 (cL E 0 [.ref (NUL + 1), .null, .null, .null]) := by
    rw [show cL E 0 [.ref (NUL + 1), .null, .null, .null] = [(0, cv E (.ref (NUL + 1)))] from rfl, cr_sp (E := E) (by omega) hsp]
    exact hl
  have w := law_V (b := b) (xs := xs) hL p l e s m #[.ref b] below meth c E s.heap [] la ⟨hx, hb, hml, hown, hlocks, hr, fun h => absurd h (by decide), hG, hE.symm, rfl, hsp, hX, hbl⟩ ⟨fun k q h => absurd (ws_lt h).1 (Nat.not_lt_zero k), va_S.rf, Nat.le_refl _, fun h => absurd h (by decide)⟩ hl2
  rw [hz_1, Nat.sub_self, Nat.sub_self] at w
  exact w
