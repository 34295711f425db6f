set_option maxRecDepth 100000 in
theorem th_X11_isTurnedNights {h : HP} (ly : Lay h) {a0 : Int32} {rr : Int32} {hh : HP} (hf : f_X11_isTurnedNights h a0 = some (rr, hh)) : Spec yX11_isTurnedNights cX11_isTurnedNights miX11_isTurnedNights [.int a0] h (pI fun r' h' => (r' = rr ∧ h' = hh) ∧ SR h hh) := by
  refine Spec.of (ls0 := [.int a0]) mo_X11_isTurnedNights (Nat.le_of_ble_eq_true rfl) rfl ?_
  rw [ly.1]
  have srh : SR h h := SR.refl h
  unfold f_X11_isTurnedNights at hf
  refine V.iload_n dX11_isTurnedNights_0 rfl rfl ?_
  refine V.if_lt (tgt := 14) dX11_isTurnedNights_1 (by decide) (fun c1 => ?_) (fun c1 => ?_)
  · replace hf := ite_p hf c1
    refine V.iconst (v := 0) dX11_isTurnedNights_14 rfl ?_
    refine V.ireturn dX11_isTurnedNights_15 rfl rfl ⟨rfl, rfl⟩ ly.1 ?_
    exact ret_I hf srh
  · replace hf := ite_n hf c1
    refine V.iload_n dX11_isTurnedNights_4 rfl rfl ?_
    refine V.bipush (v := 30) dX11_isTurnedNights_5 rfl ?_
    refine V.icmp_gt (tgt := 14) dX11_isTurnedNights_7 (by decide) (fun c2 => ?_) (fun c2 => ?_)
    · replace hf := ite_p hf c2
      refine V.iconst (v := 0) dX11_isTurnedNights_14 rfl ?_
      refine V.ireturn dX11_isTurnedNights_15 rfl rfl ⟨rfl, rfl⟩ ly.1 ?_
      exact ret_I hf srh
    · replace hf := ite_n hf c2
      refine V.iconst (v := 1) dX11_isTurnedNights_10 rfl ?_
      refine V.goto (tgt := 15) dX11_isTurnedNights_11 (by decide) ?_
      refine V.ireturn dX11_isTurnedNights_15 rfl rfl ⟨rfl, rfl⟩ ly.1 ?_
      exact ret_I hf srh
set_option maxRecDepth 100000 in
theorem th_X11_isPicture {h : HP} (ly : Lay h) {a0 : Int64} {rr : Int32} {hh : HP} (hf : f_X11_isPicture h a0 = some (rr, hh)) : Spec yX11_isPicture cX11_isPicture miX11_isPicture [.long a0] h (pI fun r' h' => (r' = rr ∧ h' = hh) ∧ SR h hh) := by
  refine Spec.of (ls0 := [.long a0, .null]) mo_X11_isPicture (Nat.le_of_ble_eq_true rfl) rfl ?_
  rw [ly.1]
  have srh : SR h h := SR.refl h
  unfold f_X11_isPicture at hf
  refine V.lload_n dX11_isPicture_0 rfl rfl ?_
  refine V.lconst (v := 0) dX11_isPicture_1 rfl ?_
  refine V.lcmp dX11_isPicture_2 ?_
  refine V.if_lt (tgt := 18) dX11_isPicture_3 (by decide) (fun c1 => ?_) (fun c1 => ?_)
  · replace hf := ite_p hf c1
    refine V.iconst (v := 0) dX11_isPicture_18 rfl ?_
    refine V.ireturn dX11_isPicture_19 rfl rfl ⟨rfl, rfl⟩ ly.1 ?_
    exact ret_I hf srh
  · replace hf := ite_n hf c1
    refine V.lload_n dX11_isPicture_6 rfl rfl ?_
    refine V.ldc2 (v := 1073741823) dX11_isPicture_7 kc_X11_426 ?_
    refine V.lcmp dX11_isPicture_10 ?_
    refine V.if_gt (tgt := 18) dX11_isPicture_11 (by decide) (fun c2 => ?_) (fun c2 => ?_)
    · replace hf := ite_p hf c2
      refine V.iconst (v := 0) dX11_isPicture_18 rfl ?_
      refine V.ireturn dX11_isPicture_19 rfl rfl ⟨rfl, rfl⟩ ly.1 ?_
      exact ret_I hf srh
    · replace hf := ite_n hf c2
      refine V.iconst (v := 1) dX11_isPicture_14 rfl ?_
      refine V.goto (tgt := 19) dX11_isPicture_15 (by decide) ?_
      refine V.ireturn dX11_isPicture_19 rfl rfl ⟨rfl, rfl⟩ ly.1 ?_
      exact ret_I hf srh
set_option maxRecDepth 100000 in
theorem th_X11_whyNotInTray {h : HP} (ly : Lay h) {a1 : Int32} {a2 : Int32} {rr : Int32} {hh : HP} (hf : f_X11_whyNotInTray h a1 a2 = some (rr, hh)) : Spec yX11_whyNotInTray cX11_whyNotInTray miX11_whyNotInTray [.ref 0, .int a1, .int a2] h (pI fun r' h' => (r' = rr ∧ h' = hh) ∧ SR h hh) := by
  refine Spec.of (ls0 := [.ref 0, .int a1, .int a2]) mo_X11_whyNotInTray (Nat.le_of_ble_eq_true rfl) rfl ?_
  rw [ly.1]
  have srh : SR h h := SR.refl h
  unfold f_X11_whyNotInTray at hf
  refine V.iload_n dX11_whyNotInTray_0 rfl rfl ?_
  obtain ⟨r3, h2, q1, hf2⟩ := bd2_el hf
  replace hf := hf2
  clear hf2
  refine V.callSI dX11_whyNotInTray_1 ml_X11_82 mo_X7_isTray ms_X7_isTray (th_X7_isTray (srh.ly ly) q1) rfl rfl ⟨Nat.le_of_ble_eq_true rfl, Nat.le_of_ble_eq_true rfl, fun _ => ⟨rfl, rfl⟩⟩ (Nat.le_of_ble_eq_true rfl) rfl (post_I (fun sq => ?_))
  have srh2 : SR h h2 := srh.trans sq
  clear sq q1
  refine V.if_ne (tgt := 9) dX11_whyNotInTray_4 (by decide) (fun c4 => ?_) (fun c4 => ?_)
  · replace hf := ite_n hf c4
    refine V.aload_n dX11_whyNotInTray_9 rfl rfl rfl ?_
    refine V.getR (r := 1) dX11_whyNotInTray_10 fl_X11_10 rfl (Or.inl ⟨rfl, SHL_lt rfl⟩) rfl (ly_0_0 (srh2.ly ly)) ?_
    refine V.iload_n dX11_whyNotInTray_13 rfl rfl ?_
    obtain ⟨r7, h6, q5, hf2⟩ := bd2_el hf
    replace hf := hf2
    clear hf2
    refine V.callVI dX11_whyNotInTray_14 ml_X11_113 mo_X7_isMissing mv_X7_isMissing rfl (fun q hq => by cases hq; rfl) (by decide) (Or.inl ⟨rfl, SHL_lt rfl⟩) (th_X7_isMissing (srh2.ly ly) q5) rfl rfl ⟨Nat.le_of_ble_eq_true rfl, Nat.le_of_ble_eq_true rfl, fun _ => ⟨rfl, rfl⟩⟩ (Nat.le_of_ble_eq_true rfl) rfl (post_I (fun sq => ?_))
    have srh6 : SR h h6 := srh2.trans sq
    clear sq q5
    refine V.if_eq (tgt := 22) dX11_whyNotInTray_17 (by decide) (fun c8 => ?_) (fun c8 => ?_)
    · replace hf := ite_p hf c8
      refine V.aload_n dX11_whyNotInTray_22 rfl rfl rfl ?_
      refine V.getR (r := 1) dX11_whyNotInTray_23 fl_X11_10 rfl (Or.inl ⟨rfl, SHL_lt rfl⟩) rfl (ly_0_0 (srh6.ly ly)) ?_
      refine V.iload_n dX11_whyNotInTray_26 rfl rfl ?_
      refine V.iload_n dX11_whyNotInTray_27 rfl rfl ?_
      refine V.iconst (v := 1) dX11_whyNotInTray_28 rfl ?_
      obtain ⟨r11, h10, q9, hf2⟩ := bd2_el hf
      replace hf := hf2
      clear hf2
      refine V.callVI dX11_whyNotInTray_29 ml_X11_120 mo_X7_hasRoom mv_X7_hasRoom rfl (fun q hq => by cases hq; rfl) (by decide) (Or.inl ⟨rfl, SHL_lt rfl⟩) (th_X7_hasRoom (srh6.ly ly) q9) rfl rfl ⟨Nat.le_of_ble_eq_true rfl, Nat.le_of_ble_eq_true rfl, fun _ => ⟨rfl, rfl⟩⟩ (Nat.le_of_ble_eq_true rfl) rfl (post_I (fun sq => ?_))
      have srh10 : SR h h10 := srh6.trans sq
      clear sq q9
      refine V.if_eq (tgt := 39) dX11_whyNotInTray_32 (by decide) (fun c12 => ?_) (fun c12 => ?_)
      · replace hf := ite_p hf c12
        refine V.iconst (v := 3) dX11_whyNotInTray_39 rfl ?_
        refine V.ireturn dX11_whyNotInTray_40 rfl rfl ⟨rfl, rfl⟩ ly.1 ?_
        exact ret_I hf srh10
      · replace hf := ite_n hf c12
        refine V.iconst (v := 0) dX11_whyNotInTray_35 rfl ?_
        refine V.goto (tgt := 40) dX11_whyNotInTray_36 (by decide) ?_
        refine V.ireturn dX11_whyNotInTray_40 rfl rfl ⟨rfl, rfl⟩ ly.1 ?_
        exact ret_I hf srh10
    · replace hf := ite_n hf c8
      refine V.iconst (v := 2) dX11_whyNotInTray_20 rfl ?_
      refine V.ireturn dX11_whyNotInTray_21 rfl rfl ⟨rfl, rfl⟩ ly.1 ?_
      exact ret_I hf srh6
  · replace hf := ite_p hf c4
    refine V.iconst (v := 1) dX11_whyNotInTray_7 rfl ?_
    refine V.ireturn dX11_whyNotInTray_8 rfl rfl ⟨rfl, rfl⟩ ly.1 ?_
    exact ret_I hf srh2
set_option maxRecDepth 100000 in
theorem th_X11_whyNotFree {h : HP} (ly : Lay h) {t : Nat} (hT : isT t) (pr : hR h 0 8 = t) {a1 : Int32} {a2 : Int32} {rr : Int32} {hh : HP} (hf : f_X11_whyNotFree h t a1 a2 = some (rr, hh)) : Spec yX11_whyNotFree cX11_whyNotFree miX11_whyNotFree [.ref 0, .int a1, .int a2] h (pI fun r' h' => (r' = rr ∧ h' = hh) ∧ SR h hh) := by
  refine Spec.of (ls0 := [.ref 0, .int a1, .int a2, .null]) mo_X11_whyNotFree (Nat.le_of_ble_eq_true rfl) rfl ?_
  rw [ly.1]
  have srh : SR h h := SR.refl h
  unfold f_X11_whyNotFree at hf
  refine V.aload_n dX11_whyNotFree_0 rfl rfl rfl ?_
  refine V.getR (r := t) dX11_whyNotFree_1 fl_X11_61 rfl (Or.inl ⟨rfl, SHL_lt rfl⟩) rfl (srh.pr pr) ?_
  refine V.getR (r := t + 1) dX11_whyNotFree_4 fl_X11_147 (sT0 hT) (Or.inl ⟨rfl, SHL_lt (sT0 hT)⟩) rfl (rT_hill (srh.ly ly) hT) ?_
  refine V.iload_n dX11_whyNotFree_7 rfl rfl ?_
  refine V.iload_n dX11_whyNotFree_8 rfl rfl ?_
  obtain ⟨r3, h2, q1, hf2⟩ := bd2_el hf
  replace hf := hf2
  clear hf2
  refine V.callVI dX11_whyNotFree_9 ml_X11_223 mo_X1_placeOf mv_X1_placeOf (sH0 hT.H) (fun q hq => by cases hq; rfl) (by decide) (Or.inl ⟨rfl, SHL_lt (sH0 hT.H)⟩) (th_X1_placeOf (srh.ly ly) hT.H q1) rfl rfl ⟨Nat.le_of_ble_eq_true rfl, Nat.le_of_ble_eq_true rfl, fun _ => ⟨rfl, rfl⟩⟩ (Nat.le_of_ble_eq_true rfl) rfl (post_I (fun sq => ?_))
  have srh2 : SR h h2 := srh.trans sq
  clear sq q1
  refine V.istore_n (ls' := [.ref 0, .int a1, .int a2, .int r3]) dX11_whyNotFree_12 rfl (by decide) rfl ?_
  refine V.iload_n dX11_whyNotFree_13 rfl rfl ?_
  refine V.if_ge (tgt := 19) dX11_whyNotFree_14 (by decide) (fun c4 => ?_) (fun c4 => ?_)
  · replace hf := ite_p hf c4
    refine V.aload_n dX11_whyNotFree_19 rfl rfl rfl ?_
    refine V.getR (r := t) dX11_whyNotFree_20 fl_X11_61 rfl (Or.inl ⟨rfl, SHL_lt rfl⟩) rfl (srh2.pr pr) ?_
    refine V.getR (r := t + 1) dX11_whyNotFree_23 fl_X11_147 (sT0 hT) (Or.inl ⟨rfl, SHL_lt (sT0 hT)⟩) rfl (rT_hill (srh2.ly ly) hT) ?_
    refine V.getI dX11_whyNotFree_26 fl_X11_201 (sH0 hT.H) (Or.inl ⟨rfl, SHL_lt (sH0 hT.H)⟩) rfl rfl ?_
    refine V.iconst (v := 1) dX11_whyNotFree_29 rfl ?_
    refine V.iload_n dX11_whyNotFree_30 rfl rfl ?_
    refine V.ishl dX11_whyNotFree_31 ?_
    refine V.iand dX11_whyNotFree_32 ?_
    refine V.if_ne (tgt := 41) dX11_whyNotFree_33 (by decide) (fun c5 => ?_) (fun c5 => ?_)
    · replace hf := ite_n hf c5
      refine V.iconst (v := 0) dX11_whyNotFree_41 rfl ?_
      refine V.ireturn dX11_whyNotFree_42 rfl rfl ⟨rfl, rfl⟩ ly.1 ?_
      exact ret_I hf srh2
    · replace hf := ite_p hf c5
      refine V.bipush (v := 7) dX11_whyNotFree_36 rfl ?_
      refine V.goto (tgt := 42) dX11_whyNotFree_38 (by decide) ?_
      refine V.ireturn dX11_whyNotFree_42 rfl rfl ⟨rfl, rfl⟩ ly.1 ?_
      exact ret_I hf srh2
  · replace hf := ite_n hf c4
    refine V.iconst (v := 1) dX11_whyNotFree_17 rfl ?_
    refine V.ireturn dX11_whyNotFree_18 rfl rfl ⟨rfl, rfl⟩ ly.1 ?_
    exact ret_I hf srh2
set_option maxRecDepth 100000 in
theorem th_X11_write {h : HP} (ly : Lay h) {a1 : Int32} {a2 : Int32} {a3 : Int64} {rr : Int32} {hh : HP} (hf : f_X11_write h a1 a2 a3 = some (rr, hh)) : Spec yX11_write cX11_write miX11_write [.ref 0, .int a1, .int a2, .long a3] h (pI fun r' h' => (r' = rr ∧ h' = hh) ∧ SR h hh) := by
  refine Spec.of (ls0 := [.ref 0, .int a1, .int a2, .long a3, .null, .null]) mo_X11_write (Nat.le_of_ble_eq_true rfl) rfl ?_
  rw [ly.1]
  have srh : SR h h := SR.refl h
  unfold f_X11_write at hf
  refine V.aload_n dX11_write_0 rfl rfl rfl ?_
  refine V.iload_n dX11_write_1 rfl rfl ?_
  refine V.iload_n dX11_write_2 rfl rfl ?_
  obtain ⟨r3, h2, q1, hf2⟩ := bd2_el hf
  replace hf := hf2
  clear hf2
  refine V.callVI dX11_write_3 ml_X11_97 mo_X11_whyNotInTray mv_X11_whyNotInTray rfl (fun q hq => by cases hq; rfl) (by decide) (Or.inl ⟨rfl, SHL_lt rfl⟩) (th_X11_whyNotInTray (srh.ly ly) q1) rfl rfl ⟨Nat.le_of_ble_eq_true rfl, Nat.le_of_ble_eq_true rfl, fun _ => ⟨rfl, rfl⟩⟩ (Nat.le_of_ble_eq_true rfl) rfl (post_I (fun sq => ?_))
  have srh2 : SR h h2 := srh.trans sq
  clear sq q1
  refine V.istore (ls' := [.ref 0, .int a1, .int a2, .long a3, .null, .int r3]) dX11_write_6 (by decide) rfl ?_
  refine V.iload dX11_write_8 rfl ?_
  refine V.if_eq (tgt := 20) dX11_write_10 (by decide) (fun c4 => ?_) (fun c4 => ?_)
  · replace hf := ite_p hf c4
    refine V.aload_n dX11_write_20 rfl rfl rfl ?_
    refine V.getR (r := 1) dX11_write_21 fl_X11_10 rfl (Or.inl ⟨rfl, SHL_lt rfl⟩) rfl (ly_0_0 (srh2.ly ly)) ?_
    refine V.iload_n dX11_write_24 rfl rfl ?_
    refine V.iload_n dX11_write_25 rfl rfl ?_
    refine V.lload_n dX11_write_26 rfl rfl ?_
    obtain ⟨h6, q5, hf2⟩ := bd_el hf
    replace hf := hf2
    clear hf2
    refine V.callVV dX11_write_27 ml_X11_101 mo_X7_put mv_X7_put rfl (fun q hq => by cases hq; rfl) (by decide) (Or.inl ⟨rfl, SHL_lt rfl⟩) (th_X7_put (srh2.ly ly) q5) rfl rfl ⟨Nat.le_of_ble_eq_true rfl, Nat.le_of_ble_eq_true rfl, fun _ => ⟨rfl, rfl⟩⟩ (Nat.le_of_ble_eq_true rfl) (Or.inl rfl) (post_V (fun sq => ?_))
    have srh6 : SR h h6 := srh2.trans sq
    clear sq q5
    refine V.aload_n dX11_write_30 rfl rfl rfl ?_
    obtain ⟨r9, h8, q7, hf2⟩ := bd2_el hf
    replace hf := hf2
    clear hf2
    refine V.callVI dX11_write_31 ml_X11_93 mo_X11_allow mv_X11_allow rfl (fun q hq => by cases hq; rfl) (by decide) (Or.inl ⟨rfl, SHL_lt rfl⟩) (th_X11_allow (srh6.ly ly) q7) rfl rfl ⟨Nat.le_of_ble_eq_true rfl, Nat.le_of_ble_eq_true rfl, fun _ => ⟨rfl, rfl⟩⟩ (Nat.le_of_ble_eq_true rfl) rfl (post_I (fun sq => ?_))
    have srh8 : SR h h8 := srh6.trans sq
    clear sq q7
    obtain ⟨b10, hf2⟩ := gd_el hf
    replace hf := hf2
    clear hf2
    refine V.ireturn dX11_write_34 rfl (narB b10) ⟨rfl, rfl⟩ ly.1 ?_
    exact ret_I hf srh8
  · replace hf := ite_n hf c4
    refine V.aload_n dX11_write_13 rfl rfl rfl ?_
    refine V.iload dX11_write_14 rfl ?_
    obtain ⟨r13, h12, q11, hf2⟩ := bd2_el hf
    replace hf := hf2
    clear hf2
    refine V.callVI dX11_write_16 ml_X11_86 mo_X11_deny mv_X11_deny rfl (fun q hq => by cases hq; rfl) (by decide) (Or.inl ⟨rfl, SHL_lt rfl⟩) (th_X11_deny (srh2.ly ly) q11) rfl rfl ⟨Nat.le_of_ble_eq_true rfl, Nat.le_of_ble_eq_true rfl, fun _ => ⟨rfl, rfl⟩⟩ (Nat.le_of_ble_eq_true rfl) rfl (post_I (fun sq => ?_))
    have srh12 : SR h h12 := srh2.trans sq
    clear sq q11
    obtain ⟨b14, hf2⟩ := gd_el hf
    replace hf := hf2
    clear hf2
    refine V.ireturn dX11_write_19 rfl (narB b14) ⟨rfl, rfl⟩ ly.1 ?_
    exact ret_I hf srh12
set_option maxRecDepth 100000 in
theorem th_X11_read {h : HP} (ly : Lay h) {a1 : Int32} {a2 : Int32} {rr : Int64} {hh : HP} (hf : f_X11_read h a1 a2 = some (rr, hh)) : Spec yX11_read cX11_read miX11_read [.ref 0, .int a1, .int a2] h (pL fun r' h' => (r' = rr ∧ h' = hh) ∧ SR h hh) := by
  refine Spec.of (ls0 := [.ref 0, .int a1, .int a2, .null]) mo_X11_read (Nat.le_of_ble_eq_true rfl) rfl ?_
  rw [ly.1]
  have srh : SR h h := SR.refl h
  unfold f_X11_read at hf
  refine V.aload_n dX11_read_0 rfl rfl rfl ?_
  refine V.iload_n dX11_read_1 rfl rfl ?_
  refine V.iload_n dX11_read_2 rfl rfl ?_
  obtain ⟨r3, h2, q1, hf2⟩ := bd2_el hf
  replace hf := hf2
  clear hf2
  refine V.callVI dX11_read_3 ml_X11_97 mo_X11_whyNotInTray mv_X11_whyNotInTray rfl (fun q hq => by cases hq; rfl) (by decide) (Or.inl ⟨rfl, SHL_lt rfl⟩) (th_X11_whyNotInTray (srh.ly ly) q1) rfl rfl ⟨Nat.le_of_ble_eq_true rfl, Nat.le_of_ble_eq_true rfl, fun _ => ⟨rfl, rfl⟩⟩ (Nat.le_of_ble_eq_true rfl) rfl (post_I (fun sq => ?_))
  have srh2 : SR h h2 := srh.trans sq
  clear sq q1
  refine V.istore_n (ls' := [.ref 0, .int a1, .int a2, .int r3]) dX11_read_6 rfl (by decide) rfl ?_
  refine V.iload_n dX11_read_7 rfl rfl ?_
  refine V.if_eq (tgt := 18) dX11_read_8 (by decide) (fun c4 => ?_) (fun c4 => ?_)
  · replace hf := ite_p hf c4
    refine V.aload_n dX11_read_18 rfl rfl rfl ?_
    refine V.iconst (v := 0) dX11_read_19 rfl ?_
    refine V.putI dX11_read_20 fl_X11_75 rfl (Or.inl ⟨rfl, SHL_lt rfl⟩) rfl (fun q hq => by cases hq; rfl) ⟨rfl, rfl⟩ ?_
    refine V.nameH (fun g5 eg5 => ?_)
    replace hf := lt_el hf g5 eg5
    have srg5 : SR h g5 := by rw [eg5]; exact srh2.I _ _ _
    refine V.aload_n dX11_read_23 rfl rfl rfl ?_
    refine V.getR (r := 1) dX11_read_24 fl_X11_10 rfl (Or.inl ⟨rfl, SHL_lt rfl⟩) rfl (ly_0_0 (srg5.ly ly)) ?_
    refine V.iload_n dX11_read_27 rfl rfl ?_
    refine V.iload_n dX11_read_28 rfl rfl ?_
    obtain ⟨r8, h7, q6, hf2⟩ := bd2_el hf
    replace hf := hf2
    clear hf2
    refine V.callVL dX11_read_29 ml_X11_109 mo_X7_numberAt mv_X7_numberAt rfl (fun q hq => by cases hq; rfl) (by decide) (Or.inl ⟨rfl, SHL_lt rfl⟩) (th_X7_numberAt (srg5.ly ly) q6) rfl rfl ⟨Nat.le_of_ble_eq_true rfl, Nat.le_of_ble_eq_true rfl, fun _ => ⟨rfl, rfl⟩⟩ (Nat.le_of_ble_eq_true rfl) rfl (post_L (fun sq => ?_))
    have srh7 : SR h h7 := srg5.trans sq
    clear sq q6
    refine V.lreturn dX11_read_32 rfl ⟨rfl, rfl⟩ ly.1 ?_
    exact ret_L hf srh7
  · replace hf := ite_n hf c4
    refine V.aload_n dX11_read_11 rfl rfl rfl ?_
    refine V.iload_n dX11_read_12 rfl rfl ?_
    obtain ⟨r11, h10, q9, hf2⟩ := bd2_el hf
    replace hf := hf2
    clear hf2
    refine V.callVI dX11_read_13 ml_X11_105 mo_X11_refuse mv_X11_refuse rfl (fun q hq => by cases hq; rfl) (by decide) (Or.inl ⟨rfl, SHL_lt rfl⟩) (th_X11_refuse (srh2.ly ly) q9) rfl rfl ⟨Nat.le_of_ble_eq_true rfl, Nat.le_of_ble_eq_true rfl, fun _ => ⟨rfl, rfl⟩⟩ (Nat.le_of_ble_eq_true rfl) rfl (post_I (fun sq => ?_))
    have srh10 : SR h h10 := srh2.trans sq
    clear sq q9
    refine V.i2l dX11_read_16 ?_
    refine V.lreturn dX11_read_17 rfl ⟨rfl, rfl⟩ ly.1 ?_
    exact ret_L hf srh10
set_option maxRecDepth 100000 in
theorem th_X11_pour_28 {h0 : HP} (ly : Lay h0) {rr : Int32} {hh : HP}  : ∀  (h : HP), SR h0 h → f_X11_pour_28 h = some (rr, hh) → V cX11_pour miX11_pour (ZI h0 miX11_pour rr hh) 130 28 [.ref 0, .null, .null, .null, .null, .null] [] h := by
  intro  h srh hf
  unfold f_X11_pour_28 at hf
  refine V.aload_n dX11_pour_28 rfl rfl rfl ?_
  refine V.iconst (v := 1) dX11_pour_29 rfl ?_
  obtain ⟨r60, h59, q58, hf2⟩ := bd2_el hf
  replace hf := hf2
  clear hf2
  refine V.callVI dX11_pour_30 ml_X11_86 mo_X11_deny mv_X11_deny rfl (fun q hq => by cases hq; rfl) (by decide) (Or.inl ⟨rfl, SHL_lt rfl⟩) (th_X11_deny (srh.ly ly) q58) rfl rfl ⟨Nat.le_of_ble_eq_true rfl, Nat.le_of_ble_eq_true rfl, fun _ => ⟨rfl, rfl⟩⟩ (Nat.le_of_ble_eq_true rfl) rfl (post_I (fun sq => ?_))
  have srh59 : SR h0 h59 := srh.trans sq
  clear sq q58
  obtain ⟨b61, hf2⟩ := gd_el hf
  replace hf := hf2
  clear hf2
  refine V.ireturn dX11_pour_33 rfl (narB b61) ⟨rfl, rfl⟩ ly.1 ?_
  exact ret_I hf srh59
set_option maxRecDepth 100000 in
theorem th_X11_pour {h : HP} (ly : Lay h) {a1 : Int32} {a2 : Int32} {a3 : Int32} {a4 : Int32} {a5 : Int32} {rr : Int32} {hh : HP} (hf : f_X11_pour h a1 a2 a3 a4 a5 = some (rr, hh)) : Spec yX11_pour cX11_pour miX11_pour [.ref 0, .int a1, .int a2, .int a3, .int a4, .int a5] h (pI fun r' h' => (r' = rr ∧ h' = hh) ∧ SR h hh) := by
  refine Spec.of (ls0 := [.ref 0, .int a1, .int a2, .int a3, .int a4, .int a5]) mo_X11_pour (Nat.le_of_ble_eq_true rfl) rfl ?_
  rw [ly.1]
  have srh : SR h h := SR.refl h
  unfold f_X11_pour at hf
  refine V.iload_n dX11_pour_0 rfl rfl ?_
  obtain ⟨r3, h2, q1, hf2⟩ := bd2_el hf
  replace hf := hf2
  clear hf2
  refine V.callSI dX11_pour_1 ml_X11_82 mo_X7_isTray ms_X7_isTray (th_X7_isTray (srh.ly ly) q1) rfl rfl ⟨Nat.le_of_ble_eq_true rfl, Nat.le_of_ble_eq_true rfl, fun _ => ⟨rfl, rfl⟩⟩ (Nat.le_of_ble_eq_true rfl) rfl (post_I (fun sq => ?_))
  have srh2 : SR h h2 := srh.trans sq
  clear sq q1
  refine V.if_eq (tgt := 28) dX11_pour_4 (by decide) (fun c4 => ?_) (fun c4 => ?_)
  · replace hf := ite_p hf c4
    refine V.less (ls' := [.ref 0, .null, .null, .null, .null, .null]) ⟨Or.inr rfl, Or.inl rfl, Or.inl rfl, Or.inl rfl, Or.inl rfl, Or.inl rfl, trivial⟩ ?_
    exact th_X11_pour_28 ly h2 srh2 hf
  · replace hf := ite_n hf c4
    refine V.iload_n dX11_pour_7 rfl rfl ?_
    obtain ⟨r7, h6, q5, hf2⟩ := bd2_el hf
    replace hf := hf2
    clear hf2
    refine V.callSI dX11_pour_8 ml_X11_82 mo_X7_isTray ms_X7_isTray (th_X7_isTray (srh2.ly ly) q5) rfl rfl ⟨Nat.le_of_ble_eq_true rfl, Nat.le_of_ble_eq_true rfl, fun _ => ⟨rfl, rfl⟩⟩ (Nat.le_of_ble_eq_true rfl) rfl (post_I (fun sq => ?_))
    have srh6 : SR h h6 := srh2.trans sq
    clear sq q5
    refine V.if_eq (tgt := 28) dX11_pour_11 (by decide) (fun c8 => ?_) (fun c8 => ?_)
    · replace hf := ite_p hf c8
      refine V.less (ls' := [.ref 0, .null, .null, .null, .null, .null]) ⟨Or.inr rfl, Or.inl rfl, Or.inl rfl, Or.inl rfl, Or.inl rfl, Or.inl rfl, trivial⟩ ?_
      exact th_X11_pour_28 ly h6 srh6 hf
    · replace hf := ite_n hf c8
      refine V.iload_n dX11_pour_14 rfl rfl ?_
      refine V.if_lt (tgt := 28) dX11_pour_15 (by decide) (fun c9 => ?_) (fun c9 => ?_)
      · replace hf := ite_p hf c9
        refine V.less (ls' := [.ref 0, .null, .null, .null, .null, .null]) ⟨Or.inr rfl, Or.inl rfl, Or.inl rfl, Or.inl rfl, Or.inl rfl, Or.inl rfl, trivial⟩ ?_
        exact th_X11_pour_28 ly h6 srh6 hf
      · replace hf := ite_n hf c9
        refine V.iload dX11_pour_18 rfl ?_
        refine V.if_lt (tgt := 28) dX11_pour_20 (by decide) (fun c10 => ?_) (fun c10 => ?_)
        · replace hf := ite_p hf c10
          refine V.less (ls' := [.ref 0, .null, .null, .null, .null, .null]) ⟨Or.inr rfl, Or.inl rfl, Or.inl rfl, Or.inl rfl, Or.inl rfl, Or.inl rfl, trivial⟩ ?_
          exact th_X11_pour_28 ly h6 srh6 hf
        · replace hf := ite_n hf c10
          refine V.iload dX11_pour_23 rfl ?_
          refine V.if_ge (tgt := 34) dX11_pour_25 (by decide) (fun c11 => ?_) (fun c11 => ?_)
          · replace hf := ite_p hf c11
            refine V.aload_n dX11_pour_34 rfl rfl rfl ?_
            refine V.getR (r := 1) dX11_pour_35 fl_X11_10 rfl (Or.inl ⟨rfl, SHL_lt rfl⟩) rfl (ly_0_0 (srh6.ly ly)) ?_
            refine V.iload_n dX11_pour_38 rfl rfl ?_
            obtain ⟨r14, h13, q12, hf2⟩ := bd2_el hf
            replace hf := hf2
            clear hf2
            refine V.callVI dX11_pour_39 ml_X11_113 mo_X7_isMissing mv_X7_isMissing rfl (fun q hq => by cases hq; rfl) (by decide) (Or.inl ⟨rfl, SHL_lt rfl⟩) (th_X7_isMissing (srh6.ly ly) q12) rfl rfl ⟨Nat.le_of_ble_eq_true rfl, Nat.le_of_ble_eq_true rfl, fun _ => ⟨rfl, rfl⟩⟩ (Nat.le_of_ble_eq_true rfl) rfl (post_I (fun sq => ?_))
            have srh13 : SR h h13 := srh6.trans sq
            clear sq q12
            refine V.if_ne (tgt := 56) dX11_pour_42 (by decide) (fun c15 => ?_) (fun c15 => ?_)
            · replace hf := ite_n hf c15
              refine V.aload_n dX11_pour_56 rfl rfl rfl ?_
              refine V.iconst (v := 2) dX11_pour_57 rfl ?_
              obtain ⟨r18, h17, q16, hf2⟩ := bd2_el hf
              replace hf := hf2
              clear hf2
              refine V.callVI dX11_pour_58 ml_X11_86 mo_X11_deny mv_X11_deny rfl (fun q hq => by cases hq; rfl) (by decide) (Or.inl ⟨rfl, SHL_lt rfl⟩) (th_X11_deny (srh13.ly ly) q16) rfl rfl ⟨Nat.le_of_ble_eq_true rfl, Nat.le_of_ble_eq_true rfl, fun _ => ⟨rfl, rfl⟩⟩ (Nat.le_of_ble_eq_true rfl) rfl (post_I (fun sq => ?_))
              have srh17 : SR h h17 := srh13.trans sq
              clear sq q16
              obtain ⟨b19, hf2⟩ := gd_el hf
              replace hf := hf2
              clear hf2
              refine V.ireturn dX11_pour_61 rfl (narB b19) ⟨rfl, rfl⟩ ly.1 ?_
              exact ret_I hf srh17
            · replace hf := ite_p hf c15
              refine V.aload_n dX11_pour_45 rfl rfl rfl ?_
              refine V.getR (r := 1) dX11_pour_46 fl_X11_10 rfl (Or.inl ⟨rfl, SHL_lt rfl⟩) rfl (ly_0_0 (srh13.ly ly)) ?_
              refine V.iload_n dX11_pour_49 rfl rfl ?_
              obtain ⟨r22, h21, q20, hf2⟩ := bd2_el hf
              replace hf := hf2
              clear hf2
              refine V.callVI dX11_pour_50 ml_X11_113 mo_X7_isMissing mv_X7_isMissing rfl (fun q hq => by cases hq; rfl) (by decide) (Or.inl ⟨rfl, SHL_lt rfl⟩) (th_X7_isMissing (srh13.ly ly) q20) rfl rfl ⟨Nat.le_of_ble_eq_true rfl, Nat.le_of_ble_eq_true rfl, fun _ => ⟨rfl, rfl⟩⟩ (Nat.le_of_ble_eq_true rfl) rfl (post_I (fun sq => ?_))
              have srh21 : SR h h21 := srh13.trans sq
              clear sq q20
              refine V.if_eq (tgt := 62) dX11_pour_53 (by decide) (fun c23 => ?_) (fun c23 => ?_)
              · replace hf := ite_p hf c23
                refine V.aload_n dX11_pour_62 rfl rfl rfl ?_
                refine V.getR (r := 1) dX11_pour_63 fl_X11_10 rfl (Or.inl ⟨rfl, SHL_lt rfl⟩) rfl (ly_0_0 (srh21.ly ly)) ?_
                refine V.iload_n dX11_pour_66 rfl rfl ?_
                refine V.iload_n dX11_pour_67 rfl rfl ?_
                obtain ⟨r26, h25, q24, hf2⟩ := bd2_el hf
                replace hf := hf2
                clear hf2
                refine V.callVI dX11_pour_68 ml_X11_116 mo_X7_areOfOneSort mv_X7_areOfOneSort rfl (fun q hq => by cases hq; rfl) (by decide) (Or.inl ⟨rfl, SHL_lt rfl⟩) (th_X7_areOfOneSort (srh21.ly ly) q24) rfl rfl ⟨Nat.le_of_ble_eq_true rfl, Nat.le_of_ble_eq_true rfl, fun _ => ⟨rfl, rfl⟩⟩ (Nat.le_of_ble_eq_true rfl) rfl (post_I (fun sq => ?_))
                have srh25 : SR h h25 := srh21.trans sq
                clear sq q24
                refine V.if_ne (tgt := 81) dX11_pour_71 (by decide) (fun c27 => ?_) (fun c27 => ?_)
                · replace hf := ite_n hf c27
                  refine V.aload_n dX11_pour_81 rfl rfl rfl ?_
                  refine V.getR (r := 1) dX11_pour_82 fl_X11_10 rfl (Or.inl ⟨rfl, SHL_lt rfl⟩) rfl (ly_0_0 (srh25.ly ly)) ?_
                  refine V.iload_n dX11_pour_85 rfl rfl ?_
                  refine V.iload_n dX11_pour_86 rfl rfl ?_
                  refine V.iload dX11_pour_87 rfl ?_
                  obtain ⟨r30, h29, q28, hf2⟩ := bd2_el hf
                  replace hf := hf2
                  clear hf2
                  refine V.callVI dX11_pour_89 ml_X11_120 mo_X7_hasRoom mv_X7_hasRoom rfl (fun q hq => by cases hq; rfl) (by decide) (Or.inl ⟨rfl, SHL_lt rfl⟩) (th_X7_hasRoom (srh25.ly ly) q28) rfl rfl ⟨Nat.le_of_ble_eq_true rfl, Nat.le_of_ble_eq_true rfl, fun _ => ⟨rfl, rfl⟩⟩ (Nat.le_of_ble_eq_true rfl) rfl (post_I (fun sq => ?_))
                  have srh29 : SR h h29 := srh25.trans sq
                  clear sq q28
                  refine V.if_eq (tgt := 110) dX11_pour_92 (by decide) (fun c31 => ?_) (fun c31 => ?_)
                  · replace hf := ite_p hf c31
                    refine V.aload_n dX11_pour_110 rfl rfl rfl ?_
                    refine V.iconst (v := 3) dX11_pour_111 rfl ?_
                    obtain ⟨r34, h33, q32, hf2⟩ := bd2_el hf
                    replace hf := hf2
                    clear hf2
                    refine V.callVI dX11_pour_112 ml_X11_86 mo_X11_deny mv_X11_deny rfl (fun q hq => by cases hq; rfl) (by decide) (Or.inl ⟨rfl, SHL_lt rfl⟩) (th_X11_deny (srh29.ly ly) q32) rfl rfl ⟨Nat.le_of_ble_eq_true rfl, Nat.le_of_ble_eq_true rfl, fun _ => ⟨rfl, rfl⟩⟩ (Nat.le_of_ble_eq_true rfl) rfl (post_I (fun sq => ?_))
                    have srh33 : SR h h33 := srh29.trans sq
                    clear sq q32
                    obtain ⟨b35, hf2⟩ := gd_el hf
                    replace hf := hf2
                    clear hf2
                    refine V.ireturn dX11_pour_115 rfl (narB b35) ⟨rfl, rfl⟩ ly.1 ?_
                    exact ret_I hf srh33
                  · replace hf := ite_n hf c31
                    refine V.aload_n dX11_pour_95 rfl rfl rfl ?_
                    refine V.getR (r := 1) dX11_pour_96 fl_X11_10 rfl (Or.inl ⟨rfl, SHL_lt rfl⟩) rfl (ly_0_0 (srh29.ly ly)) ?_
                    refine V.iload_n dX11_pour_99 rfl rfl ?_
                    refine V.iload dX11_pour_100 rfl ?_
                    refine V.iload dX11_pour_102 rfl ?_
                    obtain ⟨r38, h37, q36, hf2⟩ := bd2_el hf
                    replace hf := hf2
                    clear hf2
                    refine V.callVI dX11_pour_104 ml_X11_120 mo_X7_hasRoom mv_X7_hasRoom rfl (fun q hq => by cases hq; rfl) (by decide) (Or.inl ⟨rfl, SHL_lt rfl⟩) (th_X7_hasRoom (srh29.ly ly) q36) rfl rfl ⟨Nat.le_of_ble_eq_true rfl, Nat.le_of_ble_eq_true rfl, fun _ => ⟨rfl, rfl⟩⟩ (Nat.le_of_ble_eq_true rfl) rfl (post_I (fun sq => ?_))
                    have srh37 : SR h h37 := srh29.trans sq
                    clear sq q36
                    refine V.if_ne (tgt := 116) dX11_pour_107 (by decide) (fun c39 => ?_) (fun c39 => ?_)
                    · replace hf := ite_n hf c39
                      refine V.aload_n dX11_pour_116 rfl rfl rfl ?_
                      refine V.getR (r := 1) dX11_pour_117 fl_X11_10 rfl (Or.inl ⟨rfl, SHL_lt rfl⟩) rfl (ly_0_0 (srh37.ly ly)) ?_
                      refine V.iload_n dX11_pour_120 rfl rfl ?_
                      refine V.iload_n dX11_pour_121 rfl rfl ?_
                      refine V.iload_n dX11_pour_122 rfl rfl ?_
                      refine V.iload dX11_pour_123 rfl ?_
                      refine V.iload dX11_pour_125 rfl ?_
                      obtain ⟨h41, q40, hf2⟩ := bd_el hf
                      replace hf := hf2
                      clear hf2
                      refine V.callVV dX11_pour_127 ml_X11_124 mo_X7_copy mv_X7_copy rfl (fun q hq => by cases hq; rfl) (by decide) (Or.inl ⟨rfl, SHL_lt rfl⟩) (th_X7_copy (srh37.ly ly) q40) rfl rfl ⟨Nat.le_of_ble_eq_true rfl, Nat.le_of_ble_eq_true rfl, fun _ => ⟨rfl, rfl⟩⟩ (Nat.le_of_ble_eq_true rfl) (Or.inl rfl) (post_V (fun sq => ?_))
                      have srh41 : SR h h41 := srh37.trans sq
                      clear sq q40
                      refine V.aload_n dX11_pour_130 rfl rfl rfl ?_
                      obtain ⟨r44, h43, q42, hf2⟩ := bd2_el hf
                      replace hf := hf2
                      clear hf2
                      refine V.callVI dX11_pour_131 ml_X11_93 mo_X11_allow mv_X11_allow rfl (fun q hq => by cases hq; rfl) (by decide) (Or.inl ⟨rfl, SHL_lt rfl⟩) (th_X11_allow (srh41.ly ly) q42) rfl rfl ⟨Nat.le_of_ble_eq_true rfl, Nat.le_of_ble_eq_true rfl, fun _ => ⟨rfl, rfl⟩⟩ (Nat.le_of_ble_eq_true rfl) rfl (post_I (fun sq => ?_))
                      have srh43 : SR h h43 := srh41.trans sq
                      clear sq q42
                      obtain ⟨b45, hf2⟩ := gd_el hf
                      replace hf := hf2
                      clear hf2
                      refine V.ireturn dX11_pour_134 rfl (narB b45) ⟨rfl, rfl⟩ ly.1 ?_
                      exact ret_I hf srh43
                    · replace hf := ite_p hf c39
                      refine V.aload_n dX11_pour_110 rfl rfl rfl ?_
                      refine V.iconst (v := 3) dX11_pour_111 rfl ?_
                      obtain ⟨r48, h47, q46, hf2⟩ := bd2_el hf
                      replace hf := hf2
                      clear hf2
                      refine V.callVI dX11_pour_112 ml_X11_86 mo_X11_deny mv_X11_deny rfl (fun q hq => by cases hq; rfl) (by decide) (Or.inl ⟨rfl, SHL_lt rfl⟩) (th_X11_deny (srh37.ly ly) q46) rfl rfl ⟨Nat.le_of_ble_eq_true rfl, Nat.le_of_ble_eq_true rfl, fun _ => ⟨rfl, rfl⟩⟩ (Nat.le_of_ble_eq_true rfl) rfl (post_I (fun sq => ?_))
                      have srh47 : SR h h47 := srh37.trans sq
                      clear sq q46
                      obtain ⟨b49, hf2⟩ := gd_el hf
                      replace hf := hf2
                      clear hf2
                      refine V.ireturn dX11_pour_115 rfl (narB b49) ⟨rfl, rfl⟩ ly.1 ?_
                      exact ret_I hf srh47
                · replace hf := ite_p hf c27
                  refine V.aload_n dX11_pour_74 rfl rfl rfl ?_
                  refine V.bipush (v := 8) dX11_pour_75 rfl ?_
                  obtain ⟨r52, h51, q50, hf2⟩ := bd2_el hf
                  replace hf := hf2
                  clear hf2
                  refine V.callVI dX11_pour_77 ml_X11_86 mo_X11_deny mv_X11_deny rfl (fun q hq => by cases hq; rfl) (by decide) (Or.inl ⟨rfl, SHL_lt rfl⟩) (th_X11_deny (srh25.ly ly) q50) rfl rfl ⟨Nat.le_of_ble_eq_true rfl, Nat.le_of_ble_eq_true rfl, fun _ => ⟨rfl, rfl⟩⟩ (Nat.le_of_ble_eq_true rfl) rfl (post_I (fun sq => ?_))
                  have srh51 : SR h h51 := srh25.trans sq
                  clear sq q50
                  obtain ⟨b53, hf2⟩ := gd_el hf
                  replace hf := hf2
                  clear hf2
                  refine V.ireturn dX11_pour_80 rfl (narB b53) ⟨rfl, rfl⟩ ly.1 ?_
                  exact ret_I hf srh51
              · replace hf := ite_n hf c23
                refine V.aload_n dX11_pour_56 rfl rfl rfl ?_
                refine V.iconst (v := 2) dX11_pour_57 rfl ?_
                obtain ⟨r56, h55, q54, hf2⟩ := bd2_el hf
                replace hf := hf2
                clear hf2
                refine V.callVI dX11_pour_58 ml_X11_86 mo_X11_deny mv_X11_deny rfl (fun q hq => by cases hq; rfl) (by decide) (Or.inl ⟨rfl, SHL_lt rfl⟩) (th_X11_deny (srh21.ly ly) q54) rfl rfl ⟨Nat.le_of_ble_eq_true rfl, Nat.le_of_ble_eq_true rfl, fun _ => ⟨rfl, rfl⟩⟩ (Nat.le_of_ble_eq_true rfl) rfl (post_I (fun sq => ?_))
                have srh55 : SR h h55 := srh21.trans sq
                clear sq q54
                obtain ⟨b57, hf2⟩ := gd_el hf
                replace hf := hf2
                clear hf2
                refine V.ireturn dX11_pour_61 rfl (narB b57) ⟨rfl, rfl⟩ ly.1 ?_
                exact ret_I hf srh55
          · replace hf := ite_n hf c11
            refine V.less (ls' := [.ref 0, .null, .null, .null, .null, .null]) ⟨Or.inr rfl, Or.inl rfl, Or.inl rfl, Or.inl rfl, Or.inl rfl, Or.inl rfl, trivial⟩ ?_
            exact th_X11_pour_28 ly h6 srh6 hf
set_option maxRecDepth 100000 in
theorem th_X11_feed {h : HP} (ly : Lay h) {a1 : Int32} {a2 : Int32} {a3 : Int32} {a4 : Int32} {a5 : Int32} {rr : Int32} {hh : HP} (hf : f_X11_feed h a1 a2 a3 a4 a5 = some (rr, hh)) : Spec yX11_feed cX11_feed miX11_feed [.ref 0, .int a1, .int a2, .int a3, .int a4, .int a5] h (pI fun r' h' => (r' = rr ∧ h' = hh) ∧ SR h hh) := by
  refine Spec.of (ls0 := [.ref 0, .int a1, .int a2, .int a3, .int a4, .int a5]) mo_X11_feed (Nat.le_of_ble_eq_true rfl) rfl ?_
  rw [ly.1]
  have srh : SR h h := SR.refl h
  unfold f_X11_feed at hf
  refine V.aload_n dX11_feed_0 rfl rfl rfl ?_
  refine V.getR (r := 5) dX11_feed_1 fl_X11_19 rfl (Or.inl ⟨rfl, SHL_lt rfl⟩) rfl (ly_0_1 (srh.ly ly)) ?_
  refine V.bipush (v := 20) dX11_feed_4 rfl ?_
  obtain ⟨r3, h2, q1, hf2⟩ := bd2_el hf
  replace hf := hf2
  clear hf2
  refine V.callVI dX11_feed_6 ml_X11_128 mo_X4_hasRoomFor mv_X4_hasRoomFor rfl (fun q hq => by cases hq; rfl) (by decide) (Or.inl ⟨rfl, SHL_lt rfl⟩) (th_X4_hasRoomFor (srh.ly ly) q1) rfl rfl ⟨Nat.le_of_ble_eq_true rfl, Nat.le_of_ble_eq_true rfl, fun _ => ⟨rfl, rfl⟩⟩ (Nat.le_of_ble_eq_true rfl) rfl (post_I (fun sq => ?_))
  have srh2 : SR h h2 := srh.trans sq
  clear sq q1
  refine V.if_ne (tgt := 14) dX11_feed_9 (by decide) (fun c4 => ?_) (fun c4 => ?_)
  · replace hf := ite_n hf c4
    refine V.aload_n dX11_feed_14 rfl rfl rfl ?_
    refine V.getR (r := 5) dX11_feed_15 fl_X11_19 rfl (Or.inl ⟨rfl, SHL_lt rfl⟩) rfl (ly_0_1 (srh2.ly ly)) ?_
    refine V.iload_n dX11_feed_18 rfl rfl ?_
    obtain ⟨h6, q5, hf2⟩ := bd_el hf
    replace hf := hf2
    clear hf2
    refine V.callVV dX11_feed_19 ml_X11_131 mo_X4_append mv_X4_append rfl (fun q hq => by cases hq; rfl) (by decide) (Or.inl ⟨rfl, SHL_lt rfl⟩) (th_X4_append (srh2.ly ly) q5) rfl rfl ⟨Nat.le_of_ble_eq_true rfl, Nat.le_of_ble_eq_true rfl, fun _ => ⟨rfl, rfl⟩⟩ (Nat.le_of_ble_eq_true rfl) (Or.inl rfl) (post_V (fun sq => ?_))
    have srh6 : SR h h6 := srh2.trans sq
    clear sq q5
    refine V.aload_n dX11_feed_22 rfl rfl rfl ?_
    refine V.getR (r := 5) dX11_feed_23 fl_X11_19 rfl (Or.inl ⟨rfl, SHL_lt rfl⟩) rfl (ly_0_1 (srh6.ly ly)) ?_
    refine V.iload_n dX11_feed_26 rfl rfl ?_
    obtain ⟨h8, q7, hf2⟩ := bd_el hf
    replace hf := hf2
    clear hf2
    refine V.callVV dX11_feed_27 ml_X11_131 mo_X4_append mv_X4_append rfl (fun q hq => by cases hq; rfl) (by decide) (Or.inl ⟨rfl, SHL_lt rfl⟩) (th_X4_append (srh6.ly ly) q7) rfl rfl ⟨Nat.le_of_ble_eq_true rfl, Nat.le_of_ble_eq_true rfl, fun _ => ⟨rfl, rfl⟩⟩ (Nat.le_of_ble_eq_true rfl) (Or.inl rfl) (post_V (fun sq => ?_))
    have srh8 : SR h h8 := srh6.trans sq
    clear sq q7
    refine V.aload_n dX11_feed_30 rfl rfl rfl ?_
    refine V.getR (r := 5) dX11_feed_31 fl_X11_19 rfl (Or.inl ⟨rfl, SHL_lt rfl⟩) rfl (ly_0_1 (srh8.ly ly)) ?_
    refine V.iload_n dX11_feed_34 rfl rfl ?_
    obtain ⟨h10, q9, hf2⟩ := bd_el hf
    replace hf := hf2
    clear hf2
    refine V.callVV dX11_feed_35 ml_X11_131 mo_X4_append mv_X4_append rfl (fun q hq => by cases hq; rfl) (by decide) (Or.inl ⟨rfl, SHL_lt rfl⟩) (th_X4_append (srh8.ly ly) q9) rfl rfl ⟨Nat.le_of_ble_eq_true rfl, Nat.le_of_ble_eq_true rfl, fun _ => ⟨rfl, rfl⟩⟩ (Nat.le_of_ble_eq_true rfl) (Or.inl rfl) (post_V (fun sq => ?_))
    have srh10 : SR h h10 := srh8.trans sq
    clear sq q9
    refine V.aload_n dX11_feed_38 rfl rfl rfl ?_
    refine V.getR (r := 5) dX11_feed_39 fl_X11_19 rfl (Or.inl ⟨rfl, SHL_lt rfl⟩) rfl (ly_0_1 (srh10.ly ly)) ?_
    refine V.iload dX11_feed_42 rfl ?_
    obtain ⟨h12, q11, hf2⟩ := bd_el hf
    replace hf := hf2
    clear hf2
    refine V.callVV dX11_feed_44 ml_X11_131 mo_X4_append mv_X4_append rfl (fun q hq => by cases hq; rfl) (by decide) (Or.inl ⟨rfl, SHL_lt rfl⟩) (th_X4_append (srh10.ly ly) q11) rfl rfl ⟨Nat.le_of_ble_eq_true rfl, Nat.le_of_ble_eq_true rfl, fun _ => ⟨rfl, rfl⟩⟩ (Nat.le_of_ble_eq_true rfl) (Or.inl rfl) (post_V (fun sq => ?_))
    have srh12 : SR h h12 := srh10.trans sq
    clear sq q11
    refine V.aload_n dX11_feed_47 rfl rfl rfl ?_
    refine V.getR (r := 5) dX11_feed_48 fl_X11_19 rfl (Or.inl ⟨rfl, SHL_lt rfl⟩) rfl (ly_0_1 (srh12.ly ly)) ?_
    refine V.iload dX11_feed_51 rfl ?_
    obtain ⟨h14, q13, hf2⟩ := bd_el hf
    replace hf := hf2
    clear hf2
    refine V.callVV dX11_feed_53 ml_X11_131 mo_X4_append mv_X4_append rfl (fun q hq => by cases hq; rfl) (by decide) (Or.inl ⟨rfl, SHL_lt rfl⟩) (th_X4_append (srh12.ly ly) q13) rfl rfl ⟨Nat.le_of_ble_eq_true rfl, Nat.le_of_ble_eq_true rfl, fun _ => ⟨rfl, rfl⟩⟩ (Nat.le_of_ble_eq_true rfl) (Or.inl rfl) (post_V (fun sq => ?_))
    have srh14 : SR h h14 := srh12.trans sq
    clear sq q13
    refine V.aload_n dX11_feed_56 rfl rfl rfl ?_
    refine V.getR (r := 5) dX11_feed_57 fl_X11_19 rfl (Or.inl ⟨rfl, SHL_lt rfl⟩) rfl (ly_0_1 (srh14.ly ly)) ?_
    refine V.getI dX11_feed_60 fl_X11_135 rfl (Or.inl ⟨rfl, SHL_lt rfl⟩) rfl rfl ?_
    refine V.ireturn dX11_feed_63 rfl rfl ⟨rfl, rfl⟩ ly.1 ?_
    exact ret_I hf srh14
  · replace hf := ite_p hf c4
    refine V.iconst (v := (-1)) dX11_feed_12 rfl ?_
    refine V.ireturn dX11_feed_13 rfl rfl ⟨rfl, rfl⟩ ly.1 ?_
    exact ret_I hf srh2
set_option maxRecDepth 100000 in
theorem th_X11_fault {h : HP} (ly : Lay h) {a1 : Int32} {rr : Int32} {hh : HP} (hf : f_X11_fault h a1 = some (rr, hh)) : Spec yX11_fault cX11_fault miX11_fault [.ref 0, .int a1] h (pI fun r' h' => (r' = rr ∧ h' = hh) ∧ SR h hh) := by
  refine Spec.of (ls0 := [.ref 0, .int a1]) mo_X11_fault (Nat.le_of_ble_eq_true rfl) rfl ?_
  rw [ly.1]
  have srh : SR h h := SR.refl h
  unfold f_X11_fault at hf
  refine V.iload_n dX11_fault_0 rfl rfl ?_
  refine V.if_ne (tgt := 12) dX11_fault_1 (by decide) (fun c1 => ?_) (fun c1 => ?_)
  · replace hf := ite_n hf c1
    refine V.iload_n dX11_fault_12 rfl rfl ?_
    refine V.iconst (v := 1) dX11_fault_13 rfl ?_
    refine V.icmp_ne (tgt := 27) dX11_fault_14 (by decide) (fun c2 => ?_) (fun c2 => ?_)
    · replace hf := ite_n hf c2
      refine V.iconst (v := (-1)) dX11_fault_27 rfl ?_
      refine V.ireturn dX11_fault_28 rfl rfl ⟨rfl, rfl⟩ ly.1 ?_
      exact ret_I hf srh
    · replace hf := ite_p hf c2
      refine V.aload_n dX11_fault_17 rfl rfl rfl ?_
      refine V.getR (r := 5) dX11_fault_18 fl_X11_19 rfl (Or.inl ⟨rfl, SHL_lt rfl⟩) rfl (ly_0_1 (srh.ly ly)) ?_
      refine V.getI dX11_fault_21 fl_X11_189 rfl (Or.inl ⟨rfl, SHL_lt rfl⟩) rfl rfl ?_
      refine V.goto (tgt := 28) dX11_fault_24 (by decide) ?_
      refine V.ireturn dX11_fault_28 rfl rfl ⟨rfl, rfl⟩ ly.1 ?_
      exact ret_I hf srh
  · replace hf := ite_p hf c1
    refine V.aload_n dX11_fault_4 rfl rfl rfl ?_
    refine V.getR (r := 5) dX11_fault_5 fl_X11_19 rfl (Or.inl ⟨rfl, SHL_lt rfl⟩) rfl (ly_0_1 (srh.ly ly)) ?_
    refine V.getI dX11_fault_8 fl_X11_186 rfl (Or.inl ⟨rfl, SHL_lt rfl⟩) rfl rfl ?_
    refine V.ireturn dX11_fault_11 rfl rfl ⟨rfl, rfl⟩ ly.1 ?_
    exact ret_I hf srh
set_option maxRecDepth 100000 in
theorem th_X11_told {h : HP} (ly : Lay h) {t : Nat} (hT : isT t) (pr : hR h 0 8 = t) {a1 : Int32} {rr : Int32} {hh : HP} (hf : f_X11_told h t a1 = some (rr, hh)) : Spec yX11_told cX11_told miX11_told [.ref 0, .int a1] h (pI fun r' h' => (r' = rr ∧ h' = hh) ∧ SR h hh) := by
  refine Spec.of (ls0 := [.ref 0, .int a1, .null]) mo_X11_told (Nat.le_of_ble_eq_true rfl) rfl ?_
  rw [ly.1]
  have srh : SR h h := SR.refl h
  unfold f_X11_told at hf
  refine V.aload_n dX11_told_0 rfl rfl rfl ?_
  refine V.getR (r := t) dX11_told_1 fl_X11_61 rfl (Or.inl ⟨rfl, SHL_lt rfl⟩) rfl (srh.pr pr) ?_
  refine V.getR (r := t + 1) dX11_told_4 fl_X11_147 (sT0 hT) (Or.inl ⟨rfl, SHL_lt (sT0 hT)⟩) rfl (rT_hill (srh.ly ly) hT) ?_
  refine V.astore_n (ls' := [.ref 0, .int a1, .ref (t + 1)]) dX11_told_7 rfl (by decide) (sH0 hT.H) rfl ?_
  refine V.iload_n dX11_told_8 rfl rfl ?_
  by_cases c1 : a1 = 0
  · replace hf := ite_p hf c1
    refine V.tableIn (tgt := 68) dX11_told_9 (by rw [c1]; decide) (by rw [c1]; decide) (by rw [c1]; rfl) (by decide) ?_
    refine V.aload_n dX11_told_68 rfl rfl rfl ?_
    refine V.aload_n dX11_told_69 rfl rfl (sH0 hT.H) ?_
    refine V.getI dX11_told_70 fl_X11_192 (sH0 hT.H) (Or.inl ⟨rfl, SHL_lt (sH0 hT.H)⟩) rfl rfl ?_
    obtain ⟨r4, h3, q2, hf2⟩ := bd2_el hf
    replace hf := hf2
    clear hf2
    refine V.callVI dX11_told_73 ml_X11_161 mo_X11_answer mv_X11_answer rfl (fun q hq => by cases hq; rfl) (by decide) (Or.inl ⟨rfl, SHL_lt rfl⟩) (th_X11_answer (srh.ly ly) q2) rfl rfl ⟨Nat.le_of_ble_eq_true rfl, Nat.le_of_ble_eq_true rfl, fun _ => ⟨rfl, rfl⟩⟩ (Nat.le_of_ble_eq_true rfl) rfl (post_I (fun sq => ?_))
    have srh3 : SR h h3 := srh.trans sq
    clear sq q2
    refine V.ireturn dX11_told_76 rfl rfl ⟨rfl, rfl⟩ ly.1 ?_
    exact ret_I hf srh3
  replace hf := ite_n hf c1
  by_cases c5 : a1 = 1
  · replace hf := ite_p hf c5
    refine V.tableIn (tgt := 77) dX11_told_9 (by rw [c5]; decide) (by rw [c5]; decide) (by rw [c5]; rfl) (by decide) ?_
    refine V.aload_n dX11_told_77 rfl rfl rfl ?_
    refine V.aload_n dX11_told_78 rfl rfl (sH0 hT.H) ?_
    refine V.getI dX11_told_79 fl_X11_195 (sH0 hT.H) (Or.inl ⟨rfl, SHL_lt (sH0 hT.H)⟩) rfl rfl ?_
    obtain ⟨r8, h7, q6, hf2⟩ := bd2_el hf
    replace hf := hf2
    clear hf2
    refine V.callVI dX11_told_82 ml_X11_161 mo_X11_answer mv_X11_answer rfl (fun q hq => by cases hq; rfl) (by decide) (Or.inl ⟨rfl, SHL_lt rfl⟩) (th_X11_answer (srh.ly ly) q6) rfl rfl ⟨Nat.le_of_ble_eq_true rfl, Nat.le_of_ble_eq_true rfl, fun _ => ⟨rfl, rfl⟩⟩ (Nat.le_of_ble_eq_true rfl) rfl (post_I (fun sq => ?_))
    have srh7 : SR h h7 := srh.trans sq
    clear sq q6
    refine V.ireturn dX11_told_85 rfl rfl ⟨rfl, rfl⟩ ly.1 ?_
    exact ret_I hf srh7
  replace hf := ite_n hf c5
  by_cases c9 : a1 = 2
  · replace hf := ite_p hf c9
    refine V.tableIn (tgt := 86) dX11_told_9 (by rw [c9]; decide) (by rw [c9]; decide) (by rw [c9]; rfl) (by decide) ?_
    refine V.aload_n dX11_told_86 rfl rfl rfl ?_
    refine V.aload_n dX11_told_87 rfl rfl (sH0 hT.H) ?_
    refine V.getI dX11_told_88 fl_X11_151 (sH0 hT.H) (Or.inl ⟨rfl, SHL_lt (sH0 hT.H)⟩) rfl rfl ?_
    obtain ⟨r12, h11, q10, hf2⟩ := bd2_el hf
    replace hf := hf2
    clear hf2
    refine V.callSI dX11_told_91 ml_X11_156 mo_J6_bitCount_0f7a4 ms_J6_bitCount_0f7a4 (th_J6_bitCount_0f7a4 (srh.ly ly) q10) rfl rfl ⟨Nat.le_of_ble_eq_true rfl, Nat.le_of_ble_eq_true rfl, fun _ => ⟨rfl, rfl⟩⟩ (Nat.le_of_ble_eq_true rfl) rfl (post_I (fun sq => ?_))
    have srh11 : SR h h11 := srh.trans sq
    clear sq q10
    obtain ⟨r15, h14, q13, hf2⟩ := bd2_el hf
    replace hf := hf2
    clear hf2
    refine V.callVI dX11_told_94 ml_X11_161 mo_X11_answer mv_X11_answer rfl (fun q hq => by cases hq; rfl) (by decide) (Or.inl ⟨rfl, SHL_lt rfl⟩) (th_X11_answer (srh11.ly ly) q13) rfl rfl ⟨Nat.le_of_ble_eq_true rfl, Nat.le_of_ble_eq_true rfl, fun _ => ⟨rfl, rfl⟩⟩ (Nat.le_of_ble_eq_true rfl) rfl (post_I (fun sq => ?_))
    have srh14 : SR h h14 := srh11.trans sq
    clear sq q13
    refine V.ireturn dX11_told_97 rfl rfl ⟨rfl, rfl⟩ ly.1 ?_
    exact ret_I hf srh14
  replace hf := ite_n hf c9
  by_cases c16 : a1 = 3
  · replace hf := ite_p hf c16
    refine V.tableIn (tgt := 98) dX11_told_9 (by rw [c16]; decide) (by rw [c16]; decide) (by rw [c16]; rfl) (by decide) ?_
    refine V.aload_n dX11_told_98 rfl rfl rfl ?_
    refine V.aload_n dX11_told_99 rfl rfl rfl ?_
    refine V.getR (r := t) dX11_told_100 fl_X11_61 rfl (Or.inl ⟨rfl, SHL_lt rfl⟩) rfl (srh.pr pr) ?_
    refine V.getI dX11_told_103 fl_X11_198 (sT0 hT) (Or.inl ⟨rfl, SHL_lt (sT0 hT)⟩) rfl rfl ?_
    obtain ⟨r19, h18, q17, hf2⟩ := bd2_el hf
    replace hf := hf2
    clear hf2
    refine V.callSI dX11_told_106 ml_X11_156 mo_J6_bitCount_0f7a4 ms_J6_bitCount_0f7a4 (th_J6_bitCount_0f7a4 (srh.ly ly) q17) rfl rfl ⟨Nat.le_of_ble_eq_true rfl, Nat.le_of_ble_eq_true rfl, fun _ => ⟨rfl, rfl⟩⟩ (Nat.le_of_ble_eq_true rfl) rfl (post_I (fun sq => ?_))
    have srh18 : SR h h18 := srh.trans sq
    clear sq q17
    obtain ⟨r22, h21, q20, hf2⟩ := bd2_el hf
    replace hf := hf2
    clear hf2
    refine V.callVI dX11_told_109 ml_X11_161 mo_X11_answer mv_X11_answer rfl (fun q hq => by cases hq; rfl) (by decide) (Or.inl ⟨rfl, SHL_lt rfl⟩) (th_X11_answer (srh18.ly ly) q20) rfl rfl ⟨Nat.le_of_ble_eq_true rfl, Nat.le_of_ble_eq_true rfl, fun _ => ⟨rfl, rfl⟩⟩ (Nat.le_of_ble_eq_true rfl) rfl (post_I (fun sq => ?_))
    have srh21 : SR h h21 := srh18.trans sq
    clear sq q20
    refine V.ireturn dX11_told_112 rfl rfl ⟨rfl, rfl⟩ ly.1 ?_
    exact ret_I hf srh21
  replace hf := ite_n hf c16
  by_cases c23 : a1 = 4
  · replace hf := ite_p hf c23
    refine V.tableIn (tgt := 113) dX11_told_9 (by rw [c23]; decide) (by rw [c23]; decide) (by rw [c23]; rfl) (by decide) ?_
    refine V.aload_n dX11_told_113 rfl rfl rfl ?_
    refine V.aload_n dX11_told_114 rfl rfl (sH0 hT.H) ?_
    refine V.getI dX11_told_115 fl_X11_151 (sH0 hT.H) (Or.inl ⟨rfl, SHL_lt (sH0 hT.H)⟩) rfl rfl ?_
    refine V.aload_n dX11_told_118 rfl rfl (sH0 hT.H) ?_
    refine V.getI dX11_told_119 fl_X11_201 (sH0 hT.H) (Or.inl ⟨rfl, SHL_lt (sH0 hT.H)⟩) rfl rfl ?_
    refine V.iconst (v := (-1)) dX11_told_122 rfl ?_
    refine V.ixor dX11_told_123 ?_
    refine V.iand dX11_told_124 ?_
    obtain ⟨r26, h25, q24, hf2⟩ := bd2_el hf
    replace hf := hf2
    clear hf2
    refine V.callSI dX11_told_125 ml_X11_156 mo_J6_bitCount_0f7a4 ms_J6_bitCount_0f7a4 (th_J6_bitCount_0f7a4 (srh.ly ly) q24) rfl rfl ⟨Nat.le_of_ble_eq_true rfl, Nat.le_of_ble_eq_true rfl, fun _ => ⟨rfl, rfl⟩⟩ (Nat.le_of_ble_eq_true rfl) rfl (post_I (fun sq => ?_))
    have srh25 : SR h h25 := srh.trans sq
    clear sq q24
    obtain ⟨r29, h28, q27, hf2⟩ := bd2_el hf
    replace hf := hf2
    clear hf2
    refine V.callVI dX11_told_128 ml_X11_161 mo_X11_answer mv_X11_answer rfl (fun q hq => by cases hq; rfl) (by decide) (Or.inl ⟨rfl, SHL_lt rfl⟩) (th_X11_answer (srh25.ly ly) q27) rfl rfl ⟨Nat.le_of_ble_eq_true rfl, Nat.le_of_ble_eq_true rfl, fun _ => ⟨rfl, rfl⟩⟩ (Nat.le_of_ble_eq_true rfl) rfl (post_I (fun sq => ?_))
    have srh28 : SR h h28 := srh25.trans sq
    clear sq q27
    refine V.ireturn dX11_told_131 rfl rfl ⟨rfl, rfl⟩ ly.1 ?_
    exact ret_I hf srh28
  replace hf := ite_n hf c23
  by_cases c30 : a1 = 5
  · replace hf := ite_p hf c30
    refine V.tableIn (tgt := 132) dX11_told_9 (by rw [c30]; decide) (by rw [c30]; decide) (by rw [c30]; rfl) (by decide) ?_
    refine V.aload_n dX11_told_132 rfl rfl rfl ?_
    refine V.aload_n dX11_told_133 rfl rfl rfl ?_
    refine V.getR (r := t) dX11_told_134 fl_X11_61 rfl (Or.inl ⟨rfl, SHL_lt rfl⟩) rfl (srh.pr pr) ?_
    refine V.getI dX11_told_137 fl_X11_204 (sT0 hT) (Or.inl ⟨rfl, SHL_lt (sT0 hT)⟩) rfl rfl ?_
    obtain ⟨r33, h32, q31, hf2⟩ := bd2_el hf
    replace hf := hf2
    clear hf2
    refine V.callVI dX11_told_140 ml_X11_161 mo_X11_answer mv_X11_answer rfl (fun q hq => by cases hq; rfl) (by decide) (Or.inl ⟨rfl, SHL_lt rfl⟩) (th_X11_answer (srh.ly ly) q31) rfl rfl ⟨Nat.le_of_ble_eq_true rfl, Nat.le_of_ble_eq_true rfl, fun _ => ⟨rfl, rfl⟩⟩ (Nat.le_of_ble_eq_true rfl) rfl (post_I (fun sq => ?_))
    have srh32 : SR h h32 := srh.trans sq
    clear sq q31
    refine V.ireturn dX11_told_143 rfl rfl ⟨rfl, rfl⟩ ly.1 ?_
    exact ret_I hf srh32
  replace hf := ite_n hf c30
  by_cases c34 : a1 = 6
  · replace hf := ite_p hf c34
    refine V.tableIn (tgt := 144) dX11_told_9 (by rw [c34]; decide) (by rw [c34]; decide) (by rw [c34]; rfl) (by decide) ?_
    refine V.aload_n dX11_told_144 rfl rfl rfl ?_
    refine V.aload_n dX11_told_145 rfl rfl rfl ?_
    refine V.getR (r := t) dX11_told_146 fl_X11_61 rfl (Or.inl ⟨rfl, SHL_lt rfl⟩) rfl (srh.pr pr) ?_
    refine V.getI dX11_told_149 fl_X11_207 (sT0 hT) (Or.inl ⟨rfl, SHL_lt (sT0 hT)⟩) rfl rfl ?_
    obtain ⟨r37, h36, q35, hf2⟩ := bd2_el hf
    replace hf := hf2
    clear hf2
    refine V.callVI dX11_told_152 ml_X11_161 mo_X11_answer mv_X11_answer rfl (fun q hq => by cases hq; rfl) (by decide) (Or.inl ⟨rfl, SHL_lt rfl⟩) (th_X11_answer (srh.ly ly) q35) rfl rfl ⟨Nat.le_of_ble_eq_true rfl, Nat.le_of_ble_eq_true rfl, fun _ => ⟨rfl, rfl⟩⟩ (Nat.le_of_ble_eq_true rfl) rfl (post_I (fun sq => ?_))
    have srh36 : SR h h36 := srh.trans sq
    clear sq q35
    refine V.ireturn dX11_told_155 rfl rfl ⟨rfl, rfl⟩ ly.1 ?_
    exact ret_I hf srh36
  replace hf := ite_n hf c34
  by_cases c38 : a1 = 7
  · replace hf := ite_p hf c38
    refine V.tableIn (tgt := 156) dX11_told_9 (by rw [c38]; decide) (by rw [c38]; decide) (by rw [c38]; rfl) (by decide) ?_
    refine V.aload_n dX11_told_156 rfl rfl rfl ?_
    refine V.aload_n dX11_told_157 rfl rfl rfl ?_
    refine V.getR (r := t) dX11_told_158 fl_X11_61 rfl (Or.inl ⟨rfl, SHL_lt rfl⟩) rfl (srh.pr pr) ?_
    refine V.getI dX11_told_161 fl_X11_210 (sT0 hT) (Or.inl ⟨rfl, SHL_lt (sT0 hT)⟩) rfl rfl ?_
    obtain ⟨r41, h40, q39, hf2⟩ := bd2_el hf
    replace hf := hf2
    clear hf2
    refine V.callVI dX11_told_164 ml_X11_161 mo_X11_answer mv_X11_answer rfl (fun q hq => by cases hq; rfl) (by decide) (Or.inl ⟨rfl, SHL_lt rfl⟩) (th_X11_answer (srh.ly ly) q39) rfl rfl ⟨Nat.le_of_ble_eq_true rfl, Nat.le_of_ble_eq_true rfl, fun _ => ⟨rfl, rfl⟩⟩ (Nat.le_of_ble_eq_true rfl) rfl (post_I (fun sq => ?_))
    have srh40 : SR h h40 := srh.trans sq
    clear sq q39
    refine V.ireturn dX11_told_167 rfl rfl ⟨rfl, rfl⟩ ly.1 ?_
    exact ret_I hf srh40
  replace hf := ite_n hf c38
  by_cases c42 : a1 = 8
  · replace hf := ite_p hf c42
    refine V.tableIn (tgt := 168) dX11_told_9 (by rw [c42]; decide) (by rw [c42]; decide) (by rw [c42]; rfl) (by decide) ?_
    refine V.aload_n dX11_told_168 rfl rfl rfl ?_
    refine V.aload_n dX11_told_169 rfl rfl rfl ?_
    refine V.getR (r := t) dX11_told_170 fl_X11_61 rfl (Or.inl ⟨rfl, SHL_lt rfl⟩) rfl (srh.pr pr) ?_
    refine V.getI dX11_told_173 fl_X11_213 (sT0 hT) (Or.inl ⟨rfl, SHL_lt (sT0 hT)⟩) rfl rfl ?_
    obtain ⟨r45, h44, q43, hf2⟩ := bd2_el hf
    replace hf := hf2
    clear hf2
    refine V.callVI dX11_told_176 ml_X11_161 mo_X11_answer mv_X11_answer rfl (fun q hq => by cases hq; rfl) (by decide) (Or.inl ⟨rfl, SHL_lt rfl⟩) (th_X11_answer (srh.ly ly) q43) rfl rfl ⟨Nat.le_of_ble_eq_true rfl, Nat.le_of_ble_eq_true rfl, fun _ => ⟨rfl, rfl⟩⟩ (Nat.le_of_ble_eq_true rfl) rfl (post_I (fun sq => ?_))
    have srh44 : SR h h44 := srh.trans sq
    clear sq q43
    refine V.ireturn dX11_told_179 rfl rfl ⟨rfl, rfl⟩ ly.1 ?_
    exact ret_I hf srh44
  replace hf := ite_n hf c42
  by_cases c46 : a1 = 9
  · replace hf := ite_p hf c46
    refine V.tableIn (tgt := 180) dX11_told_9 (by rw [c46]; decide) (by rw [c46]; decide) (by rw [c46]; rfl) (by decide) ?_
    refine V.aload_n dX11_told_180 rfl rfl rfl ?_
    refine V.aload_n dX11_told_181 rfl rfl (sH0 hT.H) ?_
    refine V.getI dX11_told_182 fl_X11_216 (sH0 hT.H) (Or.inl ⟨rfl, SHL_lt (sH0 hT.H)⟩) rfl rfl ?_
    refine V.if_eq (tgt := 192) dX11_told_185 (by decide) (fun c47 => ?_) (fun c47 => ?_)
    · replace hf := ite_p hf c47
      refine V.iconst (v := 0) dX11_told_192 rfl ?_
      obtain ⟨r50, h49, q48, hf2⟩ := bd2_el hf
      replace hf := hf2
      clear hf2
      refine V.callVI dX11_told_193 ml_X11_161 mo_X11_answer mv_X11_answer rfl (fun q hq => by cases hq; rfl) (by decide) (Or.inl ⟨rfl, SHL_lt rfl⟩) (th_X11_answer (srh.ly ly) q48) rfl rfl ⟨Nat.le_of_ble_eq_true rfl, Nat.le_of_ble_eq_true rfl, fun _ => ⟨rfl, rfl⟩⟩ (Nat.le_of_ble_eq_true rfl) rfl (post_I (fun sq => ?_))
      have srh49 : SR h h49 := srh.trans sq
      clear sq q48
      refine V.ireturn dX11_told_196 rfl rfl ⟨rfl, rfl⟩ ly.1 ?_
      exact ret_I hf srh49
    · replace hf := ite_n hf c47
      refine V.iconst (v := 1) dX11_told_188 rfl ?_
      refine V.goto (tgt := 193) dX11_told_189 (by decide) ?_
      obtain ⟨r53, h52, q51, hf2⟩ := bd2_el hf
      replace hf := hf2
      clear hf2
      refine V.callVI dX11_told_193 ml_X11_161 mo_X11_answer mv_X11_answer rfl (fun q hq => by cases hq; rfl) (by decide) (Or.inl ⟨rfl, SHL_lt rfl⟩) (th_X11_answer (srh.ly ly) q51) rfl rfl ⟨Nat.le_of_ble_eq_true rfl, Nat.le_of_ble_eq_true rfl, fun _ => ⟨rfl, rfl⟩⟩ (Nat.le_of_ble_eq_true rfl) rfl (post_I (fun sq => ?_))
      have srh52 : SR h h52 := srh.trans sq
      clear sq q51
      refine V.ireturn dX11_told_196 rfl rfl ⟨rfl, rfl⟩ ly.1 ?_
      exact ret_I hf srh52
  replace hf := ite_n hf c46
  by_cases c54 : a1 = 10
  · replace hf := ite_p hf c54
    refine V.tableIn (tgt := 197) dX11_told_9 (by rw [c54]; decide) (by rw [c54]; decide) (by rw [c54]; rfl) (by decide) ?_
    refine V.aload_n dX11_told_197 rfl rfl rfl ?_
    refine V.getR (r := t) dX11_told_198 fl_X11_61 rfl (Or.inl ⟨rfl, SHL_lt rfl⟩) rfl (srh.pr pr) ?_
    refine V.getI dX11_told_201 fl_X11_204 (sT0 hT) (Or.inl ⟨rfl, SHL_lt (sT0 hT)⟩) rfl rfl ?_
    refine V.if_ne (tgt := 216) dX11_told_204 (by decide) (fun c55 => ?_) (fun c55 => ?_)
    · replace hf := ite_n hf c55
      refine V.aload_n dX11_told_216 rfl rfl rfl ?_
      refine V.aload_n dX11_told_217 rfl rfl rfl ?_
      refine V.getR (r := t) dX11_told_218 fl_X11_61 rfl (Or.inl ⟨rfl, SHL_lt rfl⟩) rfl (srh.pr pr) ?_
      refine V.getI dX11_told_221 fl_X11_220 (sT0 hT) (Or.inl ⟨rfl, SHL_lt (sT0 hT)⟩) rfl rfl ?_
      obtain ⟨r58, h57, q56, hf2⟩ := bd2_el hf
      replace hf := hf2
      clear hf2
      refine V.callVI dX11_told_224 ml_X11_161 mo_X11_answer mv_X11_answer rfl (fun q hq => by cases hq; rfl) (by decide) (Or.inl ⟨rfl, SHL_lt rfl⟩) (th_X11_answer (srh.ly ly) q56) rfl rfl ⟨Nat.le_of_ble_eq_true rfl, Nat.le_of_ble_eq_true rfl, fun _ => ⟨rfl, rfl⟩⟩ (Nat.le_of_ble_eq_true rfl) rfl (post_I (fun sq => ?_))
      have srh57 : SR h h57 := srh.trans sq
      clear sq q56
      refine V.ireturn dX11_told_227 rfl rfl ⟨rfl, rfl⟩ ly.1 ?_
      exact ret_I hf srh57
    · replace hf := ite_p hf c55
      refine V.aload_n dX11_told_207 rfl rfl rfl ?_
      refine V.bipush (v := 6) dX11_told_208 rfl ?_
      obtain ⟨r61, h60, q59, hf2⟩ := bd2_el hf
      replace hf := hf2
      clear hf2
      refine V.callVI dX11_told_210 ml_X11_105 mo_X11_refuse mv_X11_refuse rfl (fun q hq => by cases hq; rfl) (by decide) (Or.inl ⟨rfl, SHL_lt rfl⟩) (th_X11_refuse (srh.ly ly) q59) rfl rfl ⟨Nat.le_of_ble_eq_true rfl, Nat.le_of_ble_eq_true rfl, fun _ => ⟨rfl, rfl⟩⟩ (Nat.le_of_ble_eq_true rfl) rfl (post_I (fun sq => ?_))
      have srh60 : SR h h60 := srh.trans sq
      clear sq q59
      refine V.goto (tgt := 227) dX11_told_213 (by decide) ?_
      refine V.ireturn dX11_told_227 rfl rfl ⟨rfl, rfl⟩ ly.1 ?_
      exact ret_I hf srh60
  replace hf := ite_n hf c54
  have nc1 := lv_neT c1 (a := 0) rfl
  have nc5 := lv_neT c5 (a := 1) rfl
  have nc9 := lv_neT c9 (a := 2) rfl
  have nc16 := lv_neT c16 (a := 3) rfl
  have nc23 := lv_neT c23 (a := 4) rfl
  have nc30 := lv_neT c30 (a := 5) rfl
  have nc34 := lv_neT c34 (a := 6) rfl
  have nc38 := lv_neT c38 (a := 7) rfl
  have nc42 := lv_neT c42 (a := 8) rfl
  have nc46 := lv_neT c46 (a := 9) rfl
  have nc54 := lv_neT c54 (a := 10) rfl
  refine V.tableOut (tgt := 228) dX11_told_9 (by omega) (by decide) ?_
  refine V.aload_n dX11_told_228 rfl rfl rfl ?_
  refine V.iconst (v := 1) dX11_told_229 rfl ?_
  obtain ⟨r64, h63, q62, hf2⟩ := bd2_el hf
  replace hf := hf2
  clear hf2
  refine V.callVI dX11_told_230 ml_X11_105 mo_X11_refuse mv_X11_refuse rfl (fun q hq => by cases hq; rfl) (by decide) (Or.inl ⟨rfl, SHL_lt rfl⟩) (th_X11_refuse (srh.ly ly) q62) rfl rfl ⟨Nat.le_of_ble_eq_true rfl, Nat.le_of_ble_eq_true rfl, fun _ => ⟨rfl, rfl⟩⟩ (Nat.le_of_ble_eq_true rfl) rfl (post_I (fun sq => ?_))
  have srh63 : SR h h63 := srh.trans sq
  clear sq q62
  refine V.ireturn dX11_told_233 rfl rfl ⟨rfl, rfl⟩ ly.1 ?_
  exact ret_I hf srh63
set_option maxRecDepth 100000 in
theorem th_X11_picture {h : HP} (ly : Lay h) {t : Nat} (hT : isT t) (pr : hR h 0 8 = t)  {rr : Int64} {hh : HP} (hf : f_X11_picture h t = some (rr, hh)) : Spec yX11_picture cX11_picture miX11_picture [.ref 0] h (pL fun r' h' => (r' = rr ∧ h' = hh) ∧ SR h hh) := by
  refine Spec.of (ls0 := [.ref 0]) mo_X11_picture (Nat.le_of_ble_eq_true rfl) rfl ?_
  rw [ly.1]
  have srh : SR h h := SR.refl h
  unfold f_X11_picture at hf
  refine V.aload_n dX11_picture_0 rfl rfl rfl ?_
  refine V.aload_n dX11_picture_1 rfl rfl rfl ?_
  refine V.getR (r := t) dX11_picture_2 fl_X11_61 rfl (Or.inl ⟨rfl, SHL_lt rfl⟩) rfl (srh.pr pr) ?_
  refine V.getI dX11_picture_5 fl_X11_198 (sT0 hT) (Or.inl ⟨rfl, SHL_lt (sT0 hT)⟩) rfl rfl ?_
  obtain ⟨r3, h2, q1, hf2⟩ := bd2_el hf
  replace hf := hf2
  clear hf2
  refine V.callVI dX11_picture_8 ml_X11_161 mo_X11_answer mv_X11_answer rfl (fun q hq => by cases hq; rfl) (by decide) (Or.inl ⟨rfl, SHL_lt rfl⟩) (th_X11_answer (srh.ly ly) q1) rfl rfl ⟨Nat.le_of_ble_eq_true rfl, Nat.le_of_ble_eq_true rfl, fun _ => ⟨rfl, rfl⟩⟩ (Nat.le_of_ble_eq_true rfl) rfl (post_I (fun sq => ?_))
  have srh2 : SR h h2 := srh.trans sq
  clear sq q1
  refine V.i2l dX11_picture_11 ?_
  refine V.lreturn dX11_picture_12 rfl ⟨rfl, rfl⟩ ly.1 ?_
  exact ret_L hf srh2
set_option maxRecDepth 100000 in
theorem th_X11_lamp {h : HP} (ly : Lay h) {t : Nat} (hT : isT t) (pr : hR h 0 8 = t) {a1 : Int32} {a2 : Int32} {a3 : Int32} {rr : Int32} {hh : HP} (hf : f_X11_lamp h t a1 a2 a3 = some (rr, hh)) : Spec yX11_lamp cX11_lamp miX11_lamp [.ref 0, .int a1, .int a2, .int a3] h (pI fun r' h' => (r' = rr ∧ h' = hh) ∧ SR h hh) := by
  refine Spec.of (ls0 := [.ref 0, .int a1, .int a2, .int a3, .null, .null, .null]) mo_X11_lamp (Nat.le_of_ble_eq_true rfl) rfl ?_
  rw [ly.1]
  have srh : SR h h := SR.refl h
  unfold f_X11_lamp at hf
  refine V.aload_n dX11_lamp_0 rfl rfl rfl ?_
  refine V.getR (r := t) dX11_lamp_1 fl_X11_61 rfl (Or.inl ⟨rfl, SHL_lt rfl⟩) rfl (srh.pr pr) ?_
  refine V.getR (r := t + 1) dX11_lamp_4 fl_X11_147 (sT0 hT) (Or.inl ⟨rfl, SHL_lt (sT0 hT)⟩) rfl (rT_hill (srh.ly ly) hT) ?_
  refine V.astore (ls' := [.ref 0, .int a1, .int a2, .int a3, .ref (t + 1), .null, .null]) dX11_lamp_7 (by decide) (sH0 hT.H) rfl ?_
  refine V.aload dX11_lamp_9 rfl (sH0 hT.H) ?_
  refine V.iload_n dX11_lamp_11 rfl rfl ?_
  refine V.iload_n dX11_lamp_12 rfl rfl ?_
  obtain ⟨r3, h2, q1, hf2⟩ := bd2_el hf
  replace hf := hf2
  clear hf2
  refine V.callVI dX11_lamp_13 ml_X11_223 mo_X1_placeOf mv_X1_placeOf (sH0 hT.H) (fun q hq => by cases hq; rfl) (by decide) (Or.inl ⟨rfl, SHL_lt (sH0 hT.H)⟩) (th_X1_placeOf (srh.ly ly) hT.H q1) rfl rfl ⟨Nat.le_of_ble_eq_true rfl, Nat.le_of_ble_eq_true rfl, fun _ => ⟨rfl, rfl⟩⟩ (Nat.le_of_ble_eq_true rfl) rfl (post_I (fun sq => ?_))
  have srh2 : SR h h2 := srh.trans sq
  clear sq q1
  refine V.istore (ls' := [.ref 0, .int a1, .int a2, .int a3, .ref (t + 1), .int r3, .null]) dX11_lamp_16 (by decide) rfl ?_
  refine V.iload dX11_lamp_18 rfl ?_
  refine V.if_lt (tgt := 32) dX11_lamp_20 (by decide) (fun c4 => ?_) (fun c4 => ?_)
  · replace hf := ite_p hf c4
    refine V.aload_n dX11_lamp_32 rfl rfl rfl ?_
    refine V.iconst (v := 1) dX11_lamp_33 rfl ?_
    obtain ⟨r7, h6, q5, hf2⟩ := bd2_el hf
    replace hf := hf2
    clear hf2
    refine V.callVI dX11_lamp_34 ml_X11_105 mo_X11_refuse mv_X11_refuse rfl (fun q hq => by cases hq; rfl) (by decide) (Or.inl ⟨rfl, SHL_lt rfl⟩) (th_X11_refuse (srh2.ly ly) q5) rfl rfl ⟨Nat.le_of_ble_eq_true rfl, Nat.le_of_ble_eq_true rfl, fun _ => ⟨rfl, rfl⟩⟩ (Nat.le_of_ble_eq_true rfl) rfl (post_I (fun sq => ?_))
    have srh6 : SR h h6 := srh2.trans sq
    clear sq q5
    refine V.ireturn dX11_lamp_37 rfl rfl ⟨rfl, rfl⟩ ly.1 ?_
    exact ret_I hf srh6
  · replace hf := ite_n hf c4
    refine V.iload_n dX11_lamp_23 rfl rfl ?_
    refine V.if_lt (tgt := 32) dX11_lamp_24 (by decide) (fun c8 => ?_) (fun c8 => ?_)
    · replace hf := ite_p hf c8
      refine V.aload_n dX11_lamp_32 rfl rfl rfl ?_
      refine V.iconst (v := 1) dX11_lamp_33 rfl ?_
      obtain ⟨r11, h10, q9, hf2⟩ := bd2_el hf
      replace hf := hf2
      clear hf2
      refine V.callVI dX11_lamp_34 ml_X11_105 mo_X11_refuse mv_X11_refuse rfl (fun q hq => by cases hq; rfl) (by decide) (Or.inl ⟨rfl, SHL_lt rfl⟩) (th_X11_refuse (srh2.ly ly) q9) rfl rfl ⟨Nat.le_of_ble_eq_true rfl, Nat.le_of_ble_eq_true rfl, fun _ => ⟨rfl, rfl⟩⟩ (Nat.le_of_ble_eq_true rfl) rfl (post_I (fun sq => ?_))
      have srh10 : SR h h10 := srh2.trans sq
      clear sq q9
      refine V.ireturn dX11_lamp_37 rfl rfl ⟨rfl, rfl⟩ ly.1 ?_
      exact ret_I hf srh10
    · replace hf := ite_n hf c8
      refine V.iload_n dX11_lamp_27 rfl rfl ?_
      refine V.iconst (v := 3) dX11_lamp_28 rfl ?_
      refine V.icmp_le (tgt := 38) dX11_lamp_29 (by decide) (fun c12 => ?_) (fun c12 => ?_)
      · replace hf := ite_p hf c12
        refine V.iconst (v := 1) dX11_lamp_38 rfl ?_
        refine V.iload dX11_lamp_39 rfl ?_
        refine V.ishl dX11_lamp_41 ?_
        refine V.nmi (fun x13 ex13 => ?_)
        replace hf := lt_el hf x13 ex13
        refine V.istore (ls' := [.ref 0, .int a1, .int a2, .int a3, .ref (t + 1), .int r3, .int x13]) dX11_lamp_42 (by decide) rfl ?_
        refine V.aload dX11_lamp_44 rfl (sH0 hT.H) ?_
        refine V.getI dX11_lamp_46 fl_X11_151 (sH0 hT.H) (Or.inl ⟨rfl, SHL_lt (sH0 hT.H)⟩) rfl rfl ?_
        refine V.iload dX11_lamp_49 rfl ?_
        refine V.iand dX11_lamp_51 ?_
        refine V.if_ne (tgt := 62) dX11_lamp_52 (by decide) (fun c14 => ?_) (fun c14 => ?_)
        · replace hf := ite_n hf c14
          refine V.iload_n dX11_lamp_62 rfl rfl ?_
          by_cases c15 : a3 = 0
          · replace hf := ite_p hf c15
            refine V.tableIn (tgt := 88) dX11_lamp_63 (by rw [c15]; decide) (by rw [c15]; decide) (by rw [c15]; rfl) (by decide) ?_
            refine V.aload_n dX11_lamp_88 rfl rfl rfl ?_
            refine V.aload_n dX11_lamp_89 rfl rfl rfl ?_
            refine V.getR (r := t) dX11_lamp_90 fl_X11_61 rfl (Or.inl ⟨rfl, SHL_lt rfl⟩) rfl (srh2.pr pr) ?_
            refine V.getI dX11_lamp_93 fl_X11_198 (sT0 hT) (Or.inl ⟨rfl, SHL_lt (sT0 hT)⟩) rfl rfl ?_
            refine V.iload dX11_lamp_96 rfl ?_
            refine V.iand dX11_lamp_98 ?_
            refine V.if_eq (tgt := 106) dX11_lamp_99 (by decide) (fun c16 => ?_) (fun c16 => ?_)
            · replace hf := ite_p hf c16
              refine V.iconst (v := 0) dX11_lamp_106 rfl ?_
              obtain ⟨r19, h18, q17, hf2⟩ := bd2_el hf
              replace hf := hf2
              clear hf2
              refine V.callVI dX11_lamp_107 ml_X11_161 mo_X11_answer mv_X11_answer rfl (fun q hq => by cases hq; rfl) (by decide) (Or.inl ⟨rfl, SHL_lt rfl⟩) (th_X11_answer (srh2.ly ly) q17) rfl rfl ⟨Nat.le_of_ble_eq_true rfl, Nat.le_of_ble_eq_true rfl, fun _ => ⟨rfl, rfl⟩⟩ (Nat.le_of_ble_eq_true rfl) rfl (post_I (fun sq => ?_))
              have srh18 : SR h h18 := srh2.trans sq
              clear sq q17
              refine V.ireturn dX11_lamp_110 rfl rfl ⟨rfl, rfl⟩ ly.1 ?_
              exact ret_I hf srh18
            · replace hf := ite_n hf c16
              refine V.iconst (v := 1) dX11_lamp_102 rfl ?_
              refine V.goto (tgt := 107) dX11_lamp_103 (by decide) ?_
              obtain ⟨r22, h21, q20, hf2⟩ := bd2_el hf
              replace hf := hf2
              clear hf2
              refine V.callVI dX11_lamp_107 ml_X11_161 mo_X11_answer mv_X11_answer rfl (fun q hq => by cases hq; rfl) (by decide) (Or.inl ⟨rfl, SHL_lt rfl⟩) (th_X11_answer (srh2.ly ly) q20) rfl rfl ⟨Nat.le_of_ble_eq_true rfl, Nat.le_of_ble_eq_true rfl, fun _ => ⟨rfl, rfl⟩⟩ (Nat.le_of_ble_eq_true rfl) rfl (post_I (fun sq => ?_))
              have srh21 : SR h h21 := srh2.trans sq
              clear sq q20
              refine V.ireturn dX11_lamp_110 rfl rfl ⟨rfl, rfl⟩ ly.1 ?_
              exact ret_I hf srh21
          replace hf := ite_n hf c15
          by_cases c23 : a3 = 1
          · replace hf := ite_p hf c23
            refine V.tableIn (tgt := 111) dX11_lamp_63 (by rw [c23]; decide) (by rw [c23]; decide) (by rw [c23]; rfl) (by decide) ?_
            refine V.aload_n dX11_lamp_111 rfl rfl rfl ?_
            refine V.aload dX11_lamp_112 rfl (sH0 hT.H) ?_
            refine V.iload dX11_lamp_114 rfl ?_
            refine V.aload dX11_lamp_116 rfl (sH0 hT.H) ?_
            refine V.getI dX11_lamp_118 fl_X11_151 (sH0 hT.H) (Or.inl ⟨rfl, SHL_lt (sH0 hT.H)⟩) rfl rfl ?_
            obtain ⟨r26, h25, q24, hf2⟩ := bd2_el hf
            replace hf := hf2
            clear hf2
            refine V.callVI dX11_lamp_121 ml_X11_226 mo_X1_countAround mv_X1_countAround (sH0 hT.H) (fun q hq => by cases hq; rfl) (by decide) (Or.inl ⟨rfl, SHL_lt (sH0 hT.H)⟩) (th_X1_countAround (srh2.ly ly) hT.H q24) rfl rfl ⟨Nat.le_of_ble_eq_true rfl, Nat.le_of_ble_eq_true rfl, fun _ => ⟨rfl, rfl⟩⟩ (Nat.le_of_ble_eq_true rfl) rfl (post_I (fun sq => ?_))
            have srh25 : SR h h25 := srh2.trans sq
            clear sq q24
            obtain ⟨r29, h28, q27, hf2⟩ := bd2_el hf
            replace hf := hf2
            clear hf2
            refine V.callVI dX11_lamp_124 ml_X11_161 mo_X11_answer mv_X11_answer rfl (fun q hq => by cases hq; rfl) (by decide) (Or.inl ⟨rfl, SHL_lt rfl⟩) (th_X11_answer (srh25.ly ly) q27) rfl rfl ⟨Nat.le_of_ble_eq_true rfl, Nat.le_of_ble_eq_true rfl, fun _ => ⟨rfl, rfl⟩⟩ (Nat.le_of_ble_eq_true rfl) rfl (post_I (fun sq => ?_))
            have srh28 : SR h h28 := srh25.trans sq
            clear sq q27
            refine V.ireturn dX11_lamp_127 rfl rfl ⟨rfl, rfl⟩ ly.1 ?_
            exact ret_I hf srh28
          replace hf := ite_n hf c23
          by_cases c30 : a3 = 2
          · replace hf := ite_p hf c30
            refine V.tableIn (tgt := 128) dX11_lamp_63 (by rw [c30]; decide) (by rw [c30]; decide) (by rw [c30]; rfl) (by decide) ?_
            refine V.aload_n dX11_lamp_128 rfl rfl rfl ?_
            refine V.aload dX11_lamp_129 rfl (sH0 hT.H) ?_
            refine V.iload dX11_lamp_131 rfl ?_
            refine V.aload_n dX11_lamp_133 rfl rfl rfl ?_
            refine V.getR (r := t) dX11_lamp_134 fl_X11_61 rfl (Or.inl ⟨rfl, SHL_lt rfl⟩) rfl (srh2.pr pr) ?_
            refine V.getI dX11_lamp_137 fl_X11_198 (sT0 hT) (Or.inl ⟨rfl, SHL_lt (sT0 hT)⟩) rfl rfl ?_
            obtain ⟨r33, h32, q31, hf2⟩ := bd2_el hf
            replace hf := hf2
            clear hf2
            refine V.callVI dX11_lamp_140 ml_X11_226 mo_X1_countAround mv_X1_countAround (sH0 hT.H) (fun q hq => by cases hq; rfl) (by decide) (Or.inl ⟨rfl, SHL_lt (sH0 hT.H)⟩) (th_X1_countAround (srh2.ly ly) hT.H q31) rfl rfl ⟨Nat.le_of_ble_eq_true rfl, Nat.le_of_ble_eq_true rfl, fun _ => ⟨rfl, rfl⟩⟩ (Nat.le_of_ble_eq_true rfl) rfl (post_I (fun sq => ?_))
            have srh32 : SR h h32 := srh2.trans sq
            clear sq q31
            obtain ⟨r36, h35, q34, hf2⟩ := bd2_el hf
            replace hf := hf2
            clear hf2
            refine V.callVI dX11_lamp_143 ml_X11_161 mo_X11_answer mv_X11_answer rfl (fun q hq => by cases hq; rfl) (by decide) (Or.inl ⟨rfl, SHL_lt rfl⟩) (th_X11_answer (srh32.ly ly) q34) rfl rfl ⟨Nat.le_of_ble_eq_true rfl, Nat.le_of_ble_eq_true rfl, fun _ => ⟨rfl, rfl⟩⟩ (Nat.le_of_ble_eq_true rfl) rfl (post_I (fun sq => ?_))
            have srh35 : SR h h35 := srh32.trans sq
            clear sq q34
            refine V.ireturn dX11_lamp_146 rfl rfl ⟨rfl, rfl⟩ ly.1 ?_
            exact ret_I hf srh35
          replace hf := ite_n hf c30
          have nc15 := lv_neT c15 (a := 0) rfl
          have nc23 := lv_neT c23 (a := 1) rfl
          have nc30 := lv_neT c30 (a := 2) rfl
          refine V.tableOut (tgt := 147) dX11_lamp_63 (by omega) (by decide) ?_
          refine V.aload_n dX11_lamp_147 rfl rfl rfl ?_
          refine V.aload dX11_lamp_148 rfl (sH0 hT.H) ?_
          refine V.getI dX11_lamp_150 fl_X11_201 (sH0 hT.H) (Or.inl ⟨rfl, SHL_lt (sH0 hT.H)⟩) rfl rfl ?_
          refine V.iload dX11_lamp_153 rfl ?_
          refine V.iand dX11_lamp_155 ?_
          refine V.if_ne (tgt := 163) dX11_lamp_156 (by decide) (fun c37 => ?_) (fun c37 => ?_)
          · replace hf := ite_n hf c37
            refine V.iconst (v := 0) dX11_lamp_163 rfl ?_
            obtain ⟨r40, h39, q38, hf2⟩ := bd2_el hf
            replace hf := hf2
            clear hf2
            refine V.callVI dX11_lamp_164 ml_X11_161 mo_X11_answer mv_X11_answer rfl (fun q hq => by cases hq; rfl) (by decide) (Or.inl ⟨rfl, SHL_lt rfl⟩) (th_X11_answer (srh2.ly ly) q38) rfl rfl ⟨Nat.le_of_ble_eq_true rfl, Nat.le_of_ble_eq_true rfl, fun _ => ⟨rfl, rfl⟩⟩ (Nat.le_of_ble_eq_true rfl) rfl (post_I (fun sq => ?_))
            have srh39 : SR h h39 := srh2.trans sq
            clear sq q38
            refine V.ireturn dX11_lamp_167 rfl rfl ⟨rfl, rfl⟩ ly.1 ?_
            exact ret_I hf srh39
          · replace hf := ite_p hf c37
            refine V.iconst (v := 1) dX11_lamp_159 rfl ?_
            refine V.goto (tgt := 164) dX11_lamp_160 (by decide) ?_
            obtain ⟨r43, h42, q41, hf2⟩ := bd2_el hf
            replace hf := hf2
            clear hf2
            refine V.callVI dX11_lamp_164 ml_X11_161 mo_X11_answer mv_X11_answer rfl (fun q hq => by cases hq; rfl) (by decide) (Or.inl ⟨rfl, SHL_lt rfl⟩) (th_X11_answer (srh2.ly ly) q41) rfl rfl ⟨Nat.le_of_ble_eq_true rfl, Nat.le_of_ble_eq_true rfl, fun _ => ⟨rfl, rfl⟩⟩ (Nat.le_of_ble_eq_true rfl) rfl (post_I (fun sq => ?_))
            have srh42 : SR h h42 := srh2.trans sq
            clear sq q41
            refine V.ireturn dX11_lamp_167 rfl rfl ⟨rfl, rfl⟩ ly.1 ?_
            exact ret_I hf srh42
        · replace hf := ite_p hf c14
          refine V.aload_n dX11_lamp_55 rfl rfl rfl ?_
          refine V.bipush (v := 7) dX11_lamp_56 rfl ?_
          obtain ⟨r46, h45, q44, hf2⟩ := bd2_el hf
          replace hf := hf2
          clear hf2
          refine V.callVI dX11_lamp_58 ml_X11_105 mo_X11_refuse mv_X11_refuse rfl (fun q hq => by cases hq; rfl) (by decide) (Or.inl ⟨rfl, SHL_lt rfl⟩) (th_X11_refuse (srh2.ly ly) q44) rfl rfl ⟨Nat.le_of_ble_eq_true rfl, Nat.le_of_ble_eq_true rfl, fun _ => ⟨rfl, rfl⟩⟩ (Nat.le_of_ble_eq_true rfl) rfl (post_I (fun sq => ?_))
          have srh45 : SR h h45 := srh2.trans sq
          clear sq q44
          refine V.ireturn dX11_lamp_61 rfl rfl ⟨rfl, rfl⟩ ly.1 ?_
          exact ret_I hf srh45
      · replace hf := ite_n hf c12
        refine V.aload_n dX11_lamp_32 rfl rfl rfl ?_
        refine V.iconst (v := 1) dX11_lamp_33 rfl ?_
        obtain ⟨r49, h48, q47, hf2⟩ := bd2_el hf
        replace hf := hf2
        clear hf2
        refine V.callVI dX11_lamp_34 ml_X11_105 mo_X11_refuse mv_X11_refuse rfl (fun q hq => by cases hq; rfl) (by decide) (Or.inl ⟨rfl, SHL_lt rfl⟩) (th_X11_refuse (srh2.ly ly) q47) rfl rfl ⟨Nat.le_of_ble_eq_true rfl, Nat.le_of_ble_eq_true rfl, fun _ => ⟨rfl, rfl⟩⟩ (Nat.le_of_ble_eq_true rfl) rfl (post_I (fun sq => ?_))
        have srh48 : SR h h48 := srh2.trans sq
        clear sq q47
        refine V.ireturn dX11_lamp_37 rfl rfl ⟨rfl, rfl⟩ ly.1 ?_
        exact ret_I hf srh48
set_option maxRecDepth 100000 in
theorem th_X11_rule {h : HP} (ly : Lay h) {t : Nat} (hT : isT t) (pr : hR h 0 8 = t) {a1 : Int32} {a2 : Int32} {rr : Int32} {hh : HP} (hf : f_X11_rule h t a1 a2 = some (rr, hh)) : Spec yX11_rule cX11_rule miX11_rule [.ref 0, .int a1, .int a2] h (pI fun r' h' => (r' = rr ∧ h' = hh) ∧ SR h hh) := by
  refine Spec.of (ls0 := [.ref 0, .int a1, .int a2]) mo_X11_rule (Nat.le_of_ble_eq_true rfl) rfl ?_
  rw [ly.1]
  have srh : SR h h := SR.refl h
  unfold f_X11_rule at hf
  refine V.aload_n dX11_rule_0 rfl rfl rfl ?_
  refine V.getR (r := t) dX11_rule_1 fl_X11_61 rfl (Or.inl ⟨rfl, SHL_lt rfl⟩) rfl (srh.pr pr) ?_
  refine V.iload_n dX11_rule_4 rfl rfl ?_
  obtain ⟨r3, h2, q1, hf2⟩ := bd2_el hf
  replace hf := hf2
  clear hf2
  refine V.callVI dX11_rule_5 ml_X11_229 mo_X5_hasRule mv_X5_hasRule (sT0 hT) (fun q hq => by cases hq; rfl) (by decide) (Or.inl ⟨rfl, SHL_lt (sT0 hT)⟩) (th_X5_hasRule (srh.ly ly) hT q1) rfl rfl ⟨Nat.le_of_ble_eq_true rfl, Nat.le_of_ble_eq_true rfl, fun _ => ⟨rfl, rfl⟩⟩ (Nat.le_of_ble_eq_true rfl) rfl (post_I (fun sq => ?_))
  have srh2 : SR h h2 := srh.trans sq
  clear sq q1
  refine V.if_eq (tgt := 20) dX11_rule_8 (by decide) (fun c4 => ?_) (fun c4 => ?_)
  · replace hf := ite_p hf c4
    refine V.aload_n dX11_rule_20 rfl rfl rfl ?_
    refine V.iconst (v := 1) dX11_rule_21 rfl ?_
    obtain ⟨r7, h6, q5, hf2⟩ := bd2_el hf
    replace hf := hf2
    clear hf2
    refine V.callVI dX11_rule_22 ml_X11_105 mo_X11_refuse mv_X11_refuse rfl (fun q hq => by cases hq; rfl) (by decide) (Or.inl ⟨rfl, SHL_lt rfl⟩) (th_X11_refuse (srh2.ly ly) q5) rfl rfl ⟨Nat.le_of_ble_eq_true rfl, Nat.le_of_ble_eq_true rfl, fun _ => ⟨rfl, rfl⟩⟩ (Nat.le_of_ble_eq_true rfl) rfl (post_I (fun sq => ?_))
    have srh6 : SR h h6 := srh2.trans sq
    clear sq q5
    refine V.ireturn dX11_rule_25 rfl rfl ⟨rfl, rfl⟩ ly.1 ?_
    exact ret_I hf srh6
  · replace hf := ite_n hf c4
    refine V.iload_n dX11_rule_11 rfl rfl ?_
    refine V.if_lt (tgt := 20) dX11_rule_12 (by decide) (fun c8 => ?_) (fun c8 => ?_)
    · replace hf := ite_p hf c8
      refine V.aload_n dX11_rule_20 rfl rfl rfl ?_
      refine V.iconst (v := 1) dX11_rule_21 rfl ?_
      obtain ⟨r11, h10, q9, hf2⟩ := bd2_el hf
      replace hf := hf2
      clear hf2
      refine V.callVI dX11_rule_22 ml_X11_105 mo_X11_refuse mv_X11_refuse rfl (fun q hq => by cases hq; rfl) (by decide) (Or.inl ⟨rfl, SHL_lt rfl⟩) (th_X11_refuse (srh2.ly ly) q9) rfl rfl ⟨Nat.le_of_ble_eq_true rfl, Nat.le_of_ble_eq_true rfl, fun _ => ⟨rfl, rfl⟩⟩ (Nat.le_of_ble_eq_true rfl) rfl (post_I (fun sq => ?_))
      have srh10 : SR h h10 := srh2.trans sq
      clear sq q9
      refine V.ireturn dX11_rule_25 rfl rfl ⟨rfl, rfl⟩ ly.1 ?_
      exact ret_I hf srh10
    · replace hf := ite_n hf c8
      refine V.iload_n dX11_rule_15 rfl rfl ?_
      refine V.iconst (v := 1) dX11_rule_16 rfl ?_
      refine V.icmp_le (tgt := 26) dX11_rule_17 (by decide) (fun c12 => ?_) (fun c12 => ?_)
      · replace hf := ite_p hf c12
        refine V.aload_n dX11_rule_26 rfl rfl rfl ?_
        refine V.iload_n dX11_rule_27 rfl rfl ?_
        refine V.if_ne (tgt := 43) dX11_rule_28 (by decide) (fun c13 => ?_) (fun c13 => ?_)
        · replace hf := ite_n hf c13
          refine V.aload_n dX11_rule_43 rfl rfl rfl ?_
          refine V.getR (r := t) dX11_rule_44 fl_X11_61 rfl (Or.inl ⟨rfl, SHL_lt rfl⟩) rfl (srh2.pr pr) ?_
          refine V.getR (r := t + 11) dX11_rule_47 fl_X11_236 (sT0 hT) (Or.inl ⟨rfl, SHL_lt (sT0 hT)⟩) rfl (rT_staysBy (srh2.ly ly) hT) ?_
          refine V.iload_n dX11_rule_50 rfl rfl ?_
          obtain ⟨b14, hf2⟩ := gdi_el hf
          replace hf := hf2
          clear hf2
          refine V.iaload dX11_rule_51 (sT11 hT) (Or.inl ⟨rfl, SHL_lt (sT11 hT)⟩) b14 ?_
          obtain ⟨r17, h16, q15, hf2⟩ := bd2_el hf
          replace hf := hf2
          clear hf2
          refine V.callVI dX11_rule_52 ml_X11_161 mo_X11_answer mv_X11_answer rfl (fun q hq => by cases hq; rfl) (by decide) (Or.inl ⟨rfl, SHL_lt rfl⟩) (th_X11_answer (srh2.ly ly) q15) rfl rfl ⟨Nat.le_of_ble_eq_true rfl, Nat.le_of_ble_eq_true rfl, fun _ => ⟨rfl, rfl⟩⟩ (Nat.le_of_ble_eq_true rfl) rfl (post_I (fun sq => ?_))
          have srh16 : SR h h16 := srh2.trans sq
          clear sq q15
          refine V.ireturn dX11_rule_55 rfl rfl ⟨rfl, rfl⟩ ly.1 ?_
          exact ret_I hf srh16
        · replace hf := ite_p hf c13
          refine V.aload_n dX11_rule_31 rfl rfl rfl ?_
          refine V.getR (r := t) dX11_rule_32 fl_X11_61 rfl (Or.inl ⟨rfl, SHL_lt rfl⟩) rfl (srh2.pr pr) ?_
          refine V.getR (r := t + 10) dX11_rule_35 fl_X11_232 (sT0 hT) (Or.inl ⟨rfl, SHL_lt (sT0 hT)⟩) rfl (rT_bornBy (srh2.ly ly) hT) ?_
          refine V.iload_n dX11_rule_38 rfl rfl ?_
          obtain ⟨b18, hf2⟩ := gdi_el hf
          replace hf := hf2
          clear hf2
          refine V.iaload dX11_rule_39 (sT10 hT) (Or.inl ⟨rfl, SHL_lt (sT10 hT)⟩) b18 ?_
          refine V.goto (tgt := 52) dX11_rule_40 (by decide) ?_
          obtain ⟨r21, h20, q19, hf2⟩ := bd2_el hf
          replace hf := hf2
          clear hf2
          refine V.callVI dX11_rule_52 ml_X11_161 mo_X11_answer mv_X11_answer rfl (fun q hq => by cases hq; rfl) (by decide) (Or.inl ⟨rfl, SHL_lt rfl⟩) (th_X11_answer (srh2.ly ly) q19) rfl rfl ⟨Nat.le_of_ble_eq_true rfl, Nat.le_of_ble_eq_true rfl, fun _ => ⟨rfl, rfl⟩⟩ (Nat.le_of_ble_eq_true rfl) rfl (post_I (fun sq => ?_))
          have srh20 : SR h h20 := srh2.trans sq
          clear sq q19
          refine V.ireturn dX11_rule_55 rfl rfl ⟨rfl, rfl⟩ ly.1 ?_
          exact ret_I hf srh20
      · replace hf := ite_n hf c12
        refine V.aload_n dX11_rule_20 rfl rfl rfl ?_
        refine V.iconst (v := 1) dX11_rule_21 rfl ?_
        obtain ⟨r24, h23, q22, hf2⟩ := bd2_el hf
        replace hf := hf2
        clear hf2
        refine V.callVI dX11_rule_22 ml_X11_105 mo_X11_refuse mv_X11_refuse rfl (fun q hq => by cases hq; rfl) (by decide) (Or.inl ⟨rfl, SHL_lt rfl⟩) (th_X11_refuse (srh2.ly ly) q22) rfl rfl ⟨Nat.le_of_ble_eq_true rfl, Nat.le_of_ble_eq_true rfl, fun _ => ⟨rfl, rfl⟩⟩ (Nat.le_of_ble_eq_true rfl) rfl (post_I (fun sq => ?_))
        have srh23 : SR h h23 := srh2.trans sq
        clear sq q22
        refine V.ireturn dX11_rule_25 rfl rfl ⟨rfl, rfl⟩ ly.1 ?_
        exact ret_I hf srh23
set_option maxRecDepth 100000 in
theorem th_X11_citizen {h : HP} (ly : Lay h) {t : Nat} (hT : isT t) (pr : hR h 0 8 = t) {a1 : Int32} {a2 : Int32} {rr : Int32} {hh : HP} (hf : f_X11_citizen h t a1 a2 = some (rr, hh)) : Spec yX11_citizen cX11_citizen miX11_citizen [.ref 0, .int a1, .int a2] h (pI fun r' h' => (r' = rr ∧ h' = hh) ∧ SR h hh) := by
  refine Spec.of (ls0 := [.ref 0, .int a1, .int a2]) mo_X11_citizen (Nat.le_of_ble_eq_true rfl) rfl ?_
  rw [ly.1]
  have srh : SR h h := SR.refl h
  unfold f_X11_citizen at hf
  refine V.aload_n dX11_citizen_0 rfl rfl rfl ?_
  refine V.getR (r := t) dX11_citizen_1 fl_X11_61 rfl (Or.inl ⟨rfl, SHL_lt rfl⟩) rfl (srh.pr pr) ?_
  refine V.iload_n dX11_citizen_4 rfl rfl ?_
  obtain ⟨r3, h2, q1, hf2⟩ := bd2_el hf
  replace hf := hf2
  clear hf2
  refine V.callVI dX11_citizen_5 ml_X11_239 mo_X5_hasCitizen mv_X5_hasCitizen (sT0 hT) (fun q hq => by cases hq; rfl) (by decide) (Or.inl ⟨rfl, SHL_lt (sT0 hT)⟩) (th_X5_hasCitizen (srh.ly ly) hT q1) rfl rfl ⟨Nat.le_of_ble_eq_true rfl, Nat.le_of_ble_eq_true rfl, fun _ => ⟨rfl, rfl⟩⟩ (Nat.le_of_ble_eq_true rfl) rfl (post_I (fun sq => ?_))
  have srh2 : SR h h2 := srh.trans sq
  clear sq q1
  refine V.if_eq (tgt := 20) dX11_citizen_8 (by decide) (fun c4 => ?_) (fun c4 => ?_)
  · replace hf := ite_p hf c4
    refine V.aload_n dX11_citizen_20 rfl rfl rfl ?_
    refine V.iconst (v := 1) dX11_citizen_21 rfl ?_
    obtain ⟨r7, h6, q5, hf2⟩ := bd2_el hf
    replace hf := hf2
    clear hf2
    refine V.callVI dX11_citizen_22 ml_X11_105 mo_X11_refuse mv_X11_refuse rfl (fun q hq => by cases hq; rfl) (by decide) (Or.inl ⟨rfl, SHL_lt rfl⟩) (th_X11_refuse (srh2.ly ly) q5) rfl rfl ⟨Nat.le_of_ble_eq_true rfl, Nat.le_of_ble_eq_true rfl, fun _ => ⟨rfl, rfl⟩⟩ (Nat.le_of_ble_eq_true rfl) rfl (post_I (fun sq => ?_))
    have srh6 : SR h h6 := srh2.trans sq
    clear sq q5
    refine V.ireturn dX11_citizen_25 rfl rfl ⟨rfl, rfl⟩ ly.1 ?_
    exact ret_I hf srh6
  · replace hf := ite_n hf c4
    refine V.iload_n dX11_citizen_11 rfl rfl ?_
    refine V.if_lt (tgt := 20) dX11_citizen_12 (by decide) (fun c8 => ?_) (fun c8 => ?_)
    · replace hf := ite_p hf c8
      refine V.aload_n dX11_citizen_20 rfl rfl rfl ?_
      refine V.iconst (v := 1) dX11_citizen_21 rfl ?_
      obtain ⟨r11, h10, q9, hf2⟩ := bd2_el hf
      replace hf := hf2
      clear hf2
      refine V.callVI dX11_citizen_22 ml_X11_105 mo_X11_refuse mv_X11_refuse rfl (fun q hq => by cases hq; rfl) (by decide) (Or.inl ⟨rfl, SHL_lt rfl⟩) (th_X11_refuse (srh2.ly ly) q9) rfl rfl ⟨Nat.le_of_ble_eq_true rfl, Nat.le_of_ble_eq_true rfl, fun _ => ⟨rfl, rfl⟩⟩ (Nat.le_of_ble_eq_true rfl) rfl (post_I (fun sq => ?_))
      have srh10 : SR h h10 := srh2.trans sq
      clear sq q9
      refine V.ireturn dX11_citizen_25 rfl rfl ⟨rfl, rfl⟩ ly.1 ?_
      exact ret_I hf srh10
    · replace hf := ite_n hf c8
      refine V.iload_n dX11_citizen_15 rfl rfl ?_
      refine V.iconst (v := 1) dX11_citizen_16 rfl ?_
      refine V.icmp_le (tgt := 26) dX11_citizen_17 (by decide) (fun c12 => ?_) (fun c12 => ?_)
      · replace hf := ite_p hf c12
        refine V.aload_n dX11_citizen_26 rfl rfl rfl ?_
        refine V.iload_n dX11_citizen_27 rfl rfl ?_
        refine V.if_ne (tgt := 43) dX11_citizen_28 (by decide) (fun c13 => ?_) (fun c13 => ?_)
        · replace hf := ite_n hf c13
          refine V.aload_n dX11_citizen_43 rfl rfl rfl ?_
          refine V.getR (r := t) dX11_citizen_44 fl_X11_61 rfl (Or.inl ⟨rfl, SHL_lt rfl⟩) rfl (srh2.pr pr) ?_
          refine V.getR (r := t + 14) dX11_citizen_47 fl_X11_245 (sT0 hT) (Or.inl ⟨rfl, SHL_lt (sT0 hT)⟩) rfl (rT_most (srh2.ly ly) hT) ?_
          refine V.iload_n dX11_citizen_50 rfl rfl ?_
          obtain ⟨b14, hf2⟩ := gdi_el hf
          replace hf := hf2
          clear hf2
          refine V.iaload dX11_citizen_51 (sT14 hT) (Or.inl ⟨rfl, SHL_lt (sT14 hT)⟩) b14 ?_
          obtain ⟨r17, h16, q15, hf2⟩ := bd2_el hf
          replace hf := hf2
          clear hf2
          refine V.callVI dX11_citizen_52 ml_X11_161 mo_X11_answer mv_X11_answer rfl (fun q hq => by cases hq; rfl) (by decide) (Or.inl ⟨rfl, SHL_lt rfl⟩) (th_X11_answer (srh2.ly ly) q15) rfl rfl ⟨Nat.le_of_ble_eq_true rfl, Nat.le_of_ble_eq_true rfl, fun _ => ⟨rfl, rfl⟩⟩ (Nat.le_of_ble_eq_true rfl) rfl (post_I (fun sq => ?_))
          have srh16 : SR h h16 := srh2.trans sq
          clear sq q15
          refine V.ireturn dX11_citizen_55 rfl rfl ⟨rfl, rfl⟩ ly.1 ?_
          exact ret_I hf srh16
        · replace hf := ite_p hf c13
          refine V.aload_n dX11_citizen_31 rfl rfl rfl ?_
          refine V.getR (r := t) dX11_citizen_32 fl_X11_61 rfl (Or.inl ⟨rfl, SHL_lt rfl⟩) rfl (srh2.pr pr) ?_
          refine V.getR (r := t + 13) dX11_citizen_35 fl_X11_242 (sT0 hT) (Or.inl ⟨rfl, SHL_lt (sT0 hT)⟩) rfl (rT_least (srh2.ly ly) hT) ?_
          refine V.iload_n dX11_citizen_38 rfl rfl ?_
          obtain ⟨b18, hf2⟩ := gdi_el hf
          replace hf := hf2
          clear hf2
          refine V.iaload dX11_citizen_39 (sT13 hT) (Or.inl ⟨rfl, SHL_lt (sT13 hT)⟩) b18 ?_
          refine V.goto (tgt := 52) dX11_citizen_40 (by decide) ?_
          obtain ⟨r21, h20, q19, hf2⟩ := bd2_el hf
          replace hf := hf2
          clear hf2
          refine V.callVI dX11_citizen_52 ml_X11_161 mo_X11_answer mv_X11_answer rfl (fun q hq => by cases hq; rfl) (by decide) (Or.inl ⟨rfl, SHL_lt rfl⟩) (th_X11_answer (srh2.ly ly) q19) rfl rfl ⟨Nat.le_of_ble_eq_true rfl, Nat.le_of_ble_eq_true rfl, fun _ => ⟨rfl, rfl⟩⟩ (Nat.le_of_ble_eq_true rfl) rfl (post_I (fun sq => ?_))
          have srh20 : SR h h20 := srh2.trans sq
          clear sq q19
          refine V.ireturn dX11_citizen_55 rfl rfl ⟨rfl, rfl⟩ ly.1 ?_
          exact ret_I hf srh20
      · replace hf := ite_n hf c12
        refine V.aload_n dX11_citizen_20 rfl rfl rfl ?_
        refine V.iconst (v := 1) dX11_citizen_21 rfl ?_
        obtain ⟨r24, h23, q22, hf2⟩ := bd2_el hf
        replace hf := hf2
        clear hf2
        refine V.callVI dX11_citizen_22 ml_X11_105 mo_X11_refuse mv_X11_refuse rfl (fun q hq => by cases hq; rfl) (by decide) (Or.inl ⟨rfl, SHL_lt rfl⟩) (th_X11_refuse (srh2.ly ly) q22) rfl rfl ⟨Nat.le_of_ble_eq_true rfl, Nat.le_of_ble_eq_true rfl, fun _ => ⟨rfl, rfl⟩⟩ (Nat.le_of_ble_eq_true rfl) rfl (post_I (fun sq => ?_))
        have srh23 : SR h h23 := srh2.trans sq
        clear sq q22
        refine V.ireturn dX11_citizen_25 rfl rfl ⟨rfl, rfl⟩ ly.1 ?_
        exact ret_I hf srh23
set_option maxRecDepth 100000 in
theorem th_X11_turn {h : HP} (ly : Lay h) {t : Nat} (hT : isT t) (pr : hR h 0 8 = t) {a1 : Int32} {a2 : Int32} {rr : Int32} {hh : HP} (hf : f_X11_turn h t a1 a2 = some (rr, hh)) : Spec yX11_turn cX11_turn miX11_turn [.ref 0, .int a1, .int a2] h (pI fun r' h' => (r' = rr ∧ h' = hh) ∧ SR h hh) := by
  refine Spec.of (ls0 := [.ref 0, .int a1, .int a2, .null, .null]) mo_X11_turn (Nat.le_of_ble_eq_true rfl) rfl ?_
  rw [ly.1]
  have srh : SR h h := SR.refl h
  unfold f_X11_turn at hf
  refine V.aload_n dX11_turn_0 rfl rfl rfl ?_
  refine V.iload_n dX11_turn_1 rfl rfl ?_
  refine V.iload_n dX11_turn_2 rfl rfl ?_
  obtain ⟨r3, h2, q1, hf2⟩ := bd2_el hf
  replace hf := hf2
  clear hf2
  refine V.callVI dX11_turn_3 ml_X11_248 mo_X11_whyNotFree mv_X11_whyNotFree rfl (fun q hq => by cases hq; rfl) (by decide) (Or.inl ⟨rfl, SHL_lt rfl⟩) (th_X11_whyNotFree (srh.ly ly) hT (srh.pr pr) q1) rfl rfl ⟨Nat.le_of_ble_eq_true rfl, Nat.le_of_ble_eq_true rfl, fun _ => ⟨rfl, rfl⟩⟩ (Nat.le_of_ble_eq_true rfl) rfl (post_I (fun sq => ?_))
  have srh2 : SR h h2 := srh.trans sq
  clear sq q1
  refine V.istore_n (ls' := [.ref 0, .int a1, .int a2, .int r3, .null]) dX11_turn_6 rfl (by decide) rfl ?_
  refine V.iload_n dX11_turn_7 rfl rfl ?_
  refine V.if_eq (tgt := 17) dX11_turn_8 (by decide) (fun c4 => ?_) (fun c4 => ?_)
  · replace hf := ite_p hf c4
    refine V.iconst (v := 1) dX11_turn_17 rfl ?_
    refine V.aload_n dX11_turn_18 rfl rfl rfl ?_
    refine V.getR (r := t) dX11_turn_19 fl_X11_61 rfl (Or.inl ⟨rfl, SHL_lt rfl⟩) rfl (srh2.pr pr) ?_
    refine V.getR (r := t + 1) dX11_turn_22 fl_X11_147 (sT0 hT) (Or.inl ⟨rfl, SHL_lt (sT0 hT)⟩) rfl (rT_hill (srh2.ly ly) hT) ?_
    refine V.iload_n dX11_turn_25 rfl rfl ?_
    refine V.iload_n dX11_turn_26 rfl rfl ?_
    obtain ⟨r7, h6, q5, hf2⟩ := bd2_el hf
    replace hf := hf2
    clear hf2
    refine V.callVI dX11_turn_27 ml_X11_223 mo_X1_placeOf mv_X1_placeOf (sH0 hT.H) (fun q hq => by cases hq; rfl) (by decide) (Or.inl ⟨rfl, SHL_lt (sH0 hT.H)⟩) (th_X1_placeOf (srh2.ly ly) hT.H q5) rfl rfl ⟨Nat.le_of_ble_eq_true rfl, Nat.le_of_ble_eq_true rfl, fun _ => ⟨rfl, rfl⟩⟩ (Nat.le_of_ble_eq_true rfl) rfl (post_I (fun sq => ?_))
    have srh6 : SR h h6 := srh2.trans sq
    clear sq q5
    refine V.ishl dX11_turn_30 ?_
    refine V.nmi (fun x8 ex8 => ?_)
    replace hf := lt_el hf x8 ex8
    refine V.istore (ls' := [.ref 0, .int a1, .int a2, .int r3, .int x8]) dX11_turn_31 (by decide) rfl ?_
    refine V.aload_n dX11_turn_33 rfl rfl rfl ?_
    refine V.getR (r := t) dX11_turn_34 fl_X11_61 rfl (Or.inl ⟨rfl, SHL_lt rfl⟩) rfl (srh6.pr pr) ?_
    refine V.dup dX11_turn_37 rfl ?_
    refine V.getI dX11_turn_38 fl_X11_198 (sT0 hT) (Or.inl ⟨rfl, SHL_lt (sT0 hT)⟩) rfl rfl ?_
    refine V.iload dX11_turn_41 rfl ?_
    refine V.ixor dX11_turn_43 ?_
    refine V.putI dX11_turn_44 fl_X11_198 (sT0 hT) (Or.inl ⟨rfl, SHL_lt (sT0 hT)⟩) rfl (fun q hq => by cases hq; rfl) ⟨rfl, rfl⟩ ?_
    refine V.nameH (fun g9 eg9 => ?_)
    replace hf := lt_el hf g9 eg9
    have srg9 : SR h g9 := by rw [eg9]; exact srh6.I _ _ _
    refine V.aload_n dX11_turn_47 rfl rfl rfl ?_
    refine V.aload_n dX11_turn_48 rfl rfl rfl ?_
    refine V.getR (r := t) dX11_turn_49 fl_X11_61 rfl (Or.inl ⟨rfl, SHL_lt rfl⟩) rfl (srg9.pr pr) ?_
    refine V.getI dX11_turn_52 fl_X11_198 (sT0 hT) (Or.inl ⟨rfl, SHL_lt (sT0 hT)⟩) rfl rfl ?_
    refine V.iload dX11_turn_55 rfl ?_
    refine V.iand dX11_turn_57 ?_
    refine V.if_eq (tgt := 65) dX11_turn_58 (by decide) (fun c10 => ?_) (fun c10 => ?_)
    · replace hf := ite_p hf c10
      refine V.iconst (v := 0) dX11_turn_65 rfl ?_
      obtain ⟨r13, h12, q11, hf2⟩ := bd2_el hf
      replace hf := hf2
      clear hf2
      refine V.callVI dX11_turn_66 ml_X11_161 mo_X11_answer mv_X11_answer rfl (fun q hq => by cases hq; rfl) (by decide) (Or.inl ⟨rfl, SHL_lt rfl⟩) (th_X11_answer (srg9.ly ly) q11) rfl rfl ⟨Nat.le_of_ble_eq_true rfl, Nat.le_of_ble_eq_true rfl, fun _ => ⟨rfl, rfl⟩⟩ (Nat.le_of_ble_eq_true rfl) rfl (post_I (fun sq => ?_))
      have srh12 : SR h h12 := srg9.trans sq
      clear sq q11
      refine V.ireturn dX11_turn_69 rfl rfl ⟨rfl, rfl⟩ ly.1 ?_
      exact ret_I hf srh12
    · replace hf := ite_n hf c10
      refine V.iconst (v := 1) dX11_turn_61 rfl ?_
      refine V.goto (tgt := 66) dX11_turn_62 (by decide) ?_
      obtain ⟨r16, h15, q14, hf2⟩ := bd2_el hf
      replace hf := hf2
      clear hf2
      refine V.callVI dX11_turn_66 ml_X11_161 mo_X11_answer mv_X11_answer rfl (fun q hq => by cases hq; rfl) (by decide) (Or.inl ⟨rfl, SHL_lt rfl⟩) (th_X11_answer (srg9.ly ly) q14) rfl rfl ⟨Nat.le_of_ble_eq_true rfl, Nat.le_of_ble_eq_true rfl, fun _ => ⟨rfl, rfl⟩⟩ (Nat.le_of_ble_eq_true rfl) rfl (post_I (fun sq => ?_))
      have srh15 : SR h h15 := srg9.trans sq
      clear sq q14
      refine V.ireturn dX11_turn_69 rfl rfl ⟨rfl, rfl⟩ ly.1 ?_
      exact ret_I hf srh15
  · replace hf := ite_n hf c4
    refine V.aload_n dX11_turn_11 rfl rfl rfl ?_
    refine V.iload_n dX11_turn_12 rfl rfl ?_
    obtain ⟨r19, h18, q17, hf2⟩ := bd2_el hf
    replace hf := hf2
    clear hf2
    refine V.callVI dX11_turn_13 ml_X11_105 mo_X11_refuse mv_X11_refuse rfl (fun q hq => by cases hq; rfl) (by decide) (Or.inl ⟨rfl, SHL_lt rfl⟩) (th_X11_refuse (srh2.ly ly) q17) rfl rfl ⟨Nat.le_of_ble_eq_true rfl, Nat.le_of_ble_eq_true rfl, fun _ => ⟨rfl, rfl⟩⟩ (Nat.le_of_ble_eq_true rfl) rfl (post_I (fun sq => ?_))
    have srh18 : SR h h18 := srh2.trans sq
    clear sq q17
    refine V.ireturn dX11_turn_16 rfl rfl ⟨rfl, rfl⟩ ly.1 ?_
    exact ret_I hf srh18
set_option maxRecDepth 100000 in
theorem th_X11_paint {h : HP} (ly : Lay h) {t : Nat} (hT : isT t) (pr : hR h 0 8 = t) {a1 : Int64} {rr : Int32} {hh : HP} (hf : f_X11_paint h t a1 = some (rr, hh)) : Spec yX11_paint cX11_paint miX11_paint [.ref 0, .long a1] h (pI fun r' h' => (r' = rr ∧ h' = hh) ∧ SR h hh) := by
  refine Spec.of (ls0 := [.ref 0, .long a1, .null]) mo_X11_paint (Nat.le_of_ble_eq_true rfl) rfl ?_
  rw [ly.1]
  have srh : SR h h := SR.refl h
  unfold f_X11_paint at hf
  refine V.lload_n dX11_paint_0 rfl rfl ?_
  obtain ⟨r3, h2, q1, hf2⟩ := bd2_el hf
  replace hf := hf2
  clear hf2
  refine V.callSI dX11_paint_1 ml_X11_251 mo_X11_isPicture ms_X11_isPicture (th_X11_isPicture (srh.ly ly) q1) rfl rfl ⟨Nat.le_of_ble_eq_true rfl, Nat.le_of_ble_eq_true rfl, fun _ => ⟨rfl, rfl⟩⟩ (Nat.le_of_ble_eq_true rfl) rfl (post_I (fun sq => ?_))
  have srh2 : SR h h2 := srh.trans sq
  clear sq q1
  refine V.if_ne (tgt := 13) dX11_paint_4 (by decide) (fun c4 => ?_) (fun c4 => ?_)
  · replace hf := ite_n hf c4
    refine V.aload_n dX11_paint_13 rfl rfl rfl ?_
    refine V.aload_n dX11_paint_14 rfl rfl rfl ?_
    refine V.getR (r := t) dX11_paint_15 fl_X11_61 rfl (Or.inl ⟨rfl, SHL_lt rfl⟩) rfl (srh2.pr pr) ?_
    refine V.lload_n dX11_paint_18 rfl rfl ?_
    refine V.l2i dX11_paint_19 ?_
    obtain ⟨r7, h6, q5, hf2⟩ := bd2_el hf
    replace hf := hf2
    clear hf2
    refine V.callVI dX11_paint_20 ml_X11_255 mo_X5_repaint mv_X5_repaint (sT0 hT) (fun q hq => by cases hq; rfl) (by decide) (Or.inl ⟨rfl, SHL_lt (sT0 hT)⟩) (th_X5_repaint (srh2.ly ly) hT q5) rfl rfl ⟨Nat.le_of_ble_eq_true rfl, Nat.le_of_ble_eq_true rfl, fun _ => ⟨rfl, rfl⟩⟩ (Nat.le_of_ble_eq_true rfl) rfl (post_I (fun sq => ?_))
    have srh6 : SR h h6 := srh2.trans sq
    clear sq q5
    obtain ⟨r10, h9, q8, hf2⟩ := bd2_el hf
    replace hf := hf2
    clear hf2
    refine V.callVI dX11_paint_23 ml_X11_161 mo_X11_answer mv_X11_answer rfl (fun q hq => by cases hq; rfl) (by decide) (Or.inl ⟨rfl, SHL_lt rfl⟩) (th_X11_answer (srh6.ly ly) q8) rfl rfl ⟨Nat.le_of_ble_eq_true rfl, Nat.le_of_ble_eq_true rfl, fun _ => ⟨rfl, rfl⟩⟩ (Nat.le_of_ble_eq_true rfl) rfl (post_I (fun sq => ?_))
    have srh9 : SR h h9 := srh6.trans sq
    clear sq q8
    refine V.ireturn dX11_paint_26 rfl rfl ⟨rfl, rfl⟩ ly.1 ?_
    exact ret_I hf srh9
  · replace hf := ite_p hf c4
    refine V.aload_n dX11_paint_7 rfl rfl rfl ?_
    refine V.iconst (v := 1) dX11_paint_8 rfl ?_
    obtain ⟨r13, h12, q11, hf2⟩ := bd2_el hf
    replace hf := hf2
    clear hf2
    refine V.callVI dX11_paint_9 ml_X11_105 mo_X11_refuse mv_X11_refuse rfl (fun q hq => by cases hq; rfl) (by decide) (Or.inl ⟨rfl, SHL_lt rfl⟩) (th_X11_refuse (srh2.ly ly) q11) rfl rfl ⟨Nat.le_of_ble_eq_true rfl, Nat.le_of_ble_eq_true rfl, fun _ => ⟨rfl, rfl⟩⟩ (Nat.le_of_ble_eq_true rfl) rfl (post_I (fun sq => ?_))
    have srh12 : SR h h12 := srh2.trans sq
    clear sq q11
    refine V.ireturn dX11_paint_12 rfl rfl ⟨rfl, rfl⟩ ly.1 ?_
    exact ret_I hf srh12
set_option maxRecDepth 100000 in
theorem th_X11_paintRows_36 {h0 : HP} (ly : Lay h0) {t : Nat} (hT : isT t) (pr : hR h0 0 8 = t) {rr : Int32} {hh : HP}  : ∀ (n : Nat) (l1 : Int32) (l2 : Int32) (l4 : Int32) (l5 : Int32) (h : HP), SR h0 h → f_X11_paintRows_36 t n l1 l2 l4 l5 h = some (rr, hh) → V cX11_paintRows miX11_paintRows (ZI h0 miX11_paintRows rr hh) 130 36 [.ref 0, .int l1, .int l2, .null, .int l4, .int l5, .null, .null] [] h := by
  intro n
  induction n with
  | zero => intro l1 l2 l4 l5 h srh hf; exact absurd hf (by unfold f_X11_paintRows_36; simp)
  | succ n ih =>
    intro l1 l2 l4 l5 h srh hf
    unfold f_X11_paintRows_36 at hf
    refine V.iload dX11_paintRows_36 rfl ?_
    refine V.iload_n dX11_paintRows_38 rfl rfl ?_
    refine V.icmp_ge (tgt := 115) dX11_paintRows_39 (by decide) (fun c9 => ?_) (fun c9 => ?_)
    · replace hf := ite_p hf c9
      refine V.aload_n dX11_paintRows_115 rfl rfl rfl ?_
      refine V.aload_n dX11_paintRows_116 rfl rfl rfl ?_
      refine V.getR (r := t) dX11_paintRows_117 fl_X11_61 rfl (Or.inl ⟨rfl, SHL_lt rfl⟩) rfl (srh.pr pr) ?_
      refine V.iload dX11_paintRows_120 rfl ?_
      obtain ⟨r12, h11, q10, hf2⟩ := bd2_el hf
      replace hf := hf2
      clear hf2
      refine V.callVI dX11_paintRows_122 ml_X11_255 mo_X5_repaint mv_X5_repaint (sT0 hT) (fun q hq => by cases hq; rfl) (by decide) (Or.inl ⟨rfl, SHL_lt (sT0 hT)⟩) (th_X5_repaint (srh.ly ly) hT q10) rfl rfl ⟨Nat.le_of_ble_eq_true rfl, Nat.le_of_ble_eq_true rfl, fun _ => ⟨rfl, rfl⟩⟩ (Nat.le_of_ble_eq_true rfl) rfl (post_I (fun sq => ?_))
      have srh11 : SR h0 h11 := srh.trans sq
      clear sq q10
      obtain ⟨r15, h14, q13, hf2⟩ := bd2_el hf
      replace hf := hf2
      clear hf2
      refine V.callVI dX11_paintRows_125 ml_X11_161 mo_X11_answer mv_X11_answer rfl (fun q hq => by cases hq; rfl) (by decide) (Or.inl ⟨rfl, SHL_lt rfl⟩) (th_X11_answer (srh11.ly ly) q13) rfl rfl ⟨Nat.le_of_ble_eq_true rfl, Nat.le_of_ble_eq_true rfl, fun _ => ⟨rfl, rfl⟩⟩ (Nat.le_of_ble_eq_true rfl) rfl (post_I (fun sq => ?_))
      have srh14 : SR h0 h14 := srh11.trans sq
      clear sq q13
      refine V.ireturn dX11_paintRows_128 rfl rfl ⟨rfl, rfl⟩ ly.1 ?_
      exact ret_I hf srh14
    · replace hf := ite_n hf c9
      refine V.aload_n dX11_paintRows_42 rfl rfl rfl ?_
      refine V.getR (r := 1) dX11_paintRows_43 fl_X11_10 rfl (Or.inl ⟨rfl, SHL_lt rfl⟩) rfl (ly_0_0 (srh.ly ly)) ?_
      refine V.iload_n dX11_paintRows_46 rfl rfl ?_
      refine V.iload dX11_paintRows_47 rfl ?_
      obtain ⟨r18, h17, q16, hf2⟩ := bd2_el hf
      replace hf := hf2
      clear hf2
      refine V.callVL dX11_paintRows_49 ml_X11_109 mo_X7_numberAt mv_X7_numberAt rfl (fun q hq => by cases hq; rfl) (by decide) (Or.inl ⟨rfl, SHL_lt rfl⟩) (th_X7_numberAt (srh.ly ly) q16) rfl rfl ⟨Nat.le_of_ble_eq_true rfl, Nat.le_of_ble_eq_true rfl, fun _ => ⟨rfl, rfl⟩⟩ (Nat.le_of_ble_eq_true rfl) rfl (post_L (fun sq => ?_))
      have srh17 : SR h0 h17 := srh.trans sq
      clear sq q16
      refine V.lstore (ls' := [.ref 0, .int l1, .int l2, .null, .int l4, .int l5, .long r18, .null]) dX11_paintRows_52 (by decide) rfl ?_
      refine V.lload dX11_paintRows_54 rfl ?_
      refine V.lconst (v := 0) dX11_paintRows_56 rfl ?_
      refine V.lcmp dX11_paintRows_57 ?_
      refine V.if_lt (tgt := 70) dX11_paintRows_58 (by decide) (fun c19 => ?_) (fun c19 => ?_)
      · replace hf := ite_p hf c19
        refine V.aload_n dX11_paintRows_70 rfl rfl rfl ?_
        refine V.iconst (v := 5) dX11_paintRows_71 rfl ?_
        obtain ⟨r22, h21, q20, hf2⟩ := bd2_el hf
        replace hf := hf2
        clear hf2
        refine V.callVI dX11_paintRows_72 ml_X11_105 mo_X11_refuse mv_X11_refuse rfl (fun q hq => by cases hq; rfl) (by decide) (Or.inl ⟨rfl, SHL_lt rfl⟩) (th_X11_refuse (srh17.ly ly) q20) rfl rfl ⟨Nat.le_of_ble_eq_true rfl, Nat.le_of_ble_eq_true rfl, fun _ => ⟨rfl, rfl⟩⟩ (Nat.le_of_ble_eq_true rfl) rfl (post_I (fun sq => ?_))
        have srh21 : SR h0 h21 := srh17.trans sq
        clear sq q20
        refine V.ireturn dX11_paintRows_75 rfl rfl ⟨rfl, rfl⟩ ly.1 ?_
        exact ret_I hf srh21
      · replace hf := ite_n hf c19
        refine V.lload dX11_paintRows_61 rfl ?_
        refine V.ldc2 (v := 31) dX11_paintRows_63 kc_X11_258 ?_
        refine V.lcmp dX11_paintRows_66 ?_
        refine V.if_le (tgt := 76) dX11_paintRows_67 (by decide) (fun c23 => ?_) (fun c23 => ?_)
        · replace hf := ite_p hf c23
          refine V.iload dX11_paintRows_76 rfl ?_
          refine V.lload dX11_paintRows_78 rfl ?_
          refine V.l2i dX11_paintRows_80 ?_
          refine V.aload_n dX11_paintRows_81 rfl rfl rfl ?_
          refine V.getR (r := t) dX11_paintRows_82 fl_X11_61 rfl (Or.inl ⟨rfl, SHL_lt rfl⟩) rfl (srh17.pr pr) ?_
          refine V.getR (r := t + 1) dX11_paintRows_85 fl_X11_147 (sT0 hT) (Or.inl ⟨rfl, SHL_lt (sT0 hT)⟩) rfl (rT_hill (srh17.ly ly) hT) ?_
          obtain ⟨r26, h25, q24, hf2⟩ := bd2_el hf
          replace hf := hf2
          clear hf2
          refine V.callVI dX11_paintRows_88 ml_X11_260 mo_X1_rowMask mv_X1_rowMask (sH0 hT.H) (fun q hq => by cases hq; rfl) (by decide) (Or.inl ⟨rfl, SHL_lt (sH0 hT.H)⟩) (th_X1_rowMask (srh17.ly ly) hT.H q24) rfl rfl ⟨Nat.le_of_ble_eq_true rfl, Nat.le_of_ble_eq_true rfl, fun _ => ⟨rfl, rfl⟩⟩ (Nat.le_of_ble_eq_true rfl) rfl (post_I (fun sq => ?_))
          have srh25 : SR h0 h25 := srh17.trans sq
          clear sq q24
          refine V.iand dX11_paintRows_91 ?_
          refine V.iload dX11_paintRows_92 rfl ?_
          refine V.aload_n dX11_paintRows_94 rfl rfl rfl ?_
          refine V.getR (r := t) dX11_paintRows_95 fl_X11_61 rfl (Or.inl ⟨rfl, SHL_lt rfl⟩) rfl (srh25.pr pr) ?_
          refine V.getR (r := t + 1) dX11_paintRows_98 fl_X11_147 (sT0 hT) (Or.inl ⟨rfl, SHL_lt (sT0 hT)⟩) rfl (rT_hill (srh25.ly ly) hT) ?_
          refine V.getI dX11_paintRows_101 fl_X11_192 (sH0 hT.H) (Or.inl ⟨rfl, SHL_lt (sH0 hT.H)⟩) rfl rfl ?_
          refine V.imul dX11_paintRows_104 ?_
          refine V.ishl dX11_paintRows_105 ?_
          refine V.ior dX11_paintRows_106 ?_
          refine V.nmi (fun x27 ex27 => ?_)
          replace hf := lt_el hf x27 ex27
          refine V.istore (ls' := [.ref 0, .int l1, .int l2, .null, .int x27, .int l5, .long r18, .null]) dX11_paintRows_107 (by decide) rfl ?_
          obtain ⟨x28, ex28⟩ : ∃ y : Int32, y = l5 + 1 := ⟨_, rfl⟩
          replace hf := lt_el hf x28 ex28
          refine V.iinc (v := x28) (ls' := [.ref 0, .int l1, .int l2, .null, .int x27, .int x28, .long r18, .null]) dX11_paintRows_109 rfl (by decide) ex28.symm rfl ?_
          refine V.goto (tgt := 36) dX11_paintRows_112 (by decide) ?_
          refine V.less (ls' := [.ref 0, .int l1, .int l2, .null, .int x27, .int x28, .null, .null]) ⟨Or.inr rfl, Or.inr rfl, Or.inr rfl, Or.inl rfl, Or.inr rfl, Or.inr rfl, Or.inl rfl, Or.inl rfl, trivial⟩ ?_
          exact ih l1 l2 x27 x28 h25 srh25 hf
        · replace hf := ite_n hf c23
          refine V.aload_n dX11_paintRows_70 rfl rfl rfl ?_
          refine V.iconst (v := 5) dX11_paintRows_71 rfl ?_
          obtain ⟨r31, h30, q29, hf2⟩ := bd2_el hf
          replace hf := hf2
          clear hf2
          refine V.callVI dX11_paintRows_72 ml_X11_105 mo_X11_refuse mv_X11_refuse rfl (fun q hq => by cases hq; rfl) (by decide) (Or.inl ⟨rfl, SHL_lt rfl⟩) (th_X11_refuse (srh17.ly ly) q29) rfl rfl ⟨Nat.le_of_ble_eq_true rfl, Nat.le_of_ble_eq_true rfl, fun _ => ⟨rfl, rfl⟩⟩ (Nat.le_of_ble_eq_true rfl) rfl (post_I (fun sq => ?_))
          have srh30 : SR h0 h30 := srh17.trans sq
          clear sq q29
          refine V.ireturn dX11_paintRows_75 rfl rfl ⟨rfl, rfl⟩ ly.1 ?_
          exact ret_I hf srh30
set_option maxRecDepth 100000 in
theorem th_X11_paintRows {h : HP} (ly : Lay h) {t : Nat} (hT : isT t) (pr : hR h 0 8 = t) {a1 : Int32} {rr : Int32} {hh : HP} (hf : f_X11_paintRows h t a1 = some (rr, hh)) : Spec yX11_paintRows cX11_paintRows miX11_paintRows [.ref 0, .int a1] h (pI fun r' h' => (r' = rr ∧ h' = hh) ∧ SR h hh) := by
  refine Spec.of (ls0 := [.ref 0, .int a1, .null, .null, .null, .null, .null, .null]) mo_X11_paintRows (Nat.le_of_ble_eq_true rfl) rfl ?_
  rw [ly.1]
  have srh : SR h h := SR.refl h
  unfold f_X11_paintRows at hf
  refine V.aload_n dX11_paintRows_0 rfl rfl rfl ?_
  refine V.getR (r := t) dX11_paintRows_1 fl_X11_61 rfl (Or.inl ⟨rfl, SHL_lt rfl⟩) rfl (srh.pr pr) ?_
  refine V.getR (r := t + 1) dX11_paintRows_4 fl_X11_147 (sT0 hT) (Or.inl ⟨rfl, SHL_lt (sT0 hT)⟩) rfl (rT_hill (srh.ly ly) hT) ?_
  refine V.getI dX11_paintRows_7 fl_X11_195 (sH0 hT.H) (Or.inl ⟨rfl, SHL_lt (sH0 hT.H)⟩) rfl rfl ?_
  refine V.nmi (fun x1 ex1 => ?_)
  replace hf := lt_el hf x1 ex1
  refine V.istore_n (ls' := [.ref 0, .int a1, .int x1, .null, .null, .null, .null, .null]) dX11_paintRows_10 rfl (by decide) rfl ?_
  refine V.aload_n dX11_paintRows_11 rfl rfl rfl ?_
  refine V.iload_n dX11_paintRows_12 rfl rfl ?_
  refine V.iload_n dX11_paintRows_13 rfl rfl ?_
  refine V.iconst (v := 1) dX11_paintRows_14 rfl ?_
  refine V.isub dX11_paintRows_15 ?_
  obtain ⟨r4, h3, q2, hf2⟩ := bd2_el hf
  replace hf := hf2
  clear hf2
  refine V.callVI dX11_paintRows_16 ml_X11_97 mo_X11_whyNotInTray mv_X11_whyNotInTray rfl (fun q hq => by cases hq; rfl) (by decide) (Or.inl ⟨rfl, SHL_lt rfl⟩) (th_X11_whyNotInTray (srh.ly ly) q2) rfl rfl ⟨Nat.le_of_ble_eq_true rfl, Nat.le_of_ble_eq_true rfl, fun _ => ⟨rfl, rfl⟩⟩ (Nat.le_of_ble_eq_true rfl) rfl (post_I (fun sq => ?_))
  have srh3 : SR h h3 := srh.trans sq
  clear sq q2
  refine V.istore_n (ls' := [.ref 0, .int a1, .int x1, .int r4, .null, .null, .null, .null]) dX11_paintRows_19 rfl (by decide) rfl ?_
  refine V.iload_n dX11_paintRows_20 rfl rfl ?_
  refine V.if_eq (tgt := 30) dX11_paintRows_21 (by decide) (fun c5 => ?_) (fun c5 => ?_)
  · replace hf := ite_p hf c5
    refine V.iconst (v := 0) dX11_paintRows_30 rfl ?_
    refine V.istore (ls' := [.ref 0, .int a1, .int x1, .int r4, .int 0, .null, .null, .null]) dX11_paintRows_31 (by decide) rfl ?_
    refine V.iconst (v := 0) dX11_paintRows_33 rfl ?_
    refine V.istore (ls' := [.ref 0, .int a1, .int x1, .int r4, .int 0, .int 0, .null, .null]) dX11_paintRows_34 (by decide) rfl ?_
    refine V.less (ls' := [.ref 0, .int a1, .int x1, .null, .int 0, .int 0, .null, .null]) ⟨Or.inr rfl, Or.inr rfl, Or.inr rfl, Or.inl rfl, Or.inr rfl, Or.inr rfl, Or.inl rfl, Or.inl rfl, trivial⟩ ?_
    exact th_X11_paintRows_36 ly hT pr FU a1 x1 0 0 h3 srh3 hf
  · replace hf := ite_n hf c5
    refine V.aload_n dX11_paintRows_24 rfl rfl rfl ?_
    refine V.iload_n dX11_paintRows_25 rfl rfl ?_
    obtain ⟨r8, h7, q6, hf2⟩ := bd2_el hf
    replace hf := hf2
    clear hf2
    refine V.callVI dX11_paintRows_26 ml_X11_105 mo_X11_refuse mv_X11_refuse rfl (fun q hq => by cases hq; rfl) (by decide) (Or.inl ⟨rfl, SHL_lt rfl⟩) (th_X11_refuse (srh3.ly ly) q6) rfl rfl ⟨Nat.le_of_ble_eq_true rfl, Nat.le_of_ble_eq_true rfl, fun _ => ⟨rfl, rfl⟩⟩ (Nat.le_of_ble_eq_true rfl) rfl (post_I (fun sq => ?_))
    have srh7 : SR h h7 := srh3.trans sq
    clear sq q6
    refine V.ireturn dX11_paintRows_29 rfl rfl ⟨rfl, rfl⟩ ly.1 ?_
    exact ret_I hf srh7
set_option maxRecDepth 100000 in
theorem th_X11_copyRows_33 {h0 : HP} (ly : Lay h0) {t : Nat} (hT : isT t) (pr : hR h0 0 8 = t) {rr : Int32} {hh : HP}  : ∀ (n : Nat) (l1 : Int32) (l2 : Int32) (l4 : Int32) (h : HP), SR h0 h → f_X11_copyRows_33 t n l1 l2 l4 h = some (rr, hh) → V cX11_copyRows miX11_copyRows (ZI h0 miX11_copyRows rr hh) 130 33 [.ref 0, .int l1, .int l2, .null, .int l4] [] h := by
  intro n
  induction n with
  | zero => intro l1 l2 l4 h srh hf; exact absurd hf (by unfold f_X11_copyRows_33; simp)
  | succ n ih =>
    intro l1 l2 l4 h srh hf
    unfold f_X11_copyRows_33 at hf
    refine V.iload dX11_copyRows_33 rfl ?_
    refine V.iload_n dX11_copyRows_35 rfl rfl ?_
    refine V.icmp_ge (tgt := 75) dX11_copyRows_36 (by decide) (fun c9 => ?_) (fun c9 => ?_)
    · replace hf := ite_p hf c9
      refine V.aload_n dX11_copyRows_75 rfl rfl rfl ?_
      refine V.iload_n dX11_copyRows_76 rfl rfl ?_
      obtain ⟨r12, h11, q10, hf2⟩ := bd2_el hf
      replace hf := hf2
      clear hf2
      refine V.callVI dX11_copyRows_77 ml_X11_161 mo_X11_answer mv_X11_answer rfl (fun q hq => by cases hq; rfl) (by decide) (Or.inl ⟨rfl, SHL_lt rfl⟩) (th_X11_answer (srh.ly ly) q10) rfl rfl ⟨Nat.le_of_ble_eq_true rfl, Nat.le_of_ble_eq_true rfl, fun _ => ⟨rfl, rfl⟩⟩ (Nat.le_of_ble_eq_true rfl) rfl (post_I (fun sq => ?_))
      have srh11 : SR h0 h11 := srh.trans sq
      clear sq q10
      refine V.ireturn dX11_copyRows_80 rfl rfl ⟨rfl, rfl⟩ ly.1 ?_
      exact ret_I hf srh11
    · replace hf := ite_n hf c9
      refine V.aload_n dX11_copyRows_39 rfl rfl rfl ?_
      refine V.getR (r := 1) dX11_copyRows_40 fl_X11_10 rfl (Or.inl ⟨rfl, SHL_lt rfl⟩) rfl (ly_0_0 (srh.ly ly)) ?_
      refine V.iload_n dX11_copyRows_43 rfl rfl ?_
      refine V.iload dX11_copyRows_44 rfl ?_
      refine V.aload_n dX11_copyRows_46 rfl rfl rfl ?_
      refine V.getR (r := t) dX11_copyRows_47 fl_X11_61 rfl (Or.inl ⟨rfl, SHL_lt rfl⟩) rfl (srh.pr pr) ?_
      refine V.getR (r := t + 1) dX11_copyRows_50 fl_X11_147 (sT0 hT) (Or.inl ⟨rfl, SHL_lt (sT0 hT)⟩) rfl (rT_hill (srh.ly ly) hT) ?_
      refine V.aload_n dX11_copyRows_53 rfl rfl rfl ?_
      refine V.getR (r := t) dX11_copyRows_54 fl_X11_61 rfl (Or.inl ⟨rfl, SHL_lt rfl⟩) rfl (srh.pr pr) ?_
      refine V.getI dX11_copyRows_57 fl_X11_198 (sT0 hT) (Or.inl ⟨rfl, SHL_lt (sT0 hT)⟩) rfl rfl ?_
      refine V.iload dX11_copyRows_60 rfl ?_
      obtain ⟨r15, h14, q13, hf2⟩ := bd2_el hf
      replace hf := hf2
      clear hf2
      refine V.callVI dX11_copyRows_62 ml_X11_264 mo_X1_rowOf mv_X1_rowOf (sH0 hT.H) (fun q hq => by cases hq; rfl) (by decide) (Or.inl ⟨rfl, SHL_lt (sH0 hT.H)⟩) (th_X1_rowOf (srh.ly ly) hT.H q13) rfl rfl ⟨Nat.le_of_ble_eq_true rfl, Nat.le_of_ble_eq_true rfl, fun _ => ⟨rfl, rfl⟩⟩ (Nat.le_of_ble_eq_true rfl) rfl (post_I (fun sq => ?_))
      have srh14 : SR h0 h14 := srh.trans sq
      clear sq q13
      refine V.i2l dX11_copyRows_65 ?_
      obtain ⟨h17, q16, hf2⟩ := bd_el hf
      replace hf := hf2
      clear hf2
      refine V.callVV dX11_copyRows_66 ml_X11_101 mo_X7_put mv_X7_put rfl (fun q hq => by cases hq; rfl) (by decide) (Or.inl ⟨rfl, SHL_lt rfl⟩) (th_X7_put (srh14.ly ly) q16) rfl rfl ⟨Nat.le_of_ble_eq_true rfl, Nat.le_of_ble_eq_true rfl, fun _ => ⟨rfl, rfl⟩⟩ (Nat.le_of_ble_eq_true rfl) (Or.inl rfl) (post_V (fun sq => ?_))
      have srh17 : SR h0 h17 := srh14.trans sq
      clear sq q16
      obtain ⟨x18, ex18⟩ : ∃ y : Int32, y = l4 + 1 := ⟨_, rfl⟩
      replace hf := lt_el hf x18 ex18
      refine V.iinc (v := x18) (ls' := [.ref 0, .int l1, .int l2, .null, .int x18]) dX11_copyRows_69 rfl (by decide) ex18.symm rfl ?_
      refine V.goto (tgt := 33) dX11_copyRows_72 (by decide) ?_
      exact ih l1 l2 x18 h17 srh17 hf
set_option maxRecDepth 100000 in
theorem th_X11_copyRows {h : HP} (ly : Lay h) {t : Nat} (hT : isT t) (pr : hR h 0 8 = t) {a1 : Int32} {rr : Int32} {hh : HP} (hf : f_X11_copyRows h t a1 = some (rr, hh)) : Spec yX11_copyRows cX11_copyRows miX11_copyRows [.ref 0, .int a1] h (pI fun r' h' => (r' = rr ∧ h' = hh) ∧ SR h hh) := by
  refine Spec.of (ls0 := [.ref 0, .int a1, .null, .null, .null]) mo_X11_copyRows (Nat.le_of_ble_eq_true rfl) rfl ?_
  rw [ly.1]
  have srh : SR h h := SR.refl h
  unfold f_X11_copyRows at hf
  refine V.aload_n dX11_copyRows_0 rfl rfl rfl ?_
  refine V.getR (r := t) dX11_copyRows_1 fl_X11_61 rfl (Or.inl ⟨rfl, SHL_lt rfl⟩) rfl (srh.pr pr) ?_
  refine V.getR (r := t + 1) dX11_copyRows_4 fl_X11_147 (sT0 hT) (Or.inl ⟨rfl, SHL_lt (sT0 hT)⟩) rfl (rT_hill (srh.ly ly) hT) ?_
  refine V.getI dX11_copyRows_7 fl_X11_195 (sH0 hT.H) (Or.inl ⟨rfl, SHL_lt (sH0 hT.H)⟩) rfl rfl ?_
  refine V.nmi (fun x1 ex1 => ?_)
  replace hf := lt_el hf x1 ex1
  refine V.istore_n (ls' := [.ref 0, .int a1, .int x1, .null, .null]) dX11_copyRows_10 rfl (by decide) rfl ?_
  refine V.aload_n dX11_copyRows_11 rfl rfl rfl ?_
  refine V.iload_n dX11_copyRows_12 rfl rfl ?_
  refine V.iload_n dX11_copyRows_13 rfl rfl ?_
  refine V.iconst (v := 1) dX11_copyRows_14 rfl ?_
  refine V.isub dX11_copyRows_15 ?_
  obtain ⟨r4, h3, q2, hf2⟩ := bd2_el hf
  replace hf := hf2
  clear hf2
  refine V.callVI dX11_copyRows_16 ml_X11_97 mo_X11_whyNotInTray mv_X11_whyNotInTray rfl (fun q hq => by cases hq; rfl) (by decide) (Or.inl ⟨rfl, SHL_lt rfl⟩) (th_X11_whyNotInTray (srh.ly ly) q2) rfl rfl ⟨Nat.le_of_ble_eq_true rfl, Nat.le_of_ble_eq_true rfl, fun _ => ⟨rfl, rfl⟩⟩ (Nat.le_of_ble_eq_true rfl) rfl (post_I (fun sq => ?_))
  have srh3 : SR h h3 := srh.trans sq
  clear sq q2
  refine V.istore_n (ls' := [.ref 0, .int a1, .int x1, .int r4, .null]) dX11_copyRows_19 rfl (by decide) rfl ?_
  refine V.iload_n dX11_copyRows_20 rfl rfl ?_
  refine V.if_eq (tgt := 30) dX11_copyRows_21 (by decide) (fun c5 => ?_) (fun c5 => ?_)
  · replace hf := ite_p hf c5
    refine V.iconst (v := 0) dX11_copyRows_30 rfl ?_
    refine V.istore (ls' := [.ref 0, .int a1, .int x1, .int r4, .int 0]) dX11_copyRows_31 (by decide) rfl ?_
    refine V.less (ls' := [.ref 0, .int a1, .int x1, .null, .int 0]) ⟨Or.inr rfl, Or.inr rfl, Or.inr rfl, Or.inl rfl, Or.inr rfl, trivial⟩ ?_
    exact th_X11_copyRows_33 ly hT pr FU a1 x1 0 h3 srh3 hf
  · replace hf := ite_n hf c5
    refine V.aload_n dX11_copyRows_24 rfl rfl rfl ?_
    refine V.iload_n dX11_copyRows_25 rfl rfl ?_
    obtain ⟨r8, h7, q6, hf2⟩ := bd2_el hf
    replace hf := hf2
    clear hf2
    refine V.callVI dX11_copyRows_26 ml_X11_105 mo_X11_refuse mv_X11_refuse rfl (fun q hq => by cases hq; rfl) (by decide) (Or.inl ⟨rfl, SHL_lt rfl⟩) (th_X11_refuse (srh3.ly ly) q6) rfl rfl ⟨Nat.le_of_ble_eq_true rfl, Nat.le_of_ble_eq_true rfl, fun _ => ⟨rfl, rfl⟩⟩ (Nat.le_of_ble_eq_true rfl) rfl (post_I (fun sq => ?_))
    have srh7 : SR h h7 := srh3.trans sq
    clear sq q6
    refine V.ireturn dX11_copyRows_29 rfl rfl ⟨rfl, rfl⟩ ly.1 ?_
    exact ret_I hf srh7
set_option maxRecDepth 100000 in
theorem th_X11_mayor {h : HP} (ly : Lay h) {t : Nat} (hT : isT t) (pr : hR h 0 8 = t) {a1 : Int32} {rr : Int32} {hh : HP} (hf : f_X11_mayor h t a1 = some (rr, hh)) : Spec yX11_mayor cX11_mayor miX11_mayor [.ref 0, .int a1] h (pI fun r' h' => (r' = rr ∧ h' = hh) ∧ SR h hh) := by
  refine Spec.of (ls0 := [.ref 0, .int a1]) mo_X11_mayor (Nat.le_of_ble_eq_true rfl) rfl ?_
  rw [ly.1]
  have srh : SR h h := SR.refl h
  unfold f_X11_mayor at hf
  refine V.aload_n dX11_mayor_0 rfl rfl rfl ?_
  refine V.getR (r := t) dX11_mayor_1 fl_X11_61 rfl (Or.inl ⟨rfl, SHL_lt rfl⟩) rfl (srh.pr pr) ?_
  refine V.iload_n dX11_mayor_4 rfl rfl ?_
  obtain ⟨r3, h2, q1, hf2⟩ := bd2_el hf
  replace hf := hf2
  clear hf2
  refine V.callVI dX11_mayor_5 ml_X11_229 mo_X5_hasRule mv_X5_hasRule (sT0 hT) (fun q hq => by cases hq; rfl) (by decide) (Or.inl ⟨rfl, SHL_lt (sT0 hT)⟩) (th_X5_hasRule (srh.ly ly) hT q1) rfl rfl ⟨Nat.le_of_ble_eq_true rfl, Nat.le_of_ble_eq_true rfl, fun _ => ⟨rfl, rfl⟩⟩ (Nat.le_of_ble_eq_true rfl) rfl (post_I (fun sq => ?_))
  have srh2 : SR h h2 := srh.trans sq
  clear sq q1
  refine V.if_ne (tgt := 17) dX11_mayor_8 (by decide) (fun c4 => ?_) (fun c4 => ?_)
  · replace hf := ite_n hf c4
    refine V.aload_n dX11_mayor_17 rfl rfl rfl ?_
    refine V.getR (r := t) dX11_mayor_18 fl_X11_61 rfl (Or.inl ⟨rfl, SHL_lt rfl⟩) rfl (srh2.pr pr) ?_
    refine V.iload_n dX11_mayor_21 rfl rfl ?_
    refine V.putI dX11_mayor_22 fl_X11_220 (sT0 hT) (Or.inl ⟨rfl, SHL_lt (sT0 hT)⟩) rfl (fun q hq => by cases hq; rfl) ⟨rfl, rfl⟩ ?_
    refine V.nameH (fun g5 eg5 => ?_)
    replace hf := lt_el hf g5 eg5
    have srg5 : SR h g5 := by rw [eg5]; exact srh2.I _ _ _
    refine V.aload_n dX11_mayor_25 rfl rfl rfl ?_
    obtain ⟨r8, h7, q6, hf2⟩ := bd2_el hf
    replace hf := hf2
    clear hf2
    refine V.callVI dX11_mayor_26 ml_X11_93 mo_X11_allow mv_X11_allow rfl (fun q hq => by cases hq; rfl) (by decide) (Or.inl ⟨rfl, SHL_lt rfl⟩) (th_X11_allow (srg5.ly ly) q6) rfl rfl ⟨Nat.le_of_ble_eq_true rfl, Nat.le_of_ble_eq_true rfl, fun _ => ⟨rfl, rfl⟩⟩ (Nat.le_of_ble_eq_true rfl) rfl (post_I (fun sq => ?_))
    have srh7 : SR h h7 := srg5.trans sq
    clear sq q6
    obtain ⟨b9, hf2⟩ := gd_el hf
    replace hf := hf2
    clear hf2
    refine V.ireturn dX11_mayor_29 rfl (narB b9) ⟨rfl, rfl⟩ ly.1 ?_
    exact ret_I hf srh7
  · replace hf := ite_p hf c4
    refine V.aload_n dX11_mayor_11 rfl rfl rfl ?_
    refine V.iconst (v := 1) dX11_mayor_12 rfl ?_
    obtain ⟨r12, h11, q10, hf2⟩ := bd2_el hf
    replace hf := hf2
    clear hf2
    refine V.callVI dX11_mayor_13 ml_X11_86 mo_X11_deny mv_X11_deny rfl (fun q hq => by cases hq; rfl) (by decide) (Or.inl ⟨rfl, SHL_lt rfl⟩) (th_X11_deny (srh2.ly ly) q10) rfl rfl ⟨Nat.le_of_ble_eq_true rfl, Nat.le_of_ble_eq_true rfl, fun _ => ⟨rfl, rfl⟩⟩ (Nat.le_of_ble_eq_true rfl) rfl (post_I (fun sq => ?_))
    have srh11 : SR h h11 := srh2.trans sq
    clear sq q10
    obtain ⟨b13, hf2⟩ := gd_el hf
    replace hf := hf2
    clear hf2
    refine V.ireturn dX11_mayor_16 rfl (narB b13) ⟨rfl, rfl⟩ ly.1 ?_
    exact ret_I hf srh11
set_option maxRecDepth 100000 in
theorem th_X11_bend_31 {h0 : HP} (ly : Lay h0) {t : Nat} (hT : isT t) (pr : hR h0 0 8 = t) {rr : Int32} {hh : HP}  : ∀  (h : HP), SR h0 h → f_X11_bend_31 t h = some (rr, hh) → V cX11_bend miX11_bend (ZI h0 miX11_bend rr hh) 130 31 [.ref 0, .null, .null, .null] [] h := by
  intro  h srh hf
  unfold f_X11_bend_31 at hf
  refine V.aload_n dX11_bend_31 rfl rfl rfl ?_
  refine V.iconst (v := 1) dX11_bend_32 rfl ?_
  obtain ⟨r19, h18, q17, hf2⟩ := bd2_el hf
  replace hf := hf2
  clear hf2
  refine V.callVI dX11_bend_33 ml_X11_86 mo_X11_deny mv_X11_deny rfl (fun q hq => by cases hq; rfl) (by decide) (Or.inl ⟨rfl, SHL_lt rfl⟩) (th_X11_deny (srh.ly ly) q17) rfl rfl ⟨Nat.le_of_ble_eq_true rfl, Nat.le_of_ble_eq_true rfl, fun _ => ⟨rfl, rfl⟩⟩ (Nat.le_of_ble_eq_true rfl) rfl (post_I (fun sq => ?_))
  have srh18 : SR h0 h18 := srh.trans sq
  clear sq q17
  obtain ⟨b20, hf2⟩ := gd_el hf
  replace hf := hf2
  clear hf2
  refine V.ireturn dX11_bend_36 rfl (narB b20) ⟨rfl, rfl⟩ ly.1 ?_
  exact ret_I hf srh18
set_option maxRecDepth 100000 in
theorem th_X11_bend {h : HP} (ly : Lay h) {t : Nat} (hT : isT t) (pr : hR h 0 8 = t) {a1 : Int32} {a2 : Int32} {a3 : Int32} {rr : Int32} {hh : HP} (hf : f_X11_bend h t a1 a2 a3 = some (rr, hh)) : Spec yX11_bend cX11_bend miX11_bend [.ref 0, .int a1, .int a2, .int a3] h (pI fun r' h' => (r' = rr ∧ h' = hh) ∧ SR h hh) := by
  refine Spec.of (ls0 := [.ref 0, .int a1, .int a2, .int a3]) mo_X11_bend (Nat.le_of_ble_eq_true rfl) rfl ?_
  rw [ly.1]
  have srh : SR h h := SR.refl h
  unfold f_X11_bend at hf
  refine V.aload_n dX11_bend_0 rfl rfl rfl ?_
  refine V.getR (r := t) dX11_bend_1 fl_X11_61 rfl (Or.inl ⟨rfl, SHL_lt rfl⟩) rfl (srh.pr pr) ?_
  refine V.iload_n dX11_bend_4 rfl rfl ?_
  obtain ⟨r3, h2, q1, hf2⟩ := bd2_el hf
  replace hf := hf2
  clear hf2
  refine V.callVI dX11_bend_5 ml_X11_229 mo_X5_hasRule mv_X5_hasRule (sT0 hT) (fun q hq => by cases hq; rfl) (by decide) (Or.inl ⟨rfl, SHL_lt (sT0 hT)⟩) (th_X5_hasRule (srh.ly ly) hT q1) rfl rfl ⟨Nat.le_of_ble_eq_true rfl, Nat.le_of_ble_eq_true rfl, fun _ => ⟨rfl, rfl⟩⟩ (Nat.le_of_ble_eq_true rfl) rfl (post_I (fun sq => ?_))
  have srh2 : SR h h2 := srh.trans sq
  clear sq q1
  refine V.if_eq (tgt := 31) dX11_bend_8 (by decide) (fun c4 => ?_) (fun c4 => ?_)
  · replace hf := ite_p hf c4
    refine V.less (ls' := [.ref 0, .null, .null, .null]) ⟨Or.inr rfl, Or.inl rfl, Or.inl rfl, Or.inl rfl, trivial⟩ ?_
    exact th_X11_bend_31 ly hT pr h2 srh2 hf
  · replace hf := ite_n hf c4
    refine V.iload_n dX11_bend_11 rfl rfl ?_
    refine V.if_lt (tgt := 31) dX11_bend_12 (by decide) (fun c5 => ?_) (fun c5 => ?_)
    · replace hf := ite_p hf c5
      refine V.less (ls' := [.ref 0, .null, .null, .null]) ⟨Or.inr rfl, Or.inl rfl, Or.inl rfl, Or.inl rfl, trivial⟩ ?_
      exact th_X11_bend_31 ly hT pr h2 srh2 hf
    · replace hf := ite_n hf c5
      refine V.iload_n dX11_bend_15 rfl rfl ?_
      refine V.bipush (v := 31) dX11_bend_16 rfl ?_
      refine V.icmp_gt (tgt := 31) dX11_bend_18 (by decide) (fun c6 => ?_) (fun c6 => ?_)
      · replace hf := ite_p hf c6
        refine V.less (ls' := [.ref 0, .null, .null, .null]) ⟨Or.inr rfl, Or.inl rfl, Or.inl rfl, Or.inl rfl, trivial⟩ ?_
        exact th_X11_bend_31 ly hT pr h2 srh2 hf
      · replace hf := ite_n hf c6
        refine V.iload_n dX11_bend_21 rfl rfl ?_
        refine V.if_lt (tgt := 31) dX11_bend_22 (by decide) (fun c7 => ?_) (fun c7 => ?_)
        · replace hf := ite_p hf c7
          refine V.less (ls' := [.ref 0, .null, .null, .null]) ⟨Or.inr rfl, Or.inl rfl, Or.inl rfl, Or.inl rfl, trivial⟩ ?_
          exact th_X11_bend_31 ly hT pr h2 srh2 hf
        · replace hf := ite_n hf c7
          refine V.iload_n dX11_bend_25 rfl rfl ?_
          refine V.bipush (v := 31) dX11_bend_26 rfl ?_
          refine V.icmp_le (tgt := 37) dX11_bend_28 (by decide) (fun c8 => ?_) (fun c8 => ?_)
          · replace hf := ite_p hf c8
            refine V.aload_n dX11_bend_37 rfl rfl rfl ?_
            refine V.getR (r := t) dX11_bend_38 fl_X11_61 rfl (Or.inl ⟨rfl, SHL_lt rfl⟩) rfl (srh2.pr pr) ?_
            refine V.getR (r := t + 10) dX11_bend_41 fl_X11_232 (sT0 hT) (Or.inl ⟨rfl, SHL_lt (sT0 hT)⟩) rfl (rT_bornBy (srh2.ly ly) hT) ?_
            refine V.iload_n dX11_bend_44 rfl rfl ?_
            refine V.iload_n dX11_bend_45 rfl rfl ?_
            obtain ⟨b9, hf2⟩ := gdi_el hf
            replace hf := hf2
            clear hf2
            refine V.iastore dX11_bend_46 (sT10 hT) (Or.inl ⟨rfl, SHL_lt (sT10 hT)⟩) b9 ?_
            refine V.nameH (fun g10 eg10 => ?_)
            replace hf := lt_el hf g10 eg10
            have srg10 : SR h g10 := by rw [eg10]; exact srh2.I _ _ _
            refine V.aload_n dX11_bend_47 rfl rfl rfl ?_
            refine V.getR (r := t) dX11_bend_48 fl_X11_61 rfl (Or.inl ⟨rfl, SHL_lt rfl⟩) rfl (srg10.pr pr) ?_
            refine V.getR (r := t + 11) dX11_bend_51 fl_X11_236 (sT0 hT) (Or.inl ⟨rfl, SHL_lt (sT0 hT)⟩) rfl (rT_staysBy (srg10.ly ly) hT) ?_
            refine V.iload_n dX11_bend_54 rfl rfl ?_
            refine V.iload_n dX11_bend_55 rfl rfl ?_
            obtain ⟨b11, hf2⟩ := gdi_el hf
            replace hf := hf2
            clear hf2
            refine V.iastore dX11_bend_56 (sT11 hT) (Or.inl ⟨rfl, SHL_lt (sT11 hT)⟩) b11 ?_
            refine V.nameH (fun g12 eg12 => ?_)
            replace hf := lt_el hf g12 eg12
            have srg12 : SR h g12 := by rw [eg12]; exact srg10.I _ _ _
            refine V.aload_n dX11_bend_57 rfl rfl rfl ?_
            obtain ⟨r15, h14, q13, hf2⟩ := bd2_el hf
            replace hf := hf2
            clear hf2
            refine V.callVI dX11_bend_58 ml_X11_93 mo_X11_allow mv_X11_allow rfl (fun q hq => by cases hq; rfl) (by decide) (Or.inl ⟨rfl, SHL_lt rfl⟩) (th_X11_allow (srg12.ly ly) q13) rfl rfl ⟨Nat.le_of_ble_eq_true rfl, Nat.le_of_ble_eq_true rfl, fun _ => ⟨rfl, rfl⟩⟩ (Nat.le_of_ble_eq_true rfl) rfl (post_I (fun sq => ?_))
            have srh14 : SR h h14 := srg12.trans sq
            clear sq q13
            obtain ⟨b16, hf2⟩ := gd_el hf
            replace hf := hf2
            clear hf2
            refine V.ireturn dX11_bend_61 rfl (narB b16) ⟨rfl, rfl⟩ ly.1 ?_
            exact ret_I hf srh14
          · replace hf := ite_n hf c8
            refine V.less (ls' := [.ref 0, .null, .null, .null]) ⟨Or.inr rfl, Or.inl rfl, Or.inl rfl, Or.inl rfl, trivial⟩ ?_
            exact th_X11_bend_31 ly hT pr h2 srh2 hf
set_option maxRecDepth 100000 in
theorem th_X11_night {h : HP} (ly : Lay h) {t : Nat} (hT : isT t) (pr : hR h 0 8 = t) {a1 : Int32} {rr : Int32} {hh : HP} (hf : f_X11_night h t a1 = some (rr, hh)) : Spec yX11_night cX11_night miX11_night [.ref 0, .int a1] h (pI fun r' h' => (r' = rr ∧ h' = hh) ∧ SR h hh) := by
  refine Spec.of (ls0 := [.ref 0, .int a1]) mo_X11_night (Nat.le_of_ble_eq_true rfl) rfl ?_
  rw [ly.1]
  have srh : SR h h := SR.refl h
  unfold f_X11_night at hf
  refine V.iload_n dX11_night_0 rfl rfl ?_
  refine V.iconst (v := 1) dX11_night_1 rfl ?_
  refine V.icmp_lt (tgt := 12) dX11_night_2 (by decide) (fun c1 => ?_) (fun c1 => ?_)
  · replace hf := ite_p hf c1
    refine V.aload_n dX11_night_12 rfl rfl rfl ?_
    refine V.iconst (v := 1) dX11_night_13 rfl ?_
    obtain ⟨r4, h3, q2, hf2⟩ := bd2_el hf
    replace hf := hf2
    clear hf2
    refine V.callVI dX11_night_14 ml_X11_105 mo_X11_refuse mv_X11_refuse rfl (fun q hq => by cases hq; rfl) (by decide) (Or.inl ⟨rfl, SHL_lt rfl⟩) (th_X11_refuse (srh.ly ly) q2) rfl rfl ⟨Nat.le_of_ble_eq_true rfl, Nat.le_of_ble_eq_true rfl, fun _ => ⟨rfl, rfl⟩⟩ (Nat.le_of_ble_eq_true rfl) rfl (post_I (fun sq => ?_))
    have srh3 : SR h h3 := srh.trans sq
    clear sq q2
    refine V.ireturn dX11_night_17 rfl rfl ⟨rfl, rfl⟩ ly.1 ?_
    exact ret_I hf srh3
  · replace hf := ite_n hf c1
    refine V.iload_n dX11_night_5 rfl rfl ?_
    refine V.sipush (v := 999) dX11_night_6 rfl ?_
    refine V.icmp_le (tgt := 18) dX11_night_9 (by decide) (fun c5 => ?_) (fun c5 => ?_)
    · replace hf := ite_p hf c5
      refine V.aload_n dX11_night_18 rfl rfl rfl ?_
      refine V.getR (r := t) dX11_night_19 fl_X11_61 rfl (Or.inl ⟨rfl, SHL_lt rfl⟩) rfl (srh.pr pr) ?_
      refine V.iload_n dX11_night_22 rfl rfl ?_
      obtain ⟨h7, q6, hf2⟩ := bd_el hf
      replace hf := hf2
      clear hf2
      refine V.callVV dX11_night_23 ml_X11_267 mo_X5_passNights mv_X5_passNights (sT0 hT) (fun q hq => by cases hq; rfl) (by decide) (Or.inl ⟨rfl, SHL_lt (sT0 hT)⟩) (th_X5_passNights (srh.ly ly) hT q6) rfl rfl ⟨Nat.le_of_ble_eq_true rfl, Nat.le_of_ble_eq_true rfl, fun _ => ⟨rfl, rfl⟩⟩ (Nat.le_of_ble_eq_true rfl) (Or.inl rfl) (post_V (fun sq => ?_))
      have srh7 : SR h h7 := srh.trans sq
      clear sq q6
      refine V.aload_n dX11_night_26 rfl rfl rfl ?_
      refine V.aload_n dX11_night_27 rfl rfl rfl ?_
      refine V.getR (r := t) dX11_night_28 fl_X11_61 rfl (Or.inl ⟨rfl, SHL_lt rfl⟩) rfl (srh7.pr pr) ?_
      refine V.getI dX11_night_31 fl_X11_198 (sT0 hT) (Or.inl ⟨rfl, SHL_lt (sT0 hT)⟩) rfl rfl ?_
      obtain ⟨r10, h9, q8, hf2⟩ := bd2_el hf
      replace hf := hf2
      clear hf2
      refine V.callSI dX11_night_34 ml_X11_156 mo_J6_bitCount_0f7a4 ms_J6_bitCount_0f7a4 (th_J6_bitCount_0f7a4 (srh7.ly ly) q8) rfl rfl ⟨Nat.le_of_ble_eq_true rfl, Nat.le_of_ble_eq_true rfl, fun _ => ⟨rfl, rfl⟩⟩ (Nat.le_of_ble_eq_true rfl) rfl (post_I (fun sq => ?_))
      have srh9 : SR h h9 := srh7.trans sq
      clear sq q8
      obtain ⟨r13, h12, q11, hf2⟩ := bd2_el hf
      replace hf := hf2
      clear hf2
      refine V.callVI dX11_night_37 ml_X11_161 mo_X11_answer mv_X11_answer rfl (fun q hq => by cases hq; rfl) (by decide) (Or.inl ⟨rfl, SHL_lt rfl⟩) (th_X11_answer (srh9.ly ly) q11) rfl rfl ⟨Nat.le_of_ble_eq_true rfl, Nat.le_of_ble_eq_true rfl, fun _ => ⟨rfl, rfl⟩⟩ (Nat.le_of_ble_eq_true rfl) rfl (post_I (fun sq => ?_))
      have srh12 : SR h h12 := srh9.trans sq
      clear sq q11
      refine V.ireturn dX11_night_40 rfl rfl ⟨rfl, rfl⟩ ly.1 ?_
      exact ret_I hf srh12
    · replace hf := ite_n hf c5
      refine V.aload_n dX11_night_12 rfl rfl rfl ?_
      refine V.iconst (v := 1) dX11_night_13 rfl ?_
      obtain ⟨r16, h15, q14, hf2⟩ := bd2_el hf
      replace hf := hf2
      clear hf2
      refine V.callVI dX11_night_14 ml_X11_105 mo_X11_refuse mv_X11_refuse rfl (fun q hq => by cases hq; rfl) (by decide) (Or.inl ⟨rfl, SHL_lt rfl⟩) (th_X11_refuse (srh.ly ly) q14) rfl rfl ⟨Nat.le_of_ble_eq_true rfl, Nat.le_of_ble_eq_true rfl, fun _ => ⟨rfl, rfl⟩⟩ (Nat.le_of_ble_eq_true rfl) rfl (post_I (fun sq => ?_))
      have srh15 : SR h h15 := srh.trans sq
      clear sq q14
      refine V.ireturn dX11_night_17 rfl rfl ⟨rfl, rfl⟩ ly.1 ?_
      exact ret_I hf srh15
set_option maxRecDepth 100000 in
theorem th_X11_ahead {h : HP} (ly : Lay h) {t : Nat} (hT : isT t) (pr : hR h 0 8 = t) {a1 : Int32} {rr : Int64} {hh : HP} (hf : f_X11_ahead h t a1 = some (rr, hh)) : Spec yX11_ahead cX11_ahead miX11_ahead [.ref 0, .int a1] h (pL fun r' h' => (r' = rr ∧ h' = hh) ∧ SR h hh) := by
  refine Spec.of (ls0 := [.ref 0, .int a1]) mo_X11_ahead (Nat.le_of_ble_eq_true rfl) rfl ?_
  rw [ly.1]
  have srh : SR h h := SR.refl h
  unfold f_X11_ahead at hf
  refine V.iload_n dX11_ahead_0 rfl rfl ?_
  refine V.if_lt (tgt := 11) dX11_ahead_1 (by decide) (fun c1 => ?_) (fun c1 => ?_)
  · replace hf := ite_p hf c1
    refine V.aload_n dX11_ahead_11 rfl rfl rfl ?_
    refine V.iconst (v := 1) dX11_ahead_12 rfl ?_
    obtain ⟨r4, h3, q2, hf2⟩ := bd2_el hf
    replace hf := hf2
    clear hf2
    refine V.callVI dX11_ahead_13 ml_X11_105 mo_X11_refuse mv_X11_refuse rfl (fun q hq => by cases hq; rfl) (by decide) (Or.inl ⟨rfl, SHL_lt rfl⟩) (th_X11_refuse (srh.ly ly) q2) rfl rfl ⟨Nat.le_of_ble_eq_true rfl, Nat.le_of_ble_eq_true rfl, fun _ => ⟨rfl, rfl⟩⟩ (Nat.le_of_ble_eq_true rfl) rfl (post_I (fun sq => ?_))
    have srh3 : SR h h3 := srh.trans sq
    clear sq q2
    refine V.i2l dX11_ahead_16 ?_
    refine V.lreturn dX11_ahead_17 rfl ⟨rfl, rfl⟩ ly.1 ?_
    exact ret_L hf srh3
  · replace hf := ite_n hf c1
    refine V.iload_n dX11_ahead_4 rfl rfl ?_
    refine V.sipush (v := 999) dX11_ahead_5 rfl ?_
    refine V.icmp_le (tgt := 18) dX11_ahead_8 (by decide) (fun c5 => ?_) (fun c5 => ?_)
    · replace hf := ite_p hf c5
      refine V.aload_n dX11_ahead_18 rfl rfl rfl ?_
      refine V.aload_n dX11_ahead_19 rfl rfl rfl ?_
      refine V.getR (r := t) dX11_ahead_20 fl_X11_61 rfl (Or.inl ⟨rfl, SHL_lt rfl⟩) rfl (srh.pr pr) ?_
      refine V.aload_n dX11_ahead_23 rfl rfl rfl ?_
      refine V.getR (r := t) dX11_ahead_24 fl_X11_61 rfl (Or.inl ⟨rfl, SHL_lt rfl⟩) rfl (srh.pr pr) ?_
      refine V.getI dX11_ahead_27 fl_X11_198 (sT0 hT) (Or.inl ⟨rfl, SHL_lt (sT0 hT)⟩) rfl rfl ?_
      refine V.iload_n dX11_ahead_30 rfl rfl ?_
      obtain ⟨r8, h7, q6, hf2⟩ := bd2_el hf
      replace hf := hf2
      clear hf2
      refine V.callVI dX11_ahead_31 ml_X11_270 mo_X5_after mv_X5_after (sT0 hT) (fun q hq => by cases hq; rfl) (by decide) (Or.inl ⟨rfl, SHL_lt (sT0 hT)⟩) (th_X5_after (srh.ly ly) hT q6) rfl rfl ⟨Nat.le_of_ble_eq_true rfl, Nat.le_of_ble_eq_true rfl, fun _ => ⟨rfl, rfl⟩⟩ (Nat.le_of_ble_eq_true rfl) rfl (post_I (fun sq => ?_))
      have srh7 : SR h h7 := srh.trans sq
      clear sq q6
      obtain ⟨r11, h10, q9, hf2⟩ := bd2_el hf
      replace hf := hf2
      clear hf2
      refine V.callVI dX11_ahead_34 ml_X11_161 mo_X11_answer mv_X11_answer rfl (fun q hq => by cases hq; rfl) (by decide) (Or.inl ⟨rfl, SHL_lt rfl⟩) (th_X11_answer (srh7.ly ly) q9) rfl rfl ⟨Nat.le_of_ble_eq_true rfl, Nat.le_of_ble_eq_true rfl, fun _ => ⟨rfl, rfl⟩⟩ (Nat.le_of_ble_eq_true rfl) rfl (post_I (fun sq => ?_))
      have srh10 : SR h h10 := srh7.trans sq
      clear sq q9
      refine V.i2l dX11_ahead_37 ?_
      refine V.lreturn dX11_ahead_38 rfl ⟨rfl, rfl⟩ ly.1 ?_
      exact ret_L hf srh10
    · replace hf := ite_n hf c5
      refine V.aload_n dX11_ahead_11 rfl rfl rfl ?_
      refine V.iconst (v := 1) dX11_ahead_12 rfl ?_
      obtain ⟨r14, h13, q12, hf2⟩ := bd2_el hf
      replace hf := hf2
      clear hf2
      refine V.callVI dX11_ahead_13 ml_X11_105 mo_X11_refuse mv_X11_refuse rfl (fun q hq => by cases hq; rfl) (by decide) (Or.inl ⟨rfl, SHL_lt rfl⟩) (th_X11_refuse (srh.ly ly) q12) rfl rfl ⟨Nat.le_of_ble_eq_true rfl, Nat.le_of_ble_eq_true rfl, fun _ => ⟨rfl, rfl⟩⟩ (Nat.le_of_ble_eq_true rfl) rfl (post_I (fun sq => ?_))
      have srh13 : SR h h13 := srh.trans sq
      clear sq q12
      refine V.i2l dX11_ahead_16 ?_
      refine V.lreturn dX11_ahead_17 rfl ⟨rfl, rfl⟩ ly.1 ?_
      exact ret_L hf srh13
set_option maxRecDepth 100000 in
theorem th_X11_again {h : HP} (ly : Lay h) {t : Nat} (hT : isT t) (pr : hR h 0 8 = t) {a1 : Int32} {rr : Int32} {hh : HP} (hf : f_X11_again h t a1 = some (rr, hh)) : Spec yX11_again cX11_again miX11_again [.ref 0, .int a1] h (pI fun r' h' => (r' = rr ∧ h' = hh) ∧ SR h hh) := by
  refine Spec.of (ls0 := [.ref 0, .int a1]) mo_X11_again (Nat.le_of_ble_eq_true rfl) rfl ?_
  rw [ly.1]
  have srh : SR h h := SR.refl h
  unfold f_X11_again at hf
  refine V.iload_n dX11_again_0 rfl rfl ?_
  refine V.if_lt (tgt := 9) dX11_again_1 (by decide) (fun c1 => ?_) (fun c1 => ?_)
  · replace hf := ite_p hf c1
    refine V.aload_n dX11_again_9 rfl rfl rfl ?_
    refine V.iconst (v := 1) dX11_again_10 rfl ?_
    obtain ⟨r4, h3, q2, hf2⟩ := bd2_el hf
    replace hf := hf2
    clear hf2
    refine V.callVI dX11_again_11 ml_X11_105 mo_X11_refuse mv_X11_refuse rfl (fun q hq => by cases hq; rfl) (by decide) (Or.inl ⟨rfl, SHL_lt rfl⟩) (th_X11_refuse (srh.ly ly) q2) rfl rfl ⟨Nat.le_of_ble_eq_true rfl, Nat.le_of_ble_eq_true rfl, fun _ => ⟨rfl, rfl⟩⟩ (Nat.le_of_ble_eq_true rfl) rfl (post_I (fun sq => ?_))
    have srh3 : SR h h3 := srh.trans sq
    clear sq q2
    refine V.ireturn dX11_again_14 rfl rfl ⟨rfl, rfl⟩ ly.1 ?_
    exact ret_I hf srh3
  · replace hf := ite_n hf c1
    refine V.iload_n dX11_again_4 rfl rfl ?_
    refine V.iconst (v := 1) dX11_again_5 rfl ?_
    refine V.icmp_le (tgt := 15) dX11_again_6 (by decide) (fun c5 => ?_) (fun c5 => ?_)
    · replace hf := ite_p hf c5
      refine V.aload_n dX11_again_15 rfl rfl rfl ?_
      refine V.getR (r := 72) dX11_again_16 fl_X11_40 rfl (Or.inl ⟨rfl, SHL_lt rfl⟩) rfl (ly_0_4 (srh.ly ly)) ?_
      refine V.aload_n dX11_again_19 rfl rfl rfl ?_
      refine V.getR (r := t) dX11_again_20 fl_X11_61 rfl (Or.inl ⟨rfl, SHL_lt rfl⟩) rfl (srh.pr pr) ?_
      obtain ⟨r8, h7, q6, hf2⟩ := bd2_el hf
      replace hf := hf2
      clear hf2
      refine V.callVI dX11_again_23 ml_X11_273 mo_X3_findRound mv_X3_findRound rfl (fun q hq => by cases hq; rfl) (by decide) (Or.inl ⟨rfl, SHL_lt rfl⟩) (th_X3_findRound (srh.ly ly) hT q6) rfl rfl ⟨Nat.le_of_ble_eq_true rfl, Nat.le_of_ble_eq_true rfl, fun _ => ⟨rfl, rfl⟩⟩ (Nat.le_of_ble_eq_true rfl) rfl (post_I (fun sq => ?_))
      have srh7 : SR h h7 := srh.trans sq
      clear sq q6
      refine V.if_ne (tgt := 36) dX11_again_26 (by decide) (fun c9 => ?_) (fun c9 => ?_)
      · replace hf := ite_n hf c9
        refine V.aload_n dX11_again_36 rfl rfl rfl ?_
        refine V.iload_n dX11_again_37 rfl rfl ?_
        refine V.if_ne (tgt := 51) dX11_again_38 (by decide) (fun c10 => ?_) (fun c10 => ?_)
        · replace hf := ite_n hf c10
          refine V.aload_n dX11_again_51 rfl rfl rfl ?_
          refine V.getR (r := 72) dX11_again_52 fl_X11_40 rfl (Or.inl ⟨rfl, SHL_lt rfl⟩) rfl (ly_0_4 (srh7.ly ly)) ?_
          refine V.getI dX11_again_55 fl_X11_280 rfl (Or.inl ⟨rfl, SHL_lt rfl⟩) rfl rfl ?_
          obtain ⟨r13, h12, q11, hf2⟩ := bd2_el hf
          replace hf := hf2
          clear hf2
          refine V.callVI dX11_again_58 ml_X11_161 mo_X11_answer mv_X11_answer rfl (fun q hq => by cases hq; rfl) (by decide) (Or.inl ⟨rfl, SHL_lt rfl⟩) (th_X11_answer (srh7.ly ly) q11) rfl rfl ⟨Nat.le_of_ble_eq_true rfl, Nat.le_of_ble_eq_true rfl, fun _ => ⟨rfl, rfl⟩⟩ (Nat.le_of_ble_eq_true rfl) rfl (post_I (fun sq => ?_))
          have srh12 : SR h h12 := srh7.trans sq
          clear sq q11
          refine V.ireturn dX11_again_61 rfl rfl ⟨rfl, rfl⟩ ly.1 ?_
          exact ret_I hf srh12
        · replace hf := ite_p hf c10
          refine V.aload_n dX11_again_41 rfl rfl rfl ?_
          refine V.getR (r := 72) dX11_again_42 fl_X11_40 rfl (Or.inl ⟨rfl, SHL_lt rfl⟩) rfl (ly_0_4 (srh7.ly ly)) ?_
          refine V.getI dX11_again_45 fl_X11_277 rfl (Or.inl ⟨rfl, SHL_lt rfl⟩) rfl rfl ?_
          refine V.goto (tgt := 58) dX11_again_48 (by decide) ?_
          obtain ⟨r16, h15, q14, hf2⟩ := bd2_el hf
          replace hf := hf2
          clear hf2
          refine V.callVI dX11_again_58 ml_X11_161 mo_X11_answer mv_X11_answer rfl (fun q hq => by cases hq; rfl) (by decide) (Or.inl ⟨rfl, SHL_lt rfl⟩) (th_X11_answer (srh7.ly ly) q14) rfl rfl ⟨Nat.le_of_ble_eq_true rfl, Nat.le_of_ble_eq_true rfl, fun _ => ⟨rfl, rfl⟩⟩ (Nat.le_of_ble_eq_true rfl) rfl (post_I (fun sq => ?_))
          have srh15 : SR h h15 := srh7.trans sq
          clear sq q14
          refine V.ireturn dX11_again_61 rfl rfl ⟨rfl, rfl⟩ ly.1 ?_
          exact ret_I hf srh15
      · replace hf := ite_p hf c9
        refine V.aload_n dX11_again_29 rfl rfl rfl ?_
        refine V.bipush (v := 7) dX11_again_30 rfl ?_
        obtain ⟨r19, h18, q17, hf2⟩ := bd2_el hf
        replace hf := hf2
        clear hf2
        refine V.callVI dX11_again_32 ml_X11_105 mo_X11_refuse mv_X11_refuse rfl (fun q hq => by cases hq; rfl) (by decide) (Or.inl ⟨rfl, SHL_lt rfl⟩) (th_X11_refuse (srh7.ly ly) q17) rfl rfl ⟨Nat.le_of_ble_eq_true rfl, Nat.le_of_ble_eq_true rfl, fun _ => ⟨rfl, rfl⟩⟩ (Nat.le_of_ble_eq_true rfl) rfl (post_I (fun sq => ?_))
        have srh18 : SR h h18 := srh7.trans sq
        clear sq q17
        refine V.ireturn dX11_again_35 rfl rfl ⟨rfl, rfl⟩ ly.1 ?_
        exact ret_I hf srh18
    · replace hf := ite_n hf c5
      refine V.aload_n dX11_again_9 rfl rfl rfl ?_
      refine V.iconst (v := 1) dX11_again_10 rfl ?_
      obtain ⟨r22, h21, q20, hf2⟩ := bd2_el hf
      replace hf := hf2
      clear hf2
      refine V.callVI dX11_again_11 ml_X11_105 mo_X11_refuse mv_X11_refuse rfl (fun q hq => by cases hq; rfl) (by decide) (Or.inl ⟨rfl, SHL_lt rfl⟩) (th_X11_refuse (srh.ly ly) q20) rfl rfl ⟨Nat.le_of_ble_eq_true rfl, Nat.le_of_ble_eq_true rfl, fun _ => ⟨rfl, rfl⟩⟩ (Nat.le_of_ble_eq_true rfl) rfl (post_I (fun sq => ?_))
      have srh21 : SR h h21 := srh.trans sq
      clear sq q20
      refine V.ireturn dX11_again_14 rfl rfl ⟨rfl, rfl⟩ ly.1 ?_
      exact ret_I hf srh21
set_option maxRecDepth 100000 in
theorem th_X11_far {h : HP} (ly : Lay h) {t : Nat} (hT : isT t) (pr : hR h 0 8 = t) {a1 : Int32} {rr : Int64} {hh : HP} (hf : f_X11_far h t a1 = some (rr, hh)) : Spec yX11_far cX11_far miX11_far [.ref 0, .int a1] h (pL fun r' h' => (r' = rr ∧ h' = hh) ∧ SR h hh) := by
  refine Spec.of (ls0 := [.ref 0, .int a1]) mo_X11_far (Nat.le_of_ble_eq_true rfl) rfl ?_
  rw [ly.1]
  have srh : SR h h := SR.refl h
  unfold f_X11_far at hf
  refine V.iload_n dX11_far_0 rfl rfl ?_
  refine V.if_lt (tgt := 11) dX11_far_1 (by decide) (fun c1 => ?_) (fun c1 => ?_)
  · replace hf := ite_p hf c1
    refine V.aload_n dX11_far_11 rfl rfl rfl ?_
    refine V.iconst (v := 1) dX11_far_12 rfl ?_
    obtain ⟨r4, h3, q2, hf2⟩ := bd2_el hf
    replace hf := hf2
    clear hf2
    refine V.callVI dX11_far_13 ml_X11_105 mo_X11_refuse mv_X11_refuse rfl (fun q hq => by cases hq; rfl) (by decide) (Or.inl ⟨rfl, SHL_lt rfl⟩) (th_X11_refuse (srh.ly ly) q2) rfl rfl ⟨Nat.le_of_ble_eq_true rfl, Nat.le_of_ble_eq_true rfl, fun _ => ⟨rfl, rfl⟩⟩ (Nat.le_of_ble_eq_true rfl) rfl (post_I (fun sq => ?_))
    have srh3 : SR h h3 := srh.trans sq
    clear sq q2
    refine V.i2l dX11_far_16 ?_
    refine V.lreturn dX11_far_17 rfl ⟨rfl, rfl⟩ ly.1 ?_
    exact ret_L hf srh3
  · replace hf := ite_n hf c1
    refine V.iload_n dX11_far_4 rfl rfl ?_
    refine V.ldcw (v := 999999999) dX11_far_5 kc_X11_283 ?_
    refine V.icmp_le (tgt := 18) dX11_far_8 (by decide) (fun c5 => ?_) (fun c5 => ?_)
    · replace hf := ite_p hf c5
      refine V.aload_n dX11_far_18 rfl rfl rfl ?_
      refine V.getR (r := 72) dX11_far_19 fl_X11_40 rfl (Or.inl ⟨rfl, SHL_lt rfl⟩) rfl (ly_0_4 (srh.ly ly)) ?_
      refine V.aload_n dX11_far_22 rfl rfl rfl ?_
      refine V.getR (r := t) dX11_far_23 fl_X11_61 rfl (Or.inl ⟨rfl, SHL_lt rfl⟩) rfl (srh.pr pr) ?_
      obtain ⟨r8, h7, q6, hf2⟩ := bd2_el hf
      replace hf := hf2
      clear hf2
      refine V.callVI dX11_far_26 ml_X11_273 mo_X3_findRound mv_X3_findRound rfl (fun q hq => by cases hq; rfl) (by decide) (Or.inl ⟨rfl, SHL_lt rfl⟩) (th_X3_findRound (srh.ly ly) hT q6) rfl rfl ⟨Nat.le_of_ble_eq_true rfl, Nat.le_of_ble_eq_true rfl, fun _ => ⟨rfl, rfl⟩⟩ (Nat.le_of_ble_eq_true rfl) rfl (post_I (fun sq => ?_))
      have srh7 : SR h h7 := srh.trans sq
      clear sq q6
      refine V.if_ne (tgt := 40) dX11_far_29 (by decide) (fun c9 => ?_) (fun c9 => ?_)
      · replace hf := ite_n hf c9
        refine V.aload_n dX11_far_40 rfl rfl rfl ?_
        refine V.aload_n dX11_far_41 rfl rfl rfl ?_
        refine V.getR (r := 72) dX11_far_42 fl_X11_40 rfl (Or.inl ⟨rfl, SHL_lt rfl⟩) rfl (ly_0_4 (srh7.ly ly)) ?_
        refine V.aload_n dX11_far_45 rfl rfl rfl ?_
        refine V.getR (r := t) dX11_far_46 fl_X11_61 rfl (Or.inl ⟨rfl, SHL_lt rfl⟩) rfl (srh7.pr pr) ?_
        refine V.iload_n dX11_far_49 rfl rfl ?_
        obtain ⟨r12, h11, q10, hf2⟩ := bd2_el hf
        replace hf := hf2
        clear hf2
        refine V.callVI dX11_far_50 ml_X11_284 mo_X3_farAhead mv_X3_farAhead rfl (fun q hq => by cases hq; rfl) (by decide) (Or.inl ⟨rfl, SHL_lt rfl⟩) (th_X3_farAhead (srh7.ly ly) hT q10) rfl rfl ⟨Nat.le_of_ble_eq_true rfl, Nat.le_of_ble_eq_true rfl, fun _ => ⟨rfl, rfl⟩⟩ (Nat.le_of_ble_eq_true rfl) rfl (post_I (fun sq => ?_))
        have srh11 : SR h h11 := srh7.trans sq
        clear sq q10
        obtain ⟨r15, h14, q13, hf2⟩ := bd2_el hf
        replace hf := hf2
        clear hf2
        refine V.callVI dX11_far_53 ml_X11_161 mo_X11_answer mv_X11_answer rfl (fun q hq => by cases hq; rfl) (by decide) (Or.inl ⟨rfl, SHL_lt rfl⟩) (th_X11_answer (srh11.ly ly) q13) rfl rfl ⟨Nat.le_of_ble_eq_true rfl, Nat.le_of_ble_eq_true rfl, fun _ => ⟨rfl, rfl⟩⟩ (Nat.le_of_ble_eq_true rfl) rfl (post_I (fun sq => ?_))
        have srh14 : SR h h14 := srh11.trans sq
        clear sq q13
        refine V.i2l dX11_far_56 ?_
        refine V.lreturn dX11_far_57 rfl ⟨rfl, rfl⟩ ly.1 ?_
        exact ret_L hf srh14
      · replace hf := ite_p hf c9
        refine V.aload_n dX11_far_32 rfl rfl rfl ?_
        refine V.bipush (v := 7) dX11_far_33 rfl ?_
        obtain ⟨r18, h17, q16, hf2⟩ := bd2_el hf
        replace hf := hf2
        clear hf2
        refine V.callVI dX11_far_35 ml_X11_105 mo_X11_refuse mv_X11_refuse rfl (fun q hq => by cases hq; rfl) (by decide) (Or.inl ⟨rfl, SHL_lt rfl⟩) (th_X11_refuse (srh7.ly ly) q16) rfl rfl ⟨Nat.le_of_ble_eq_true rfl, Nat.le_of_ble_eq_true rfl, fun _ => ⟨rfl, rfl⟩⟩ (Nat.le_of_ble_eq_true rfl) rfl (post_I (fun sq => ?_))
        have srh17 : SR h h17 := srh7.trans sq
        clear sq q16
        refine V.i2l dX11_far_38 ?_
        refine V.lreturn dX11_far_39 rfl ⟨rfl, rfl⟩ ly.1 ?_
        exact ret_L hf srh17
    · replace hf := ite_n hf c5
      refine V.aload_n dX11_far_11 rfl rfl rfl ?_
      refine V.iconst (v := 1) dX11_far_12 rfl ?_
      obtain ⟨r21, h20, q19, hf2⟩ := bd2_el hf
      replace hf := hf2
      clear hf2
      refine V.callVI dX11_far_13 ml_X11_105 mo_X11_refuse mv_X11_refuse rfl (fun q hq => by cases hq; rfl) (by decide) (Or.inl ⟨rfl, SHL_lt rfl⟩) (th_X11_refuse (srh.ly ly) q19) rfl rfl ⟨Nat.le_of_ble_eq_true rfl, Nat.le_of_ble_eq_true rfl, fun _ => ⟨rfl, rfl⟩⟩ (Nat.le_of_ble_eq_true rfl) rfl (post_I (fun sq => ?_))
      have srh20 : SR h h20 := srh.trans sq
      clear sq q19
      refine V.i2l dX11_far_16 ?_
      refine V.lreturn dX11_far_17 rfl ⟨rfl, rfl⟩ ly.1 ?_
      exact ret_L hf srh20
set_option maxRecDepth 100000 in
theorem th_X11_walks {h : HP} (ly : Lay h) {t : Nat} (hT : isT t) (pr : hR h 0 8 = t) {a1 : Int32} {rr : Int32} {hh : HP} (hf : f_X11_walks h t a1 = some (rr, hh)) : Spec yX11_walks cX11_walks miX11_walks [.ref 0, .int a1] h (pI fun r' h' => (r' = rr ∧ h' = hh) ∧ SR h hh) := by
  refine Spec.of (ls0 := [.ref 0, .int a1]) mo_X11_walks (Nat.le_of_ble_eq_true rfl) rfl ?_
  rw [ly.1]
  have srh : SR h h := SR.refl h
  unfold f_X11_walks at hf
  refine V.iload_n dX11_walks_0 rfl rfl ?_
  refine V.if_lt (tgt := 9) dX11_walks_1 (by decide) (fun c1 => ?_) (fun c1 => ?_)
  · replace hf := ite_p hf c1
    refine V.aload_n dX11_walks_9 rfl rfl rfl ?_
    refine V.iconst (v := 1) dX11_walks_10 rfl ?_
    obtain ⟨r4, h3, q2, hf2⟩ := bd2_el hf
    replace hf := hf2
    clear hf2
    refine V.callVI dX11_walks_11 ml_X11_105 mo_X11_refuse mv_X11_refuse rfl (fun q hq => by cases hq; rfl) (by decide) (Or.inl ⟨rfl, SHL_lt rfl⟩) (th_X11_refuse (srh.ly ly) q2) rfl rfl ⟨Nat.le_of_ble_eq_true rfl, Nat.le_of_ble_eq_true rfl, fun _ => ⟨rfl, rfl⟩⟩ (Nat.le_of_ble_eq_true rfl) rfl (post_I (fun sq => ?_))
    have srh3 : SR h h3 := srh.trans sq
    clear sq q2
    refine V.ireturn dX11_walks_14 rfl rfl ⟨rfl, rfl⟩ ly.1 ?_
    exact ret_I hf srh3
  · replace hf := ite_n hf c1
    refine V.iload_n dX11_walks_4 rfl rfl ?_
    refine V.iconst (v := 2) dX11_walks_5 rfl ?_
    refine V.icmp_le (tgt := 15) dX11_walks_6 (by decide) (fun c5 => ?_) (fun c5 => ?_)
    · replace hf := ite_p hf c5
      refine V.aload_n dX11_walks_15 rfl rfl rfl ?_
      refine V.getR (r := 72) dX11_walks_16 fl_X11_40 rfl (Or.inl ⟨rfl, SHL_lt rfl⟩) rfl (ly_0_4 (srh.ly ly)) ?_
      refine V.aload_n dX11_walks_19 rfl rfl rfl ?_
      refine V.getR (r := t) dX11_walks_20 fl_X11_61 rfl (Or.inl ⟨rfl, SHL_lt rfl⟩) rfl (srh.pr pr) ?_
      obtain ⟨r8, h7, q6, hf2⟩ := bd2_el hf
      replace hf := hf2
      clear hf2
      refine V.callVI dX11_walks_23 ml_X11_288 mo_X3_findWalk mv_X3_findWalk rfl (fun q hq => by cases hq; rfl) (by decide) (Or.inl ⟨rfl, SHL_lt rfl⟩) (th_X3_findWalk (srh.ly ly) hT q6) rfl rfl ⟨Nat.le_of_ble_eq_true rfl, Nat.le_of_ble_eq_true rfl, fun _ => ⟨rfl, rfl⟩⟩ (Nat.le_of_ble_eq_true rfl) rfl (post_I (fun sq => ?_))
      have srh7 : SR h h7 := srh.trans sq
      clear sq q6
      refine V.if_ne (tgt := 36) dX11_walks_26 (by decide) (fun c9 => ?_) (fun c9 => ?_)
      · replace hf := ite_n hf c9
        refine V.iload_n dX11_walks_36 rfl rfl ?_
        refine V.if_ne (tgt := 52) dX11_walks_37 (by decide) (fun c10 => ?_) (fun c10 => ?_)
        · replace hf := ite_n hf c10
          refine V.aload_n dX11_walks_52 rfl rfl rfl ?_
          refine V.iload_n dX11_walks_53 rfl rfl ?_
          refine V.iconst (v := 1) dX11_walks_54 rfl ?_
          refine V.icmp_ne (tgt := 68) dX11_walks_55 (by decide) (fun c11 => ?_) (fun c11 => ?_)
          · replace hf := ite_n hf c11
            refine V.aload_n dX11_walks_68 rfl rfl rfl ?_
            refine V.getR (r := 72) dX11_walks_69 fl_X11_40 rfl (Or.inl ⟨rfl, SHL_lt rfl⟩) rfl (ly_0_4 (srh7.ly ly)) ?_
            refine V.getI dX11_walks_72 fl_X11_297 rfl (Or.inl ⟨rfl, SHL_lt rfl⟩) rfl rfl ?_
            obtain ⟨r14, h13, q12, hf2⟩ := bd2_el hf
            replace hf := hf2
            clear hf2
            refine V.callVI dX11_walks_75 ml_X11_161 mo_X11_answer mv_X11_answer rfl (fun q hq => by cases hq; rfl) (by decide) (Or.inl ⟨rfl, SHL_lt rfl⟩) (th_X11_answer (srh7.ly ly) q12) rfl rfl ⟨Nat.le_of_ble_eq_true rfl, Nat.le_of_ble_eq_true rfl, fun _ => ⟨rfl, rfl⟩⟩ (Nat.le_of_ble_eq_true rfl) rfl (post_I (fun sq => ?_))
            have srh13 : SR h h13 := srh7.trans sq
            clear sq q12
            refine V.ireturn dX11_walks_78 rfl rfl ⟨rfl, rfl⟩ ly.1 ?_
            exact ret_I hf srh13
          · replace hf := ite_p hf c11
            refine V.aload_n dX11_walks_58 rfl rfl rfl ?_
            refine V.getR (r := 72) dX11_walks_59 fl_X11_40 rfl (Or.inl ⟨rfl, SHL_lt rfl⟩) rfl (ly_0_4 (srh7.ly ly)) ?_
            refine V.getI dX11_walks_62 fl_X11_294 rfl (Or.inl ⟨rfl, SHL_lt rfl⟩) rfl rfl ?_
            refine V.goto (tgt := 75) dX11_walks_65 (by decide) ?_
            obtain ⟨r17, h16, q15, hf2⟩ := bd2_el hf
            replace hf := hf2
            clear hf2
            refine V.callVI dX11_walks_75 ml_X11_161 mo_X11_answer mv_X11_answer rfl (fun q hq => by cases hq; rfl) (by decide) (Or.inl ⟨rfl, SHL_lt rfl⟩) (th_X11_answer (srh7.ly ly) q15) rfl rfl ⟨Nat.le_of_ble_eq_true rfl, Nat.le_of_ble_eq_true rfl, fun _ => ⟨rfl, rfl⟩⟩ (Nat.le_of_ble_eq_true rfl) rfl (post_I (fun sq => ?_))
            have srh16 : SR h h16 := srh7.trans sq
            clear sq q15
            refine V.ireturn dX11_walks_78 rfl rfl ⟨rfl, rfl⟩ ly.1 ?_
            exact ret_I hf srh16
        · replace hf := ite_p hf c10
          refine V.aload_n dX11_walks_40 rfl rfl rfl ?_
          refine V.aload_n dX11_walks_41 rfl rfl rfl ?_
          refine V.getR (r := 72) dX11_walks_42 fl_X11_40 rfl (Or.inl ⟨rfl, SHL_lt rfl⟩) rfl (ly_0_4 (srh7.ly ly)) ?_
          refine V.getI dX11_walks_45 fl_X11_291 rfl (Or.inl ⟨rfl, SHL_lt rfl⟩) rfl rfl ?_
          obtain ⟨r20, h19, q18, hf2⟩ := bd2_el hf
          replace hf := hf2
          clear hf2
          refine V.callVI dX11_walks_48 ml_X11_161 mo_X11_answer mv_X11_answer rfl (fun q hq => by cases hq; rfl) (by decide) (Or.inl ⟨rfl, SHL_lt rfl⟩) (th_X11_answer (srh7.ly ly) q18) rfl rfl ⟨Nat.le_of_ble_eq_true rfl, Nat.le_of_ble_eq_true rfl, fun _ => ⟨rfl, rfl⟩⟩ (Nat.le_of_ble_eq_true rfl) rfl (post_I (fun sq => ?_))
          have srh19 : SR h h19 := srh7.trans sq
          clear sq q18
          refine V.ireturn dX11_walks_51 rfl rfl ⟨rfl, rfl⟩ ly.1 ?_
          exact ret_I hf srh19
      · replace hf := ite_p hf c9
        refine V.aload_n dX11_walks_29 rfl rfl rfl ?_
        refine V.bipush (v := 6) dX11_walks_30 rfl ?_
        obtain ⟨r23, h22, q21, hf2⟩ := bd2_el hf
        replace hf := hf2
        clear hf2
        refine V.callVI dX11_walks_32 ml_X11_105 mo_X11_refuse mv_X11_refuse rfl (fun q hq => by cases hq; rfl) (by decide) (Or.inl ⟨rfl, SHL_lt rfl⟩) (th_X11_refuse (srh7.ly ly) q21) rfl rfl ⟨Nat.le_of_ble_eq_true rfl, Nat.le_of_ble_eq_true rfl, fun _ => ⟨rfl, rfl⟩⟩ (Nat.le_of_ble_eq_true rfl) rfl (post_I (fun sq => ?_))
        have srh22 : SR h h22 := srh7.trans sq
        clear sq q21
        refine V.ireturn dX11_walks_35 rfl rfl ⟨rfl, rfl⟩ ly.1 ?_
        exact ret_I hf srh22
    · replace hf := ite_n hf c5
      refine V.aload_n dX11_walks_9 rfl rfl rfl ?_
      refine V.iconst (v := 1) dX11_walks_10 rfl ?_
      obtain ⟨r26, h25, q24, hf2⟩ := bd2_el hf
      replace hf := hf2
      clear hf2
      refine V.callVI dX11_walks_11 ml_X11_105 mo_X11_refuse mv_X11_refuse rfl (fun q hq => by cases hq; rfl) (by decide) (Or.inl ⟨rfl, SHL_lt rfl⟩) (th_X11_refuse (srh.ly ly) q24) rfl rfl ⟨Nat.le_of_ble_eq_true rfl, Nat.le_of_ble_eq_true rfl, fun _ => ⟨rfl, rfl⟩⟩ (Nat.le_of_ble_eq_true rfl) rfl (post_I (fun sq => ?_))
      have srh25 : SR h h25 := srh.trans sq
      clear sq q24
      refine V.ireturn dX11_walks_14 rfl rfl ⟨rfl, rfl⟩ ly.1 ?_
      exact ret_I hf srh25
set_option maxRecDepth 100000 in
theorem th_X11_still {h : HP} (ly : Lay h) {t : Nat} (hT : isT t) (pr : hR h 0 8 = t)  {rr : Int32} {hh : HP} (hf : f_X11_still h t = some (rr, hh)) : Spec yX11_still cX11_still miX11_still [.ref 0] h (pI fun r' h' => (r' = rr ∧ h' = hh) ∧ SR h hh) := by
  refine Spec.of (ls0 := [.ref 0]) mo_X11_still (Nat.le_of_ble_eq_true rfl) rfl ?_
  rw [ly.1]
  have srh : SR h h := SR.refl h
  unfold f_X11_still at hf
  refine V.aload_n dX11_still_0 rfl rfl rfl ?_
  refine V.aload_n dX11_still_1 rfl rfl rfl ?_
  refine V.getR (r := t) dX11_still_2 fl_X11_61 rfl (Or.inl ⟨rfl, SHL_lt rfl⟩) rfl (srh.pr pr) ?_
  obtain ⟨r3, h2, q1, hf2⟩ := bd2_el hf
  replace hf := hf2
  clear hf2
  refine V.callVI dX11_still_5 ml_X11_300 mo_X5_isStill mv_X5_isStill (sT0 hT) (fun q hq => by cases hq; rfl) (by decide) (Or.inl ⟨rfl, SHL_lt (sT0 hT)⟩) (th_X5_isStill (srh.ly ly) hT q1) rfl rfl ⟨Nat.le_of_ble_eq_true rfl, Nat.le_of_ble_eq_true rfl, fun _ => ⟨rfl, rfl⟩⟩ (Nat.le_of_ble_eq_true rfl) rfl (post_I (fun sq => ?_))
  have srh2 : SR h h2 := srh.trans sq
  clear sq q1
  refine V.if_eq (tgt := 15) dX11_still_8 (by decide) (fun c4 => ?_) (fun c4 => ?_)
  · replace hf := ite_p hf c4
    refine V.iconst (v := 0) dX11_still_15 rfl ?_
    obtain ⟨r7, h6, q5, hf2⟩ := bd2_el hf
    replace hf := hf2
    clear hf2
    refine V.callVI dX11_still_16 ml_X11_161 mo_X11_answer mv_X11_answer rfl (fun q hq => by cases hq; rfl) (by decide) (Or.inl ⟨rfl, SHL_lt rfl⟩) (th_X11_answer (srh2.ly ly) q5) rfl rfl ⟨Nat.le_of_ble_eq_true rfl, Nat.le_of_ble_eq_true rfl, fun _ => ⟨rfl, rfl⟩⟩ (Nat.le_of_ble_eq_true rfl) rfl (post_I (fun sq => ?_))
    have srh6 : SR h h6 := srh2.trans sq
    clear sq q5
    refine V.ireturn dX11_still_19 rfl rfl ⟨rfl, rfl⟩ ly.1 ?_
    exact ret_I hf srh6
  · replace hf := ite_n hf c4
    refine V.iconst (v := 1) dX11_still_11 rfl ?_
    refine V.goto (tgt := 16) dX11_still_12 (by decide) ?_
    obtain ⟨r10, h9, q8, hf2⟩ := bd2_el hf
    replace hf := hf2
    clear hf2
    refine V.callVI dX11_still_16 ml_X11_161 mo_X11_answer mv_X11_answer rfl (fun q hq => by cases hq; rfl) (by decide) (Or.inl ⟨rfl, SHL_lt rfl⟩) (th_X11_answer (srh2.ly ly) q8) rfl rfl ⟨Nat.le_of_ble_eq_true rfl, Nat.le_of_ble_eq_true rfl, fun _ => ⟨rfl, rfl⟩⟩ (Nat.le_of_ble_eq_true rfl) rfl (post_I (fun sq => ?_))
    have srh9 : SR h h9 := srh2.trans sq
    clear sq q8
    refine V.ireturn dX11_still_19 rfl rfl ⟨rfl, rfl⟩ ly.1 ?_
    exact ret_I hf srh9
set_option maxRecDepth 100000 in
theorem th_X11_next {h : HP} (ly : Lay h) {t : Nat} (hT : isT t) (pr : hR h 0 8 = t) {a1 : Int32} {rr : Int32} {hh : HP} (hf : f_X11_next h t a1 = some (rr, hh)) : Spec yX11_next cX11_next miX11_next [.ref 0, .int a1] h (pI fun r' h' => (r' = rr ∧ h' = hh) ∧ SR h hh) := by
  refine Spec.of (ls0 := [.ref 0, .int a1, .null, .null]) mo_X11_next (Nat.le_of_ble_eq_true rfl) rfl ?_
  rw [ly.1]
  have srh : SR h h := SR.refl h
  unfold f_X11_next at hf
  refine V.aload_n dX11_next_0 rfl rfl rfl ?_
  refine V.getR (r := t) dX11_next_1 fl_X11_61 rfl (Or.inl ⟨rfl, SHL_lt rfl⟩) rfl (srh.pr pr) ?_
  refine V.getI dX11_next_4 fl_X11_198 (sT0 hT) (Or.inl ⟨rfl, SHL_lt (sT0 hT)⟩) rfl rfl ?_
  refine V.nmi (fun x1 ex1 => ?_)
  replace hf := lt_el hf x1 ex1
  refine V.istore_n (ls' := [.ref 0, .int a1, .int x1, .null]) dX11_next_7 rfl (by decide) rfl ?_
  refine V.aload_n dX11_next_8 rfl rfl rfl ?_
  refine V.getR (r := t) dX11_next_9 fl_X11_61 rfl (Or.inl ⟨rfl, SHL_lt rfl⟩) rfl (srh.pr pr) ?_
  refine V.iload_n dX11_next_12 rfl rfl ?_
  obtain ⟨r4, h3, q2, hf2⟩ := bd2_el hf
  replace hf := hf2
  clear hf2
  refine V.callVI dX11_next_13 ml_X11_303 mo_X5_nextOf mv_X5_nextOf (sT0 hT) (fun q hq => by cases hq; rfl) (by decide) (Or.inl ⟨rfl, SHL_lt (sT0 hT)⟩) (th_X5_nextOf (srh.ly ly) hT q2) rfl rfl ⟨Nat.le_of_ble_eq_true rfl, Nat.le_of_ble_eq_true rfl, fun _ => ⟨rfl, rfl⟩⟩ (Nat.le_of_ble_eq_true rfl) rfl (post_I (fun sq => ?_))
  have srh3 : SR h h3 := srh.trans sq
  clear sq q2
  refine V.istore_n (ls' := [.ref 0, .int a1, .int x1, .int r4]) dX11_next_16 rfl (by decide) rfl ?_
  refine V.iload_n dX11_next_17 rfl rfl ?_
  by_cases c5 : a1 = 0
  · replace hf := ite_p hf c5
    refine V.tableIn (tgt := 44) dX11_next_18 (by rw [c5]; decide) (by rw [c5]; decide) (by rw [c5]; rfl) (by decide) ?_
    refine V.aload_n dX11_next_44 rfl rfl rfl ?_
    refine V.iload_n dX11_next_45 rfl rfl ?_
    refine V.iload_n dX11_next_46 rfl rfl ?_
    refine V.iconst (v := (-1)) dX11_next_47 rfl ?_
    refine V.ixor dX11_next_48 ?_
    refine V.iand dX11_next_49 ?_
    obtain ⟨r8, h7, q6, hf2⟩ := bd2_el hf
    replace hf := hf2
    clear hf2
    refine V.callSI dX11_next_50 ml_X11_156 mo_J6_bitCount_0f7a4 ms_J6_bitCount_0f7a4 (th_J6_bitCount_0f7a4 (srh3.ly ly) q6) rfl rfl ⟨Nat.le_of_ble_eq_true rfl, Nat.le_of_ble_eq_true rfl, fun _ => ⟨rfl, rfl⟩⟩ (Nat.le_of_ble_eq_true rfl) rfl (post_I (fun sq => ?_))
    have srh7 : SR h h7 := srh3.trans sq
    clear sq q6
    obtain ⟨r11, h10, q9, hf2⟩ := bd2_el hf
    replace hf := hf2
    clear hf2
    refine V.callVI dX11_next_53 ml_X11_161 mo_X11_answer mv_X11_answer rfl (fun q hq => by cases hq; rfl) (by decide) (Or.inl ⟨rfl, SHL_lt rfl⟩) (th_X11_answer (srh7.ly ly) q9) rfl rfl ⟨Nat.le_of_ble_eq_true rfl, Nat.le_of_ble_eq_true rfl, fun _ => ⟨rfl, rfl⟩⟩ (Nat.le_of_ble_eq_true rfl) rfl (post_I (fun sq => ?_))
    have srh10 : SR h h10 := srh7.trans sq
    clear sq q9
    refine V.ireturn dX11_next_56 rfl rfl ⟨rfl, rfl⟩ ly.1 ?_
    exact ret_I hf srh10
  replace hf := ite_n hf c5
  by_cases c12 : a1 = 1
  · replace hf := ite_p hf c12
    refine V.tableIn (tgt := 57) dX11_next_18 (by rw [c12]; decide) (by rw [c12]; decide) (by rw [c12]; rfl) (by decide) ?_
    refine V.aload_n dX11_next_57 rfl rfl rfl ?_
    refine V.iload_n dX11_next_58 rfl rfl ?_
    refine V.iload_n dX11_next_59 rfl rfl ?_
    refine V.iconst (v := (-1)) dX11_next_60 rfl ?_
    refine V.ixor dX11_next_61 ?_
    refine V.iand dX11_next_62 ?_
    obtain ⟨r15, h14, q13, hf2⟩ := bd2_el hf
    replace hf := hf2
    clear hf2
    refine V.callSI dX11_next_63 ml_X11_156 mo_J6_bitCount_0f7a4 ms_J6_bitCount_0f7a4 (th_J6_bitCount_0f7a4 (srh3.ly ly) q13) rfl rfl ⟨Nat.le_of_ble_eq_true rfl, Nat.le_of_ble_eq_true rfl, fun _ => ⟨rfl, rfl⟩⟩ (Nat.le_of_ble_eq_true rfl) rfl (post_I (fun sq => ?_))
    have srh14 : SR h h14 := srh3.trans sq
    clear sq q13
    obtain ⟨r18, h17, q16, hf2⟩ := bd2_el hf
    replace hf := hf2
    clear hf2
    refine V.callVI dX11_next_66 ml_X11_161 mo_X11_answer mv_X11_answer rfl (fun q hq => by cases hq; rfl) (by decide) (Or.inl ⟨rfl, SHL_lt rfl⟩) (th_X11_answer (srh14.ly ly) q16) rfl rfl ⟨Nat.le_of_ble_eq_true rfl, Nat.le_of_ble_eq_true rfl, fun _ => ⟨rfl, rfl⟩⟩ (Nat.le_of_ble_eq_true rfl) rfl (post_I (fun sq => ?_))
    have srh17 : SR h h17 := srh14.trans sq
    clear sq q16
    refine V.ireturn dX11_next_69 rfl rfl ⟨rfl, rfl⟩ ly.1 ?_
    exact ret_I hf srh17
  replace hf := ite_n hf c12
  by_cases c19 : a1 = 2
  · replace hf := ite_p hf c19
    refine V.tableIn (tgt := 70) dX11_next_18 (by rw [c19]; decide) (by rw [c19]; decide) (by rw [c19]; rfl) (by decide) ?_
    refine V.aload_n dX11_next_70 rfl rfl rfl ?_
    refine V.iload_n dX11_next_71 rfl rfl ?_
    refine V.iload_n dX11_next_72 rfl rfl ?_
    refine V.iand dX11_next_73 ?_
    obtain ⟨r22, h21, q20, hf2⟩ := bd2_el hf
    replace hf := hf2
    clear hf2
    refine V.callSI dX11_next_74 ml_X11_156 mo_J6_bitCount_0f7a4 ms_J6_bitCount_0f7a4 (th_J6_bitCount_0f7a4 (srh3.ly ly) q20) rfl rfl ⟨Nat.le_of_ble_eq_true rfl, Nat.le_of_ble_eq_true rfl, fun _ => ⟨rfl, rfl⟩⟩ (Nat.le_of_ble_eq_true rfl) rfl (post_I (fun sq => ?_))
    have srh21 : SR h h21 := srh3.trans sq
    clear sq q20
    obtain ⟨r25, h24, q23, hf2⟩ := bd2_el hf
    replace hf := hf2
    clear hf2
    refine V.callVI dX11_next_77 ml_X11_161 mo_X11_answer mv_X11_answer rfl (fun q hq => by cases hq; rfl) (by decide) (Or.inl ⟨rfl, SHL_lt rfl⟩) (th_X11_answer (srh21.ly ly) q23) rfl rfl ⟨Nat.le_of_ble_eq_true rfl, Nat.le_of_ble_eq_true rfl, fun _ => ⟨rfl, rfl⟩⟩ (Nat.le_of_ble_eq_true rfl) rfl (post_I (fun sq => ?_))
    have srh24 : SR h h24 := srh21.trans sq
    clear sq q23
    refine V.ireturn dX11_next_80 rfl rfl ⟨rfl, rfl⟩ ly.1 ?_
    exact ret_I hf srh24
  replace hf := ite_n hf c19
  have nc5 := lv_neT c5 (a := 0) rfl
  have nc12 := lv_neT c12 (a := 1) rfl
  have nc19 := lv_neT c19 (a := 2) rfl
  refine V.tableOut (tgt := 81) dX11_next_18 (by omega) (by decide) ?_
  refine V.aload_n dX11_next_81 rfl rfl rfl ?_
  refine V.iconst (v := 1) dX11_next_82 rfl ?_
  obtain ⟨r28, h27, q26, hf2⟩ := bd2_el hf
  replace hf := hf2
  clear hf2
  refine V.callVI dX11_next_83 ml_X11_105 mo_X11_refuse mv_X11_refuse rfl (fun q hq => by cases hq; rfl) (by decide) (Or.inl ⟨rfl, SHL_lt rfl⟩) (th_X11_refuse (srh3.ly ly) q26) rfl rfl ⟨Nat.le_of_ble_eq_true rfl, Nat.le_of_ble_eq_true rfl, fun _ => ⟨rfl, rfl⟩⟩ (Nat.le_of_ble_eq_true rfl) rfl (post_I (fun sq => ?_))
  have srh27 : SR h h27 := srh3.trans sq
  clear sq q26
  refine V.ireturn dX11_next_86 rfl rfl ⟨rfl, rfl⟩ ly.1 ?_
  exact ret_I hf srh27
set_option maxRecDepth 100000 in
theorem th_X11_oil_30 {h0 : HP} (ly : Lay h0) {t : Nat} (hT : isT t) (pr : hR h0 0 8 = t) {rr : Int32} {hh : HP}  : ∀ (n : Nat) (l1 : Int32) (l2 : Int32) (l3 : Int32) (l4 : Int32) (h : HP), SR h0 h → f_X11_oil_30 t n l1 l2 l3 l4 h = some (rr, hh) → V cX11_oil miX11_oil (ZI h0 miX11_oil rr hh) 130 30 [.ref 0, .int l1, .int l2, .int l3, .int l4] [] h := by
  intro n
  induction n with
  | zero => intro l1 l2 l3 l4 h srh hf; exact absurd hf (by unfold f_X11_oil_30; simp)
  | succ n ih =>
    intro l1 l2 l3 l4 h srh hf
    unfold f_X11_oil_30 at hf
    refine V.iload dX11_oil_30 rfl ?_
    refine V.sipush (v := 999) dX11_oil_32 rfl ?_
    refine V.icmp_ge (tgt := 68) dX11_oil_35 (by decide) (fun c10 => ?_) (fun c10 => ?_)
    · replace hf := ite_p hf c10
      refine V.aload_n dX11_oil_68 rfl rfl rfl ?_
      refine V.iload dX11_oil_69 rfl ?_
      obtain ⟨r13, h12, q11, hf2⟩ := bd2_el hf
      replace hf := hf2
      clear hf2
      refine V.callVI dX11_oil_71 ml_X11_161 mo_X11_answer mv_X11_answer rfl (fun q hq => by cases hq; rfl) (by decide) (Or.inl ⟨rfl, SHL_lt rfl⟩) (th_X11_answer (srh.ly ly) q11) rfl rfl ⟨Nat.le_of_ble_eq_true rfl, Nat.le_of_ble_eq_true rfl, fun _ => ⟨rfl, rfl⟩⟩ (Nat.le_of_ble_eq_true rfl) rfl (post_I (fun sq => ?_))
      have srh12 : SR h0 h12 := srh.trans sq
      clear sq q11
      refine V.ireturn dX11_oil_74 rfl rfl ⟨rfl, rfl⟩ ly.1 ?_
      exact ret_I hf srh12
    · replace hf := ite_n hf c10
      refine V.iload_n dX11_oil_38 rfl rfl ?_
      refine V.iload_n dX11_oil_39 rfl rfl ?_
      obtain ⟨r16, h15, q14, hf2⟩ := bd2_el hf
      replace hf := hf2
      clear hf2
      refine V.callSI dX11_oil_40 ml_X11_156 mo_J6_bitCount_0f7a4 ms_J6_bitCount_0f7a4 (th_J6_bitCount_0f7a4 (srh.ly ly) q14) rfl rfl ⟨Nat.le_of_ble_eq_true rfl, Nat.le_of_ble_eq_true rfl, fun _ => ⟨rfl, rfl⟩⟩ (Nat.le_of_ble_eq_true rfl) rfl (post_I (fun sq => ?_))
      have srh15 : SR h0 h15 := srh.trans sq
      clear sq q14
      refine V.iadd dX11_oil_43 ?_
      refine V.nmi (fun x17 ex17 => ?_)
      replace hf := lt_el hf x17 ex17
      refine V.istore_n (ls' := [.ref 0, .int l1, .int l2, .int x17, .int l4]) dX11_oil_44 rfl (by decide) rfl ?_
      refine V.iload_n dX11_oil_45 rfl rfl ?_
      refine V.iload_n dX11_oil_46 rfl rfl ?_
      refine V.icmp_le (tgt := 53) dX11_oil_47 (by decide) (fun c18 => ?_) (fun c18 => ?_)
      · replace hf := ite_p hf c18
        refine V.aload_n dX11_oil_53 rfl rfl rfl ?_
        refine V.getR (r := t) dX11_oil_54 fl_X11_61 rfl (Or.inl ⟨rfl, SHL_lt rfl⟩) rfl (srh15.pr pr) ?_
        refine V.iload_n dX11_oil_57 rfl rfl ?_
        obtain ⟨r21, h20, q19, hf2⟩ := bd2_el hf
        replace hf := hf2
        clear hf2
        refine V.callVI dX11_oil_58 ml_X11_303 mo_X5_nextOf mv_X5_nextOf (sT0 hT) (fun q hq => by cases hq; rfl) (by decide) (Or.inl ⟨rfl, SHL_lt (sT0 hT)⟩) (th_X5_nextOf (srh15.ly ly) hT q19) rfl rfl ⟨Nat.le_of_ble_eq_true rfl, Nat.le_of_ble_eq_true rfl, fun _ => ⟨rfl, rfl⟩⟩ (Nat.le_of_ble_eq_true rfl) rfl (post_I (fun sq => ?_))
        have srh20 : SR h0 h20 := srh15.trans sq
        clear sq q19
        refine V.istore_n (ls' := [.ref 0, .int l1, .int r21, .int x17, .int l4]) dX11_oil_61 rfl (by decide) rfl ?_
        obtain ⟨x22, ex22⟩ : ∃ y : Int32, y = l4 + 1 := ⟨_, rfl⟩
        replace hf := lt_el hf x22 ex22
        refine V.iinc (v := x22) (ls' := [.ref 0, .int l1, .int r21, .int x17, .int x22]) dX11_oil_62 rfl (by decide) ex22.symm rfl ?_
        refine V.goto (tgt := 30) dX11_oil_65 (by decide) ?_
        exact ih l1 r21 x17 x22 h20 srh20 hf
      · replace hf := ite_n hf c18
        refine V.goto (tgt := 68) dX11_oil_50 (by decide) ?_
        refine V.aload_n dX11_oil_68 rfl rfl rfl ?_
        refine V.iload dX11_oil_69 rfl ?_
        obtain ⟨r25, h24, q23, hf2⟩ := bd2_el hf
        replace hf := hf2
        clear hf2
        refine V.callVI dX11_oil_71 ml_X11_161 mo_X11_answer mv_X11_answer rfl (fun q hq => by cases hq; rfl) (by decide) (Or.inl ⟨rfl, SHL_lt rfl⟩) (th_X11_answer (srh15.ly ly) q23) rfl rfl ⟨Nat.le_of_ble_eq_true rfl, Nat.le_of_ble_eq_true rfl, fun _ => ⟨rfl, rfl⟩⟩ (Nat.le_of_ble_eq_true rfl) rfl (post_I (fun sq => ?_))
        have srh24 : SR h0 h24 := srh15.trans sq
        clear sq q23
        refine V.ireturn dX11_oil_74 rfl rfl ⟨rfl, rfl⟩ ly.1 ?_
        exact ret_I hf srh24
set_option maxRecDepth 100000 in
theorem th_X11_oil {h : HP} (ly : Lay h) {t : Nat} (hT : isT t) (pr : hR h 0 8 = t) {a1 : Int32} {rr : Int32} {hh : HP} (hf : f_X11_oil h t a1 = some (rr, hh)) : Spec yX11_oil cX11_oil miX11_oil [.ref 0, .int a1] h (pI fun r' h' => (r' = rr ∧ h' = hh) ∧ SR h hh) := by
  refine Spec.of (ls0 := [.ref 0, .int a1, .null, .null, .null]) mo_X11_oil (Nat.le_of_ble_eq_true rfl) rfl ?_
  rw [ly.1]
  have srh : SR h h := SR.refl h
  unfold f_X11_oil at hf
  refine V.iload_n dX11_oil_0 rfl rfl ?_
  refine V.if_lt (tgt := 11) dX11_oil_1 (by decide) (fun c1 => ?_) (fun c1 => ?_)
  · replace hf := ite_p hf c1
    refine V.aload_n dX11_oil_11 rfl rfl rfl ?_
    refine V.iconst (v := 1) dX11_oil_12 rfl ?_
    obtain ⟨r4, h3, q2, hf2⟩ := bd2_el hf
    replace hf := hf2
    clear hf2
    refine V.callVI dX11_oil_13 ml_X11_105 mo_X11_refuse mv_X11_refuse rfl (fun q hq => by cases hq; rfl) (by decide) (Or.inl ⟨rfl, SHL_lt rfl⟩) (th_X11_refuse (srh.ly ly) q2) rfl rfl ⟨Nat.le_of_ble_eq_true rfl, Nat.le_of_ble_eq_true rfl, fun _ => ⟨rfl, rfl⟩⟩ (Nat.le_of_ble_eq_true rfl) rfl (post_I (fun sq => ?_))
    have srh3 : SR h h3 := srh.trans sq
    clear sq q2
    refine V.ireturn dX11_oil_16 rfl rfl ⟨rfl, rfl⟩ ly.1 ?_
    exact ret_I hf srh3
  · replace hf := ite_n hf c1
    refine V.iload_n dX11_oil_4 rfl rfl ?_
    refine V.sipush (v := 9999) dX11_oil_5 rfl ?_
    refine V.icmp_le (tgt := 17) dX11_oil_8 (by decide) (fun c5 => ?_) (fun c5 => ?_)
    · replace hf := ite_p hf c5
      refine V.aload_n dX11_oil_17 rfl rfl rfl ?_
      refine V.getR (r := t) dX11_oil_18 fl_X11_61 rfl (Or.inl ⟨rfl, SHL_lt rfl⟩) rfl (srh.pr pr) ?_
      refine V.getI dX11_oil_21 fl_X11_198 (sT0 hT) (Or.inl ⟨rfl, SHL_lt (sT0 hT)⟩) rfl rfl ?_
      refine V.nmi (fun x6 ex6 => ?_)
      replace hf := lt_el hf x6 ex6
      refine V.istore_n (ls' := [.ref 0, .int a1, .int x6, .null, .null]) dX11_oil_24 rfl (by decide) rfl ?_
      refine V.iconst (v := 0) dX11_oil_25 rfl ?_
      refine V.istore_n (ls' := [.ref 0, .int a1, .int x6, .int 0, .null]) dX11_oil_26 rfl (by decide) rfl ?_
      refine V.iconst (v := 0) dX11_oil_27 rfl ?_
      refine V.istore (ls' := [.ref 0, .int a1, .int x6, .int 0, .int 0]) dX11_oil_28 (by decide) rfl ?_
      exact th_X11_oil_30 ly hT pr FU a1 x6 0 0 h srh hf
    · replace hf := ite_n hf c5
      refine V.aload_n dX11_oil_11 rfl rfl rfl ?_
      refine V.iconst (v := 1) dX11_oil_12 rfl ?_
      obtain ⟨r9, h8, q7, hf2⟩ := bd2_el hf
      replace hf := hf2
      clear hf2
      refine V.callVI dX11_oil_13 ml_X11_105 mo_X11_refuse mv_X11_refuse rfl (fun q hq => by cases hq; rfl) (by decide) (Or.inl ⟨rfl, SHL_lt rfl⟩) (th_X11_refuse (srh.ly ly) q7) rfl rfl ⟨Nat.le_of_ble_eq_true rfl, Nat.le_of_ble_eq_true rfl, fun _ => ⟨rfl, rfl⟩⟩ (Nat.le_of_ble_eq_true rfl) rfl (post_I (fun sq => ?_))
      have srh8 : SR h h8 := srh.trans sq
      clear sq q7
      refine V.ireturn dX11_oil_16 rfl rfl ⟨rfl, rfl⟩ ly.1 ?_
      exact ret_I hf srh8
set_option maxRecDepth 100000 in
theorem th_X11_brightest_33 {h0 : HP} (ly : Lay h0) {t : Nat} (hT : isT t) (pr : hR h0 0 8 = t) {rr : Int32} {hh : HP}  : ∀ (n : Nat) (l1 : Int32) (l2 : Int32) (l3 : Int32) (l4 : Int32) (h : HP), SR h0 h → f_X11_brightest_33 t n l1 l2 l3 l4 h = some (rr, hh) → V cX11_brightest miX11_brightest (ZI h0 miX11_brightest rr hh) 130 33 [.ref 0, .int l1, .int l2, .int l3, .int l4] [] h := by
  intro n
  induction n with
  | zero => intro l1 l2 l3 l4 h srh hf; exact absurd hf (by unfold f_X11_brightest_33; simp)
  | succ n ih =>
    intro l1 l2 l3 l4 h srh hf
    unfold f_X11_brightest_33 at hf
    refine V.iload dX11_brightest_33 rfl ?_
    refine V.iload_n dX11_brightest_35 rfl rfl ?_
    refine V.icmp_ge (tgt := 63) dX11_brightest_36 (by decide) (fun c13 => ?_) (fun c13 => ?_)
    · replace hf := ite_p hf c13
      refine V.aload_n dX11_brightest_63 rfl rfl rfl ?_
      refine V.iload_n dX11_brightest_64 rfl rfl ?_
      obtain ⟨r16, h15, q14, hf2⟩ := bd2_el hf
      replace hf := hf2
      clear hf2
      refine V.callVI dX11_brightest_65 ml_X11_161 mo_X11_answer mv_X11_answer rfl (fun q hq => by cases hq; rfl) (by decide) (Or.inl ⟨rfl, SHL_lt rfl⟩) (th_X11_answer (srh.ly ly) q14) rfl rfl ⟨Nat.le_of_ble_eq_true rfl, Nat.le_of_ble_eq_true rfl, fun _ => ⟨rfl, rfl⟩⟩ (Nat.le_of_ble_eq_true rfl) rfl (post_I (fun sq => ?_))
      have srh15 : SR h0 h15 := srh.trans sq
      clear sq q14
      refine V.ireturn dX11_brightest_68 rfl rfl ⟨rfl, rfl⟩ ly.1 ?_
      exact ret_I hf srh15
    · replace hf := ite_n hf c13
      refine V.aload_n dX11_brightest_39 rfl rfl rfl ?_
      refine V.getR (r := t) dX11_brightest_40 fl_X11_61 rfl (Or.inl ⟨rfl, SHL_lt rfl⟩) rfl (srh.pr pr) ?_
      refine V.iload_n dX11_brightest_43 rfl rfl ?_
      obtain ⟨r19, h18, q17, hf2⟩ := bd2_el hf
      replace hf := hf2
      clear hf2
      refine V.callVI dX11_brightest_44 ml_X11_303 mo_X5_nextOf mv_X5_nextOf (sT0 hT) (fun q hq => by cases hq; rfl) (by decide) (Or.inl ⟨rfl, SHL_lt (sT0 hT)⟩) (th_X5_nextOf (srh.ly ly) hT q17) rfl rfl ⟨Nat.le_of_ble_eq_true rfl, Nat.le_of_ble_eq_true rfl, fun _ => ⟨rfl, rfl⟩⟩ (Nat.le_of_ble_eq_true rfl) rfl (post_I (fun sq => ?_))
      have srh18 : SR h0 h18 := srh.trans sq
      clear sq q17
      refine V.istore_n (ls' := [.ref 0, .int l1, .int r19, .int l3, .int l4]) dX11_brightest_47 rfl (by decide) rfl ?_
      refine V.iload_n dX11_brightest_48 rfl rfl ?_
      refine V.iload_n dX11_brightest_49 rfl rfl ?_
      obtain ⟨r22, h21, q20, hf2⟩ := bd2_el hf
      replace hf := hf2
      clear hf2
      refine V.callSI dX11_brightest_50 ml_X11_156 mo_J6_bitCount_0f7a4 ms_J6_bitCount_0f7a4 (th_J6_bitCount_0f7a4 (srh18.ly ly) q20) rfl rfl ⟨Nat.le_of_ble_eq_true rfl, Nat.le_of_ble_eq_true rfl, fun _ => ⟨rfl, rfl⟩⟩ (Nat.le_of_ble_eq_true rfl) rfl (post_I (fun sq => ?_))
      have srh21 : SR h0 h21 := srh18.trans sq
      clear sq q20
      refine V.max dX11_brightest_53 lk_X11_306 max_ok rfl ⟨Nat.le_of_ble_eq_true rfl, Nat.le_of_ble_eq_true rfl⟩ ?_
      refine V.nmi (fun x23 ex23 => ?_)
      replace hf := lt_el hf x23 ex23
      refine V.istore_n (ls' := [.ref 0, .int l1, .int r19, .int x23, .int l4]) dX11_brightest_56 rfl (by decide) rfl ?_
      obtain ⟨x24, ex24⟩ : ∃ y : Int32, y = l4 + 1 := ⟨_, rfl⟩
      replace hf := lt_el hf x24 ex24
      refine V.iinc (v := x24) (ls' := [.ref 0, .int l1, .int r19, .int x23, .int x24]) dX11_brightest_57 rfl (by decide) ex24.symm rfl ?_
      refine V.goto (tgt := 33) dX11_brightest_60 (by decide) ?_
      exact ih l1 r19 x23 x24 h21 srh21 hf
set_option maxRecDepth 100000 in
theorem th_X11_brightest {h : HP} (ly : Lay h) {t : Nat} (hT : isT t) (pr : hR h 0 8 = t) {a1 : Int32} {rr : Int32} {hh : HP} (hf : f_X11_brightest h t a1 = some (rr, hh)) : Spec yX11_brightest cX11_brightest miX11_brightest [.ref 0, .int a1] h (pI fun r' h' => (r' = rr ∧ h' = hh) ∧ SR h hh) := by
  refine Spec.of (ls0 := [.ref 0, .int a1, .null, .null, .null]) mo_X11_brightest (Nat.le_of_ble_eq_true rfl) rfl ?_
  rw [ly.1]
  have srh : SR h h := SR.refl h
  unfold f_X11_brightest at hf
  refine V.iload_n dX11_brightest_0 rfl rfl ?_
  refine V.if_lt (tgt := 11) dX11_brightest_1 (by decide) (fun c1 => ?_) (fun c1 => ?_)
  · replace hf := ite_p hf c1
    refine V.aload_n dX11_brightest_11 rfl rfl rfl ?_
    refine V.iconst (v := 1) dX11_brightest_12 rfl ?_
    obtain ⟨r4, h3, q2, hf2⟩ := bd2_el hf
    replace hf := hf2
    clear hf2
    refine V.callVI dX11_brightest_13 ml_X11_105 mo_X11_refuse mv_X11_refuse rfl (fun q hq => by cases hq; rfl) (by decide) (Or.inl ⟨rfl, SHL_lt rfl⟩) (th_X11_refuse (srh.ly ly) q2) rfl rfl ⟨Nat.le_of_ble_eq_true rfl, Nat.le_of_ble_eq_true rfl, fun _ => ⟨rfl, rfl⟩⟩ (Nat.le_of_ble_eq_true rfl) rfl (post_I (fun sq => ?_))
    have srh3 : SR h h3 := srh.trans sq
    clear sq q2
    refine V.ireturn dX11_brightest_16 rfl rfl ⟨rfl, rfl⟩ ly.1 ?_
    exact ret_I hf srh3
  · replace hf := ite_n hf c1
    refine V.iload_n dX11_brightest_4 rfl rfl ?_
    refine V.sipush (v := 999) dX11_brightest_5 rfl ?_
    refine V.icmp_le (tgt := 17) dX11_brightest_8 (by decide) (fun c5 => ?_) (fun c5 => ?_)
    · replace hf := ite_p hf c5
      refine V.aload_n dX11_brightest_17 rfl rfl rfl ?_
      refine V.getR (r := t) dX11_brightest_18 fl_X11_61 rfl (Or.inl ⟨rfl, SHL_lt rfl⟩) rfl (srh.pr pr) ?_
      refine V.getI dX11_brightest_21 fl_X11_198 (sT0 hT) (Or.inl ⟨rfl, SHL_lt (sT0 hT)⟩) rfl rfl ?_
      refine V.nmi (fun x6 ex6 => ?_)
      replace hf := lt_el hf x6 ex6
      refine V.istore_n (ls' := [.ref 0, .int a1, .int x6, .null, .null]) dX11_brightest_24 rfl (by decide) rfl ?_
      refine V.iload_n dX11_brightest_25 rfl rfl ?_
      obtain ⟨r9, h8, q7, hf2⟩ := bd2_el hf
      replace hf := hf2
      clear hf2
      refine V.callSI dX11_brightest_26 ml_X11_156 mo_J6_bitCount_0f7a4 ms_J6_bitCount_0f7a4 (th_J6_bitCount_0f7a4 (srh.ly ly) q7) rfl rfl ⟨Nat.le_of_ble_eq_true rfl, Nat.le_of_ble_eq_true rfl, fun _ => ⟨rfl, rfl⟩⟩ (Nat.le_of_ble_eq_true rfl) rfl (post_I (fun sq => ?_))
      have srh8 : SR h h8 := srh.trans sq
      clear sq q7
      refine V.istore_n (ls' := [.ref 0, .int a1, .int x6, .int r9, .null]) dX11_brightest_29 rfl (by decide) rfl ?_
      refine V.iconst (v := 0) dX11_brightest_30 rfl ?_
      refine V.istore (ls' := [.ref 0, .int a1, .int x6, .int r9, .int 0]) dX11_brightest_31 (by decide) rfl ?_
      exact th_X11_brightest_33 ly hT pr FU a1 x6 r9 0 h8 srh8 hf
    · replace hf := ite_n hf c5
      refine V.aload_n dX11_brightest_11 rfl rfl rfl ?_
      refine V.iconst (v := 1) dX11_brightest_12 rfl ?_
      obtain ⟨r12, h11, q10, hf2⟩ := bd2_el hf
      replace hf := hf2
      clear hf2
      refine V.callVI dX11_brightest_13 ml_X11_105 mo_X11_refuse mv_X11_refuse rfl (fun q hq => by cases hq; rfl) (by decide) (Or.inl ⟨rfl, SHL_lt rfl⟩) (th_X11_refuse (srh.ly ly) q10) rfl rfl ⟨Nat.le_of_ble_eq_true rfl, Nat.le_of_ble_eq_true rfl, fun _ => ⟨rfl, rfl⟩⟩ (Nat.le_of_ble_eq_true rfl) rfl (post_I (fun sq => ?_))
      have srh11 : SR h h11 := srh.trans sq
      clear sq q10
      refine V.ireturn dX11_brightest_16 rfl rfl ⟨rfl, rfl⟩ ly.1 ?_
      exact ret_I hf srh11
set_option maxRecDepth 100000 in
theorem th_X11_ancestors {h : HP} (ly : Lay h) {t : Nat} (hT : isT t) (pr : hR h 0 8 = t)  {rr : Int64} {hh : HP} (hf : f_X11_ancestors h t = some (rr, hh)) : Spec yX11_ancestors cX11_ancestors miX11_ancestors [.ref 0] h (pL fun r' h' => (r' = rr ∧ h' = hh) ∧ SR h hh) := by
  refine Spec.of (ls0 := [.ref 0]) mo_X11_ancestors (Nat.le_of_ble_eq_true rfl) rfl ?_
  rw [ly.1]
  have srh : SR h h := SR.refl h
  unfold f_X11_ancestors at hf
  refine V.aload_n dX11_ancestors_0 rfl rfl rfl ?_
  refine V.aload_n dX11_ancestors_1 rfl rfl rfl ?_
  refine V.getR (r := 65) dX11_ancestors_2 fl_X11_33 rfl (Or.inl ⟨rfl, SHL_lt rfl⟩) rfl (ly_0_3 (srh.ly ly)) ?_
  refine V.aload_n dX11_ancestors_5 rfl rfl rfl ?_
  refine V.getR (r := t) dX11_ancestors_6 fl_X11_61 rfl (Or.inl ⟨rfl, SHL_lt rfl⟩) rfl (srh.pr pr) ?_
  refine V.iconst (v := 0) dX11_ancestors_9 rfl ?_
  obtain ⟨r3, h2, q1, hf2⟩ := bd2_el hf
  replace hf := hf2
  clear hf2
  refine V.callVI dX11_ancestors_10 ml_X11_311 mo_X0_countWays mv_X0_countWays rfl (fun q hq => by cases hq; rfl) (by decide) (Or.inl ⟨rfl, SHL_lt rfl⟩) (th_X0_countWays (srh.ly ly) hT q1) rfl rfl ⟨Nat.le_of_ble_eq_true rfl, Nat.le_of_ble_eq_true rfl, fun _ => ⟨rfl, rfl⟩⟩ (Nat.le_of_ble_eq_true rfl) rfl (post_I (fun sq => ?_))
  have srh2 : SR h h2 := srh.trans sq
  clear sq q1
  obtain ⟨r6, h5, q4, hf2⟩ := bd2_el hf
  replace hf := hf2
  clear hf2
  refine V.callVI dX11_ancestors_13 ml_X11_161 mo_X11_answer mv_X11_answer rfl (fun q hq => by cases hq; rfl) (by decide) (Or.inl ⟨rfl, SHL_lt rfl⟩) (th_X11_answer (srh2.ly ly) q4) rfl rfl ⟨Nat.le_of_ble_eq_true rfl, Nat.le_of_ble_eq_true rfl, fun _ => ⟨rfl, rfl⟩⟩ (Nat.le_of_ble_eq_true rfl) rfl (post_I (fun sq => ?_))
  have srh5 : SR h h5 := srh2.trans sq
  clear sq q4
  refine V.i2l dX11_ancestors_16 ?_
  refine V.lreturn dX11_ancestors_17 rfl ⟨rfl, rfl⟩ ly.1 ?_
  exact ret_L hf srh5
set_option maxRecDepth 100000 in
theorem th_X11_ancestor {h : HP} (ly : Lay h) {t : Nat} (hT : isT t) (pr : hR h 0 8 = t)  {rr : Int64} {hh : HP} (hf : f_X11_ancestor h t = some (rr, hh)) : Spec yX11_ancestor cX11_ancestor miX11_ancestor [.ref 0] h (pL fun r' h' => (r' = rr ∧ h' = hh) ∧ SR h hh) := by
  refine Spec.of (ls0 := [.ref 0]) mo_X11_ancestor (Nat.le_of_ble_eq_true rfl) rfl ?_
  rw [ly.1]
  have srh : SR h h := SR.refl h
  unfold f_X11_ancestor at hf
  refine V.aload_n dX11_ancestor_0 rfl rfl rfl ?_
  refine V.getR (r := 65) dX11_ancestor_1 fl_X11_33 rfl (Or.inl ⟨rfl, SHL_lt rfl⟩) rfl (ly_0_3 (srh.ly ly)) ?_
  refine V.aload_n dX11_ancestor_4 rfl rfl rfl ?_
  refine V.getR (r := t) dX11_ancestor_5 fl_X11_61 rfl (Or.inl ⟨rfl, SHL_lt rfl⟩) rfl (srh.pr pr) ?_
  refine V.iconst (v := 0) dX11_ancestor_8 rfl ?_
  obtain ⟨r3, h2, q1, hf2⟩ := bd2_el hf
  replace hf := hf2
  clear hf2
  refine V.callVI dX11_ancestor_9 ml_X11_311 mo_X0_countWays mv_X0_countWays rfl (fun q hq => by cases hq; rfl) (by decide) (Or.inl ⟨rfl, SHL_lt rfl⟩) (th_X0_countWays (srh.ly ly) hT q1) rfl rfl ⟨Nat.le_of_ble_eq_true rfl, Nat.le_of_ble_eq_true rfl, fun _ => ⟨rfl, rfl⟩⟩ (Nat.le_of_ble_eq_true rfl) rfl (post_I (fun sq => ?_))
  have srh2 : SR h h2 := srh.trans sq
  clear sq q1
  refine V.if_ne (tgt := 25) dX11_ancestor_12 (by decide) (fun c4 => ?_) (fun c4 => ?_)
  · replace hf := ite_n hf c4
    refine V.aload_n dX11_ancestor_25 rfl rfl rfl ?_
    refine V.aload_n dX11_ancestor_26 rfl rfl rfl ?_
    refine V.getR (r := 65) dX11_ancestor_27 fl_X11_33 rfl (Or.inl ⟨rfl, SHL_lt rfl⟩) rfl (ly_0_3 (srh2.ly ly)) ?_
    obtain ⟨r7, h6, q5, hf2⟩ := bd2_el hf
    replace hf := hf2
    clear hf2
    refine V.callVI dX11_ancestor_30 ml_X11_315 mo_X0_leastFound mv_X0_leastFound rfl (fun q hq => by cases hq; rfl) (by decide) (Or.inl ⟨rfl, SHL_lt rfl⟩) (th_X0_leastFound (srh2.ly ly) q5) rfl rfl ⟨Nat.le_of_ble_eq_true rfl, Nat.le_of_ble_eq_true rfl, fun _ => ⟨rfl, rfl⟩⟩ (Nat.le_of_ble_eq_true rfl) rfl (post_I (fun sq => ?_))
    have srh6 : SR h h6 := srh2.trans sq
    clear sq q5
    obtain ⟨r10, h9, q8, hf2⟩ := bd2_el hf
    replace hf := hf2
    clear hf2
    refine V.callVI dX11_ancestor_33 ml_X11_161 mo_X11_answer mv_X11_answer rfl (fun q hq => by cases hq; rfl) (by decide) (Or.inl ⟨rfl, SHL_lt rfl⟩) (th_X11_answer (srh6.ly ly) q8) rfl rfl ⟨Nat.le_of_ble_eq_true rfl, Nat.le_of_ble_eq_true rfl, fun _ => ⟨rfl, rfl⟩⟩ (Nat.le_of_ble_eq_true rfl) rfl (post_I (fun sq => ?_))
    have srh9 : SR h h9 := srh6.trans sq
    clear sq q8
    refine V.i2l dX11_ancestor_36 ?_
    refine V.lreturn dX11_ancestor_37 rfl ⟨rfl, rfl⟩ ly.1 ?_
    exact ret_L hf srh9
  · replace hf := ite_p hf c4
    refine V.aload_n dX11_ancestor_15 rfl rfl rfl ?_
    refine V.bipush (v := 6) dX11_ancestor_16 rfl ?_
    obtain ⟨r13, h12, q11, hf2⟩ := bd2_el hf
    replace hf := hf2
    clear hf2
    refine V.callVI dX11_ancestor_18 ml_X11_105 mo_X11_refuse mv_X11_refuse rfl (fun q hq => by cases hq; rfl) (by decide) (Or.inl ⟨rfl, SHL_lt rfl⟩) (th_X11_refuse (srh2.ly ly) q11) rfl rfl ⟨Nat.le_of_ble_eq_true rfl, Nat.le_of_ble_eq_true rfl, fun _ => ⟨rfl, rfl⟩⟩ (Nat.le_of_ble_eq_true rfl) rfl (post_I (fun sq => ?_))
    have srh12 : SR h h12 := srh2.trans sq
    clear sq q11
    refine V.i2l dX11_ancestor_21 ?_
    refine V.goto (tgt := 37) dX11_ancestor_22 (by decide) ?_
    refine V.lreturn dX11_ancestor_37 rfl ⟨rfl, rfl⟩ ly.1 ?_
    exact ret_L hf srh12
set_option maxRecDepth 100000 in
theorem th_X11_stills {h : HP} (ly : Lay h) {t : Nat} (hT : isT t) (pr : hR h 0 8 = t)  {rr : Int64} {hh : HP} (hf : f_X11_stills h t = some (rr, hh)) : Spec yX11_stills cX11_stills miX11_stills [.ref 0] h (pL fun r' h' => (r' = rr ∧ h' = hh) ∧ SR h hh) := by
  refine Spec.of (ls0 := [.ref 0]) mo_X11_stills (Nat.le_of_ble_eq_true rfl) rfl ?_
  rw [ly.1]
  have srh : SR h h := SR.refl h
  unfold f_X11_stills at hf
  refine V.aload_n dX11_stills_0 rfl rfl rfl ?_
  refine V.aload_n dX11_stills_1 rfl rfl rfl ?_
  refine V.getR (r := 65) dX11_stills_2 fl_X11_33 rfl (Or.inl ⟨rfl, SHL_lt rfl⟩) rfl (ly_0_3 (srh.ly ly)) ?_
  refine V.aload_n dX11_stills_5 rfl rfl rfl ?_
  refine V.getR (r := t) dX11_stills_6 fl_X11_61 rfl (Or.inl ⟨rfl, SHL_lt rfl⟩) rfl (srh.pr pr) ?_
  refine V.iconst (v := 1) dX11_stills_9 rfl ?_
  obtain ⟨r3, h2, q1, hf2⟩ := bd2_el hf
  replace hf := hf2
  clear hf2
  refine V.callVI dX11_stills_10 ml_X11_311 mo_X0_countWays mv_X0_countWays rfl (fun q hq => by cases hq; rfl) (by decide) (Or.inl ⟨rfl, SHL_lt rfl⟩) (th_X0_countWays (srh.ly ly) hT q1) rfl rfl ⟨Nat.le_of_ble_eq_true rfl, Nat.le_of_ble_eq_true rfl, fun _ => ⟨rfl, rfl⟩⟩ (Nat.le_of_ble_eq_true rfl) rfl (post_I (fun sq => ?_))
  have srh2 : SR h h2 := srh.trans sq
  clear sq q1
  obtain ⟨r6, h5, q4, hf2⟩ := bd2_el hf
  replace hf := hf2
  clear hf2
  refine V.callVI dX11_stills_13 ml_X11_161 mo_X11_answer mv_X11_answer rfl (fun q hq => by cases hq; rfl) (by decide) (Or.inl ⟨rfl, SHL_lt rfl⟩) (th_X11_answer (srh2.ly ly) q4) rfl rfl ⟨Nat.le_of_ble_eq_true rfl, Nat.le_of_ble_eq_true rfl, fun _ => ⟨rfl, rfl⟩⟩ (Nat.le_of_ble_eq_true rfl) rfl (post_I (fun sq => ?_))
  have srh5 : SR h h5 := srh2.trans sq
  clear sq q4
  refine V.i2l dX11_stills_16 ?_
  refine V.lreturn dX11_stills_17 rfl ⟨rfl, rfl⟩ ly.1 ?_
  exact ret_L hf srh5
set_option maxRecDepth 100000 in
theorem th_X11_firstStill {h : HP} (ly : Lay h) {t : Nat} (hT : isT t) (pr : hR h 0 8 = t)  {rr : Int64} {hh : HP} (hf : f_X11_firstStill h t = some (rr, hh)) : Spec yX11_firstStill cX11_firstStill miX11_firstStill [.ref 0] h (pL fun r' h' => (r' = rr ∧ h' = hh) ∧ SR h hh) := by
  refine Spec.of (ls0 := [.ref 0]) mo_X11_firstStill (Nat.le_of_ble_eq_true rfl) rfl ?_
  rw [ly.1]
  have srh : SR h h := SR.refl h
  unfold f_X11_firstStill at hf
  refine V.aload_n dX11_firstStill_0 rfl rfl rfl ?_
  refine V.getR (r := 65) dX11_firstStill_1 fl_X11_33 rfl (Or.inl ⟨rfl, SHL_lt rfl⟩) rfl (ly_0_3 (srh.ly ly)) ?_
  refine V.aload_n dX11_firstStill_4 rfl rfl rfl ?_
  refine V.getR (r := t) dX11_firstStill_5 fl_X11_61 rfl (Or.inl ⟨rfl, SHL_lt rfl⟩) rfl (srh.pr pr) ?_
  refine V.iconst (v := 1) dX11_firstStill_8 rfl ?_
  obtain ⟨r3, h2, q1, hf2⟩ := bd2_el hf
  replace hf := hf2
  clear hf2
  refine V.callVI dX11_firstStill_9 ml_X11_311 mo_X0_countWays mv_X0_countWays rfl (fun q hq => by cases hq; rfl) (by decide) (Or.inl ⟨rfl, SHL_lt rfl⟩) (th_X0_countWays (srh.ly ly) hT q1) rfl rfl ⟨Nat.le_of_ble_eq_true rfl, Nat.le_of_ble_eq_true rfl, fun _ => ⟨rfl, rfl⟩⟩ (Nat.le_of_ble_eq_true rfl) rfl (post_I (fun sq => ?_))
  have srh2 : SR h h2 := srh.trans sq
  clear sq q1
  refine V.if_ne (tgt := 25) dX11_firstStill_12 (by decide) (fun c4 => ?_) (fun c4 => ?_)
  · replace hf := ite_n hf c4
    refine V.aload_n dX11_firstStill_25 rfl rfl rfl ?_
    refine V.aload_n dX11_firstStill_26 rfl rfl rfl ?_
    refine V.getR (r := 65) dX11_firstStill_27 fl_X11_33 rfl (Or.inl ⟨rfl, SHL_lt rfl⟩) rfl (ly_0_3 (srh2.ly ly)) ?_
    obtain ⟨r7, h6, q5, hf2⟩ := bd2_el hf
    replace hf := hf2
    clear hf2
    refine V.callVI dX11_firstStill_30 ml_X11_315 mo_X0_leastFound mv_X0_leastFound rfl (fun q hq => by cases hq; rfl) (by decide) (Or.inl ⟨rfl, SHL_lt rfl⟩) (th_X0_leastFound (srh2.ly ly) q5) rfl rfl ⟨Nat.le_of_ble_eq_true rfl, Nat.le_of_ble_eq_true rfl, fun _ => ⟨rfl, rfl⟩⟩ (Nat.le_of_ble_eq_true rfl) rfl (post_I (fun sq => ?_))
    have srh6 : SR h h6 := srh2.trans sq
    clear sq q5
    obtain ⟨r10, h9, q8, hf2⟩ := bd2_el hf
    replace hf := hf2
    clear hf2
    refine V.callVI dX11_firstStill_33 ml_X11_161 mo_X11_answer mv_X11_answer rfl (fun q hq => by cases hq; rfl) (by decide) (Or.inl ⟨rfl, SHL_lt rfl⟩) (th_X11_answer (srh6.ly ly) q8) rfl rfl ⟨Nat.le_of_ble_eq_true rfl, Nat.le_of_ble_eq_true rfl, fun _ => ⟨rfl, rfl⟩⟩ (Nat.le_of_ble_eq_true rfl) rfl (post_I (fun sq => ?_))
    have srh9 : SR h h9 := srh6.trans sq
    clear sq q8
    refine V.i2l dX11_firstStill_36 ?_
    refine V.lreturn dX11_firstStill_37 rfl ⟨rfl, rfl⟩ ly.1 ?_
    exact ret_L hf srh9
  · replace hf := ite_p hf c4
    refine V.aload_n dX11_firstStill_15 rfl rfl rfl ?_
    refine V.bipush (v := 6) dX11_firstStill_16 rfl ?_
    obtain ⟨r13, h12, q11, hf2⟩ := bd2_el hf
    replace hf := hf2
    clear hf2
    refine V.callVI dX11_firstStill_18 ml_X11_105 mo_X11_refuse mv_X11_refuse rfl (fun q hq => by cases hq; rfl) (by decide) (Or.inl ⟨rfl, SHL_lt rfl⟩) (th_X11_refuse (srh2.ly ly) q11) rfl rfl ⟨Nat.le_of_ble_eq_true rfl, Nat.le_of_ble_eq_true rfl, fun _ => ⟨rfl, rfl⟩⟩ (Nat.le_of_ble_eq_true rfl) rfl (post_I (fun sq => ?_))
    have srh12 : SR h h12 := srh2.trans sq
    clear sq q11
    refine V.i2l dX11_firstStill_21 ?_
    refine V.goto (tgt := 37) dX11_firstStill_22 (by decide) ?_
    refine V.lreturn dX11_firstStill_37 rfl ⟨rfl, rfl⟩ ly.1 ?_
    exact ret_L hf srh12
set_option maxRecDepth 100000 in
theorem th_X11_pictures {h : HP} (ly : Lay h) {t : Nat} (hT : isT t) (pr : hR h 0 8 = t)  {rr : Int64} {hh : HP} (hf : f_X11_pictures h t = some (rr, hh)) : Spec yX11_pictures cX11_pictures miX11_pictures [.ref 0] h (pL fun r' h' => (r' = rr ∧ h' = hh) ∧ SR h hh) := by
  refine Spec.of (ls0 := [.ref 0]) mo_X11_pictures (Nat.le_of_ble_eq_true rfl) rfl ?_
  rw [ly.1]
  have srh : SR h h := SR.refl h
  unfold f_X11_pictures at hf
  refine V.aload_n dX11_pictures_0 rfl rfl rfl ?_
  refine V.iconst (v := 1) dX11_pictures_1 rfl ?_
  refine V.aload_n dX11_pictures_2 rfl rfl rfl ?_
  refine V.getR (r := t) dX11_pictures_3 fl_X11_61 rfl (Or.inl ⟨rfl, SHL_lt rfl⟩) rfl (srh.pr pr) ?_
  refine V.getR (r := t + 1) dX11_pictures_6 fl_X11_147 (sT0 hT) (Or.inl ⟨rfl, SHL_lt (sT0 hT)⟩) rfl (rT_hill (srh.ly ly) hT) ?_
  refine V.getI dX11_pictures_9 fl_X11_201 (sH0 hT.H) (Or.inl ⟨rfl, SHL_lt (sH0 hT.H)⟩) rfl rfl ?_
  obtain ⟨r3, h2, q1, hf2⟩ := bd2_el hf
  replace hf := hf2
  clear hf2
  refine V.callSI dX11_pictures_12 ml_X11_156 mo_J6_bitCount_0f7a4 ms_J6_bitCount_0f7a4 (th_J6_bitCount_0f7a4 (srh.ly ly) q1) rfl rfl ⟨Nat.le_of_ble_eq_true rfl, Nat.le_of_ble_eq_true rfl, fun _ => ⟨rfl, rfl⟩⟩ (Nat.le_of_ble_eq_true rfl) rfl (post_I (fun sq => ?_))
  have srh2 : SR h h2 := srh.trans sq
  clear sq q1
  refine V.ishl dX11_pictures_15 ?_
  obtain ⟨r6, h5, q4, hf2⟩ := bd2_el hf
  replace hf := hf2
  clear hf2
  refine V.callVI dX11_pictures_16 ml_X11_161 mo_X11_answer mv_X11_answer rfl (fun q hq => by cases hq; rfl) (by decide) (Or.inl ⟨rfl, SHL_lt rfl⟩) (th_X11_answer (srh2.ly ly) q4) rfl rfl ⟨Nat.le_of_ble_eq_true rfl, Nat.le_of_ble_eq_true rfl, fun _ => ⟨rfl, rfl⟩⟩ (Nat.le_of_ble_eq_true rfl) rfl (post_I (fun sq => ?_))
  have srh5 : SR h h5 := srh2.trans sq
  clear sq q4
  refine V.i2l dX11_pictures_19 ?_
  refine V.lreturn dX11_pictures_20 rfl ⟨rfl, rfl⟩ ly.1 ?_
  exact ret_L hf srh5
set_option maxRecDepth 100000 in
theorem th_X11_signal_37 {h0 : HP} (ly : Lay h0) {t : Nat} (hT : isT t) (pr : hR h0 0 8 = t) {rr : Int32} {hh : HP}  : ∀  (h : HP), SR h0 h → f_X11_signal_37 t h = some (rr, hh) → V cX11_signal miX11_signal (ZI h0 miX11_signal rr hh) 130 37 [.ref 0, .null, .null, .null, .null, .null] [] h := by
  intro  h srh hf
  unfold f_X11_signal_37 at hf
  refine V.aload_n dX11_signal_37 rfl rfl rfl ?_
  refine V.iconst (v := 1) dX11_signal_38 rfl ?_
  obtain ⟨r34, h33, q32, hf2⟩ := bd2_el hf
  replace hf := hf2
  clear hf2
  refine V.callVI dX11_signal_39 ml_X11_105 mo_X11_refuse mv_X11_refuse rfl (fun q hq => by cases hq; rfl) (by decide) (Or.inl ⟨rfl, SHL_lt rfl⟩) (th_X11_refuse (srh.ly ly) q32) rfl rfl ⟨Nat.le_of_ble_eq_true rfl, Nat.le_of_ble_eq_true rfl, fun _ => ⟨rfl, rfl⟩⟩ (Nat.le_of_ble_eq_true rfl) rfl (post_I (fun sq => ?_))
  have srh33 : SR h0 h33 := srh.trans sq
  clear sq q32
  refine V.ireturn dX11_signal_42 rfl rfl ⟨rfl, rfl⟩ ly.1 ?_
  exact ret_I hf srh33
set_option maxRecDepth 100000 in
theorem th_X11_signal {h : HP} (ly : Lay h) {t : Nat} (hT : isT t) (pr : hR h 0 8 = t) {a1 : Int32} {a2 : Int32} {a3 : Int32} {a4 : Int32} {rr : Int32} {hh : HP} (hf : f_X11_signal h t a1 a2 a3 a4 = some (rr, hh)) : Spec yX11_signal cX11_signal miX11_signal [.ref 0, .int a1, .int a2, .int a3, .int a4] h (pI fun r' h' => (r' = rr ∧ h' = hh) ∧ SR h hh) := by
  refine Spec.of (ls0 := [.ref 0, .int a1, .int a2, .int a3, .int a4, .null]) mo_X11_signal (Nat.le_of_ble_eq_true rfl) rfl ?_
  rw [ly.1]
  have srh : SR h h := SR.refl h
  unfold f_X11_signal at hf
  refine V.aload_n dX11_signal_0 rfl rfl rfl ?_
  refine V.getR (r := t) dX11_signal_1 fl_X11_61 rfl (Or.inl ⟨rfl, SHL_lt rfl⟩) rfl (srh.pr pr) ?_
  refine V.getR (r := t + 1) dX11_signal_4 fl_X11_147 (sT0 hT) (Or.inl ⟨rfl, SHL_lt (sT0 hT)⟩) rfl (rT_hill (srh.ly ly) hT) ?_
  refine V.iload_n dX11_signal_7 rfl rfl ?_
  refine V.iload_n dX11_signal_8 rfl rfl ?_
  obtain ⟨r3, h2, q1, hf2⟩ := bd2_el hf
  replace hf := hf2
  clear hf2
  refine V.callVI dX11_signal_9 ml_X11_223 mo_X1_placeOf mv_X1_placeOf (sH0 hT.H) (fun q hq => by cases hq; rfl) (by decide) (Or.inl ⟨rfl, SHL_lt (sH0 hT.H)⟩) (th_X1_placeOf (srh.ly ly) hT.H q1) rfl rfl ⟨Nat.le_of_ble_eq_true rfl, Nat.le_of_ble_eq_true rfl, fun _ => ⟨rfl, rfl⟩⟩ (Nat.le_of_ble_eq_true rfl) rfl (post_I (fun sq => ?_))
  have srh2 : SR h h2 := srh.trans sq
  clear sq q1
  refine V.istore (ls' := [.ref 0, .int a1, .int a2, .int a3, .int a4, .int r3]) dX11_signal_12 (by decide) rfl ?_
  refine V.iload dX11_signal_14 rfl ?_
  refine V.if_lt (tgt := 37) dX11_signal_16 (by decide) (fun c4 => ?_) (fun c4 => ?_)
  · replace hf := ite_p hf c4
    refine V.less (ls' := [.ref 0, .null, .null, .null, .null, .null]) ⟨Or.inr rfl, Or.inl rfl, Or.inl rfl, Or.inl rfl, Or.inl rfl, Or.inl rfl, trivial⟩ ?_
    exact th_X11_signal_37 ly hT pr h2 srh2 hf
  · replace hf := ite_n hf c4
    refine V.iload_n dX11_signal_19 rfl rfl ?_
    obtain ⟨r7, h6, q5, hf2⟩ := bd2_el hf
    replace hf := hf2
    clear hf2
    refine V.callSI dX11_signal_20 ml_X11_318 mo_X11_isTurnedNights ms_X11_isTurnedNights (th_X11_isTurnedNights (srh2.ly ly) q5) rfl rfl ⟨Nat.le_of_ble_eq_true rfl, Nat.le_of_ble_eq_true rfl, fun _ => ⟨rfl, rfl⟩⟩ (Nat.le_of_ble_eq_true rfl) rfl (post_I (fun sq => ?_))
    have srh6 : SR h h6 := srh2.trans sq
    clear sq q5
    refine V.if_eq (tgt := 37) dX11_signal_23 (by decide) (fun c8 => ?_) (fun c8 => ?_)
    · replace hf := ite_p hf c8
      refine V.less (ls' := [.ref 0, .null, .null, .null, .null, .null]) ⟨Or.inr rfl, Or.inl rfl, Or.inl rfl, Or.inl rfl, Or.inl rfl, Or.inl rfl, trivial⟩ ?_
      exact th_X11_signal_37 ly hT pr h6 srh6 hf
    · replace hf := ite_n hf c8
      refine V.iload dX11_signal_26 rfl ?_
      refine V.if_lt (tgt := 37) dX11_signal_28 (by decide) (fun c9 => ?_) (fun c9 => ?_)
      · replace hf := ite_p hf c9
        refine V.less (ls' := [.ref 0, .null, .null, .null, .null, .null]) ⟨Or.inr rfl, Or.inl rfl, Or.inl rfl, Or.inl rfl, Or.inl rfl, Or.inl rfl, trivial⟩ ?_
        exact th_X11_signal_37 ly hT pr h6 srh6 hf
      · replace hf := ite_n hf c9
        refine V.iload dX11_signal_31 rfl ?_
        refine V.iconst (v := 1) dX11_signal_33 rfl ?_
        refine V.icmp_le (tgt := 43) dX11_signal_34 (by decide) (fun c10 => ?_) (fun c10 => ?_)
        · replace hf := ite_p hf c10
          refine V.aload_n dX11_signal_43 rfl rfl rfl ?_
          refine V.getR (r := t) dX11_signal_44 fl_X11_61 rfl (Or.inl ⟨rfl, SHL_lt rfl⟩) rfl (srh6.pr pr) ?_
          refine V.getR (r := t + 1) dX11_signal_47 fl_X11_147 (sT0 hT) (Or.inl ⟨rfl, SHL_lt (sT0 hT)⟩) rfl (rT_hill (srh6.ly ly) hT) ?_
          refine V.getI dX11_signal_50 fl_X11_151 (sH0 hT.H) (Or.inl ⟨rfl, SHL_lt (sH0 hT.H)⟩) rfl rfl ?_
          refine V.iconst (v := 1) dX11_signal_53 rfl ?_
          refine V.iload dX11_signal_54 rfl ?_
          refine V.ishl dX11_signal_56 ?_
          refine V.iand dX11_signal_57 ?_
          refine V.if_ne (tgt := 68) dX11_signal_58 (by decide) (fun c11 => ?_) (fun c11 => ?_)
          · replace hf := ite_n hf c11
            refine V.aload_n dX11_signal_68 rfl rfl rfl ?_
            refine V.getR (r := 73) dX11_signal_69 fl_X11_47 rfl (Or.inl ⟨rfl, SHL_lt rfl⟩) rfl (ly_0_5 (srh6.ly ly)) ?_
            refine V.aload_n dX11_signal_72 rfl rfl rfl ?_
            refine V.getR (r := t) dX11_signal_73 fl_X11_61 rfl (Or.inl ⟨rfl, SHL_lt rfl⟩) rfl (srh6.pr pr) ?_
            refine V.iconst (v := 1) dX11_signal_76 rfl ?_
            refine V.iload dX11_signal_77 rfl ?_
            refine V.ishl dX11_signal_79 ?_
            refine V.iload_n dX11_signal_80 rfl rfl ?_
            obtain ⟨r14, h13, q12, hf2⟩ := bd2_el hf
            replace hf := hf2
            clear hf2
            refine V.callVI dX11_signal_81 ml_X11_321 mo_X8_findSignal mv_X8_findSignal rfl (fun q hq => by cases hq; rfl) (by decide) (Or.inl ⟨rfl, SHL_lt rfl⟩) (th_X8_findSignal (srh6.ly ly) hT q12) rfl rfl ⟨Nat.le_of_ble_eq_true rfl, Nat.le_of_ble_eq_true rfl, fun _ => ⟨rfl, rfl⟩⟩ (Nat.le_of_ble_eq_true rfl) rfl (post_I (fun sq => ?_))
            have srh13 : SR h h13 := srh6.trans sq
            clear sq q12
            refine V.if_ne (tgt := 94) dX11_signal_84 (by decide) (fun c15 => ?_) (fun c15 => ?_)
            · replace hf := ite_n hf c15
              refine V.aload_n dX11_signal_94 rfl rfl rfl ?_
              refine V.iload dX11_signal_95 rfl ?_
              refine V.if_ne (tgt := 113) dX11_signal_97 (by decide) (fun c16 => ?_) (fun c16 => ?_)
              · replace hf := ite_n hf c16
                refine V.aload_n dX11_signal_113 rfl rfl rfl ?_
                refine V.getR (r := 73) dX11_signal_114 fl_X11_47 rfl (Or.inl ⟨rfl, SHL_lt rfl⟩) rfl (ly_0_5 (srh13.ly ly)) ?_
                refine V.getI dX11_signal_117 fl_X11_325 rfl (Or.inl ⟨rfl, SHL_lt rfl⟩) rfl rfl ?_
                obtain ⟨r19, h18, q17, hf2⟩ := bd2_el hf
                replace hf := hf2
                clear hf2
                refine V.callVI dX11_signal_120 ml_X11_161 mo_X11_answer mv_X11_answer rfl (fun q hq => by cases hq; rfl) (by decide) (Or.inl ⟨rfl, SHL_lt rfl⟩) (th_X11_answer (srh13.ly ly) q17) rfl rfl ⟨Nat.le_of_ble_eq_true rfl, Nat.le_of_ble_eq_true rfl, fun _ => ⟨rfl, rfl⟩⟩ (Nat.le_of_ble_eq_true rfl) rfl (post_I (fun sq => ?_))
                have srh18 : SR h h18 := srh13.trans sq
                clear sq q17
                refine V.ireturn dX11_signal_123 rfl rfl ⟨rfl, rfl⟩ ly.1 ?_
                exact ret_I hf srh18
              · replace hf := ite_p hf c16
                refine V.aload_n dX11_signal_100 rfl rfl rfl ?_
                refine V.getR (r := 73) dX11_signal_101 fl_X11_47 rfl (Or.inl ⟨rfl, SHL_lt rfl⟩) rfl (ly_0_5 (srh13.ly ly)) ?_
                refine V.getI dX11_signal_104 fl_X11_325 rfl (Or.inl ⟨rfl, SHL_lt rfl⟩) rfl rfl ?_
                obtain ⟨r22, h21, q20, hf2⟩ := bd2_el hf
                replace hf := hf2
                clear hf2
                refine V.callSI dX11_signal_107 ml_X11_156 mo_J6_bitCount_0f7a4 ms_J6_bitCount_0f7a4 (th_J6_bitCount_0f7a4 (srh13.ly ly) q20) rfl rfl ⟨Nat.le_of_ble_eq_true rfl, Nat.le_of_ble_eq_true rfl, fun _ => ⟨rfl, rfl⟩⟩ (Nat.le_of_ble_eq_true rfl) rfl (post_I (fun sq => ?_))
                have srh21 : SR h h21 := srh13.trans sq
                clear sq q20
                refine V.goto (tgt := 120) dX11_signal_110 (by decide) ?_
                obtain ⟨r25, h24, q23, hf2⟩ := bd2_el hf
                replace hf := hf2
                clear hf2
                refine V.callVI dX11_signal_120 ml_X11_161 mo_X11_answer mv_X11_answer rfl (fun q hq => by cases hq; rfl) (by decide) (Or.inl ⟨rfl, SHL_lt rfl⟩) (th_X11_answer (srh21.ly ly) q23) rfl rfl ⟨Nat.le_of_ble_eq_true rfl, Nat.le_of_ble_eq_true rfl, fun _ => ⟨rfl, rfl⟩⟩ (Nat.le_of_ble_eq_true rfl) rfl (post_I (fun sq => ?_))
                have srh24 : SR h h24 := srh21.trans sq
                clear sq q23
                refine V.ireturn dX11_signal_123 rfl rfl ⟨rfl, rfl⟩ ly.1 ?_
                exact ret_I hf srh24
            · replace hf := ite_p hf c15
              refine V.aload_n dX11_signal_87 rfl rfl rfl ?_
              refine V.bipush (v := 6) dX11_signal_88 rfl ?_
              obtain ⟨r28, h27, q26, hf2⟩ := bd2_el hf
              replace hf := hf2
              clear hf2
              refine V.callVI dX11_signal_90 ml_X11_105 mo_X11_refuse mv_X11_refuse rfl (fun q hq => by cases hq; rfl) (by decide) (Or.inl ⟨rfl, SHL_lt rfl⟩) (th_X11_refuse (srh13.ly ly) q26) rfl rfl ⟨Nat.le_of_ble_eq_true rfl, Nat.le_of_ble_eq_true rfl, fun _ => ⟨rfl, rfl⟩⟩ (Nat.le_of_ble_eq_true rfl) rfl (post_I (fun sq => ?_))
              have srh27 : SR h h27 := srh13.trans sq
              clear sq q26
              refine V.ireturn dX11_signal_93 rfl rfl ⟨rfl, rfl⟩ ly.1 ?_
              exact ret_I hf srh27
          · replace hf := ite_p hf c11
            refine V.aload_n dX11_signal_61 rfl rfl rfl ?_
            refine V.bipush (v := 7) dX11_signal_62 rfl ?_
            obtain ⟨r31, h30, q29, hf2⟩ := bd2_el hf
            replace hf := hf2
            clear hf2
            refine V.callVI dX11_signal_64 ml_X11_105 mo_X11_refuse mv_X11_refuse rfl (fun q hq => by cases hq; rfl) (by decide) (Or.inl ⟨rfl, SHL_lt rfl⟩) (th_X11_refuse (srh6.ly ly) q29) rfl rfl ⟨Nat.le_of_ble_eq_true rfl, Nat.le_of_ble_eq_true rfl, fun _ => ⟨rfl, rfl⟩⟩ (Nat.le_of_ble_eq_true rfl) rfl (post_I (fun sq => ?_))
            have srh30 : SR h h30 := srh6.trans sq
            clear sq q29
            refine V.ireturn dX11_signal_67 rfl rfl ⟨rfl, rfl⟩ ly.1 ?_
            exact ret_I hf srh30
        · replace hf := ite_n hf c10
          refine V.less (ls' := [.ref 0, .null, .null, .null, .null, .null]) ⟨Or.inr rfl, Or.inl rfl, Or.inl rfl, Or.inl rfl, Or.inl rfl, Or.inl rfl, trivial⟩ ?_
          exact th_X11_signal_37 ly hT pr h6 srh6 hf
set_option maxRecDepth 100000 in
theorem th_X11_spoils {h : HP} (ly : Lay h) {t : Nat} (hT : isT t) (pr : hR h 0 8 = t) {a1 : Int32} {a2 : Int32} {a3 : Int32} {rr : Int32} {hh : HP} (hf : f_X11_spoils h t a1 a2 a3 = some (rr, hh)) : Spec yX11_spoils cX11_spoils miX11_spoils [.ref 0, .int a1, .int a2, .int a3] h (pI fun r' h' => (r' = rr ∧ h' = hh) ∧ SR h hh) := by
  refine Spec.of (ls0 := [.ref 0, .int a1, .int a2, .int a3, .null]) mo_X11_spoils (Nat.le_of_ble_eq_true rfl) rfl ?_
  rw [ly.1]
  have srh : SR h h := SR.refl h
  unfold f_X11_spoils at hf
  refine V.iload_n dX11_spoils_0 rfl rfl ?_
  obtain ⟨r3, h2, q1, hf2⟩ := bd2_el hf
  replace hf := hf2
  clear hf2
  refine V.callSI dX11_spoils_1 ml_X11_318 mo_X11_isTurnedNights ms_X11_isTurnedNights (th_X11_isTurnedNights (srh.ly ly) q1) rfl rfl ⟨Nat.le_of_ble_eq_true rfl, Nat.le_of_ble_eq_true rfl, fun _ => ⟨rfl, rfl⟩⟩ (Nat.le_of_ble_eq_true rfl) rfl (post_I (fun sq => ?_))
  have srh2 : SR h h2 := srh.trans sq
  clear sq q1
  refine V.if_ne (tgt := 13) dX11_spoils_4 (by decide) (fun c4 => ?_) (fun c4 => ?_)
  · replace hf := ite_n hf c4
    refine V.aload_n dX11_spoils_13 rfl rfl rfl ?_
    refine V.iload_n dX11_spoils_14 rfl rfl ?_
    refine V.iload_n dX11_spoils_15 rfl rfl ?_
    obtain ⟨r7, h6, q5, hf2⟩ := bd2_el hf
    replace hf := hf2
    clear hf2
    refine V.callVI dX11_spoils_16 ml_X11_248 mo_X11_whyNotFree mv_X11_whyNotFree rfl (fun q hq => by cases hq; rfl) (by decide) (Or.inl ⟨rfl, SHL_lt rfl⟩) (th_X11_whyNotFree (srh2.ly ly) hT (srh2.pr pr) q5) rfl rfl ⟨Nat.le_of_ble_eq_true rfl, Nat.le_of_ble_eq_true rfl, fun _ => ⟨rfl, rfl⟩⟩ (Nat.le_of_ble_eq_true rfl) rfl (post_I (fun sq => ?_))
    have srh6 : SR h h6 := srh2.trans sq
    clear sq q5
    refine V.istore (ls' := [.ref 0, .int a1, .int a2, .int a3, .int r7]) dX11_spoils_19 (by decide) rfl ?_
    refine V.iload dX11_spoils_21 rfl ?_
    refine V.if_eq (tgt := 33) dX11_spoils_23 (by decide) (fun c8 => ?_) (fun c8 => ?_)
    · replace hf := ite_p hf c8
      refine V.aload_n dX11_spoils_33 rfl rfl rfl ?_
      refine V.aload_n dX11_spoils_34 rfl rfl rfl ?_
      refine V.getR (r := t) dX11_spoils_35 fl_X11_61 rfl (Or.inl ⟨rfl, SHL_lt rfl⟩) rfl (srh6.pr pr) ?_
      refine V.iconst (v := 1) dX11_spoils_38 rfl ?_
      refine V.aload_n dX11_spoils_39 rfl rfl rfl ?_
      refine V.getR (r := t) dX11_spoils_40 fl_X11_61 rfl (Or.inl ⟨rfl, SHL_lt rfl⟩) rfl (srh6.pr pr) ?_
      refine V.getR (r := t + 1) dX11_spoils_43 fl_X11_147 (sT0 hT) (Or.inl ⟨rfl, SHL_lt (sT0 hT)⟩) rfl (rT_hill (srh6.ly ly) hT) ?_
      refine V.iload_n dX11_spoils_46 rfl rfl ?_
      refine V.iload_n dX11_spoils_47 rfl rfl ?_
      obtain ⟨r11, h10, q9, hf2⟩ := bd2_el hf
      replace hf := hf2
      clear hf2
      refine V.callVI dX11_spoils_48 ml_X11_223 mo_X1_placeOf mv_X1_placeOf (sH0 hT.H) (fun q hq => by cases hq; rfl) (by decide) (Or.inl ⟨rfl, SHL_lt (sH0 hT.H)⟩) (th_X1_placeOf (srh6.ly ly) hT.H q9) rfl rfl ⟨Nat.le_of_ble_eq_true rfl, Nat.le_of_ble_eq_true rfl, fun _ => ⟨rfl, rfl⟩⟩ (Nat.le_of_ble_eq_true rfl) rfl (post_I (fun sq => ?_))
      have srh10 : SR h h10 := srh6.trans sq
      clear sq q9
      refine V.ishl dX11_spoils_51 ?_
      refine V.iload_n dX11_spoils_52 rfl rfl ?_
      obtain ⟨r14, h13, q12, hf2⟩ := bd2_el hf
      replace hf := hf2
      clear hf2
      refine V.callSI dX11_spoils_53 ml_X11_328 mo_X8_countSpoilt ms_X8_countSpoilt (th_X8_countSpoilt (srh10.ly ly) hT q12) rfl rfl ⟨Nat.le_of_ble_eq_true rfl, Nat.le_of_ble_eq_true rfl, fun _ => ⟨rfl, rfl⟩⟩ (Nat.le_of_ble_eq_true rfl) rfl (post_I (fun sq => ?_))
      have srh13 : SR h h13 := srh10.trans sq
      clear sq q12
      obtain ⟨r17, h16, q15, hf2⟩ := bd2_el hf
      replace hf := hf2
      clear hf2
      refine V.callVI dX11_spoils_56 ml_X11_161 mo_X11_answer mv_X11_answer rfl (fun q hq => by cases hq; rfl) (by decide) (Or.inl ⟨rfl, SHL_lt rfl⟩) (th_X11_answer (srh13.ly ly) q15) rfl rfl ⟨Nat.le_of_ble_eq_true rfl, Nat.le_of_ble_eq_true rfl, fun _ => ⟨rfl, rfl⟩⟩ (Nat.le_of_ble_eq_true rfl) rfl (post_I (fun sq => ?_))
      have srh16 : SR h h16 := srh13.trans sq
      clear sq q15
      refine V.ireturn dX11_spoils_59 rfl rfl ⟨rfl, rfl⟩ ly.1 ?_
      exact ret_I hf srh16
    · replace hf := ite_n hf c8
      refine V.aload_n dX11_spoils_26 rfl rfl rfl ?_
      refine V.iload dX11_spoils_27 rfl ?_
      obtain ⟨r20, h19, q18, hf2⟩ := bd2_el hf
      replace hf := hf2
      clear hf2
      refine V.callVI dX11_spoils_29 ml_X11_105 mo_X11_refuse mv_X11_refuse rfl (fun q hq => by cases hq; rfl) (by decide) (Or.inl ⟨rfl, SHL_lt rfl⟩) (th_X11_refuse (srh6.ly ly) q18) rfl rfl ⟨Nat.le_of_ble_eq_true rfl, Nat.le_of_ble_eq_true rfl, fun _ => ⟨rfl, rfl⟩⟩ (Nat.le_of_ble_eq_true rfl) rfl (post_I (fun sq => ?_))
      have srh19 : SR h h19 := srh6.trans sq
      clear sq q18
      refine V.ireturn dX11_spoils_32 rfl rfl ⟨rfl, rfl⟩ ly.1 ?_
      exact ret_I hf srh19
  · replace hf := ite_p hf c4
    refine V.aload_n dX11_spoils_7 rfl rfl rfl ?_
    refine V.iconst (v := 1) dX11_spoils_8 rfl ?_
    obtain ⟨r23, h22, q21, hf2⟩ := bd2_el hf
    replace hf := hf2
    clear hf2
    refine V.callVI dX11_spoils_9 ml_X11_105 mo_X11_refuse mv_X11_refuse rfl (fun q hq => by cases hq; rfl) (by decide) (Or.inl ⟨rfl, SHL_lt rfl⟩) (th_X11_refuse (srh2.ly ly) q21) rfl rfl ⟨Nat.le_of_ble_eq_true rfl, Nat.le_of_ble_eq_true rfl, fun _ => ⟨rfl, rfl⟩⟩ (Nat.le_of_ble_eq_true rfl) rfl (post_I (fun sq => ?_))
    have srh22 : SR h h22 := srh2.trans sq
    clear sq q21
    refine V.ireturn dX11_spoils_12 rfl rfl ⟨rfl, rfl⟩ ly.1 ?_
    exact ret_I hf srh22
set_option maxRecDepth 100000 in
theorem th_X11_worst {h : HP} (ly : Lay h) {t : Nat} (hT : isT t) (pr : hR h 0 8 = t) {a1 : Int32} {a2 : Int32} {rr : Int32} {hh : HP} (hf : f_X11_worst h t a1 a2 = some (rr, hh)) : Spec yX11_worst cX11_worst miX11_worst [.ref 0, .int a1, .int a2] h (pI fun r' h' => (r' = rr ∧ h' = hh) ∧ SR h hh) := by
  refine Spec.of (ls0 := [.ref 0, .int a1, .int a2]) mo_X11_worst (Nat.le_of_ble_eq_true rfl) rfl ?_
  rw [ly.1]
  have srh : SR h h := SR.refl h
  unfold f_X11_worst at hf
  refine V.iload_n dX11_worst_0 rfl rfl ?_
  obtain ⟨r3, h2, q1, hf2⟩ := bd2_el hf
  replace hf := hf2
  clear hf2
  refine V.callSI dX11_worst_1 ml_X11_318 mo_X11_isTurnedNights ms_X11_isTurnedNights (th_X11_isTurnedNights (srh.ly ly) q1) rfl rfl ⟨Nat.le_of_ble_eq_true rfl, Nat.le_of_ble_eq_true rfl, fun _ => ⟨rfl, rfl⟩⟩ (Nat.le_of_ble_eq_true rfl) rfl (post_I (fun sq => ?_))
  have srh2 : SR h h2 := srh.trans sq
  clear sq q1
  refine V.if_eq (tgt := 16) dX11_worst_4 (by decide) (fun c4 => ?_) (fun c4 => ?_)
  · replace hf := ite_p hf c4
    refine V.aload_n dX11_worst_16 rfl rfl rfl ?_
    refine V.iconst (v := 1) dX11_worst_17 rfl ?_
    obtain ⟨r7, h6, q5, hf2⟩ := bd2_el hf
    replace hf := hf2
    clear hf2
    refine V.callVI dX11_worst_18 ml_X11_105 mo_X11_refuse mv_X11_refuse rfl (fun q hq => by cases hq; rfl) (by decide) (Or.inl ⟨rfl, SHL_lt rfl⟩) (th_X11_refuse (srh2.ly ly) q5) rfl rfl ⟨Nat.le_of_ble_eq_true rfl, Nat.le_of_ble_eq_true rfl, fun _ => ⟨rfl, rfl⟩⟩ (Nat.le_of_ble_eq_true rfl) rfl (post_I (fun sq => ?_))
    have srh6 : SR h h6 := srh2.trans sq
    clear sq q5
    refine V.ireturn dX11_worst_21 rfl rfl ⟨rfl, rfl⟩ ly.1 ?_
    exact ret_I hf srh6
  · replace hf := ite_n hf c4
    refine V.iload_n dX11_worst_7 rfl rfl ?_
    refine V.if_lt (tgt := 16) dX11_worst_8 (by decide) (fun c8 => ?_) (fun c8 => ?_)
    · replace hf := ite_p hf c8
      refine V.aload_n dX11_worst_16 rfl rfl rfl ?_
      refine V.iconst (v := 1) dX11_worst_17 rfl ?_
      obtain ⟨r11, h10, q9, hf2⟩ := bd2_el hf
      replace hf := hf2
      clear hf2
      refine V.callVI dX11_worst_18 ml_X11_105 mo_X11_refuse mv_X11_refuse rfl (fun q hq => by cases hq; rfl) (by decide) (Or.inl ⟨rfl, SHL_lt rfl⟩) (th_X11_refuse (srh2.ly ly) q9) rfl rfl ⟨Nat.le_of_ble_eq_true rfl, Nat.le_of_ble_eq_true rfl, fun _ => ⟨rfl, rfl⟩⟩ (Nat.le_of_ble_eq_true rfl) rfl (post_I (fun sq => ?_))
      have srh10 : SR h h10 := srh2.trans sq
      clear sq q9
      refine V.ireturn dX11_worst_21 rfl rfl ⟨rfl, rfl⟩ ly.1 ?_
      exact ret_I hf srh10
    · replace hf := ite_n hf c8
      refine V.iload_n dX11_worst_11 rfl rfl ?_
      refine V.iconst (v := 1) dX11_worst_12 rfl ?_
      refine V.icmp_le (tgt := 22) dX11_worst_13 (by decide) (fun c12 => ?_) (fun c12 => ?_)
      · replace hf := ite_p hf c12
        refine V.aload_n dX11_worst_22 rfl rfl rfl ?_
        refine V.getR (r := t) dX11_worst_23 fl_X11_61 rfl (Or.inl ⟨rfl, SHL_lt rfl⟩) rfl (srh2.pr pr) ?_
        refine V.getR (r := t + 1) dX11_worst_26 fl_X11_147 (sT0 hT) (Or.inl ⟨rfl, SHL_lt (sT0 hT)⟩) rfl (rT_hill (srh2.ly ly) hT) ?_
        refine V.getI dX11_worst_29 fl_X11_201 (sH0 hT.H) (Or.inl ⟨rfl, SHL_lt (sH0 hT.H)⟩) rfl rfl ?_
        refine V.if_ne (tgt := 42) dX11_worst_32 (by decide) (fun c13 => ?_) (fun c13 => ?_)
        · replace hf := ite_n hf c13
          refine V.aload_n dX11_worst_42 rfl rfl rfl ?_
          refine V.getR (r := 73) dX11_worst_43 fl_X11_47 rfl (Or.inl ⟨rfl, SHL_lt rfl⟩) rfl (ly_0_5 (srh2.ly ly)) ?_
          refine V.aload_n dX11_worst_46 rfl rfl rfl ?_
          refine V.getR (r := t) dX11_worst_47 fl_X11_61 rfl (Or.inl ⟨rfl, SHL_lt rfl⟩) rfl (srh2.pr pr) ?_
          refine V.iload_n dX11_worst_50 rfl rfl ?_
          obtain ⟨h15, q14, hf2⟩ := bd_el hf
          replace hf := hf2
          clear hf2
          refine V.callVV dX11_worst_51 ml_X11_332 mo_X8_findWorst mv_X8_findWorst rfl (fun q hq => by cases hq; rfl) (by decide) (Or.inl ⟨rfl, SHL_lt rfl⟩) (th_X8_findWorst (srh2.ly ly) hT q14) rfl rfl ⟨Nat.le_of_ble_eq_true rfl, Nat.le_of_ble_eq_true rfl, fun _ => ⟨rfl, rfl⟩⟩ (Nat.le_of_ble_eq_true rfl) (Or.inl rfl) (post_V (fun sq => ?_))
          have srh15 : SR h h15 := srh2.trans sq
          clear sq q14
          refine V.aload_n dX11_worst_54 rfl rfl rfl ?_
          refine V.iload_n dX11_worst_55 rfl rfl ?_
          refine V.if_ne (tgt := 69) dX11_worst_56 (by decide) (fun c16 => ?_) (fun c16 => ?_)
          · replace hf := ite_n hf c16
            refine V.aload_n dX11_worst_69 rfl rfl rfl ?_
            refine V.getR (r := 73) dX11_worst_70 fl_X11_47 rfl (Or.inl ⟨rfl, SHL_lt rfl⟩) rfl (ly_0_5 (srh15.ly ly)) ?_
            refine V.getI dX11_worst_73 fl_X11_339 rfl (Or.inl ⟨rfl, SHL_lt rfl⟩) rfl rfl ?_
            obtain ⟨r19, h18, q17, hf2⟩ := bd2_el hf
            replace hf := hf2
            clear hf2
            refine V.callVI dX11_worst_76 ml_X11_161 mo_X11_answer mv_X11_answer rfl (fun q hq => by cases hq; rfl) (by decide) (Or.inl ⟨rfl, SHL_lt rfl⟩) (th_X11_answer (srh15.ly ly) q17) rfl rfl ⟨Nat.le_of_ble_eq_true rfl, Nat.le_of_ble_eq_true rfl, fun _ => ⟨rfl, rfl⟩⟩ (Nat.le_of_ble_eq_true rfl) rfl (post_I (fun sq => ?_))
            have srh18 : SR h h18 := srh15.trans sq
            clear sq q17
            refine V.ireturn dX11_worst_79 rfl rfl ⟨rfl, rfl⟩ ly.1 ?_
            exact ret_I hf srh18
          · replace hf := ite_p hf c16
            refine V.aload_n dX11_worst_59 rfl rfl rfl ?_
            refine V.getR (r := 73) dX11_worst_60 fl_X11_47 rfl (Or.inl ⟨rfl, SHL_lt rfl⟩) rfl (ly_0_5 (srh15.ly ly)) ?_
            refine V.getI dX11_worst_63 fl_X11_336 rfl (Or.inl ⟨rfl, SHL_lt rfl⟩) rfl rfl ?_
            refine V.goto (tgt := 76) dX11_worst_66 (by decide) ?_
            obtain ⟨r22, h21, q20, hf2⟩ := bd2_el hf
            replace hf := hf2
            clear hf2
            refine V.callVI dX11_worst_76 ml_X11_161 mo_X11_answer mv_X11_answer rfl (fun q hq => by cases hq; rfl) (by decide) (Or.inl ⟨rfl, SHL_lt rfl⟩) (th_X11_answer (srh15.ly ly) q20) rfl rfl ⟨Nat.le_of_ble_eq_true rfl, Nat.le_of_ble_eq_true rfl, fun _ => ⟨rfl, rfl⟩⟩ (Nat.le_of_ble_eq_true rfl) rfl (post_I (fun sq => ?_))
            have srh21 : SR h h21 := srh15.trans sq
            clear sq q20
            refine V.ireturn dX11_worst_79 rfl rfl ⟨rfl, rfl⟩ ly.1 ?_
            exact ret_I hf srh21
        · replace hf := ite_p hf c13
          refine V.aload_n dX11_worst_35 rfl rfl rfl ?_
          refine V.bipush (v := 6) dX11_worst_36 rfl ?_
          obtain ⟨r25, h24, q23, hf2⟩ := bd2_el hf
          replace hf := hf2
          clear hf2
          refine V.callVI dX11_worst_38 ml_X11_105 mo_X11_refuse mv_X11_refuse rfl (fun q hq => by cases hq; rfl) (by decide) (Or.inl ⟨rfl, SHL_lt rfl⟩) (th_X11_refuse (srh2.ly ly) q23) rfl rfl ⟨Nat.le_of_ble_eq_true rfl, Nat.le_of_ble_eq_true rfl, fun _ => ⟨rfl, rfl⟩⟩ (Nat.le_of_ble_eq_true rfl) rfl (post_I (fun sq => ?_))
          have srh24 : SR h h24 := srh2.trans sq
          clear sq q23
          refine V.ireturn dX11_worst_41 rfl rfl ⟨rfl, rfl⟩ ly.1 ?_
          exact ret_I hf srh24
      · replace hf := ite_n hf c12
        refine V.aload_n dX11_worst_16 rfl rfl rfl ?_
        refine V.iconst (v := 1) dX11_worst_17 rfl ?_
        obtain ⟨r28, h27, q26, hf2⟩ := bd2_el hf
        replace hf := hf2
        clear hf2
        refine V.callVI dX11_worst_18 ml_X11_105 mo_X11_refuse mv_X11_refuse rfl (fun q hq => by cases hq; rfl) (by decide) (Or.inl ⟨rfl, SHL_lt rfl⟩) (th_X11_refuse (srh2.ly ly) q26) rfl rfl ⟨Nat.le_of_ble_eq_true rfl, Nat.le_of_ble_eq_true rfl, fun _ => ⟨rfl, rfl⟩⟩ (Nat.le_of_ble_eq_true rfl) rfl (post_I (fun sq => ?_))
        have srh27 : SR h h27 := srh2.trans sq
        clear sq q26
        refine V.ireturn dX11_worst_21 rfl rfl ⟨rfl, rfl⟩ ly.1 ?_
        exact ret_I hf srh27
set_option maxRecDepth 100000 in
theorem th_X11_mend {h : HP} (ly : Lay h) {t : Nat} (hT : isT t) (pr : hR h 0 8 = t) {a1 : Int64} {a3 : Int32} {rr : Int32} {hh : HP} (hf : f_X11_mend h t a1 a3 = some (rr, hh)) : Spec yX11_mend cX11_mend miX11_mend [.ref 0, .long a1, .int a3] h (pI fun r' h' => (r' = rr ∧ h' = hh) ∧ SR h hh) := by
  refine Spec.of (ls0 := [.ref 0, .long a1, .null, .int a3]) mo_X11_mend (Nat.le_of_ble_eq_true rfl) rfl ?_
  rw [ly.1]
  have srh : SR h h := SR.refl h
  unfold f_X11_mend at hf
  refine V.lload_n dX11_mend_0 rfl rfl ?_
  obtain ⟨r3, h2, q1, hf2⟩ := bd2_el hf
  replace hf := hf2
  clear hf2
  refine V.callSI dX11_mend_1 ml_X11_251 mo_X11_isPicture ms_X11_isPicture (th_X11_isPicture (srh.ly ly) q1) rfl rfl ⟨Nat.le_of_ble_eq_true rfl, Nat.le_of_ble_eq_true rfl, fun _ => ⟨rfl, rfl⟩⟩ (Nat.le_of_ble_eq_true rfl) rfl (post_I (fun sq => ?_))
  have srh2 : SR h h2 := srh.trans sq
  clear sq q1
  refine V.if_eq (tgt := 16) dX11_mend_4 (by decide) (fun c4 => ?_) (fun c4 => ?_)
  · replace hf := ite_p hf c4
    refine V.aload_n dX11_mend_16 rfl rfl rfl ?_
    refine V.iconst (v := 1) dX11_mend_17 rfl ?_
    obtain ⟨r7, h6, q5, hf2⟩ := bd2_el hf
    replace hf := hf2
    clear hf2
    refine V.callVI dX11_mend_18 ml_X11_105 mo_X11_refuse mv_X11_refuse rfl (fun q hq => by cases hq; rfl) (by decide) (Or.inl ⟨rfl, SHL_lt rfl⟩) (th_X11_refuse (srh2.ly ly) q5) rfl rfl ⟨Nat.le_of_ble_eq_true rfl, Nat.le_of_ble_eq_true rfl, fun _ => ⟨rfl, rfl⟩⟩ (Nat.le_of_ble_eq_true rfl) rfl (post_I (fun sq => ?_))
    have srh6 : SR h h6 := srh2.trans sq
    clear sq q5
    refine V.ireturn dX11_mend_21 rfl rfl ⟨rfl, rfl⟩ ly.1 ?_
    exact ret_I hf srh6
  · replace hf := ite_n hf c4
    refine V.iload_n dX11_mend_7 rfl rfl ?_
    refine V.if_lt (tgt := 16) dX11_mend_8 (by decide) (fun c8 => ?_) (fun c8 => ?_)
    · replace hf := ite_p hf c8
      refine V.aload_n dX11_mend_16 rfl rfl rfl ?_
      refine V.iconst (v := 1) dX11_mend_17 rfl ?_
      obtain ⟨r11, h10, q9, hf2⟩ := bd2_el hf
      replace hf := hf2
      clear hf2
      refine V.callVI dX11_mend_18 ml_X11_105 mo_X11_refuse mv_X11_refuse rfl (fun q hq => by cases hq; rfl) (by decide) (Or.inl ⟨rfl, SHL_lt rfl⟩) (th_X11_refuse (srh2.ly ly) q9) rfl rfl ⟨Nat.le_of_ble_eq_true rfl, Nat.le_of_ble_eq_true rfl, fun _ => ⟨rfl, rfl⟩⟩ (Nat.le_of_ble_eq_true rfl) rfl (post_I (fun sq => ?_))
      have srh10 : SR h h10 := srh2.trans sq
      clear sq q9
      refine V.ireturn dX11_mend_21 rfl rfl ⟨rfl, rfl⟩ ly.1 ?_
      exact ret_I hf srh10
    · replace hf := ite_n hf c8
      refine V.iload_n dX11_mend_11 rfl rfl ?_
      refine V.iconst (v := 1) dX11_mend_12 rfl ?_
      refine V.icmp_le (tgt := 22) dX11_mend_13 (by decide) (fun c12 => ?_) (fun c12 => ?_)
      · replace hf := ite_p hf c12
        refine V.aload_n dX11_mend_22 rfl rfl rfl ?_
        refine V.getR (r := 73) dX11_mend_23 fl_X11_47 rfl (Or.inl ⟨rfl, SHL_lt rfl⟩) rfl (ly_0_5 (srh2.ly ly)) ?_
        refine V.aload_n dX11_mend_26 rfl rfl rfl ?_
        refine V.getR (r := t) dX11_mend_27 fl_X11_61 rfl (Or.inl ⟨rfl, SHL_lt rfl⟩) rfl (srh2.pr pr) ?_
        refine V.lload_n dX11_mend_30 rfl rfl ?_
        refine V.l2i dX11_mend_31 ?_
        obtain ⟨h14, q13, hf2⟩ := bd_el hf
        replace hf := hf2
        clear hf2
        refine V.callVV dX11_mend_32 ml_X11_342 mo_X8_findMend mv_X8_findMend rfl (fun q hq => by cases hq; rfl) (by decide) (Or.inl ⟨rfl, SHL_lt rfl⟩) (th_X8_findMend (srh2.ly ly) hT q13) rfl rfl ⟨Nat.le_of_ble_eq_true rfl, Nat.le_of_ble_eq_true rfl, fun _ => ⟨rfl, rfl⟩⟩ (Nat.le_of_ble_eq_true rfl) (Or.inl rfl) (post_V (fun sq => ?_))
        have srh14 : SR h h14 := srh2.trans sq
        clear sq q13
        refine V.aload_n dX11_mend_35 rfl rfl rfl ?_
        refine V.iload_n dX11_mend_36 rfl rfl ?_
        refine V.if_ne (tgt := 50) dX11_mend_37 (by decide) (fun c15 => ?_) (fun c15 => ?_)
        · replace hf := ite_n hf c15
          refine V.aload_n dX11_mend_50 rfl rfl rfl ?_
          refine V.getR (r := 73) dX11_mend_51 fl_X11_47 rfl (Or.inl ⟨rfl, SHL_lt rfl⟩) rfl (ly_0_5 (srh14.ly ly)) ?_
          refine V.getI dX11_mend_54 fl_X11_325 rfl (Or.inl ⟨rfl, SHL_lt rfl⟩) rfl rfl ?_
          obtain ⟨r18, h17, q16, hf2⟩ := bd2_el hf
          replace hf := hf2
          clear hf2
          refine V.callVI dX11_mend_57 ml_X11_161 mo_X11_answer mv_X11_answer rfl (fun q hq => by cases hq; rfl) (by decide) (Or.inl ⟨rfl, SHL_lt rfl⟩) (th_X11_answer (srh14.ly ly) q16) rfl rfl ⟨Nat.le_of_ble_eq_true rfl, Nat.le_of_ble_eq_true rfl, fun _ => ⟨rfl, rfl⟩⟩ (Nat.le_of_ble_eq_true rfl) rfl (post_I (fun sq => ?_))
          have srh17 : SR h h17 := srh14.trans sq
          clear sq q16
          refine V.ireturn dX11_mend_60 rfl rfl ⟨rfl, rfl⟩ ly.1 ?_
          exact ret_I hf srh17
        · replace hf := ite_p hf c15
          refine V.aload_n dX11_mend_40 rfl rfl rfl ?_
          refine V.getR (r := 73) dX11_mend_41 fl_X11_47 rfl (Or.inl ⟨rfl, SHL_lt rfl⟩) rfl (ly_0_5 (srh14.ly ly)) ?_
          refine V.getI dX11_mend_44 fl_X11_345 rfl (Or.inl ⟨rfl, SHL_lt rfl⟩) rfl rfl ?_
          refine V.goto (tgt := 57) dX11_mend_47 (by decide) ?_
          obtain ⟨r21, h20, q19, hf2⟩ := bd2_el hf
          replace hf := hf2
          clear hf2
          refine V.callVI dX11_mend_57 ml_X11_161 mo_X11_answer mv_X11_answer rfl (fun q hq => by cases hq; rfl) (by decide) (Or.inl ⟨rfl, SHL_lt rfl⟩) (th_X11_answer (srh14.ly ly) q19) rfl rfl ⟨Nat.le_of_ble_eq_true rfl, Nat.le_of_ble_eq_true rfl, fun _ => ⟨rfl, rfl⟩⟩ (Nat.le_of_ble_eq_true rfl) rfl (post_I (fun sq => ?_))
          have srh20 : SR h h20 := srh14.trans sq
          clear sq q19
          refine V.ireturn dX11_mend_60 rfl rfl ⟨rfl, rfl⟩ ly.1 ?_
          exact ret_I hf srh20
      · replace hf := ite_n hf c12
        refine V.aload_n dX11_mend_16 rfl rfl rfl ?_
        refine V.iconst (v := 1) dX11_mend_17 rfl ?_
        obtain ⟨r24, h23, q22, hf2⟩ := bd2_el hf
        replace hf := hf2
        clear hf2
        refine V.callVI dX11_mend_18 ml_X11_105 mo_X11_refuse mv_X11_refuse rfl (fun q hq => by cases hq; rfl) (by decide) (Or.inl ⟨rfl, SHL_lt rfl⟩) (th_X11_refuse (srh2.ly ly) q22) rfl rfl ⟨Nat.le_of_ble_eq_true rfl, Nat.le_of_ble_eq_true rfl, fun _ => ⟨rfl, rfl⟩⟩ (Nat.le_of_ble_eq_true rfl) rfl (post_I (fun sq => ?_))
        have srh23 : SR h h23 := srh2.trans sq
        clear sq q22
        refine V.ireturn dX11_mend_21 rfl rfl ⟨rfl, rfl⟩ ly.1 ?_
        exact ret_I hf srh23
set_option maxRecDepth 100000 in
theorem th_X11_unlike {h : HP} (ly : Lay h) {t : Nat} (hT : isT t) (pr : hR h 0 8 = t) {a1 : Int64} {rr : Int32} {hh : HP} (hf : f_X11_unlike h t a1 = some (rr, hh)) : Spec yX11_unlike cX11_unlike miX11_unlike [.ref 0, .long a1] h (pI fun r' h' => (r' = rr ∧ h' = hh) ∧ SR h hh) := by
  refine Spec.of (ls0 := [.ref 0, .long a1, .null]) mo_X11_unlike (Nat.le_of_ble_eq_true rfl) rfl ?_
  rw [ly.1]
  have srh : SR h h := SR.refl h
  unfold f_X11_unlike at hf
  refine V.lload_n dX11_unlike_0 rfl rfl ?_
  obtain ⟨r3, h2, q1, hf2⟩ := bd2_el hf
  replace hf := hf2
  clear hf2
  refine V.callSI dX11_unlike_1 ml_X11_251 mo_X11_isPicture ms_X11_isPicture (th_X11_isPicture (srh.ly ly) q1) rfl rfl ⟨Nat.le_of_ble_eq_true rfl, Nat.le_of_ble_eq_true rfl, fun _ => ⟨rfl, rfl⟩⟩ (Nat.le_of_ble_eq_true rfl) rfl (post_I (fun sq => ?_))
  have srh2 : SR h h2 := srh.trans sq
  clear sq q1
  refine V.if_ne (tgt := 13) dX11_unlike_4 (by decide) (fun c4 => ?_) (fun c4 => ?_)
  · replace hf := ite_n hf c4
    refine V.aload_n dX11_unlike_13 rfl rfl rfl ?_
    refine V.aload_n dX11_unlike_14 rfl rfl rfl ?_
    refine V.getR (r := t) dX11_unlike_15 fl_X11_61 rfl (Or.inl ⟨rfl, SHL_lt rfl⟩) rfl (srh2.pr pr) ?_
    refine V.getR (r := t + 1) dX11_unlike_18 fl_X11_147 (sT0 hT) (Or.inl ⟨rfl, SHL_lt (sT0 hT)⟩) rfl (rT_hill (srh2.ly ly) hT) ?_
    refine V.aload_n dX11_unlike_21 rfl rfl rfl ?_
    refine V.getR (r := t) dX11_unlike_22 fl_X11_61 rfl (Or.inl ⟨rfl, SHL_lt rfl⟩) rfl (srh2.pr pr) ?_
    refine V.getI dX11_unlike_25 fl_X11_198 (sT0 hT) (Or.inl ⟨rfl, SHL_lt (sT0 hT)⟩) rfl rfl ?_
    refine V.lload_n dX11_unlike_28 rfl rfl ?_
    refine V.l2i dX11_unlike_29 ?_
    obtain ⟨r7, h6, q5, hf2⟩ := bd2_el hf
    replace hf := hf2
    clear hf2
    refine V.callVI dX11_unlike_30 ml_X11_348 mo_X1_countUnlike mv_X1_countUnlike (sH0 hT.H) (fun q hq => by cases hq; rfl) (by decide) (Or.inl ⟨rfl, SHL_lt (sH0 hT.H)⟩) (th_X1_countUnlike (srh2.ly ly) hT.H q5) rfl rfl ⟨Nat.le_of_ble_eq_true rfl, Nat.le_of_ble_eq_true rfl, fun _ => ⟨rfl, rfl⟩⟩ (Nat.le_of_ble_eq_true rfl) rfl (post_I (fun sq => ?_))
    have srh6 : SR h h6 := srh2.trans sq
    clear sq q5
    obtain ⟨r10, h9, q8, hf2⟩ := bd2_el hf
    replace hf := hf2
    clear hf2
    refine V.callVI dX11_unlike_33 ml_X11_161 mo_X11_answer mv_X11_answer rfl (fun q hq => by cases hq; rfl) (by decide) (Or.inl ⟨rfl, SHL_lt rfl⟩) (th_X11_answer (srh6.ly ly) q8) rfl rfl ⟨Nat.le_of_ble_eq_true rfl, Nat.le_of_ble_eq_true rfl, fun _ => ⟨rfl, rfl⟩⟩ (Nat.le_of_ble_eq_true rfl) rfl (post_I (fun sq => ?_))
    have srh9 : SR h h9 := srh6.trans sq
    clear sq q8
    refine V.ireturn dX11_unlike_36 rfl rfl ⟨rfl, rfl⟩ ly.1 ?_
    exact ret_I hf srh9
  · replace hf := ite_p hf c4
    refine V.aload_n dX11_unlike_7 rfl rfl rfl ?_
    refine V.iconst (v := 1) dX11_unlike_8 rfl ?_
    obtain ⟨r13, h12, q11, hf2⟩ := bd2_el hf
    replace hf := hf2
    clear hf2
    refine V.callVI dX11_unlike_9 ml_X11_105 mo_X11_refuse mv_X11_refuse rfl (fun q hq => by cases hq; rfl) (by decide) (Or.inl ⟨rfl, SHL_lt rfl⟩) (th_X11_refuse (srh2.ly ly) q11) rfl rfl ⟨Nat.le_of_ble_eq_true rfl, Nat.le_of_ble_eq_true rfl, fun _ => ⟨rfl, rfl⟩⟩ (Nat.le_of_ble_eq_true rfl) rfl (post_I (fun sq => ?_))
    have srh12 : SR h h12 := srh2.trans sq
    clear sq q11
    refine V.ireturn dX11_unlike_12 rfl rfl ⟨rfl, rfl⟩ ly.1 ?_
    exact ret_I hf srh12
set_option maxRecDepth 100000 in
theorem th_X11_seen_18 {h0 : HP} (ly : Lay h0) {t : Nat} (hT : isT t) (pr : hR h0 0 8 = t) {rr : Int32} {hh : HP}  : ∀  (h : HP), SR h0 h → f_X11_seen_18 t h = some (rr, hh) → V cX11_seen miX11_seen (ZI h0 miX11_seen rr hh) 130 18 [.ref 0, .null, .null] [] h := by
  intro  h srh hf
  unfold f_X11_seen_18 at hf
  refine V.aload_n dX11_seen_18 rfl rfl rfl ?_
  refine V.iconst (v := 1) dX11_seen_19 rfl ?_
  obtain ⟨r11, h10, q9, hf2⟩ := bd2_el hf
  replace hf := hf2
  clear hf2
  refine V.callVI dX11_seen_20 ml_X11_105 mo_X11_refuse mv_X11_refuse rfl (fun q hq => by cases hq; rfl) (by decide) (Or.inl ⟨rfl, SHL_lt rfl⟩) (th_X11_refuse (srh.ly ly) q9) rfl rfl ⟨Nat.le_of_ble_eq_true rfl, Nat.le_of_ble_eq_true rfl, fun _ => ⟨rfl, rfl⟩⟩ (Nat.le_of_ble_eq_true rfl) rfl (post_I (fun sq => ?_))
  have srh10 : SR h0 h10 := srh.trans sq
  clear sq q9
  refine V.ireturn dX11_seen_23 rfl rfl ⟨rfl, rfl⟩ ly.1 ?_
  exact ret_I hf srh10
set_option maxRecDepth 100000 in
theorem th_X11_seen {h : HP} (ly : Lay h) {t : Nat} (hT : isT t) (pr : hR h 0 8 = t) {a1 : Int32} {a2 : Int32} {rr : Int32} {hh : HP} (hf : f_X11_seen h t a1 a2 = some (rr, hh)) : Spec yX11_seen cX11_seen miX11_seen [.ref 0, .int a1, .int a2] h (pI fun r' h' => (r' = rr ∧ h' = hh) ∧ SR h hh) := by
  refine Spec.of (ls0 := [.ref 0, .int a1, .int a2]) mo_X11_seen (Nat.le_of_ble_eq_true rfl) rfl ?_
  rw [ly.1]
  have srh : SR h h := SR.refl h
  unfold f_X11_seen at hf
  refine V.iload_n dX11_seen_0 rfl rfl ?_
  refine V.if_lt (tgt := 18) dX11_seen_1 (by decide) (fun c1 => ?_) (fun c1 => ?_)
  · replace hf := ite_p hf c1
    refine V.less (ls' := [.ref 0, .null, .null]) ⟨Or.inr rfl, Or.inl rfl, Or.inl rfl, trivial⟩ ?_
    exact th_X11_seen_18 ly hT pr h srh hf
  · replace hf := ite_n hf c1
    refine V.iload_n dX11_seen_4 rfl rfl ?_
    refine V.iconst (v := 1) dX11_seen_5 rfl ?_
    refine V.icmp_gt (tgt := 18) dX11_seen_6 (by decide) (fun c2 => ?_) (fun c2 => ?_)
    · replace hf := ite_p hf c2
      refine V.less (ls' := [.ref 0, .null, .null]) ⟨Or.inr rfl, Or.inl rfl, Or.inl rfl, trivial⟩ ?_
      exact th_X11_seen_18 ly hT pr h srh hf
    · replace hf := ite_n hf c2
      refine V.iload_n dX11_seen_9 rfl rfl ?_
      refine V.if_lt (tgt := 18) dX11_seen_10 (by decide) (fun c3 => ?_) (fun c3 => ?_)
      · replace hf := ite_p hf c3
        refine V.less (ls' := [.ref 0, .null, .null]) ⟨Or.inr rfl, Or.inl rfl, Or.inl rfl, trivial⟩ ?_
        exact th_X11_seen_18 ly hT pr h srh hf
      · replace hf := ite_n hf c3
        refine V.iload_n dX11_seen_13 rfl rfl ?_
        refine V.iconst (v := 4) dX11_seen_14 rfl ?_
        refine V.icmp_le (tgt := 24) dX11_seen_15 (by decide) (fun c4 => ?_) (fun c4 => ?_)
        · replace hf := ite_p hf c4
          refine V.aload_n dX11_seen_24 rfl rfl rfl ?_
          refine V.aload_n dX11_seen_25 rfl rfl rfl ?_
          refine V.getR (r := t) dX11_seen_26 fl_X11_61 rfl (Or.inl ⟨rfl, SHL_lt rfl⟩) rfl (srh.pr pr) ?_
          refine V.getR (r := t + 15) dX11_seen_29 fl_X11_351 (sT0 hT) (Or.inl ⟨rfl, SHL_lt (sT0 hT)⟩) rfl (rT_seen (srh.ly ly) hT) ?_
          refine V.iload_n dX11_seen_32 rfl rfl ?_
          refine V.iconst (v := 5) dX11_seen_33 rfl ?_
          refine V.imul dX11_seen_34 ?_
          refine V.iload_n dX11_seen_35 rfl rfl ?_
          refine V.iadd dX11_seen_36 ?_
          obtain ⟨b5, hf2⟩ := gdi_el hf
          replace hf := hf2
          clear hf2
          refine V.iaload dX11_seen_37 (sT15 hT) (Or.inl ⟨rfl, SHL_lt (sT15 hT)⟩) b5 ?_
          obtain ⟨r8, h7, q6, hf2⟩ := bd2_el hf
          replace hf := hf2
          clear hf2
          refine V.callVI dX11_seen_38 ml_X11_161 mo_X11_answer mv_X11_answer rfl (fun q hq => by cases hq; rfl) (by decide) (Or.inl ⟨rfl, SHL_lt rfl⟩) (th_X11_answer (srh.ly ly) q6) rfl rfl ⟨Nat.le_of_ble_eq_true rfl, Nat.le_of_ble_eq_true rfl, fun _ => ⟨rfl, rfl⟩⟩ (Nat.le_of_ble_eq_true rfl) rfl (post_I (fun sq => ?_))
          have srh7 : SR h h7 := srh.trans sq
          clear sq q6
          refine V.ireturn dX11_seen_41 rfl rfl ⟨rfl, rfl⟩ ly.1 ?_
          exact ret_I hf srh7
        · replace hf := ite_n hf c4
          refine V.less (ls' := [.ref 0, .null, .null]) ⟨Or.inr rfl, Or.inl rfl, Or.inl rfl, trivial⟩ ?_
          exact th_X11_seen_18 ly hT pr h srh hf
set_option maxRecDepth 100000 in
theorem th_X11_rulesLeft {h : HP} (ly : Lay h) {t : Nat} (hT : isT t) (pr : hR h 0 8 = t)  {rr : Int32} {hh : HP} (hf : f_X11_rulesLeft h t = some (rr, hh)) : Spec yX11_rulesLeft cX11_rulesLeft miX11_rulesLeft [.ref 0] h (pI fun r' h' => (r' = rr ∧ h' = hh) ∧ SR h hh) := by
  refine Spec.of (ls0 := [.ref 0]) mo_X11_rulesLeft (Nat.le_of_ble_eq_true rfl) rfl ?_
  rw [ly.1]
  have srh : SR h h := SR.refl h
  unfold f_X11_rulesLeft at hf
  refine V.aload_n dX11_rulesLeft_0 rfl rfl rfl ?_
  refine V.aload_n dX11_rulesLeft_1 rfl rfl rfl ?_
  refine V.getR (r := t) dX11_rulesLeft_2 fl_X11_61 rfl (Or.inl ⟨rfl, SHL_lt rfl⟩) rfl (srh.pr pr) ?_
  obtain ⟨r3, h2, q1, hf2⟩ := bd2_el hf
  replace hf := hf2
  clear hf2
  refine V.callVI dX11_rulesLeft_5 ml_X11_354 mo_X5_countRulesLeft mv_X5_countRulesLeft (sT0 hT) (fun q hq => by cases hq; rfl) (by decide) (Or.inl ⟨rfl, SHL_lt (sT0 hT)⟩) (th_X5_countRulesLeft (srh.ly ly) hT q1) rfl rfl ⟨Nat.le_of_ble_eq_true rfl, Nat.le_of_ble_eq_true rfl, fun _ => ⟨rfl, rfl⟩⟩ (Nat.le_of_ble_eq_true rfl) rfl (post_I (fun sq => ?_))
  have srh2 : SR h h2 := srh.trans sq
  clear sq q1
  obtain ⟨r6, h5, q4, hf2⟩ := bd2_el hf
  replace hf := hf2
  clear hf2
  refine V.callVI dX11_rulesLeft_8 ml_X11_161 mo_X11_answer mv_X11_answer rfl (fun q hq => by cases hq; rfl) (by decide) (Or.inl ⟨rfl, SHL_lt rfl⟩) (th_X11_answer (srh2.ly ly) q4) rfl rfl ⟨Nat.le_of_ble_eq_true rfl, Nat.le_of_ble_eq_true rfl, fun _ => ⟨rfl, rfl⟩⟩ (Nat.le_of_ble_eq_true rfl) rfl (post_I (fun sq => ?_))
  have srh5 : SR h h5 := srh2.trans sq
  clear sq q4
  refine V.ireturn dX11_rulesLeft_11 rfl rfl ⟨rfl, rfl⟩ ly.1 ?_
  exact ret_I hf srh5
set_option maxRecDepth 100000 in
theorem th_X11_fits_4 {h0 : HP} (ly : Lay h0) {t : Nat} (hT : isT t) (pr : hR h0 0 8 = t) {rr : Int32} {hh : HP}  : ∀ (n : Nat) (l1 : Int32) (l2 : Int32) (h : HP), SR h0 h → f_X11_fits_4 t n l1 l2 h = some (rr, hh) → V cX11_fits miX11_fits (ZI h0 miX11_fits rr hh) 130 4 [.ref 0, .int l1, .int l2] [] h := by
  intro n
  induction n with
  | zero => intro l1 l2 h srh hf; exact absurd hf (by unfold f_X11_fits_4; simp)
  | succ n ih =>
    intro l1 l2 h srh hf
    unfold f_X11_fits_4 at hf
    refine V.iload_n dX11_fits_4 rfl rfl ?_
    refine V.aload_n dX11_fits_5 rfl rfl rfl ?_
    refine V.getR (r := t) dX11_fits_6 fl_X11_61 rfl (Or.inl ⟨rfl, SHL_lt rfl⟩) rfl (srh.pr pr) ?_
    refine V.getI dX11_fits_9 fl_X11_204 (sT0 hT) (Or.inl ⟨rfl, SHL_lt (sT0 hT)⟩) rfl rfl ?_
    refine V.icmp_ge (tgt := 42) dX11_fits_12 (by decide) (fun c1 => ?_) (fun c1 => ?_)
    · replace hf := ite_p hf c1
      refine V.aload_n dX11_fits_42 rfl rfl rfl ?_
      refine V.iload_n dX11_fits_43 rfl rfl ?_
      obtain ⟨r4, h3, q2, hf2⟩ := bd2_el hf
      replace hf := hf2
      clear hf2
      refine V.callVI dX11_fits_44 ml_X11_161 mo_X11_answer mv_X11_answer rfl (fun q hq => by cases hq; rfl) (by decide) (Or.inl ⟨rfl, SHL_lt rfl⟩) (th_X11_answer (srh.ly ly) q2) rfl rfl ⟨Nat.le_of_ble_eq_true rfl, Nat.le_of_ble_eq_true rfl, fun _ => ⟨rfl, rfl⟩⟩ (Nat.le_of_ble_eq_true rfl) rfl (post_I (fun sq => ?_))
      have srh3 : SR h0 h3 := srh.trans sq
      clear sq q2
      refine V.ireturn dX11_fits_47 rfl rfl ⟨rfl, rfl⟩ ly.1 ?_
      exact ret_I hf srh3
    · replace hf := ite_n hf c1
      refine V.iload_n dX11_fits_15 rfl rfl ?_
      refine V.aload_n dX11_fits_16 rfl rfl rfl ?_
      refine V.getR (r := t) dX11_fits_17 fl_X11_61 rfl (Or.inl ⟨rfl, SHL_lt rfl⟩) rfl (srh.pr pr) ?_
      refine V.iload_n dX11_fits_20 rfl rfl ?_
      obtain ⟨r7, h6, q5, hf2⟩ := bd2_el hf
      replace hf := hf2
      clear hf2
      refine V.callVI dX11_fits_21 ml_X11_357 mo_X5_ruleFits mv_X5_ruleFits (sT0 hT) (fun q hq => by cases hq; rfl) (by decide) (Or.inl ⟨rfl, SHL_lt (sT0 hT)⟩) (th_X5_ruleFits (srh.ly ly) hT q5) rfl rfl ⟨Nat.le_of_ble_eq_true rfl, Nat.le_of_ble_eq_true rfl, fun _ => ⟨rfl, rfl⟩⟩ (Nat.le_of_ble_eq_true rfl) rfl (post_I (fun sq => ?_))
      have srh6 : SR h0 h6 := srh.trans sq
      clear sq q5
      refine V.if_eq (tgt := 33) dX11_fits_24 (by decide) (fun c8 => ?_) (fun c8 => ?_)
      · replace hf := ite_p hf c8
        refine V.iconst (v := 0) dX11_fits_33 rfl ?_
        refine V.ior dX11_fits_34 ?_
        refine V.nmi (fun x9 ex9 => ?_)
        replace hf := lt_el hf x9 ex9
        refine V.istore_n (ls' := [.ref 0, .int x9, .int l2]) dX11_fits_35 rfl (by decide) rfl ?_
        obtain ⟨x10, ex10⟩ : ∃ y : Int32, y = l2 + 1 := ⟨_, rfl⟩
        replace hf := lt_el hf x10 ex10
        refine V.iinc (v := x10) (ls' := [.ref 0, .int x9, .int x10]) dX11_fits_36 rfl (by decide) ex10.symm rfl ?_
        refine V.goto (tgt := 4) dX11_fits_39 (by decide) ?_
        exact ih x9 x10 h6 srh6 hf
      · replace hf := ite_n hf c8
        refine V.iconst (v := 1) dX11_fits_27 rfl ?_
        refine V.iload_n dX11_fits_28 rfl rfl ?_
        refine V.ishl dX11_fits_29 ?_
        refine V.goto (tgt := 34) dX11_fits_30 (by decide) ?_
        refine V.ior dX11_fits_34 ?_
        refine V.nmi (fun x11 ex11 => ?_)
        replace hf := lt_el hf x11 ex11
        refine V.istore_n (ls' := [.ref 0, .int x11, .int l2]) dX11_fits_35 rfl (by decide) rfl ?_
        obtain ⟨x12, ex12⟩ : ∃ y : Int32, y = l2 + 1 := ⟨_, rfl⟩
        replace hf := lt_el hf x12 ex12
        refine V.iinc (v := x12) (ls' := [.ref 0, .int x11, .int x12]) dX11_fits_36 rfl (by decide) ex12.symm rfl ?_
        refine V.goto (tgt := 4) dX11_fits_39 (by decide) ?_
        exact ih x11 x12 h6 srh6 hf
set_option maxRecDepth 100000 in
theorem th_X11_fits {h : HP} (ly : Lay h) {t : Nat} (hT : isT t) (pr : hR h 0 8 = t)  {rr : Int32} {hh : HP} (hf : f_X11_fits h t = some (rr, hh)) : Spec yX11_fits cX11_fits miX11_fits [.ref 0] h (pI fun r' h' => (r' = rr ∧ h' = hh) ∧ SR h hh) := by
  refine Spec.of (ls0 := [.ref 0, .null, .null]) mo_X11_fits (Nat.le_of_ble_eq_true rfl) rfl ?_
  rw [ly.1]
  have srh : SR h h := SR.refl h
  unfold f_X11_fits at hf
  refine V.iconst (v := 0) dX11_fits_0 rfl ?_
  refine V.istore_n (ls' := [.ref 0, .int 0, .null]) dX11_fits_1 rfl (by decide) rfl ?_
  refine V.iconst (v := 0) dX11_fits_2 rfl ?_
  refine V.istore_n (ls' := [.ref 0, .int 0, .int 0]) dX11_fits_3 rfl (by decide) rfl ?_
  exact th_X11_fits_4 ly hT pr FU 0 0 h srh hf
set_option maxRecDepth 100000 in
theorem th_X11_forget {h : HP} (ly : Lay h) {t : Nat} (hT : isT t) (pr : hR h 0 8 = t)  {rr : Int32} {hh : HP} (hf : f_X11_forget h t = some (rr, hh)) : Spec yX11_forget cX11_forget miX11_forget [.ref 0] h (pI fun r' h' => (r' = rr ∧ h' = hh) ∧ SR h hh) := by
  refine Spec.of (ls0 := [.ref 0]) mo_X11_forget (Nat.le_of_ble_eq_true rfl) rfl ?_
  rw [ly.1]
  have srh : SR h h := SR.refl h
  unfold f_X11_forget at hf
  refine V.aload_n dX11_forget_0 rfl rfl rfl ?_
  refine V.aload_n dX11_forget_1 rfl rfl rfl ?_
  refine V.getR (r := t) dX11_forget_2 fl_X11_61 rfl (Or.inl ⟨rfl, SHL_lt rfl⟩) rfl (srh.pr pr) ?_
  obtain ⟨r3, h2, q1, hf2⟩ := bd2_el hf
  replace hf := hf2
  clear hf2
  refine V.callVI dX11_forget_5 ml_X11_360 mo_X5_forgetSeen mv_X5_forgetSeen (sT0 hT) (fun q hq => by cases hq; rfl) (by decide) (Or.inl ⟨rfl, SHL_lt (sT0 hT)⟩) (th_X5_forgetSeen (srh.ly ly) hT q1) rfl rfl ⟨Nat.le_of_ble_eq_true rfl, Nat.le_of_ble_eq_true rfl, fun _ => ⟨rfl, rfl⟩⟩ (Nat.le_of_ble_eq_true rfl) rfl (post_I (fun sq => ?_))
  have srh2 : SR h h2 := srh.trans sq
  clear sq q1
  obtain ⟨r6, h5, q4, hf2⟩ := bd2_el hf
  replace hf := hf2
  clear hf2
  refine V.callVI dX11_forget_8 ml_X11_161 mo_X11_answer mv_X11_answer rfl (fun q hq => by cases hq; rfl) (by decide) (Or.inl ⟨rfl, SHL_lt rfl⟩) (th_X11_answer (srh2.ly ly) q4) rfl rfl ⟨Nat.le_of_ble_eq_true rfl, Nat.le_of_ble_eq_true rfl, fun _ => ⟨rfl, rfl⟩⟩ (Nat.le_of_ble_eq_true rfl) rfl (post_I (fun sq => ?_))
  have srh5 : SR h h5 := srh2.trans sq
  clear sq q4
  refine V.ireturn dX11_forget_11 rfl rfl ⟨rfl, rfl⟩ ly.1 ?_
  exact ret_I hf srh5
set_option maxRecDepth 100000 in
theorem th_X11_shows {h : HP} (ly : Lay h) {t : Nat} (hT : isT t) (pr : hR h 0 8 = t)  {rr : Int32} {hh : HP} (hf : f_X11_shows h t = some (rr, hh)) : Spec yX11_shows cX11_shows miX11_shows [.ref 0] h (pI fun r' h' => (r' = rr ∧ h' = hh) ∧ SR h hh) := by
  refine Spec.of (ls0 := [.ref 0]) mo_X11_shows (Nat.le_of_ble_eq_true rfl) rfl ?_
  rw [ly.1]
  have srh : SR h h := SR.refl h
  unfold f_X11_shows at hf
  refine V.aload_n dX11_shows_0 rfl rfl rfl ?_
  refine V.aload_n dX11_shows_1 rfl rfl rfl ?_
  refine V.getR (r := t) dX11_shows_2 fl_X11_61 rfl (Or.inl ⟨rfl, SHL_lt rfl⟩) rfl (srh.pr pr) ?_
  obtain ⟨r3, h2, q1, hf2⟩ := bd2_el hf
  replace hf := hf2
  clear hf2
  refine V.callVI dX11_shows_5 ml_X11_363 mo_X5_countNewToSee mv_X5_countNewToSee (sT0 hT) (fun q hq => by cases hq; rfl) (by decide) (Or.inl ⟨rfl, SHL_lt (sT0 hT)⟩) (th_X5_countNewToSee (srh.ly ly) hT q1) rfl rfl ⟨Nat.le_of_ble_eq_true rfl, Nat.le_of_ble_eq_true rfl, fun _ => ⟨rfl, rfl⟩⟩ (Nat.le_of_ble_eq_true rfl) rfl (post_I (fun sq => ?_))
  have srh2 : SR h h2 := srh.trans sq
  clear sq q1
  obtain ⟨r6, h5, q4, hf2⟩ := bd2_el hf
  replace hf := hf2
  clear hf2
  refine V.callVI dX11_shows_8 ml_X11_161 mo_X11_answer mv_X11_answer rfl (fun q hq => by cases hq; rfl) (by decide) (Or.inl ⟨rfl, SHL_lt rfl⟩) (th_X11_answer (srh2.ly ly) q4) rfl rfl ⟨Nat.le_of_ble_eq_true rfl, Nat.le_of_ble_eq_true rfl, fun _ => ⟨rfl, rfl⟩⟩ (Nat.le_of_ble_eq_true rfl) rfl (post_I (fun sq => ?_))
  have srh5 : SR h h5 := srh2.trans sq
  clear sq q4
  refine V.ireturn dX11_shows_11 rfl rfl ⟨rfl, rfl⟩ ly.1 ?_
  exact ret_I hf srh5
set_option maxRecDepth 100000 in
theorem th_X11_vote {h : HP} (ly : Lay h) {t : Nat} (hT : isT t) (pr : hR h 0 8 = t) {a1 : Int32} {rr : Int32} {hh : HP} (hf : f_X11_vote h t a1 = some (rr, hh)) : Spec yX11_vote cX11_vote miX11_vote [.ref 0, .int a1] h (pI fun r' h' => (r' = rr ∧ h' = hh) ∧ SR h hh) := by
  refine Spec.of (ls0 := [.ref 0, .int a1]) mo_X11_vote (Nat.le_of_ble_eq_true rfl) rfl ?_
  rw [ly.1]
  have srh : SR h h := SR.refl h
  unfold f_X11_vote at hf
  refine V.aload_n dX11_vote_0 rfl rfl rfl ?_
  refine V.getR (r := t) dX11_vote_1 fl_X11_61 rfl (Or.inl ⟨rfl, SHL_lt rfl⟩) rfl (srh.pr pr) ?_
  refine V.iload_n dX11_vote_4 rfl rfl ?_
  obtain ⟨r3, h2, q1, hf2⟩ := bd2_el hf
  replace hf := hf2
  clear hf2
  refine V.callVI dX11_vote_5 ml_X11_239 mo_X5_hasCitizen mv_X5_hasCitizen (sT0 hT) (fun q hq => by cases hq; rfl) (by decide) (Or.inl ⟨rfl, SHL_lt (sT0 hT)⟩) (th_X5_hasCitizen (srh.ly ly) hT q1) rfl rfl ⟨Nat.le_of_ble_eq_true rfl, Nat.le_of_ble_eq_true rfl, fun _ => ⟨rfl, rfl⟩⟩ (Nat.le_of_ble_eq_true rfl) rfl (post_I (fun sq => ?_))
  have srh2 : SR h h2 := srh.trans sq
  clear sq q1
  refine V.if_ne (tgt := 17) dX11_vote_8 (by decide) (fun c4 => ?_) (fun c4 => ?_)
  · replace hf := ite_n hf c4
    refine V.aload_n dX11_vote_17 rfl rfl rfl ?_
    refine V.getR (r := t) dX11_vote_18 fl_X11_61 rfl (Or.inl ⟨rfl, SHL_lt rfl⟩) rfl (srh2.pr pr) ?_
    refine V.getI dX11_vote_21 fl_X11_204 (sT0 hT) (Or.inl ⟨rfl, SHL_lt (sT0 hT)⟩) rfl rfl ?_
    refine V.if_ne (tgt := 34) dX11_vote_24 (by decide) (fun c5 => ?_) (fun c5 => ?_)
    · replace hf := ite_n hf c5
      refine V.aload_n dX11_vote_34 rfl rfl rfl ?_
      refine V.getR (r := t) dX11_vote_35 fl_X11_61 rfl (Or.inl ⟨rfl, SHL_lt rfl⟩) rfl (srh2.pr pr) ?_
      obtain ⟨h7, q6, hf2⟩ := bd_el hf
      replace hf := hf2
      clear hf2
      refine V.callVV dX11_vote_38 ml_X11_366 mo_X5_lookAtRules mv_X5_lookAtRules (sT0 hT) (fun q hq => by cases hq; rfl) (by decide) (Or.inl ⟨rfl, SHL_lt (sT0 hT)⟩) (th_X5_lookAtRules (srh2.ly ly) hT q6) rfl rfl ⟨Nat.le_of_ble_eq_true rfl, Nat.le_of_ble_eq_true rfl, fun _ => ⟨rfl, rfl⟩⟩ (Nat.le_of_ble_eq_true rfl) (Or.inl rfl) (post_V (fun sq => ?_))
      have srh7 : SR h h7 := srh2.trans sq
      clear sq q6
      refine V.aload_n dX11_vote_41 rfl rfl rfl ?_
      refine V.aload_n dX11_vote_42 rfl rfl rfl ?_
      refine V.getR (r := t) dX11_vote_43 fl_X11_61 rfl (Or.inl ⟨rfl, SHL_lt rfl⟩) rfl (srh7.pr pr) ?_
      refine V.iload_n dX11_vote_46 rfl rfl ?_
      obtain ⟨r10, h9, q8, hf2⟩ := bd2_el hf
      replace hf := hf2
      clear hf2
      refine V.callVI dX11_vote_47 ml_X11_369 mo_X5_choiceOf mv_X5_choiceOf (sT0 hT) (fun q hq => by cases hq; rfl) (by decide) (Or.inl ⟨rfl, SHL_lt (sT0 hT)⟩) (th_X5_choiceOf (srh7.ly ly) hT q8) rfl rfl ⟨Nat.le_of_ble_eq_true rfl, Nat.le_of_ble_eq_true rfl, fun _ => ⟨rfl, rfl⟩⟩ (Nat.le_of_ble_eq_true rfl) rfl (post_I (fun sq => ?_))
      have srh9 : SR h h9 := srh7.trans sq
      clear sq q8
      obtain ⟨r13, h12, q11, hf2⟩ := bd2_el hf
      replace hf := hf2
      clear hf2
      refine V.callVI dX11_vote_50 ml_X11_161 mo_X11_answer mv_X11_answer rfl (fun q hq => by cases hq; rfl) (by decide) (Or.inl ⟨rfl, SHL_lt rfl⟩) (th_X11_answer (srh9.ly ly) q11) rfl rfl ⟨Nat.le_of_ble_eq_true rfl, Nat.le_of_ble_eq_true rfl, fun _ => ⟨rfl, rfl⟩⟩ (Nat.le_of_ble_eq_true rfl) rfl (post_I (fun sq => ?_))
      have srh12 : SR h h12 := srh9.trans sq
      clear sq q11
      refine V.ireturn dX11_vote_53 rfl rfl ⟨rfl, rfl⟩ ly.1 ?_
      exact ret_I hf srh12
    · replace hf := ite_p hf c5
      refine V.aload_n dX11_vote_27 rfl rfl rfl ?_
      refine V.bipush (v := 6) dX11_vote_28 rfl ?_
      obtain ⟨r16, h15, q14, hf2⟩ := bd2_el hf
      replace hf := hf2
      clear hf2
      refine V.callVI dX11_vote_30 ml_X11_105 mo_X11_refuse mv_X11_refuse rfl (fun q hq => by cases hq; rfl) (by decide) (Or.inl ⟨rfl, SHL_lt rfl⟩) (th_X11_refuse (srh2.ly ly) q14) rfl rfl ⟨Nat.le_of_ble_eq_true rfl, Nat.le_of_ble_eq_true rfl, fun _ => ⟨rfl, rfl⟩⟩ (Nat.le_of_ble_eq_true rfl) rfl (post_I (fun sq => ?_))
      have srh15 : SR h h15 := srh2.trans sq
      clear sq q14
      refine V.ireturn dX11_vote_33 rfl rfl ⟨rfl, rfl⟩ ly.1 ?_
      exact ret_I hf srh15
  · replace hf := ite_p hf c4
    refine V.aload_n dX11_vote_11 rfl rfl rfl ?_
    refine V.iconst (v := 1) dX11_vote_12 rfl ?_
    obtain ⟨r19, h18, q17, hf2⟩ := bd2_el hf
    replace hf := hf2
    clear hf2
    refine V.callVI dX11_vote_13 ml_X11_105 mo_X11_refuse mv_X11_refuse rfl (fun q hq => by cases hq; rfl) (by decide) (Or.inl ⟨rfl, SHL_lt rfl⟩) (th_X11_refuse (srh2.ly ly) q17) rfl rfl ⟨Nat.le_of_ble_eq_true rfl, Nat.le_of_ble_eq_true rfl, fun _ => ⟨rfl, rfl⟩⟩ (Nat.le_of_ble_eq_true rfl) rfl (post_I (fun sq => ?_))
    have srh18 : SR h h18 := srh2.trans sq
    clear sq q17
    refine V.ireturn dX11_vote_16 rfl rfl ⟨rfl, rfl⟩ ly.1 ?_
    exact ret_I hf srh18
set_option maxRecDepth 100000 in
theorem th_X11_votes {h : HP} (ly : Lay h) {t : Nat} (hT : isT t) (pr : hR h 0 8 = t) {a1 : Int32} {rr : Int32} {hh : HP} (hf : f_X11_votes h t a1 = some (rr, hh)) : Spec yX11_votes cX11_votes miX11_votes [.ref 0, .int a1] h (pI fun r' h' => (r' = rr ∧ h' = hh) ∧ SR h hh) := by
  refine Spec.of (ls0 := [.ref 0, .int a1]) mo_X11_votes (Nat.le_of_ble_eq_true rfl) rfl ?_
  rw [ly.1]
  have srh : SR h h := SR.refl h
  unfold f_X11_votes at hf
  refine V.aload_n dX11_votes_0 rfl rfl rfl ?_
  refine V.getR (r := t) dX11_votes_1 fl_X11_61 rfl (Or.inl ⟨rfl, SHL_lt rfl⟩) rfl (srh.pr pr) ?_
  refine V.iload_n dX11_votes_4 rfl rfl ?_
  obtain ⟨r3, h2, q1, hf2⟩ := bd2_el hf
  replace hf := hf2
  clear hf2
  refine V.callVI dX11_votes_5 ml_X11_229 mo_X5_hasRule mv_X5_hasRule (sT0 hT) (fun q hq => by cases hq; rfl) (by decide) (Or.inl ⟨rfl, SHL_lt (sT0 hT)⟩) (th_X5_hasRule (srh.ly ly) hT q1) rfl rfl ⟨Nat.le_of_ble_eq_true rfl, Nat.le_of_ble_eq_true rfl, fun _ => ⟨rfl, rfl⟩⟩ (Nat.le_of_ble_eq_true rfl) rfl (post_I (fun sq => ?_))
  have srh2 : SR h h2 := srh.trans sq
  clear sq q1
  refine V.if_ne (tgt := 17) dX11_votes_8 (by decide) (fun c4 => ?_) (fun c4 => ?_)
  · replace hf := ite_n hf c4
    refine V.aload_n dX11_votes_17 rfl rfl rfl ?_
    refine V.getR (r := t) dX11_votes_18 fl_X11_61 rfl (Or.inl ⟨rfl, SHL_lt rfl⟩) rfl (srh2.pr pr) ?_
    obtain ⟨h6, q5, hf2⟩ := bd_el hf
    replace hf := hf2
    clear hf2
    refine V.callVV dX11_votes_21 ml_X11_366 mo_X5_lookAtRules mv_X5_lookAtRules (sT0 hT) (fun q hq => by cases hq; rfl) (by decide) (Or.inl ⟨rfl, SHL_lt (sT0 hT)⟩) (th_X5_lookAtRules (srh2.ly ly) hT q5) rfl rfl ⟨Nat.le_of_ble_eq_true rfl, Nat.le_of_ble_eq_true rfl, fun _ => ⟨rfl, rfl⟩⟩ (Nat.le_of_ble_eq_true rfl) (Or.inl rfl) (post_V (fun sq => ?_))
    have srh6 : SR h h6 := srh2.trans sq
    clear sq q5
    refine V.aload_n dX11_votes_24 rfl rfl rfl ?_
    refine V.aload_n dX11_votes_25 rfl rfl rfl ?_
    refine V.getR (r := t) dX11_votes_26 fl_X11_61 rfl (Or.inl ⟨rfl, SHL_lt rfl⟩) rfl (srh6.pr pr) ?_
    refine V.iload_n dX11_votes_29 rfl rfl ?_
    obtain ⟨r9, h8, q7, hf2⟩ := bd2_el hf
    replace hf := hf2
    clear hf2
    refine V.callVI dX11_votes_30 ml_X11_372 mo_X5_countVotes mv_X5_countVotes (sT0 hT) (fun q hq => by cases hq; rfl) (by decide) (Or.inl ⟨rfl, SHL_lt (sT0 hT)⟩) (th_X5_countVotes (srh6.ly ly) hT q7) rfl rfl ⟨Nat.le_of_ble_eq_true rfl, Nat.le_of_ble_eq_true rfl, fun _ => ⟨rfl, rfl⟩⟩ (Nat.le_of_ble_eq_true rfl) rfl (post_I (fun sq => ?_))
    have srh8 : SR h h8 := srh6.trans sq
    clear sq q7
    obtain ⟨r12, h11, q10, hf2⟩ := bd2_el hf
    replace hf := hf2
    clear hf2
    refine V.callVI dX11_votes_33 ml_X11_161 mo_X11_answer mv_X11_answer rfl (fun q hq => by cases hq; rfl) (by decide) (Or.inl ⟨rfl, SHL_lt rfl⟩) (th_X11_answer (srh8.ly ly) q10) rfl rfl ⟨Nat.le_of_ble_eq_true rfl, Nat.le_of_ble_eq_true rfl, fun _ => ⟨rfl, rfl⟩⟩ (Nat.le_of_ble_eq_true rfl) rfl (post_I (fun sq => ?_))
    have srh11 : SR h h11 := srh8.trans sq
    clear sq q10
    refine V.ireturn dX11_votes_36 rfl rfl ⟨rfl, rfl⟩ ly.1 ?_
    exact ret_I hf srh11
  · replace hf := ite_p hf c4
    refine V.aload_n dX11_votes_11 rfl rfl rfl ?_
    refine V.iconst (v := 1) dX11_votes_12 rfl ?_
    obtain ⟨r15, h14, q13, hf2⟩ := bd2_el hf
    replace hf := hf2
    clear hf2
    refine V.callVI dX11_votes_13 ml_X11_105 mo_X11_refuse mv_X11_refuse rfl (fun q hq => by cases hq; rfl) (by decide) (Or.inl ⟨rfl, SHL_lt rfl⟩) (th_X11_refuse (srh2.ly ly) q13) rfl rfl ⟨Nat.le_of_ble_eq_true rfl, Nat.le_of_ble_eq_true rfl, fun _ => ⟨rfl, rfl⟩⟩ (Nat.le_of_ble_eq_true rfl) rfl (post_I (fun sq => ?_))
    have srh14 : SR h h14 := srh2.trans sq
    clear sq q13
    refine V.ireturn dX11_votes_16 rfl rfl ⟨rfl, rfl⟩ ly.1 ?_
    exact ret_I hf srh14
set_option maxRecDepth 100000 in
theorem th_X11_elect {h : HP} (ly : Lay h) {t : Nat} (hT : isT t) (pr : hR h 0 8 = t)  {rr : Int32} {hh : HP} (hf : f_X11_elect h t = some (rr, hh)) : Spec yX11_elect cX11_elect miX11_elect [.ref 0] h (pI fun r' h' => (r' = rr ∧ h' = hh) ∧ SR h hh) := by
  refine Spec.of (ls0 := [.ref 0]) mo_X11_elect (Nat.le_of_ble_eq_true rfl) rfl ?_
  rw [ly.1]
  have srh : SR h h := SR.refl h
  unfold f_X11_elect at hf
  refine V.aload_n dX11_elect_0 rfl rfl rfl ?_
  refine V.getR (r := t) dX11_elect_1 fl_X11_61 rfl (Or.inl ⟨rfl, SHL_lt rfl⟩) rfl (srh.pr pr) ?_
  obtain ⟨r3, h2, q1, hf2⟩ := bd2_el hf
  replace hf := hf2
  clear hf2
  refine V.callVI dX11_elect_4 ml_X11_375 mo_X5_holdElection mv_X5_holdElection (sT0 hT) (fun q hq => by cases hq; rfl) (by decide) (Or.inl ⟨rfl, SHL_lt (sT0 hT)⟩) (th_X5_holdElection (srh.ly ly) hT q1) rfl rfl ⟨Nat.le_of_ble_eq_true rfl, Nat.le_of_ble_eq_true rfl, fun _ => ⟨rfl, rfl⟩⟩ (Nat.le_of_ble_eq_true rfl) rfl (post_I (fun sq => ?_))
  have srh2 : SR h h2 := srh.trans sq
  clear sq q1
  refine V.if_eq (tgt := 24) dX11_elect_7 (by decide) (fun c4 => ?_) (fun c4 => ?_)
  · replace hf := ite_p hf c4
    refine V.aload_n dX11_elect_24 rfl rfl rfl ?_
    refine V.bipush (v := 6) dX11_elect_25 rfl ?_
    obtain ⟨r7, h6, q5, hf2⟩ := bd2_el hf
    replace hf := hf2
    clear hf2
    refine V.callVI dX11_elect_27 ml_X11_105 mo_X11_refuse mv_X11_refuse rfl (fun q hq => by cases hq; rfl) (by decide) (Or.inl ⟨rfl, SHL_lt rfl⟩) (th_X11_refuse (srh2.ly ly) q5) rfl rfl ⟨Nat.le_of_ble_eq_true rfl, Nat.le_of_ble_eq_true rfl, fun _ => ⟨rfl, rfl⟩⟩ (Nat.le_of_ble_eq_true rfl) rfl (post_I (fun sq => ?_))
    have srh6 : SR h h6 := srh2.trans sq
    clear sq q5
    refine V.ireturn dX11_elect_30 rfl rfl ⟨rfl, rfl⟩ ly.1 ?_
    exact ret_I hf srh6
  · replace hf := ite_n hf c4
    refine V.aload_n dX11_elect_10 rfl rfl rfl ?_
    refine V.aload_n dX11_elect_11 rfl rfl rfl ?_
    refine V.getR (r := t) dX11_elect_12 fl_X11_61 rfl (Or.inl ⟨rfl, SHL_lt rfl⟩) rfl (srh2.pr pr) ?_
    refine V.getI dX11_elect_15 fl_X11_220 (sT0 hT) (Or.inl ⟨rfl, SHL_lt (sT0 hT)⟩) rfl rfl ?_
    obtain ⟨r10, h9, q8, hf2⟩ := bd2_el hf
    replace hf := hf2
    clear hf2
    refine V.callVI dX11_elect_18 ml_X11_161 mo_X11_answer mv_X11_answer rfl (fun q hq => by cases hq; rfl) (by decide) (Or.inl ⟨rfl, SHL_lt rfl⟩) (th_X11_answer (srh2.ly ly) q8) rfl rfl ⟨Nat.le_of_ble_eq_true rfl, Nat.le_of_ble_eq_true rfl, fun _ => ⟨rfl, rfl⟩⟩ (Nat.le_of_ble_eq_true rfl) rfl (post_I (fun sq => ?_))
    have srh9 : SR h h9 := srh2.trans sq
    clear sq q8
    refine V.goto (tgt := 30) dX11_elect_21 (by decide) ?_
    refine V.ireturn dX11_elect_30 rfl rfl ⟨rfl, rfl⟩ ly.1 ?_
    exact ret_I hf srh9
set_option maxRecDepth 100000 in
theorem th_X11_reads_41 {h0 : HP} (ly : Lay h0) {t : Nat} (hT : isT t) (pr : hR h0 0 8 = t) {rr : Int32} {hh : HP}  : ∀ (l1 : Int32) (l2 : Int32) (h : HP), SR h0 h → f_X11_reads_41 t l1 l2 h = some (rr, hh) → V cX11_reads miX11_reads (ZI h0 miX11_reads rr hh) 130 41 [.ref 0, .int l1, .int l2, .ref (t + 1)] [] h := by
  intro l1 l2 h srh hf
  unfold f_X11_reads_41 at hf
  refine V.iload_n dX11_reads_41 rfl rfl ?_
  refine V.iconst (v := 1) dX11_reads_42 rfl ?_
  refine V.icmp_ne (tgt := 75) dX11_reads_43 (by decide) (fun c10 => ?_) (fun c10 => ?_)
  · replace hf := ite_n hf c10
    refine V.aload_n dX11_reads_75 rfl rfl rfl ?_
    refine V.iconst (v := 1) dX11_reads_76 rfl ?_
    obtain ⟨r13, h12, q11, hf2⟩ := bd2_el hf
    replace hf := hf2
    clear hf2
    refine V.callVI dX11_reads_77 ml_X11_105 mo_X11_refuse mv_X11_refuse rfl (fun q hq => by cases hq; rfl) (by decide) (Or.inl ⟨rfl, SHL_lt rfl⟩) (th_X11_refuse (srh.ly ly) q11) rfl rfl ⟨Nat.le_of_ble_eq_true rfl, Nat.le_of_ble_eq_true rfl, fun _ => ⟨rfl, rfl⟩⟩ (Nat.le_of_ble_eq_true rfl) rfl (post_I (fun sq => ?_))
    have srh12 : SR h0 h12 := srh.trans sq
    clear sq q11
    refine V.ireturn dX11_reads_80 rfl rfl ⟨rfl, rfl⟩ ly.1 ?_
    exact ret_I hf srh12
  · replace hf := ite_p hf c10
    refine V.iload_n dX11_reads_46 rfl rfl ?_
    refine V.if_lt (tgt := 75) dX11_reads_47 (by decide) (fun c14 => ?_) (fun c14 => ?_)
    · replace hf := ite_p hf c14
      refine V.aload_n dX11_reads_75 rfl rfl rfl ?_
      refine V.iconst (v := 1) dX11_reads_76 rfl ?_
      obtain ⟨r17, h16, q15, hf2⟩ := bd2_el hf
      replace hf := hf2
      clear hf2
      refine V.callVI dX11_reads_77 ml_X11_105 mo_X11_refuse mv_X11_refuse rfl (fun q hq => by cases hq; rfl) (by decide) (Or.inl ⟨rfl, SHL_lt rfl⟩) (th_X11_refuse (srh.ly ly) q15) rfl rfl ⟨Nat.le_of_ble_eq_true rfl, Nat.le_of_ble_eq_true rfl, fun _ => ⟨rfl, rfl⟩⟩ (Nat.le_of_ble_eq_true rfl) rfl (post_I (fun sq => ?_))
      have srh16 : SR h0 h16 := srh.trans sq
      clear sq q15
      refine V.ireturn dX11_reads_80 rfl rfl ⟨rfl, rfl⟩ ly.1 ?_
      exact ret_I hf srh16
    · replace hf := ite_n hf c14
      refine V.iload_n dX11_reads_50 rfl rfl ?_
      refine V.aload_n dX11_reads_51 rfl rfl (sH0 hT.H) ?_
      refine V.getI dX11_reads_52 fl_X11_192 (sH0 hT.H) (Or.inl ⟨rfl, SHL_lt (sH0 hT.H)⟩) rfl rfl ?_
      refine V.icmp_ge (tgt := 75) dX11_reads_55 (by decide) (fun c18 => ?_) (fun c18 => ?_)
      · replace hf := ite_p hf c18
        refine V.aload_n dX11_reads_75 rfl rfl rfl ?_
        refine V.iconst (v := 1) dX11_reads_76 rfl ?_
        obtain ⟨r21, h20, q19, hf2⟩ := bd2_el hf
        replace hf := hf2
        clear hf2
        refine V.callVI dX11_reads_77 ml_X11_105 mo_X11_refuse mv_X11_refuse rfl (fun q hq => by cases hq; rfl) (by decide) (Or.inl ⟨rfl, SHL_lt rfl⟩) (th_X11_refuse (srh.ly ly) q19) rfl rfl ⟨Nat.le_of_ble_eq_true rfl, Nat.le_of_ble_eq_true rfl, fun _ => ⟨rfl, rfl⟩⟩ (Nat.le_of_ble_eq_true rfl) rfl (post_I (fun sq => ?_))
        have srh20 : SR h0 h20 := srh.trans sq
        clear sq q19
        refine V.ireturn dX11_reads_80 rfl rfl ⟨rfl, rfl⟩ ly.1 ?_
        exact ret_I hf srh20
      · replace hf := ite_n hf c18
        refine V.aload_n dX11_reads_58 rfl rfl rfl ?_
        refine V.aload_n dX11_reads_59 rfl rfl (sH0 hT.H) ?_
        refine V.aload_n dX11_reads_60 rfl rfl rfl ?_
        refine V.getR (r := t) dX11_reads_61 fl_X11_61 rfl (Or.inl ⟨rfl, SHL_lt rfl⟩) rfl (srh.pr pr) ?_
        refine V.getI dX11_reads_64 fl_X11_198 (sT0 hT) (Or.inl ⟨rfl, SHL_lt (sT0 hT)⟩) rfl rfl ?_
        refine V.iload_n dX11_reads_67 rfl rfl ?_
        obtain ⟨r24, h23, q22, hf2⟩ := bd2_el hf
        replace hf := hf2
        clear hf2
        refine V.callVI dX11_reads_68 ml_X11_378 mo_X1_columnOf mv_X1_columnOf (sH0 hT.H) (fun q hq => by cases hq; rfl) (by decide) (Or.inl ⟨rfl, SHL_lt (sH0 hT.H)⟩) (th_X1_columnOf (srh.ly ly) hT.H q22) rfl rfl ⟨Nat.le_of_ble_eq_true rfl, Nat.le_of_ble_eq_true rfl, fun _ => ⟨rfl, rfl⟩⟩ (Nat.le_of_ble_eq_true rfl) rfl (post_I (fun sq => ?_))
        have srh23 : SR h0 h23 := srh.trans sq
        clear sq q22
        obtain ⟨r27, h26, q25, hf2⟩ := bd2_el hf
        replace hf := hf2
        clear hf2
        refine V.callVI dX11_reads_71 ml_X11_161 mo_X11_answer mv_X11_answer rfl (fun q hq => by cases hq; rfl) (by decide) (Or.inl ⟨rfl, SHL_lt rfl⟩) (th_X11_answer (srh23.ly ly) q25) rfl rfl ⟨Nat.le_of_ble_eq_true rfl, Nat.le_of_ble_eq_true rfl, fun _ => ⟨rfl, rfl⟩⟩ (Nat.le_of_ble_eq_true rfl) rfl (post_I (fun sq => ?_))
        have srh26 : SR h0 h26 := srh23.trans sq
        clear sq q25
        refine V.ireturn dX11_reads_74 rfl rfl ⟨rfl, rfl⟩ ly.1 ?_
        exact ret_I hf srh26
set_option maxRecDepth 100000 in
theorem th_X11_reads {h : HP} (ly : Lay h) {t : Nat} (hT : isT t) (pr : hR h 0 8 = t) {a1 : Int32} {a2 : Int32} {rr : Int32} {hh : HP} (hf : f_X11_reads h t a1 a2 = some (rr, hh)) : Spec yX11_reads cX11_reads miX11_reads [.ref 0, .int a1, .int a2] h (pI fun r' h' => (r' = rr ∧ h' = hh) ∧ SR h hh) := by
  refine Spec.of (ls0 := [.ref 0, .int a1, .int a2, .null]) mo_X11_reads (Nat.le_of_ble_eq_true rfl) rfl ?_
  rw [ly.1]
  have srh : SR h h := SR.refl h
  unfold f_X11_reads at hf
  refine V.aload_n dX11_reads_0 rfl rfl rfl ?_
  refine V.getR (r := t) dX11_reads_1 fl_X11_61 rfl (Or.inl ⟨rfl, SHL_lt rfl⟩) rfl (srh.pr pr) ?_
  refine V.getR (r := t + 1) dX11_reads_4 fl_X11_147 (sT0 hT) (Or.inl ⟨rfl, SHL_lt (sT0 hT)⟩) rfl (rT_hill (srh.ly ly) hT) ?_
  refine V.astore_n (ls' := [.ref 0, .int a1, .int a2, .ref (t + 1)]) dX11_reads_7 rfl (by decide) (sH0 hT.H) rfl ?_
  refine V.iload_n dX11_reads_8 rfl rfl ?_
  refine V.if_ne (tgt := 41) dX11_reads_9 (by decide) (fun c1 => ?_) (fun c1 => ?_)
  · replace hf := ite_n hf c1
    exact th_X11_reads_41 ly hT pr a1 a2 h srh hf
  · replace hf := ite_p hf c1
    refine V.iload_n dX11_reads_12 rfl rfl ?_
    refine V.if_lt (tgt := 41) dX11_reads_13 (by decide) (fun c2 => ?_) (fun c2 => ?_)
    · replace hf := ite_p hf c2
      exact th_X11_reads_41 ly hT pr a1 a2 h srh hf
    · replace hf := ite_n hf c2
      refine V.iload_n dX11_reads_16 rfl rfl ?_
      refine V.aload_n dX11_reads_17 rfl rfl (sH0 hT.H) ?_
      refine V.getI dX11_reads_18 fl_X11_195 (sH0 hT.H) (Or.inl ⟨rfl, SHL_lt (sH0 hT.H)⟩) rfl rfl ?_
      refine V.icmp_ge (tgt := 41) dX11_reads_21 (by decide) (fun c3 => ?_) (fun c3 => ?_)
      · replace hf := ite_p hf c3
        exact th_X11_reads_41 ly hT pr a1 a2 h srh hf
      · replace hf := ite_n hf c3
        refine V.aload_n dX11_reads_24 rfl rfl rfl ?_
        refine V.aload_n dX11_reads_25 rfl rfl (sH0 hT.H) ?_
        refine V.aload_n dX11_reads_26 rfl rfl rfl ?_
        refine V.getR (r := t) dX11_reads_27 fl_X11_61 rfl (Or.inl ⟨rfl, SHL_lt rfl⟩) rfl (srh.pr pr) ?_
        refine V.getI dX11_reads_30 fl_X11_198 (sT0 hT) (Or.inl ⟨rfl, SHL_lt (sT0 hT)⟩) rfl rfl ?_
        refine V.iload_n dX11_reads_33 rfl rfl ?_
        obtain ⟨r6, h5, q4, hf2⟩ := bd2_el hf
        replace hf := hf2
        clear hf2
        refine V.callVI dX11_reads_34 ml_X11_264 mo_X1_rowOf mv_X1_rowOf (sH0 hT.H) (fun q hq => by cases hq; rfl) (by decide) (Or.inl ⟨rfl, SHL_lt (sH0 hT.H)⟩) (th_X1_rowOf (srh.ly ly) hT.H q4) rfl rfl ⟨Nat.le_of_ble_eq_true rfl, Nat.le_of_ble_eq_true rfl, fun _ => ⟨rfl, rfl⟩⟩ (Nat.le_of_ble_eq_true rfl) rfl (post_I (fun sq => ?_))
        have srh5 : SR h h5 := srh.trans sq
        clear sq q4
        obtain ⟨r9, h8, q7, hf2⟩ := bd2_el hf
        replace hf := hf2
        clear hf2
        refine V.callVI dX11_reads_37 ml_X11_161 mo_X11_answer mv_X11_answer rfl (fun q hq => by cases hq; rfl) (by decide) (Or.inl ⟨rfl, SHL_lt rfl⟩) (th_X11_answer (srh5.ly ly) q7) rfl rfl ⟨Nat.le_of_ble_eq_true rfl, Nat.le_of_ble_eq_true rfl, fun _ => ⟨rfl, rfl⟩⟩ (Nat.le_of_ble_eq_true rfl) rfl (post_I (fun sq => ?_))
        have srh8 : SR h h8 := srh5.trans sq
        clear sq q7
        refine V.ireturn dX11_reads_40 rfl rfl ⟨rfl, rfl⟩ ly.1 ?_
        exact ret_I hf srh8
set_option maxRecDepth 100000 in
theorem th_X11_mirror {h : HP} (ly : Lay h) {t : Nat} (hT : isT t) (pr : hR h 0 8 = t)  {rr : Int32} {hh : HP} (hf : f_X11_mirror h t = some (rr, hh)) : Spec yX11_mirror cX11_mirror miX11_mirror [.ref 0] h (pI fun r' h' => (r' = rr ∧ h' = hh) ∧ SR h hh) := by
  refine Spec.of (ls0 := [.ref 0]) mo_X11_mirror (Nat.le_of_ble_eq_true rfl) rfl ?_
  rw [ly.1]
  have srh : SR h h := SR.refl h
  unfold f_X11_mirror at hf
  refine V.aload_n dX11_mirror_0 rfl rfl rfl ?_
  refine V.aload_n dX11_mirror_1 rfl rfl rfl ?_
  refine V.getR (r := t) dX11_mirror_2 fl_X11_61 rfl (Or.inl ⟨rfl, SHL_lt rfl⟩) rfl (srh.pr pr) ?_
  refine V.getR (r := t + 1) dX11_mirror_5 fl_X11_147 (sT0 hT) (Or.inl ⟨rfl, SHL_lt (sT0 hT)⟩) rfl (rT_hill (srh.ly ly) hT) ?_
  refine V.aload_n dX11_mirror_8 rfl rfl rfl ?_
  refine V.getR (r := t) dX11_mirror_9 fl_X11_61 rfl (Or.inl ⟨rfl, SHL_lt rfl⟩) rfl (srh.pr pr) ?_
  refine V.getI dX11_mirror_12 fl_X11_198 (sT0 hT) (Or.inl ⟨rfl, SHL_lt (sT0 hT)⟩) rfl rfl ?_
  obtain ⟨r3, h2, q1, hf2⟩ := bd2_el hf
  replace hf := hf2
  clear hf2
  refine V.callVI dX11_mirror_15 ml_X11_381 mo_X1_isMirror mv_X1_isMirror (sH0 hT.H) (fun q hq => by cases hq; rfl) (by decide) (Or.inl ⟨rfl, SHL_lt (sH0 hT.H)⟩) (th_X1_isMirror (srh.ly ly) hT.H q1) rfl rfl ⟨Nat.le_of_ble_eq_true rfl, Nat.le_of_ble_eq_true rfl, fun _ => ⟨rfl, rfl⟩⟩ (Nat.le_of_ble_eq_true rfl) rfl (post_I (fun sq => ?_))
  have srh2 : SR h h2 := srh.trans sq
  clear sq q1
  refine V.if_eq (tgt := 25) dX11_mirror_18 (by decide) (fun c4 => ?_) (fun c4 => ?_)
  · replace hf := ite_p hf c4
    refine V.iconst (v := 0) dX11_mirror_25 rfl ?_
    obtain ⟨r7, h6, q5, hf2⟩ := bd2_el hf
    replace hf := hf2
    clear hf2
    refine V.callVI dX11_mirror_26 ml_X11_161 mo_X11_answer mv_X11_answer rfl (fun q hq => by cases hq; rfl) (by decide) (Or.inl ⟨rfl, SHL_lt rfl⟩) (th_X11_answer (srh2.ly ly) q5) rfl rfl ⟨Nat.le_of_ble_eq_true rfl, Nat.le_of_ble_eq_true rfl, fun _ => ⟨rfl, rfl⟩⟩ (Nat.le_of_ble_eq_true rfl) rfl (post_I (fun sq => ?_))
    have srh6 : SR h h6 := srh2.trans sq
    clear sq q5
    refine V.ireturn dX11_mirror_29 rfl rfl ⟨rfl, rfl⟩ ly.1 ?_
    exact ret_I hf srh6
  · replace hf := ite_n hf c4
    refine V.iconst (v := 1) dX11_mirror_21 rfl ?_
    refine V.goto (tgt := 26) dX11_mirror_22 (by decide) ?_
    obtain ⟨r10, h9, q8, hf2⟩ := bd2_el hf
    replace hf := hf2
    clear hf2
    refine V.callVI dX11_mirror_26 ml_X11_161 mo_X11_answer mv_X11_answer rfl (fun q hq => by cases hq; rfl) (by decide) (Or.inl ⟨rfl, SHL_lt rfl⟩) (th_X11_answer (srh2.ly ly) q8) rfl rfl ⟨Nat.le_of_ble_eq_true rfl, Nat.le_of_ble_eq_true rfl, fun _ => ⟨rfl, rfl⟩⟩ (Nat.le_of_ble_eq_true rfl) rfl (post_I (fun sq => ?_))
    have srh9 : SR h h9 := srh2.trans sq
    clear sq q8
    refine V.ireturn dX11_mirror_29 rfl rfl ⟨rfl, rfl⟩ ly.1 ?_
    exact ret_I hf srh9
set_option maxRecDepth 100000 in
theorem th_X11_heaps_31 {h0 : HP} (ly : Lay h0) {t : Nat} (hT : isT t) (pr : hR h0 0 8 = t) {rr : Int32} {hh : HP}  : ∀ (n : Nat) (l1 : Int32) (l2 : Int32) (l3 : Int32) (l4 : Int32) (l5 : Int32) (h : HP), SR h0 h → f_X11_heaps_31 t n l1 l2 l3 l4 l5 h = some (rr, hh) → V cX11_heaps miX11_heaps (ZI h0 miX11_heaps rr hh) 130 31 [.ref 0, .int l1, .int l2, .int l3, .int l4, .int l5, .null] [] h := by
  intro n
  induction n with
  | zero => intro l1 l2 l3 l4 l5 h srh hf; exact absurd hf (by unfold f_X11_heaps_31; simp)
  | succ n ih =>
    intro l1 l2 l3 l4 l5 h srh hf
    unfold f_X11_heaps_31 at hf
    refine V.iload dX11_heaps_31 rfl ?_
    refine V.bipush (v := 30) dX11_heaps_33 rfl ?_
    refine V.icmp_ge (tgt := 87) dX11_heaps_35 (by decide) (fun c10 => ?_) (fun c10 => ?_)
    · replace hf := ite_p hf c10
      refine V.aload_n dX11_heaps_87 rfl rfl rfl ?_
      refine V.iload_n dX11_heaps_88 rfl rfl ?_
      refine V.if_ne (tgt := 96) dX11_heaps_89 (by decide) (fun c11 => ?_) (fun c11 => ?_)
      · replace hf := ite_n hf c11
        refine V.iload dX11_heaps_96 rfl ?_
        obtain ⟨r14, h13, q12, hf2⟩ := bd2_el hf
        replace hf := hf2
        clear hf2
        refine V.callVI dX11_heaps_98 ml_X11_161 mo_X11_answer mv_X11_answer rfl (fun q hq => by cases hq; rfl) (by decide) (Or.inl ⟨rfl, SHL_lt rfl⟩) (th_X11_answer (srh.ly ly) q12) rfl rfl ⟨Nat.le_of_ble_eq_true rfl, Nat.le_of_ble_eq_true rfl, fun _ => ⟨rfl, rfl⟩⟩ (Nat.le_of_ble_eq_true rfl) rfl (post_I (fun sq => ?_))
        have srh13 : SR h0 h13 := srh.trans sq
        clear sq q12
        refine V.ireturn dX11_heaps_101 rfl rfl ⟨rfl, rfl⟩ ly.1 ?_
        exact ret_I hf srh13
      · replace hf := ite_p hf c11
        refine V.iload_n dX11_heaps_92 rfl rfl ?_
        refine V.goto (tgt := 98) dX11_heaps_93 (by decide) ?_
        obtain ⟨r17, h16, q15, hf2⟩ := bd2_el hf
        replace hf := hf2
        clear hf2
        refine V.callVI dX11_heaps_98 ml_X11_161 mo_X11_answer mv_X11_answer rfl (fun q hq => by cases hq; rfl) (by decide) (Or.inl ⟨rfl, SHL_lt rfl⟩) (th_X11_answer (srh.ly ly) q15) rfl rfl ⟨Nat.le_of_ble_eq_true rfl, Nat.le_of_ble_eq_true rfl, fun _ => ⟨rfl, rfl⟩⟩ (Nat.le_of_ble_eq_true rfl) rfl (post_I (fun sq => ?_))
        have srh16 : SR h0 h16 := srh.trans sq
        clear sq q15
        refine V.ireturn dX11_heaps_101 rfl rfl ⟨rfl, rfl⟩ ly.1 ?_
        exact ret_I hf srh16
    · replace hf := ite_n hf c10
      refine V.iload_n dX11_heaps_38 rfl rfl ?_
      refine V.if_eq (tgt := 87) dX11_heaps_39 (by decide) (fun c18 => ?_) (fun c18 => ?_)
      · replace hf := ite_p hf c18
        refine V.aload_n dX11_heaps_87 rfl rfl rfl ?_
        refine V.iload_n dX11_heaps_88 rfl rfl ?_
        refine V.if_ne (tgt := 96) dX11_heaps_89 (by decide) (fun c19 => ?_) (fun c19 => ?_)
        · replace hf := ite_n hf c19
          refine V.iload dX11_heaps_96 rfl ?_
          obtain ⟨r22, h21, q20, hf2⟩ := bd2_el hf
          replace hf := hf2
          clear hf2
          refine V.callVI dX11_heaps_98 ml_X11_161 mo_X11_answer mv_X11_answer rfl (fun q hq => by cases hq; rfl) (by decide) (Or.inl ⟨rfl, SHL_lt rfl⟩) (th_X11_answer (srh.ly ly) q20) rfl rfl ⟨Nat.le_of_ble_eq_true rfl, Nat.le_of_ble_eq_true rfl, fun _ => ⟨rfl, rfl⟩⟩ (Nat.le_of_ble_eq_true rfl) rfl (post_I (fun sq => ?_))
          have srh21 : SR h0 h21 := srh.trans sq
          clear sq q20
          refine V.ireturn dX11_heaps_101 rfl rfl ⟨rfl, rfl⟩ ly.1 ?_
          exact ret_I hf srh21
        · replace hf := ite_p hf c19
          refine V.iload_n dX11_heaps_92 rfl rfl ?_
          refine V.goto (tgt := 98) dX11_heaps_93 (by decide) ?_
          obtain ⟨r25, h24, q23, hf2⟩ := bd2_el hf
          replace hf := hf2
          clear hf2
          refine V.callVI dX11_heaps_98 ml_X11_161 mo_X11_answer mv_X11_answer rfl (fun q hq => by cases hq; rfl) (by decide) (Or.inl ⟨rfl, SHL_lt rfl⟩) (th_X11_answer (srh.ly ly) q23) rfl rfl ⟨Nat.le_of_ble_eq_true rfl, Nat.le_of_ble_eq_true rfl, fun _ => ⟨rfl, rfl⟩⟩ (Nat.le_of_ble_eq_true rfl) rfl (post_I (fun sq => ?_))
          have srh24 : SR h0 h24 := srh.trans sq
          clear sq q23
          refine V.ireturn dX11_heaps_101 rfl rfl ⟨rfl, rfl⟩ ly.1 ?_
          exact ret_I hf srh24
      · replace hf := ite_n hf c18
        refine V.aload_n dX11_heaps_42 rfl rfl rfl ?_
        refine V.getR (r := t) dX11_heaps_43 fl_X11_61 rfl (Or.inl ⟨rfl, SHL_lt rfl⟩) rfl (srh.pr pr) ?_
        refine V.getR (r := t + 1) dX11_heaps_46 fl_X11_147 (sT0 hT) (Or.inl ⟨rfl, SHL_lt (sT0 hT)⟩) rfl (rT_hill (srh.ly ly) hT) ?_
        refine V.iload_n dX11_heaps_49 rfl rfl ?_
        refine V.iload_n dX11_heaps_50 rfl rfl ?_
        refine V.ineg dX11_heaps_51 ?_
        refine V.iand dX11_heaps_52 ?_
        refine V.iload_n dX11_heaps_53 rfl rfl ?_
        obtain ⟨r28, h27, q26, hf2⟩ := bd2_el hf
        replace hf := hf2
        clear hf2
        refine V.callVI dX11_heaps_54 ml_X11_384 mo_X1_heapOf mv_X1_heapOf (sH0 hT.H) (fun q hq => by cases hq; rfl) (by decide) (Or.inl ⟨rfl, SHL_lt (sH0 hT.H)⟩) (th_X1_heapOf (srh.ly ly) hT.H q26) rfl rfl ⟨Nat.le_of_ble_eq_true rfl, Nat.le_of_ble_eq_true rfl, fun _ => ⟨rfl, rfl⟩⟩ (Nat.le_of_ble_eq_true rfl) rfl (post_I (fun sq => ?_))
        have srh27 : SR h0 h27 := srh.trans sq
        clear sq q26
        refine V.istore (ls' := [.ref 0, .int l1, .int l2, .int l3, .int l4, .int l5, .int r28]) dX11_heaps_57 (by decide) rfl ?_
        refine V.iload_n dX11_heaps_59 rfl rfl ?_
        refine V.iload dX11_heaps_60 rfl ?_
        refine V.iconst (v := (-1)) dX11_heaps_62 rfl ?_
        refine V.ixor dX11_heaps_63 ?_
        refine V.iand dX11_heaps_64 ?_
        refine V.nmi (fun x29 ex29 => ?_)
        replace hf := lt_el hf x29 ex29
        refine V.istore_n (ls' := [.ref 0, .int l1, .int x29, .int l3, .int l4, .int l5, .int r28]) dX11_heaps_65 rfl (by decide) rfl ?_
        obtain ⟨x30, ex30⟩ : ∃ y : Int32, y = l3 + 1 := ⟨_, rfl⟩
        replace hf := lt_el hf x30 ex30
        refine V.iinc (v := x30) (ls' := [.ref 0, .int l1, .int x29, .int x30, .int l4, .int l5, .int r28]) dX11_heaps_66 rfl (by decide) ex30.symm rfl ?_
        refine V.iload dX11_heaps_69 rfl ?_
        refine V.iload dX11_heaps_71 rfl ?_
        obtain ⟨r33, h32, q31, hf2⟩ := bd2_el hf
        replace hf := hf2
        clear hf2
        refine V.callSI dX11_heaps_73 ml_X11_156 mo_J6_bitCount_0f7a4 ms_J6_bitCount_0f7a4 (th_J6_bitCount_0f7a4 (srh27.ly ly) q31) rfl rfl ⟨Nat.le_of_ble_eq_true rfl, Nat.le_of_ble_eq_true rfl, fun _ => ⟨rfl, rfl⟩⟩ (Nat.le_of_ble_eq_true rfl) rfl (post_I (fun sq => ?_))
        have srh32 : SR h0 h32 := srh27.trans sq
        clear sq q31
        refine V.max dX11_heaps_76 lk_X11_306 max_ok rfl ⟨Nat.le_of_ble_eq_true rfl, Nat.le_of_ble_eq_true rfl⟩ ?_
        refine V.nmi (fun x34 ex34 => ?_)
        replace hf := lt_el hf x34 ex34
        refine V.istore (ls' := [.ref 0, .int l1, .int x29, .int x30, .int x34, .int l5, .int r28]) dX11_heaps_79 (by decide) rfl ?_
        obtain ⟨x35, ex35⟩ : ∃ y : Int32, y = l5 + 1 := ⟨_, rfl⟩
        replace hf := lt_el hf x35 ex35
        refine V.iinc (v := x35) (ls' := [.ref 0, .int l1, .int x29, .int x30, .int x34, .int x35, .int r28]) dX11_heaps_81 rfl (by decide) ex35.symm rfl ?_
        refine V.goto (tgt := 31) dX11_heaps_84 (by decide) ?_
        refine V.less (ls' := [.ref 0, .int l1, .int x29, .int x30, .int x34, .int x35, .null]) ⟨Or.inr rfl, Or.inr rfl, Or.inr rfl, Or.inr rfl, Or.inr rfl, Or.inr rfl, Or.inl rfl, trivial⟩ ?_
        exact ih l1 x29 x30 x34 x35 h32 srh32 hf
set_option maxRecDepth 100000 in
theorem th_X11_heaps {h : HP} (ly : Lay h) {t : Nat} (hT : isT t) (pr : hR h 0 8 = t) {a1 : Int32} {rr : Int32} {hh : HP} (hf : f_X11_heaps h t a1 = some (rr, hh)) : Spec yX11_heaps cX11_heaps miX11_heaps [.ref 0, .int a1] h (pI fun r' h' => (r' = rr ∧ h' = hh) ∧ SR h hh) := by
  refine Spec.of (ls0 := [.ref 0, .int a1, .null, .null, .null, .null, .null]) mo_X11_heaps (Nat.le_of_ble_eq_true rfl) rfl ?_
  rw [ly.1]
  have srh : SR h h := SR.refl h
  unfold f_X11_heaps at hf
  refine V.iload_n dX11_heaps_0 rfl rfl ?_
  refine V.if_lt (tgt := 9) dX11_heaps_1 (by decide) (fun c1 => ?_) (fun c1 => ?_)
  · replace hf := ite_p hf c1
    refine V.aload_n dX11_heaps_9 rfl rfl rfl ?_
    refine V.iconst (v := 1) dX11_heaps_10 rfl ?_
    obtain ⟨r4, h3, q2, hf2⟩ := bd2_el hf
    replace hf := hf2
    clear hf2
    refine V.callVI dX11_heaps_11 ml_X11_105 mo_X11_refuse mv_X11_refuse rfl (fun q hq => by cases hq; rfl) (by decide) (Or.inl ⟨rfl, SHL_lt rfl⟩) (th_X11_refuse (srh.ly ly) q2) rfl rfl ⟨Nat.le_of_ble_eq_true rfl, Nat.le_of_ble_eq_true rfl, fun _ => ⟨rfl, rfl⟩⟩ (Nat.le_of_ble_eq_true rfl) rfl (post_I (fun sq => ?_))
    have srh3 : SR h h3 := srh.trans sq
    clear sq q2
    refine V.ireturn dX11_heaps_14 rfl rfl ⟨rfl, rfl⟩ ly.1 ?_
    exact ret_I hf srh3
  · replace hf := ite_n hf c1
    refine V.iload_n dX11_heaps_4 rfl rfl ?_
    refine V.iconst (v := 1) dX11_heaps_5 rfl ?_
    refine V.icmp_le (tgt := 15) dX11_heaps_6 (by decide) (fun c5 => ?_) (fun c5 => ?_)
    · replace hf := ite_p hf c5
      refine V.aload_n dX11_heaps_15 rfl rfl rfl ?_
      refine V.getR (r := t) dX11_heaps_16 fl_X11_61 rfl (Or.inl ⟨rfl, SHL_lt rfl⟩) rfl (srh.pr pr) ?_
      refine V.getI dX11_heaps_19 fl_X11_198 (sT0 hT) (Or.inl ⟨rfl, SHL_lt (sT0 hT)⟩) rfl rfl ?_
      refine V.nmi (fun x6 ex6 => ?_)
      replace hf := lt_el hf x6 ex6
      refine V.istore_n (ls' := [.ref 0, .int a1, .int x6, .null, .null, .null, .null]) dX11_heaps_22 rfl (by decide) rfl ?_
      refine V.iconst (v := 0) dX11_heaps_23 rfl ?_
      refine V.istore_n (ls' := [.ref 0, .int a1, .int x6, .int 0, .null, .null, .null]) dX11_heaps_24 rfl (by decide) rfl ?_
      refine V.iconst (v := 0) dX11_heaps_25 rfl ?_
      refine V.istore (ls' := [.ref 0, .int a1, .int x6, .int 0, .int 0, .null, .null]) dX11_heaps_26 (by decide) rfl ?_
      refine V.iconst (v := 0) dX11_heaps_28 rfl ?_
      refine V.istore (ls' := [.ref 0, .int a1, .int x6, .int 0, .int 0, .int 0, .null]) dX11_heaps_29 (by decide) rfl ?_
      exact th_X11_heaps_31 ly hT pr FU a1 x6 0 0 0 h srh hf
    · replace hf := ite_n hf c5
      refine V.aload_n dX11_heaps_9 rfl rfl rfl ?_
      refine V.iconst (v := 1) dX11_heaps_10 rfl ?_
      obtain ⟨r9, h8, q7, hf2⟩ := bd2_el hf
      replace hf := hf2
      clear hf2
      refine V.callVI dX11_heaps_11 ml_X11_105 mo_X11_refuse mv_X11_refuse rfl (fun q hq => by cases hq; rfl) (by decide) (Or.inl ⟨rfl, SHL_lt rfl⟩) (th_X11_refuse (srh.ly ly) q7) rfl rfl ⟨Nat.le_of_ble_eq_true rfl, Nat.le_of_ble_eq_true rfl, fun _ => ⟨rfl, rfl⟩⟩ (Nat.le_of_ble_eq_true rfl) rfl (post_I (fun sq => ?_))
      have srh8 : SR h h8 := srh.trans sq
      clear sq q7
      refine V.ireturn dX11_heaps_14 rfl rfl ⟨rfl, rfl⟩ ly.1 ?_
      exact ret_I hf srh8
set_option maxRecDepth 100000 in
theorem th_X11_heap {h : HP} (ly : Lay h) {t : Nat} (hT : isT t) (pr : hR h 0 8 = t) {a1 : Int32} {a2 : Int32} {rr : Int32} {hh : HP} (hf : f_X11_heap h t a1 a2 = some (rr, hh)) : Spec yX11_heap cX11_heap miX11_heap [.ref 0, .int a1, .int a2] h (pI fun r' h' => (r' = rr ∧ h' = hh) ∧ SR h hh) := by
  refine Spec.of (ls0 := [.ref 0, .int a1, .int a2, .null, .null]) mo_X11_heap (Nat.le_of_ble_eq_true rfl) rfl ?_
  rw [ly.1]
  have srh : SR h h := SR.refl h
  unfold f_X11_heap at hf
  refine V.aload_n dX11_heap_0 rfl rfl rfl ?_
  refine V.getR (r := t) dX11_heap_1 fl_X11_61 rfl (Or.inl ⟨rfl, SHL_lt rfl⟩) rfl (srh.pr pr) ?_
  refine V.getR (r := t + 1) dX11_heap_4 fl_X11_147 (sT0 hT) (Or.inl ⟨rfl, SHL_lt (sT0 hT)⟩) rfl (rT_hill (srh.ly ly) hT) ?_
  refine V.iload_n dX11_heap_7 rfl rfl ?_
  refine V.iload_n dX11_heap_8 rfl rfl ?_
  obtain ⟨r3, h2, q1, hf2⟩ := bd2_el hf
  replace hf := hf2
  clear hf2
  refine V.callVI dX11_heap_9 ml_X11_223 mo_X1_placeOf mv_X1_placeOf (sH0 hT.H) (fun q hq => by cases hq; rfl) (by decide) (Or.inl ⟨rfl, SHL_lt (sH0 hT.H)⟩) (th_X1_placeOf (srh.ly ly) hT.H q1) rfl rfl ⟨Nat.le_of_ble_eq_true rfl, Nat.le_of_ble_eq_true rfl, fun _ => ⟨rfl, rfl⟩⟩ (Nat.le_of_ble_eq_true rfl) rfl (post_I (fun sq => ?_))
  have srh2 : SR h h2 := srh.trans sq
  clear sq q1
  refine V.istore_n (ls' := [.ref 0, .int a1, .int a2, .int r3, .null]) dX11_heap_12 rfl (by decide) rfl ?_
  refine V.iload_n dX11_heap_13 rfl rfl ?_
  refine V.if_ge (tgt := 23) dX11_heap_14 (by decide) (fun c4 => ?_) (fun c4 => ?_)
  · replace hf := ite_p hf c4
    refine V.iconst (v := 1) dX11_heap_23 rfl ?_
    refine V.iload_n dX11_heap_24 rfl rfl ?_
    refine V.ishl dX11_heap_25 ?_
    refine V.nmi (fun x5 ex5 => ?_)
    replace hf := lt_el hf x5 ex5
    refine V.istore (ls' := [.ref 0, .int a1, .int a2, .int r3, .int x5]) dX11_heap_26 (by decide) rfl ?_
    refine V.aload_n dX11_heap_28 rfl rfl rfl ?_
    refine V.getR (r := t) dX11_heap_29 fl_X11_61 rfl (Or.inl ⟨rfl, SHL_lt rfl⟩) rfl (srh2.pr pr) ?_
    refine V.getR (r := t + 1) dX11_heap_32 fl_X11_147 (sT0 hT) (Or.inl ⟨rfl, SHL_lt (sT0 hT)⟩) rfl (rT_hill (srh2.ly ly) hT) ?_
    refine V.getI dX11_heap_35 fl_X11_151 (sH0 hT.H) (Or.inl ⟨rfl, SHL_lt (sH0 hT.H)⟩) rfl rfl ?_
    refine V.iload dX11_heap_38 rfl ?_
    refine V.iand dX11_heap_40 ?_
    refine V.if_ne (tgt := 51) dX11_heap_41 (by decide) (fun c6 => ?_) (fun c6 => ?_)
    · replace hf := ite_n hf c6
      refine V.aload_n dX11_heap_51 rfl rfl rfl ?_
      refine V.aload_n dX11_heap_52 rfl rfl rfl ?_
      refine V.getR (r := t) dX11_heap_53 fl_X11_61 rfl (Or.inl ⟨rfl, SHL_lt rfl⟩) rfl (srh2.pr pr) ?_
      refine V.getR (r := t + 1) dX11_heap_56 fl_X11_147 (sT0 hT) (Or.inl ⟨rfl, SHL_lt (sT0 hT)⟩) rfl (rT_hill (srh2.ly ly) hT) ?_
      refine V.iload dX11_heap_59 rfl ?_
      refine V.aload_n dX11_heap_61 rfl rfl rfl ?_
      refine V.getR (r := t) dX11_heap_62 fl_X11_61 rfl (Or.inl ⟨rfl, SHL_lt rfl⟩) rfl (srh2.pr pr) ?_
      refine V.getI dX11_heap_65 fl_X11_198 (sT0 hT) (Or.inl ⟨rfl, SHL_lt (sT0 hT)⟩) rfl rfl ?_
      refine V.iand dX11_heap_68 ?_
      refine V.aload_n dX11_heap_69 rfl rfl rfl ?_
      refine V.getR (r := t) dX11_heap_70 fl_X11_61 rfl (Or.inl ⟨rfl, SHL_lt rfl⟩) rfl (srh2.pr pr) ?_
      refine V.getI dX11_heap_73 fl_X11_198 (sT0 hT) (Or.inl ⟨rfl, SHL_lt (sT0 hT)⟩) rfl rfl ?_
      obtain ⟨r9, h8, q7, hf2⟩ := bd2_el hf
      replace hf := hf2
      clear hf2
      refine V.callVI dX11_heap_76 ml_X11_384 mo_X1_heapOf mv_X1_heapOf (sH0 hT.H) (fun q hq => by cases hq; rfl) (by decide) (Or.inl ⟨rfl, SHL_lt (sH0 hT.H)⟩) (th_X1_heapOf (srh2.ly ly) hT.H q7) rfl rfl ⟨Nat.le_of_ble_eq_true rfl, Nat.le_of_ble_eq_true rfl, fun _ => ⟨rfl, rfl⟩⟩ (Nat.le_of_ble_eq_true rfl) rfl (post_I (fun sq => ?_))
      have srh8 : SR h h8 := srh2.trans sq
      clear sq q7
      obtain ⟨r12, h11, q10, hf2⟩ := bd2_el hf
      replace hf := hf2
      clear hf2
      refine V.callSI dX11_heap_79 ml_X11_156 mo_J6_bitCount_0f7a4 ms_J6_bitCount_0f7a4 (th_J6_bitCount_0f7a4 (srh8.ly ly) q10) rfl rfl ⟨Nat.le_of_ble_eq_true rfl, Nat.le_of_ble_eq_true rfl, fun _ => ⟨rfl, rfl⟩⟩ (Nat.le_of_ble_eq_true rfl) rfl (post_I (fun sq => ?_))
      have srh11 : SR h h11 := srh8.trans sq
      clear sq q10
      obtain ⟨r15, h14, q13, hf2⟩ := bd2_el hf
      replace hf := hf2
      clear hf2
      refine V.callVI dX11_heap_82 ml_X11_161 mo_X11_answer mv_X11_answer rfl (fun q hq => by cases hq; rfl) (by decide) (Or.inl ⟨rfl, SHL_lt rfl⟩) (th_X11_answer (srh11.ly ly) q13) rfl rfl ⟨Nat.le_of_ble_eq_true rfl, Nat.le_of_ble_eq_true rfl, fun _ => ⟨rfl, rfl⟩⟩ (Nat.le_of_ble_eq_true rfl) rfl (post_I (fun sq => ?_))
      have srh14 : SR h h14 := srh11.trans sq
      clear sq q13
      refine V.ireturn dX11_heap_85 rfl rfl ⟨rfl, rfl⟩ ly.1 ?_
      exact ret_I hf srh14
    · replace hf := ite_p hf c6
      refine V.aload_n dX11_heap_44 rfl rfl rfl ?_
      refine V.bipush (v := 7) dX11_heap_45 rfl ?_
      obtain ⟨r18, h17, q16, hf2⟩ := bd2_el hf
      replace hf := hf2
      clear hf2
      refine V.callVI dX11_heap_47 ml_X11_105 mo_X11_refuse mv_X11_refuse rfl (fun q hq => by cases hq; rfl) (by decide) (Or.inl ⟨rfl, SHL_lt rfl⟩) (th_X11_refuse (srh2.ly ly) q16) rfl rfl ⟨Nat.le_of_ble_eq_true rfl, Nat.le_of_ble_eq_true rfl, fun _ => ⟨rfl, rfl⟩⟩ (Nat.le_of_ble_eq_true rfl) rfl (post_I (fun sq => ?_))
      have srh17 : SR h h17 := srh2.trans sq
      clear sq q16
      refine V.ireturn dX11_heap_50 rfl rfl ⟨rfl, rfl⟩ ly.1 ?_
      exact ret_I hf srh17
  · replace hf := ite_n hf c4
    refine V.aload_n dX11_heap_17 rfl rfl rfl ?_
    refine V.iconst (v := 1) dX11_heap_18 rfl ?_
    obtain ⟨r21, h20, q19, hf2⟩ := bd2_el hf
    replace hf := hf2
    clear hf2
    refine V.callVI dX11_heap_19 ml_X11_105 mo_X11_refuse mv_X11_refuse rfl (fun q hq => by cases hq; rfl) (by decide) (Or.inl ⟨rfl, SHL_lt rfl⟩) (th_X11_refuse (srh2.ly ly) q19) rfl rfl ⟨Nat.le_of_ble_eq_true rfl, Nat.le_of_ble_eq_true rfl, fun _ => ⟨rfl, rfl⟩⟩ (Nat.le_of_ble_eq_true rfl) rfl (post_I (fun sq => ?_))
    have srh20 : SR h h20 := srh2.trans sq
    clear sq q19
    refine V.ireturn dX11_heap_22 rfl rfl ⟨rfl, rfl⟩ ly.1 ?_
    exact ret_I hf srh20
set_option maxRecDepth 100000 in
theorem th_X11_company_34 {h0 : HP} (ly : Lay h0) {t : Nat} (hT : isT t) (pr : hR h0 0 8 = t) {rr : Int32} {hh : HP}  : ∀ (n : Nat) (l1 : Int32) (l2 : Int32) (l3 : Int32) (h : HP), SR h0 h → f_X11_company_34 t n l1 l2 l3 h = some (rr, hh) → V cX11_company miX11_company (ZI h0 miX11_company rr hh) 130 34 [.ref 0, .int l1, .int l2, .int l3] [] h := by
  intro n
  induction n with
  | zero => intro l1 l2 l3 h srh hf; exact absurd hf (by unfold f_X11_company_34; simp)
  | succ n ih =>
    intro l1 l2 l3 h srh hf
    unfold f_X11_company_34 at hf
    refine V.iload_n dX11_company_34 rfl rfl ?_
    refine V.iconst (v := 5) dX11_company_35 rfl ?_
    refine V.icmp_ge (tgt := 67) dX11_company_36 (by decide) (fun c9 => ?_) (fun c9 => ?_)
    · replace hf := ite_p hf c9
      refine V.aload_n dX11_company_67 rfl rfl rfl ?_
      refine V.iload_n dX11_company_68 rfl rfl ?_
      refine V.iload_n dX11_company_69 rfl rfl ?_
      obtain ⟨r12, h11, q10, hf2⟩ := bd2_el hf
      replace hf := hf2
      clear hf2
      refine V.callSI dX11_company_70 ml_X11_156 mo_J6_bitCount_0f7a4 ms_J6_bitCount_0f7a4 (th_J6_bitCount_0f7a4 (srh.ly ly) q10) rfl rfl ⟨Nat.le_of_ble_eq_true rfl, Nat.le_of_ble_eq_true rfl, fun _ => ⟨rfl, rfl⟩⟩ (Nat.le_of_ble_eq_true rfl) rfl (post_I (fun sq => ?_))
      have srh11 : SR h0 h11 := srh.trans sq
      clear sq q10
      obtain ⟨h14, q13, hf2⟩ := bd_el hf
      replace hf := hf2
      clear hf2
      refine V.callVV dX11_company_73 ml_X11_393 mo_X11_tellFraction mv_X11_tellFraction rfl (fun q hq => by cases hq; rfl) (by decide) (Or.inl ⟨rfl, SHL_lt rfl⟩) (th_X11_tellFraction (srh11.ly ly) q13) rfl rfl ⟨Nat.le_of_ble_eq_true rfl, Nat.le_of_ble_eq_true rfl, fun _ => ⟨rfl, rfl⟩⟩ (Nat.le_of_ble_eq_true rfl) (Or.inl rfl) (post_V (fun sq => ?_))
      have srh14 : SR h0 h14 := srh11.trans sq
      clear sq q13
      refine V.aload_n dX11_company_76 rfl rfl rfl ?_
      obtain ⟨r17, h16, q15, hf2⟩ := bd2_el hf
      replace hf := hf2
      clear hf2
      refine V.callVI dX11_company_77 ml_X11_93 mo_X11_allow mv_X11_allow rfl (fun q hq => by cases hq; rfl) (by decide) (Or.inl ⟨rfl, SHL_lt rfl⟩) (th_X11_allow (srh14.ly ly) q15) rfl rfl ⟨Nat.le_of_ble_eq_true rfl, Nat.le_of_ble_eq_true rfl, fun _ => ⟨rfl, rfl⟩⟩ (Nat.le_of_ble_eq_true rfl) rfl (post_I (fun sq => ?_))
      have srh16 : SR h0 h16 := srh14.trans sq
      clear sq q15
      obtain ⟨b18, hf2⟩ := gd_el hf
      replace hf := hf2
      clear hf2
      refine V.ireturn dX11_company_80 rfl (narB b18) ⟨rfl, rfl⟩ ly.1 ?_
      exact ret_I hf srh16
    · replace hf := ite_n hf c9
      refine V.iload_n dX11_company_39 rfl rfl ?_
      refine V.iload_n dX11_company_40 rfl rfl ?_
      refine V.aload_n dX11_company_41 rfl rfl rfl ?_
      refine V.getR (r := t) dX11_company_42 fl_X11_61 rfl (Or.inl ⟨rfl, SHL_lt rfl⟩) rfl (srh.pr pr) ?_
      refine V.getR (r := t + 1) dX11_company_45 fl_X11_147 (sT0 hT) (Or.inl ⟨rfl, SHL_lt (sT0 hT)⟩) rfl (rT_hill (srh.ly ly) hT) ?_
      refine V.getR (r := t + 1 + 1) dX11_company_48 fl_X11_390 (sH0 hT.H) (Or.inl ⟨rfl, SHL_lt (sH0 hT.H)⟩) rfl (rH_withLit (srh.ly ly) hT.H) ?_
      refine V.iload_n dX11_company_51 rfl rfl ?_
      obtain ⟨b19, hf2⟩ := gdi_el hf
      replace hf := hf2
      clear hf2
      refine V.iaload dX11_company_52 (sH1 hT.H) (Or.inl ⟨rfl, SHL_lt (sH1 hT.H)⟩) b19 ?_
      refine V.iload_n dX11_company_53 rfl rfl ?_
      refine V.iand dX11_company_54 ?_
      obtain ⟨r22, h21, q20, hf2⟩ := bd2_el hf
      replace hf := hf2
      clear hf2
      refine V.callSI dX11_company_55 ml_X11_156 mo_J6_bitCount_0f7a4 ms_J6_bitCount_0f7a4 (th_J6_bitCount_0f7a4 (srh.ly ly) q20) rfl rfl ⟨Nat.le_of_ble_eq_true rfl, Nat.le_of_ble_eq_true rfl, fun _ => ⟨rfl, rfl⟩⟩ (Nat.le_of_ble_eq_true rfl) rfl (post_I (fun sq => ?_))
      have srh21 : SR h0 h21 := srh.trans sq
      clear sq q20
      refine V.imul dX11_company_58 ?_
      refine V.iadd dX11_company_59 ?_
      refine V.nmi (fun x23 ex23 => ?_)
      replace hf := lt_el hf x23 ex23
      refine V.istore_n (ls' := [.ref 0, .int l1, .int x23, .int l3]) dX11_company_60 rfl (by decide) rfl ?_
      obtain ⟨x24, ex24⟩ : ∃ y : Int32, y = l3 + 1 := ⟨_, rfl⟩
      replace hf := lt_el hf x24 ex24
      refine V.iinc (v := x24) (ls' := [.ref 0, .int l1, .int x23, .int x24]) dX11_company_61 rfl (by decide) ex24.symm rfl ?_
      refine V.goto (tgt := 34) dX11_company_64 (by decide) ?_
      exact ih l1 x23 x24 h21 srh21 hf
set_option maxRecDepth 100000 in
theorem th_X11_company {h : HP} (ly : Lay h) {t : Nat} (hT : isT t) (pr : hR h 0 8 = t)  {rr : Int32} {hh : HP} (hf : f_X11_company h t = some (rr, hh)) : Spec yX11_company cX11_company miX11_company [.ref 0] h (pI fun r' h' => (r' = rr ∧ h' = hh) ∧ SR h hh) := by
  refine Spec.of (ls0 := [.ref 0, .null, .null, .null]) mo_X11_company (Nat.le_of_ble_eq_true rfl) rfl ?_
  rw [ly.1]
  have srh : SR h h := SR.refl h
  unfold f_X11_company at hf
  refine V.aload_n dX11_company_0 rfl rfl rfl ?_
  refine V.getR (r := t) dX11_company_1 fl_X11_61 rfl (Or.inl ⟨rfl, SHL_lt rfl⟩) rfl (srh.pr pr) ?_
  refine V.getI dX11_company_4 fl_X11_198 (sT0 hT) (Or.inl ⟨rfl, SHL_lt (sT0 hT)⟩) rfl rfl ?_
  refine V.nmi (fun x1 ex1 => ?_)
  replace hf := lt_el hf x1 ex1
  refine V.istore_n (ls' := [.ref 0, .int x1, .null, .null]) dX11_company_7 rfl (by decide) rfl ?_
  refine V.iload_n dX11_company_8 rfl rfl ?_
  refine V.if_ne (tgt := 19) dX11_company_9 (by decide) (fun c2 => ?_) (fun c2 => ?_)
  · replace hf := ite_n hf c2
    refine V.aload_n dX11_company_19 rfl rfl rfl ?_
    refine V.getR (r := t) dX11_company_20 fl_X11_61 rfl (Or.inl ⟨rfl, SHL_lt rfl⟩) rfl (srh.pr pr) ?_
    refine V.getR (r := t + 1) dX11_company_23 fl_X11_147 (sT0 hT) (Or.inl ⟨rfl, SHL_lt (sT0 hT)⟩) rfl (rT_hill (srh.ly ly) hT) ?_
    refine V.iload_n dX11_company_26 rfl rfl ?_
    obtain ⟨h4, q3, hf2⟩ := bd_el hf
    replace hf := hf2
    clear hf2
    refine V.callVV dX11_company_27 ml_X11_387 mo_X1_countLit mv_X1_countLit (sH0 hT.H) (fun q hq => by cases hq; rfl) (by decide) (Or.inl ⟨rfl, SHL_lt (sH0 hT.H)⟩) (th_X1_countLit (srh.ly ly) hT.H q3) rfl rfl ⟨Nat.le_of_ble_eq_true rfl, Nat.le_of_ble_eq_true rfl, fun _ => ⟨rfl, rfl⟩⟩ (Nat.le_of_ble_eq_true rfl) (Or.inl rfl) (post_V (fun sq => ?_))
    have srh4 : SR h h4 := srh.trans sq
    clear sq q3
    refine V.iconst (v := 0) dX11_company_30 rfl ?_
    refine V.istore_n (ls' := [.ref 0, .int x1, .int 0, .null]) dX11_company_31 rfl (by decide) rfl ?_
    refine V.iconst (v := 1) dX11_company_32 rfl ?_
    refine V.istore_n (ls' := [.ref 0, .int x1, .int 0, .int 1]) dX11_company_33 rfl (by decide) rfl ?_
    exact th_X11_company_34 ly hT pr FU x1 0 1 h4 srh4 hf
  · replace hf := ite_p hf c2
    refine V.aload_n dX11_company_12 rfl rfl rfl ?_
    refine V.bipush (v := 6) dX11_company_13 rfl ?_
    obtain ⟨r7, h6, q5, hf2⟩ := bd2_el hf
    replace hf := hf2
    clear hf2
    refine V.callVI dX11_company_15 ml_X11_86 mo_X11_deny mv_X11_deny rfl (fun q hq => by cases hq; rfl) (by decide) (Or.inl ⟨rfl, SHL_lt rfl⟩) (th_X11_deny (srh.ly ly) q5) rfl rfl ⟨Nat.le_of_ble_eq_true rfl, Nat.le_of_ble_eq_true rfl, fun _ => ⟨rfl, rfl⟩⟩ (Nat.le_of_ble_eq_true rfl) rfl (post_I (fun sq => ?_))
    have srh6 : SR h h6 := srh.trans sq
    clear sq q5
    obtain ⟨b8, hf2⟩ := gd_el hf
    replace hf := hf2
    clear hf2
    refine V.ireturn dX11_company_18 rfl (narB b8) ⟨rfl, rfl⟩ ly.1 ?_
    exact ret_I hf srh6
set_option maxRecDepth 100000 in
theorem th_X11_live {h : HP} (ly : Lay h) {t : Nat} (hT : isT t) (pr : hR h 0 8 = t) {a1 : Int32} {rr : Int32} {hh : HP} (hf : f_X11_live h t a1 = some (rr, hh)) : Spec yX11_live cX11_live miX11_live [.ref 0, .int a1] h (pI fun r' h' => (r' = rr ∧ h' = hh) ∧ SR h hh) := by
  refine Spec.of (ls0 := [.ref 0, .int a1]) mo_X11_live (Nat.le_of_ble_eq_true rfl) rfl ?_
  rw [ly.1]
  have srh : SR h h := SR.refl h
  unfold f_X11_live at hf
  refine V.iload_n dX11_live_0 rfl rfl ?_
  refine V.if_lt (tgt := 11) dX11_live_1 (by decide) (fun c1 => ?_) (fun c1 => ?_)
  · replace hf := ite_p hf c1
    refine V.aload_n dX11_live_11 rfl rfl rfl ?_
    refine V.iconst (v := 1) dX11_live_12 rfl ?_
    obtain ⟨r4, h3, q2, hf2⟩ := bd2_el hf
    replace hf := hf2
    clear hf2
    refine V.callVI dX11_live_13 ml_X11_105 mo_X11_refuse mv_X11_refuse rfl (fun q hq => by cases hq; rfl) (by decide) (Or.inl ⟨rfl, SHL_lt rfl⟩) (th_X11_refuse (srh.ly ly) q2) rfl rfl ⟨Nat.le_of_ble_eq_true rfl, Nat.le_of_ble_eq_true rfl, fun _ => ⟨rfl, rfl⟩⟩ (Nat.le_of_ble_eq_true rfl) rfl (post_I (fun sq => ?_))
    have srh3 : SR h h3 := srh.trans sq
    clear sq q2
    refine V.ireturn dX11_live_16 rfl rfl ⟨rfl, rfl⟩ ly.1 ?_
    exact ret_I hf srh3
  · replace hf := ite_n hf c1
    refine V.iload_n dX11_live_4 rfl rfl ?_
    refine V.sipush (v := 9999) dX11_live_5 rfl ?_
    refine V.icmp_le (tgt := 17) dX11_live_8 (by decide) (fun c5 => ?_) (fun c5 => ?_)
    · replace hf := ite_p hf c5
      refine V.aload_n dX11_live_17 rfl rfl rfl ?_
      refine V.getR (r := t) dX11_live_18 fl_X11_61 rfl (Or.inl ⟨rfl, SHL_lt rfl⟩) rfl (srh.pr pr) ?_
      refine V.getR (r := t + 3) dX11_live_21 fl_X11_166 (sT0 hT) (Or.inl ⟨rfl, SHL_lt (sT0 hT)⟩) rfl (rT_year (srh.ly ly) hT) ?_
      refine V.getI dX11_live_24 fl_X11_397 (sY0 hT.Y) (Or.inl ⟨rfl, SHL_lt (sY0 hT.Y)⟩) rfl rfl ?_
      refine V.if_ne (tgt := 37) dX11_live_27 (by decide) (fun c6 => ?_) (fun c6 => ?_)
      · replace hf := ite_n hf c6
        refine V.aload_n dX11_live_37 rfl rfl rfl ?_
        refine V.getR (r := 75) dX11_live_38 fl_X11_54 rfl (Or.inl ⟨rfl, SHL_lt rfl⟩) rfl (ly_0_6 (srh.ly ly)) ?_
        refine V.aload_n dX11_live_41 rfl rfl rfl ?_
        refine V.getR (r := t) dX11_live_42 fl_X11_61 rfl (Or.inl ⟨rfl, SHL_lt rfl⟩) rfl (srh.pr pr) ?_
        refine V.iload_n dX11_live_45 rfl rfl ?_
        obtain ⟨h8, q7, hf2⟩ := bd_el hf
        replace hf := hf2
        clear hf2
        refine V.callVV dX11_live_46 ml_X11_400 mo_X2_liveBy mv_X2_liveBy (sV0 isV_75) (fun q hq => by cases hq; rfl) (by decide) (Or.inl ⟨rfl, SHL_lt (sV0 isV_75)⟩) (th_X2_liveBy (srh.ly ly) isV_75 hT q7) rfl rfl ⟨Nat.le_of_ble_eq_true rfl, Nat.le_of_ble_eq_true rfl, fun _ => ⟨rfl, rfl⟩⟩ (Nat.le_of_ble_eq_true rfl) (Or.inl rfl) (post_V (fun sq => ?_))
        have srh8 : SR h h8 := srh.trans sq
        clear sq q7
        refine V.aload_n dX11_live_49 rfl rfl rfl ?_
        refine V.iconst (v := 1) dX11_live_50 rfl ?_
        refine V.putI dX11_live_51 fl_X11_403 rfl (Or.inl ⟨rfl, SHL_lt rfl⟩) rfl (fun q hq => by cases hq; rfl) ⟨rfl, rfl⟩ ?_
        refine V.nameH (fun g9 eg9 => ?_)
        replace hf := lt_el hf g9 eg9
        have srg9 : SR h g9 := by rw [eg9]; exact srh8.I _ _ _
        refine V.aload_n dX11_live_54 rfl rfl rfl ?_
        refine V.aload_n dX11_live_55 rfl rfl rfl ?_
        refine V.getR (r := 75) dX11_live_56 fl_X11_54 rfl (Or.inl ⟨rfl, SHL_lt rfl⟩) rfl (ly_0_6 (srg9.ly ly)) ?_
        refine V.getI dX11_live_59 fl_X11_406 (sV0 isV_75) (Or.inl ⟨rfl, SHL_lt (sV0 isV_75)⟩) rfl rfl ?_
        obtain ⟨r12, h11, q10, hf2⟩ := bd2_el hf
        replace hf := hf2
        clear hf2
        refine V.callVI dX11_live_62 ml_X11_161 mo_X11_answer mv_X11_answer rfl (fun q hq => by cases hq; rfl) (by decide) (Or.inl ⟨rfl, SHL_lt rfl⟩) (th_X11_answer (srg9.ly ly) q10) rfl rfl ⟨Nat.le_of_ble_eq_true rfl, Nat.le_of_ble_eq_true rfl, fun _ => ⟨rfl, rfl⟩⟩ (Nat.le_of_ble_eq_true rfl) rfl (post_I (fun sq => ?_))
        have srh11 : SR h h11 := srg9.trans sq
        clear sq q10
        refine V.ireturn dX11_live_65 rfl rfl ⟨rfl, rfl⟩ ly.1 ?_
        exact ret_I hf srh11
      · replace hf := ite_p hf c6
        refine V.aload_n dX11_live_30 rfl rfl rfl ?_
        refine V.bipush (v := 6) dX11_live_31 rfl ?_
        obtain ⟨r15, h14, q13, hf2⟩ := bd2_el hf
        replace hf := hf2
        clear hf2
        refine V.callVI dX11_live_33 ml_X11_105 mo_X11_refuse mv_X11_refuse rfl (fun q hq => by cases hq; rfl) (by decide) (Or.inl ⟨rfl, SHL_lt rfl⟩) (th_X11_refuse (srh.ly ly) q13) rfl rfl ⟨Nat.le_of_ble_eq_true rfl, Nat.le_of_ble_eq_true rfl, fun _ => ⟨rfl, rfl⟩⟩ (Nat.le_of_ble_eq_true rfl) rfl (post_I (fun sq => ?_))
        have srh14 : SR h h14 := srh.trans sq
        clear sq q13
        refine V.ireturn dX11_live_36 rfl rfl ⟨rfl, rfl⟩ ly.1 ?_
        exact ret_I hf srh14
    · replace hf := ite_n hf c5
      refine V.aload_n dX11_live_11 rfl rfl rfl ?_
      refine V.iconst (v := 1) dX11_live_12 rfl ?_
      obtain ⟨r18, h17, q16, hf2⟩ := bd2_el hf
      replace hf := hf2
      clear hf2
      refine V.callVI dX11_live_13 ml_X11_105 mo_X11_refuse mv_X11_refuse rfl (fun q hq => by cases hq; rfl) (by decide) (Or.inl ⟨rfl, SHL_lt rfl⟩) (th_X11_refuse (srh.ly ly) q16) rfl rfl ⟨Nat.le_of_ble_eq_true rfl, Nat.le_of_ble_eq_true rfl, fun _ => ⟨rfl, rfl⟩⟩ (Nat.le_of_ble_eq_true rfl) rfl (post_I (fun sq => ?_))
      have srh17 : SR h h17 := srh.trans sq
      clear sq q16
      refine V.ireturn dX11_live_16 rfl rfl ⟨rfl, rfl⟩ ly.1 ?_
      exact ret_I hf srh17
set_option maxRecDepth 100000 in
theorem th_X11_lived {h : HP} (ly : Lay h) {t : Nat} (hT : isT t) (pr : hR h 0 8 = t) {a1 : Int32} {rr : Int32} {hh : HP} (hf : f_X11_lived h t a1 = some (rr, hh)) : Spec yX11_lived cX11_lived miX11_lived [.ref 0, .int a1] h (pI fun r' h' => (r' = rr ∧ h' = hh) ∧ SR h hh) := by
  refine Spec.of (ls0 := [.ref 0, .int a1]) mo_X11_lived (Nat.le_of_ble_eq_true rfl) rfl ?_
  rw [ly.1]
  have srh : SR h h := SR.refl h
  unfold f_X11_lived at hf
  refine V.iload_n dX11_lived_0 rfl rfl ?_
  refine V.if_lt (tgt := 9) dX11_lived_1 (by decide) (fun c1 => ?_) (fun c1 => ?_)
  · replace hf := ite_p hf c1
    refine V.aload_n dX11_lived_9 rfl rfl rfl ?_
    refine V.iconst (v := 1) dX11_lived_10 rfl ?_
    obtain ⟨r4, h3, q2, hf2⟩ := bd2_el hf
    replace hf := hf2
    clear hf2
    refine V.callVI dX11_lived_11 ml_X11_105 mo_X11_refuse mv_X11_refuse rfl (fun q hq => by cases hq; rfl) (by decide) (Or.inl ⟨rfl, SHL_lt rfl⟩) (th_X11_refuse (srh.ly ly) q2) rfl rfl ⟨Nat.le_of_ble_eq_true rfl, Nat.le_of_ble_eq_true rfl, fun _ => ⟨rfl, rfl⟩⟩ (Nat.le_of_ble_eq_true rfl) rfl (post_I (fun sq => ?_))
    have srh3 : SR h h3 := srh.trans sq
    clear sq q2
    refine V.ireturn dX11_lived_14 rfl rfl ⟨rfl, rfl⟩ ly.1 ?_
    exact ret_I hf srh3
  · replace hf := ite_n hf c1
    refine V.iload_n dX11_lived_4 rfl rfl ?_
    refine V.iconst (v := 4) dX11_lived_5 rfl ?_
    refine V.icmp_le (tgt := 15) dX11_lived_6 (by decide) (fun c5 => ?_) (fun c5 => ?_)
    · replace hf := ite_p hf c5
      refine V.aload_n dX11_lived_15 rfl rfl rfl ?_
      refine V.getI dX11_lived_16 fl_X11_403 rfl (Or.inl ⟨rfl, SHL_lt rfl⟩) rfl rfl ?_
      refine V.if_ne (tgt := 29) dX11_lived_19 (by decide) (fun c6 => ?_) (fun c6 => ?_)
      · replace hf := ite_n hf c6
        refine V.iload_n dX11_lived_29 rfl rfl ?_
        by_cases c7 : a1 = 0
        · replace hf := ite_p hf c7
          refine V.tableIn (tgt := 60) dX11_lived_30 (by rw [c7]; decide) (by rw [c7]; decide) (by rw [c7]; rfl) (by decide) ?_
          refine V.aload_n dX11_lived_60 rfl rfl rfl ?_
          refine V.aload_n dX11_lived_61 rfl rfl rfl ?_
          refine V.getR (r := 75) dX11_lived_62 fl_X11_54 rfl (Or.inl ⟨rfl, SHL_lt rfl⟩) rfl (ly_0_6 (srh.ly ly)) ?_
          refine V.getI dX11_lived_65 fl_X11_407 (sV0 isV_75) (Or.inl ⟨rfl, SHL_lt (sV0 isV_75)⟩) rfl rfl ?_
          obtain ⟨r10, h9, q8, hf2⟩ := bd2_el hf
          replace hf := hf2
          clear hf2
          refine V.callVI dX11_lived_68 ml_X11_161 mo_X11_answer mv_X11_answer rfl (fun q hq => by cases hq; rfl) (by decide) (Or.inl ⟨rfl, SHL_lt rfl⟩) (th_X11_answer (srh.ly ly) q8) rfl rfl ⟨Nat.le_of_ble_eq_true rfl, Nat.le_of_ble_eq_true rfl, fun _ => ⟨rfl, rfl⟩⟩ (Nat.le_of_ble_eq_true rfl) rfl (post_I (fun sq => ?_))
          have srh9 : SR h h9 := srh.trans sq
          clear sq q8
          refine V.ireturn dX11_lived_71 rfl rfl ⟨rfl, rfl⟩ ly.1 ?_
          exact ret_I hf srh9
        replace hf := ite_n hf c7
        by_cases c11 : a1 = 1
        · replace hf := ite_p hf c11
          refine V.tableIn (tgt := 72) dX11_lived_30 (by rw [c11]; decide) (by rw [c11]; decide) (by rw [c11]; rfl) (by decide) ?_
          refine V.aload_n dX11_lived_72 rfl rfl rfl ?_
          refine V.aload_n dX11_lived_73 rfl rfl rfl ?_
          refine V.getR (r := 75) dX11_lived_74 fl_X11_54 rfl (Or.inl ⟨rfl, SHL_lt rfl⟩) rfl (ly_0_6 (srh.ly ly)) ?_
          refine V.getI dX11_lived_77 fl_X11_410 (sV0 isV_75) (Or.inl ⟨rfl, SHL_lt (sV0 isV_75)⟩) rfl rfl ?_
          obtain ⟨r14, h13, q12, hf2⟩ := bd2_el hf
          replace hf := hf2
          clear hf2
          refine V.callVI dX11_lived_80 ml_X11_161 mo_X11_answer mv_X11_answer rfl (fun q hq => by cases hq; rfl) (by decide) (Or.inl ⟨rfl, SHL_lt rfl⟩) (th_X11_answer (srh.ly ly) q12) rfl rfl ⟨Nat.le_of_ble_eq_true rfl, Nat.le_of_ble_eq_true rfl, fun _ => ⟨rfl, rfl⟩⟩ (Nat.le_of_ble_eq_true rfl) rfl (post_I (fun sq => ?_))
          have srh13 : SR h h13 := srh.trans sq
          clear sq q12
          refine V.ireturn dX11_lived_83 rfl rfl ⟨rfl, rfl⟩ ly.1 ?_
          exact ret_I hf srh13
        replace hf := ite_n hf c11
        by_cases c15 : a1 = 2
        · replace hf := ite_p hf c15
          refine V.tableIn (tgt := 84) dX11_lived_30 (by rw [c15]; decide) (by rw [c15]; decide) (by rw [c15]; rfl) (by decide) ?_
          refine V.aload_n dX11_lived_84 rfl rfl rfl ?_
          refine V.aload_n dX11_lived_85 rfl rfl rfl ?_
          refine V.getR (r := 75) dX11_lived_86 fl_X11_54 rfl (Or.inl ⟨rfl, SHL_lt rfl⟩) rfl (ly_0_6 (srh.ly ly)) ?_
          refine V.getI dX11_lived_89 fl_X11_411 (sV0 isV_75) (Or.inl ⟨rfl, SHL_lt (sV0 isV_75)⟩) rfl rfl ?_
          obtain ⟨r18, h17, q16, hf2⟩ := bd2_el hf
          replace hf := hf2
          clear hf2
          refine V.callVI dX11_lived_92 ml_X11_161 mo_X11_answer mv_X11_answer rfl (fun q hq => by cases hq; rfl) (by decide) (Or.inl ⟨rfl, SHL_lt rfl⟩) (th_X11_answer (srh.ly ly) q16) rfl rfl ⟨Nat.le_of_ble_eq_true rfl, Nat.le_of_ble_eq_true rfl, fun _ => ⟨rfl, rfl⟩⟩ (Nat.le_of_ble_eq_true rfl) rfl (post_I (fun sq => ?_))
          have srh17 : SR h h17 := srh.trans sq
          clear sq q16
          refine V.ireturn dX11_lived_95 rfl rfl ⟨rfl, rfl⟩ ly.1 ?_
          exact ret_I hf srh17
        replace hf := ite_n hf c15
        by_cases c19 : a1 = 3
        · replace hf := ite_p hf c19
          refine V.tableIn (tgt := 96) dX11_lived_30 (by rw [c19]; decide) (by rw [c19]; decide) (by rw [c19]; rfl) (by decide) ?_
          refine V.aload_n dX11_lived_96 rfl rfl rfl ?_
          refine V.aload_n dX11_lived_97 rfl rfl rfl ?_
          refine V.getR (r := 75) dX11_lived_98 fl_X11_54 rfl (Or.inl ⟨rfl, SHL_lt rfl⟩) rfl (ly_0_6 (srh.ly ly)) ?_
          refine V.getI dX11_lived_101 fl_X11_414 (sV0 isV_75) (Or.inl ⟨rfl, SHL_lt (sV0 isV_75)⟩) rfl rfl ?_
          obtain ⟨r22, h21, q20, hf2⟩ := bd2_el hf
          replace hf := hf2
          clear hf2
          refine V.callVI dX11_lived_104 ml_X11_161 mo_X11_answer mv_X11_answer rfl (fun q hq => by cases hq; rfl) (by decide) (Or.inl ⟨rfl, SHL_lt rfl⟩) (th_X11_answer (srh.ly ly) q20) rfl rfl ⟨Nat.le_of_ble_eq_true rfl, Nat.le_of_ble_eq_true rfl, fun _ => ⟨rfl, rfl⟩⟩ (Nat.le_of_ble_eq_true rfl) rfl (post_I (fun sq => ?_))
          have srh21 : SR h h21 := srh.trans sq
          clear sq q20
          refine V.ireturn dX11_lived_107 rfl rfl ⟨rfl, rfl⟩ ly.1 ?_
          exact ret_I hf srh21
        replace hf := ite_n hf c19
        have nc7 := lv_neT c7 (a := 0) rfl
        have nc11 := lv_neT c11 (a := 1) rfl
        have nc15 := lv_neT c15 (a := 2) rfl
        have nc19 := lv_neT c19 (a := 3) rfl
        refine V.tableOut (tgt := 108) dX11_lived_30 (by omega) (by decide) ?_
        refine V.aload_n dX11_lived_108 rfl rfl rfl ?_
        refine V.aload_n dX11_lived_109 rfl rfl rfl ?_
        refine V.getR (r := 75) dX11_lived_110 fl_X11_54 rfl (Or.inl ⟨rfl, SHL_lt rfl⟩) rfl (ly_0_6 (srh.ly ly)) ?_
        refine V.getI dX11_lived_113 fl_X11_417 (sV0 isV_75) (Or.inl ⟨rfl, SHL_lt (sV0 isV_75)⟩) rfl rfl ?_
        refine V.if_eq (tgt := 123) dX11_lived_116 (by decide) (fun c23 => ?_) (fun c23 => ?_)
        · replace hf := ite_p hf c23
          refine V.iconst (v := 0) dX11_lived_123 rfl ?_
          obtain ⟨r26, h25, q24, hf2⟩ := bd2_el hf
          replace hf := hf2
          clear hf2
          refine V.callVI dX11_lived_124 ml_X11_161 mo_X11_answer mv_X11_answer rfl (fun q hq => by cases hq; rfl) (by decide) (Or.inl ⟨rfl, SHL_lt rfl⟩) (th_X11_answer (srh.ly ly) q24) rfl rfl ⟨Nat.le_of_ble_eq_true rfl, Nat.le_of_ble_eq_true rfl, fun _ => ⟨rfl, rfl⟩⟩ (Nat.le_of_ble_eq_true rfl) rfl (post_I (fun sq => ?_))
          have srh25 : SR h h25 := srh.trans sq
          clear sq q24
          refine V.ireturn dX11_lived_127 rfl rfl ⟨rfl, rfl⟩ ly.1 ?_
          exact ret_I hf srh25
        · replace hf := ite_n hf c23
          refine V.iconst (v := 1) dX11_lived_119 rfl ?_
          refine V.goto (tgt := 124) dX11_lived_120 (by decide) ?_
          obtain ⟨r29, h28, q27, hf2⟩ := bd2_el hf
          replace hf := hf2
          clear hf2
          refine V.callVI dX11_lived_124 ml_X11_161 mo_X11_answer mv_X11_answer rfl (fun q hq => by cases hq; rfl) (by decide) (Or.inl ⟨rfl, SHL_lt rfl⟩) (th_X11_answer (srh.ly ly) q27) rfl rfl ⟨Nat.le_of_ble_eq_true rfl, Nat.le_of_ble_eq_true rfl, fun _ => ⟨rfl, rfl⟩⟩ (Nat.le_of_ble_eq_true rfl) rfl (post_I (fun sq => ?_))
          have srh28 : SR h h28 := srh.trans sq
          clear sq q27
          refine V.ireturn dX11_lived_127 rfl rfl ⟨rfl, rfl⟩ ly.1 ?_
          exact ret_I hf srh28
      · replace hf := ite_p hf c6
        refine V.aload_n dX11_lived_22 rfl rfl rfl ?_
        refine V.bipush (v := 6) dX11_lived_23 rfl ?_
        obtain ⟨r32, h31, q30, hf2⟩ := bd2_el hf
        replace hf := hf2
        clear hf2
        refine V.callVI dX11_lived_25 ml_X11_105 mo_X11_refuse mv_X11_refuse rfl (fun q hq => by cases hq; rfl) (by decide) (Or.inl ⟨rfl, SHL_lt rfl⟩) (th_X11_refuse (srh.ly ly) q30) rfl rfl ⟨Nat.le_of_ble_eq_true rfl, Nat.le_of_ble_eq_true rfl, fun _ => ⟨rfl, rfl⟩⟩ (Nat.le_of_ble_eq_true rfl) rfl (post_I (fun sq => ?_))
        have srh31 : SR h h31 := srh.trans sq
        clear sq q30
        refine V.ireturn dX11_lived_28 rfl rfl ⟨rfl, rfl⟩ ly.1 ?_
        exact ret_I hf srh31
    · replace hf := ite_n hf c5
      refine V.aload_n dX11_lived_9 rfl rfl rfl ?_
      refine V.iconst (v := 1) dX11_lived_10 rfl ?_
      obtain ⟨r35, h34, q33, hf2⟩ := bd2_el hf
      replace hf := hf2
      clear hf2
      refine V.callVI dX11_lived_11 ml_X11_105 mo_X11_refuse mv_X11_refuse rfl (fun q hq => by cases hq; rfl) (by decide) (Or.inl ⟨rfl, SHL_lt rfl⟩) (th_X11_refuse (srh.ly ly) q33) rfl rfl ⟨Nat.le_of_ble_eq_true rfl, Nat.le_of_ble_eq_true rfl, fun _ => ⟨rfl, rfl⟩⟩ (Nat.le_of_ble_eq_true rfl) rfl (post_I (fun sq => ?_))
      have srh34 : SR h h34 := srh.trans sq
      clear sq q33
      refine V.ireturn dX11_lived_14 rfl rfl ⟨rfl, rfl⟩ ly.1 ?_
      exact ret_I hf srh34
