set_option maxRecDepth 100000 in
theorem th_X12_isPlace {h : HP} (ly : Lay h) {a1 : Int32} {a2 : Int32} {rr : Int32} {hh : HP} (hf : f_X12_isPlace h a1 a2 = some (rr, hh)) : Spec yX12_isPlace cX12_isPlace miX12_isPlace [.ref 113, .int a1, .int a2] h (pI fun r' h' => (r' = rr ∧ h' = hh) ∧ SR h hh) := by
  refine Spec.of (ls0 := [.ref 113, .int a1, .int a2]) mo_X12_isPlace (Nat.le_of_ble_eq_true rfl) rfl ?_
  rw [ly.1]
  have srh : SR h h := SR.refl h
  unfold f_X12_isPlace at hf
  refine V.iload_n dX12_isPlace_0 rfl rfl ?_
  refine V.if_lt (tgt := 32) dX12_isPlace_1 (by decide) (fun c1 => ?_) (fun c1 => ?_)
  · replace hf := ite_p hf c1
    refine V.iconst (v := 0) dX12_isPlace_32 rfl ?_
    refine V.ireturn dX12_isPlace_33 rfl rfl ⟨rfl, rfl⟩ ly.1 ?_
    exact ret_I hf srh
  · replace hf := ite_n hf c1
    refine V.iload_n dX12_isPlace_4 rfl rfl ?_
    refine V.aload_n dX12_isPlace_5 rfl rfl rfl ?_
    refine V.getR (r := 114) dX12_isPlace_6 fl_X12_7 rfl (Or.inl ⟨rfl, SHL_lt rfl⟩) rfl (ly_113_0 (srh.ly ly)) ?_
    refine V.iconst (v := 0) dX12_isPlace_9 rfl ?_
    refine V.iaload dX12_isPlace_10 rfl (Or.inl ⟨rfl, SHL_lt rfl⟩) (vp_lit (by decide)) ?_
    rw [show Int32.toNatClampNeg 0 = 0 from rfl]
    refine V.icmp_ge (tgt := 32) dX12_isPlace_11 (by decide) (fun c2 => ?_) (fun c2 => ?_)
    · replace hf := ite_p hf c2
      refine V.iconst (v := 0) dX12_isPlace_32 rfl ?_
      refine V.ireturn dX12_isPlace_33 rfl rfl ⟨rfl, rfl⟩ ly.1 ?_
      exact ret_I hf srh
    · replace hf := ite_n hf c2
      refine V.iload_n dX12_isPlace_14 rfl rfl ?_
      refine V.if_lt (tgt := 32) dX12_isPlace_15 (by decide) (fun c3 => ?_) (fun c3 => ?_)
      · replace hf := ite_p hf c3
        refine V.iconst (v := 0) dX12_isPlace_32 rfl ?_
        refine V.ireturn dX12_isPlace_33 rfl rfl ⟨rfl, rfl⟩ ly.1 ?_
        exact ret_I hf srh
      · replace hf := ite_n hf c3
        refine V.iload_n dX12_isPlace_18 rfl rfl ?_
        refine V.aload_n dX12_isPlace_19 rfl rfl rfl ?_
        refine V.getR (r := 114) dX12_isPlace_20 fl_X12_7 rfl (Or.inl ⟨rfl, SHL_lt rfl⟩) rfl (ly_113_0 (srh.ly ly)) ?_
        refine V.iconst (v := 1) dX12_isPlace_23 rfl ?_
        refine V.iaload dX12_isPlace_24 rfl (Or.inl ⟨rfl, SHL_lt rfl⟩) (vp_lit (by decide)) ?_
        rw [show Int32.toNatClampNeg 1 = 1 from rfl]
        refine V.icmp_ge (tgt := 32) dX12_isPlace_25 (by decide) (fun c4 => ?_) (fun c4 => ?_)
        · replace hf := ite_p hf c4
          refine V.iconst (v := 0) dX12_isPlace_32 rfl ?_
          refine V.ireturn dX12_isPlace_33 rfl rfl ⟨rfl, rfl⟩ ly.1 ?_
          exact ret_I hf srh
        · replace hf := ite_n hf c4
          refine V.iconst (v := 1) dX12_isPlace_28 rfl ?_
          refine V.goto (tgt := 33) dX12_isPlace_29 (by decide) ?_
          refine V.ireturn dX12_isPlace_33 rfl rfl ⟨rfl, rfl⟩ ly.1 ?_
          exact ret_I hf srh
set_option maxRecDepth 100000 in
theorem th_X12_bitOf {h : HP} (ly : Lay h) {a1 : Int32} {a2 : Int32} {rr : Int32} {hh : HP} (hf : f_X12_bitOf h a1 a2 = some (rr, hh)) : Spec yX12_bitOf cX12_bitOf miX12_bitOf [.ref 113, .int a1, .int a2] h (pI fun r' h' => (r' = rr ∧ h' = hh) ∧ SR h hh) := by
  refine Spec.of (ls0 := [.ref 113, .int a1, .int a2]) mo_X12_bitOf (Nat.le_of_ble_eq_true rfl) rfl ?_
  rw [ly.1]
  have srh : SR h h := SR.refl h
  unfold f_X12_bitOf at hf
  refine V.iconst (v := 1) dX12_bitOf_0 rfl ?_
  refine V.aload_n dX12_bitOf_1 rfl rfl rfl ?_
  refine V.getR (r := 114) dX12_bitOf_2 fl_X12_7 rfl (Or.inl ⟨rfl, SHL_lt rfl⟩) rfl (ly_113_0 (srh.ly ly)) ?_
  refine V.iconst (v := 0) dX12_bitOf_5 rfl ?_
  refine V.iaload dX12_bitOf_6 rfl (Or.inl ⟨rfl, SHL_lt rfl⟩) (vp_lit (by decide)) ?_
  rw [show Int32.toNatClampNeg 0 = 0 from rfl]
  refine V.iload_n dX12_bitOf_7 rfl rfl ?_
  refine V.imul dX12_bitOf_8 ?_
  refine V.iload_n dX12_bitOf_9 rfl rfl ?_
  refine V.iadd dX12_bitOf_10 ?_
  refine V.ishl dX12_bitOf_11 ?_
  refine V.ireturn dX12_bitOf_12 rfl rfl ⟨rfl, rfl⟩ ly.1 ?_
  exact ret_I hf srh
set_option maxRecDepth 100000 in
theorem th_X12_wrongHouse {h : HP} (ly : Lay h) {a1 : Int32} {a2 : Int32} {rr : Int32} {hh : HP} (hf : f_X12_wrongHouse h a1 a2 = some (rr, hh)) : Spec yX12_wrongHouse cX12_wrongHouse miX12_wrongHouse [.ref 113, .int a1, .int a2] h (pI fun r' h' => (r' = rr ∧ h' = hh) ∧ SR h hh) := by
  refine Spec.of (ls0 := [.ref 113, .int a1, .int a2]) mo_X12_wrongHouse (Nat.le_of_ble_eq_true rfl) rfl ?_
  rw [ly.1]
  have srh : SR h h := SR.refl h
  unfold f_X12_wrongHouse at hf
  refine V.aload_n dX12_wrongHouse_0 rfl rfl rfl ?_
  refine V.iload_n dX12_wrongHouse_1 rfl rfl ?_
  refine V.iload_n dX12_wrongHouse_2 rfl rfl ?_
  obtain ⟨r3, h2, q1, hf2⟩ := bd2_el hf
  replace hf := hf2
  clear hf2
  refine V.callVI dX12_wrongHouse_3 ml_X12_253 mo_X12_isPlace mv_X12_isPlace rfl (fun q hq => by cases hq; rfl) (by decide) (Or.inl ⟨rfl, SHL_lt rfl⟩) (th_X12_isPlace (srh.ly ly) q1) rfl rfl ⟨Nat.le_of_ble_eq_true rfl, Nat.le_of_ble_eq_true rfl, fun _ => ⟨rfl, rfl⟩⟩ (Nat.le_of_ble_eq_true rfl) rfl (post_I (fun sq => ?_))
  have srh2 : SR h h2 := srh.trans sq
  clear sq q1
  refine V.if_ne (tgt := 13) dX12_wrongHouse_6 (by decide) (fun c4 => ?_) (fun c4 => ?_)
  · replace hf := ite_n hf c4
    refine V.aload_n dX12_wrongHouse_13 rfl rfl rfl ?_
    refine V.getR (r := 114) dX12_wrongHouse_14 fl_X12_7 rfl (Or.inl ⟨rfl, SHL_lt rfl⟩) rfl (ly_113_0 (srh2.ly ly)) ?_
    refine V.iconst (v := 2) dX12_wrongHouse_17 rfl ?_
    refine V.iaload dX12_wrongHouse_18 rfl (Or.inl ⟨rfl, SHL_lt rfl⟩) (vp_lit (by decide)) ?_
    rw [show Int32.toNatClampNeg 2 = 2 from rfl]
    refine V.aload_n dX12_wrongHouse_19 rfl rfl rfl ?_
    refine V.iload_n dX12_wrongHouse_20 rfl rfl ?_
    refine V.iload_n dX12_wrongHouse_21 rfl rfl ?_
    obtain ⟨r7, h6, q5, hf2⟩ := bd2_el hf
    replace hf := hf2
    clear hf2
    refine V.callVI dX12_wrongHouse_22 ml_X12_256 mo_X12_bitOf mv_X12_bitOf rfl (fun q hq => by cases hq; rfl) (by decide) (Or.inl ⟨rfl, SHL_lt rfl⟩) (th_X12_bitOf (srh2.ly ly) q5) rfl rfl ⟨Nat.le_of_ble_eq_true rfl, Nat.le_of_ble_eq_true rfl, fun _ => ⟨rfl, rfl⟩⟩ (Nat.le_of_ble_eq_true rfl) rfl (post_I (fun sq => ?_))
    have srh6 : SR h h6 := srh2.trans sq
    clear sq q5
    refine V.iand dX12_wrongHouse_25 ?_
    refine V.if_ne (tgt := 34) dX12_wrongHouse_26 (by decide) (fun c8 => ?_) (fun c8 => ?_)
    · replace hf := ite_n hf c8
      refine V.iconst (v := 0) dX12_wrongHouse_34 rfl ?_
      refine V.ireturn dX12_wrongHouse_35 rfl rfl ⟨rfl, rfl⟩ ly.1 ?_
      exact ret_I hf srh6
    · replace hf := ite_p hf c8
      refine V.bipush (v := 7) dX12_wrongHouse_29 rfl ?_
      refine V.goto (tgt := 35) dX12_wrongHouse_31 (by decide) ?_
      refine V.ireturn dX12_wrongHouse_35 rfl rfl ⟨rfl, rfl⟩ ly.1 ?_
      exact ret_I hf srh6
  · replace hf := ite_p hf c4
    refine V.iconst (v := 1) dX12_wrongHouse_9 rfl ?_
    refine V.goto (tgt := 35) dX12_wrongHouse_10 (by decide) ?_
    refine V.ireturn dX12_wrongHouse_35 rfl rfl ⟨rfl, rfl⟩ ly.1 ?_
    exact ret_I hf srh2
set_option maxRecDepth 100000 in
theorem th_X12_wrongLamp {h : HP} (ly : Lay h) {a1 : Int32} {a2 : Int32} {rr : Int32} {hh : HP} (hf : f_X12_wrongLamp h a1 a2 = some (rr, hh)) : Spec yX12_wrongLamp cX12_wrongLamp miX12_wrongLamp [.ref 113, .int a1, .int a2] h (pI fun r' h' => (r' = rr ∧ h' = hh) ∧ SR h hh) := by
  refine Spec.of (ls0 := [.ref 113, .int a1, .int a2]) mo_X12_wrongLamp (Nat.le_of_ble_eq_true rfl) rfl ?_
  rw [ly.1]
  have srh : SR h h := SR.refl h
  unfold f_X12_wrongLamp at hf
  refine V.aload_n dX12_wrongLamp_0 rfl rfl rfl ?_
  refine V.iload_n dX12_wrongLamp_1 rfl rfl ?_
  refine V.iload_n dX12_wrongLamp_2 rfl rfl ?_
  obtain ⟨r3, h2, q1, hf2⟩ := bd2_el hf
  replace hf := hf2
  clear hf2
  refine V.callVI dX12_wrongLamp_3 ml_X12_259 mo_X12_wrongHouse mv_X12_wrongHouse rfl (fun q hq => by cases hq; rfl) (by decide) (Or.inl ⟨rfl, SHL_lt rfl⟩) (th_X12_wrongHouse (srh.ly ly) q1) rfl rfl ⟨Nat.le_of_ble_eq_true rfl, Nat.le_of_ble_eq_true rfl, fun _ => ⟨rfl, rfl⟩⟩ (Nat.le_of_ble_eq_true rfl) rfl (post_I (fun sq => ?_))
  have srh2 : SR h h2 := srh.trans sq
  clear sq q1
  refine V.if_le (tgt := 18) dX12_wrongLamp_6 (by decide) (fun c4 => ?_) (fun c4 => ?_)
  · replace hf := ite_p hf c4
    refine V.aload_n dX12_wrongLamp_18 rfl rfl rfl ?_
    refine V.getR (r := 114) dX12_wrongLamp_19 fl_X12_7 rfl (Or.inl ⟨rfl, SHL_lt rfl⟩) rfl (ly_113_0 (srh2.ly ly)) ?_
    refine V.iconst (v := 4) dX12_wrongLamp_22 rfl ?_
    refine V.iaload dX12_wrongLamp_23 rfl (Or.inl ⟨rfl, SHL_lt rfl⟩) (vp_lit (by decide)) ?_
    rw [show Int32.toNatClampNeg 4 = 4 from rfl]
    refine V.aload_n dX12_wrongLamp_24 rfl rfl rfl ?_
    refine V.iload_n dX12_wrongLamp_25 rfl rfl ?_
    refine V.iload_n dX12_wrongLamp_26 rfl rfl ?_
    obtain ⟨r7, h6, q5, hf2⟩ := bd2_el hf
    replace hf := hf2
    clear hf2
    refine V.callVI dX12_wrongLamp_27 ml_X12_256 mo_X12_bitOf mv_X12_bitOf rfl (fun q hq => by cases hq; rfl) (by decide) (Or.inl ⟨rfl, SHL_lt rfl⟩) (th_X12_bitOf (srh2.ly ly) q5) rfl rfl ⟨Nat.le_of_ble_eq_true rfl, Nat.le_of_ble_eq_true rfl, fun _ => ⟨rfl, rfl⟩⟩ (Nat.le_of_ble_eq_true rfl) rfl (post_I (fun sq => ?_))
    have srh6 : SR h h6 := srh2.trans sq
    clear sq q5
    refine V.iand dX12_wrongLamp_30 ?_
    refine V.if_ne (tgt := 38) dX12_wrongLamp_31 (by decide) (fun c8 => ?_) (fun c8 => ?_)
    · replace hf := ite_n hf c8
      refine V.bipush (v := 7) dX12_wrongLamp_38 rfl ?_
      refine V.ireturn dX12_wrongLamp_40 rfl rfl ⟨rfl, rfl⟩ ly.1 ?_
      exact ret_I hf srh6
    · replace hf := ite_p hf c8
      refine V.iconst (v := 0) dX12_wrongLamp_34 rfl ?_
      refine V.goto (tgt := 40) dX12_wrongLamp_35 (by decide) ?_
      refine V.ireturn dX12_wrongLamp_40 rfl rfl ⟨rfl, rfl⟩ ly.1 ?_
      exact ret_I hf srh6
  · replace hf := ite_n hf c4
    refine V.aload_n dX12_wrongLamp_9 rfl rfl rfl ?_
    refine V.iload_n dX12_wrongLamp_10 rfl rfl ?_
    refine V.iload_n dX12_wrongLamp_11 rfl rfl ?_
    obtain ⟨r11, h10, q9, hf2⟩ := bd2_el hf
    replace hf := hf2
    clear hf2
    refine V.callVI dX12_wrongLamp_12 ml_X12_259 mo_X12_wrongHouse mv_X12_wrongHouse rfl (fun q hq => by cases hq; rfl) (by decide) (Or.inl ⟨rfl, SHL_lt rfl⟩) (th_X12_wrongHouse (srh2.ly ly) q9) rfl rfl ⟨Nat.le_of_ble_eq_true rfl, Nat.le_of_ble_eq_true rfl, fun _ => ⟨rfl, rfl⟩⟩ (Nat.le_of_ble_eq_true rfl) rfl (post_I (fun sq => ?_))
    have srh10 : SR h h10 := srh2.trans sq
    clear sq q9
    refine V.goto (tgt := 40) dX12_wrongLamp_15 (by decide) ?_
    refine V.ireturn dX12_wrongLamp_40 rfl rfl ⟨rfl, rfl⟩ ly.1 ?_
    exact ret_I hf srh10
set_option maxRecDepth 100000 in
theorem th_X12_places {h : HP} (ly : Lay h)  {rr : Int32} {hh : HP} (hf : f_X12_places h = some (rr, hh)) : Spec yX12_places cX12_places miX12_places [.ref 113] h (pI fun r' h' => (r' = rr ∧ h' = hh) ∧ SR h hh) := by
  refine Spec.of (ls0 := [.ref 113]) mo_X12_places (Nat.le_of_ble_eq_true rfl) rfl ?_
  rw [ly.1]
  have srh : SR h h := SR.refl h
  unfold f_X12_places at hf
  refine V.aload_n dX12_places_0 rfl rfl rfl ?_
  refine V.getR (r := 114) dX12_places_1 fl_X12_7 rfl (Or.inl ⟨rfl, SHL_lt rfl⟩) rfl (ly_113_0 (srh.ly ly)) ?_
  refine V.iconst (v := 0) dX12_places_4 rfl ?_
  refine V.iaload dX12_places_5 rfl (Or.inl ⟨rfl, SHL_lt rfl⟩) (vp_lit (by decide)) ?_
  rw [show Int32.toNatClampNeg 0 = 0 from rfl]
  refine V.aload_n dX12_places_6 rfl rfl rfl ?_
  refine V.getR (r := 114) dX12_places_7 fl_X12_7 rfl (Or.inl ⟨rfl, SHL_lt rfl⟩) rfl (ly_113_0 (srh.ly ly)) ?_
  refine V.iconst (v := 1) dX12_places_10 rfl ?_
  refine V.iaload dX12_places_11 rfl (Or.inl ⟨rfl, SHL_lt rfl⟩) (vp_lit (by decide)) ?_
  rw [show Int32.toNatClampNeg 1 = 1 from rfl]
  refine V.imul dX12_places_12 ?_
  refine V.ireturn dX12_places_13 rfl rfl ⟨rfl, rfl⟩ ly.1 ?_
  exact ret_I hf srh
set_option maxRecDepth 100000 in
theorem th_X12_free {h : HP} (ly : Lay h)  {rr : Int32} {hh : HP} (hf : f_X12_free h = some (rr, hh)) : Spec yX12_free cX12_free miX12_free [.ref 113] h (pI fun r' h' => (r' = rr ∧ h' = hh) ∧ SR h hh) := by
  refine Spec.of (ls0 := [.ref 113]) mo_X12_free (Nat.le_of_ble_eq_true rfl) rfl ?_
  rw [ly.1]
  have srh : SR h h := SR.refl h
  unfold f_X12_free at hf
  refine V.aload_n dX12_free_0 rfl rfl rfl ?_
  refine V.getR (r := 114) dX12_free_1 fl_X12_7 rfl (Or.inl ⟨rfl, SHL_lt rfl⟩) rfl (ly_113_0 (srh.ly ly)) ?_
  refine V.iconst (v := 2) dX12_free_4 rfl ?_
  refine V.iaload dX12_free_5 rfl (Or.inl ⟨rfl, SHL_lt rfl⟩) (vp_lit (by decide)) ?_
  rw [show Int32.toNatClampNeg 2 = 2 from rfl]
  refine V.aload_n dX12_free_6 rfl rfl rfl ?_
  refine V.getR (r := 114) dX12_free_7 fl_X12_7 rfl (Or.inl ⟨rfl, SHL_lt rfl⟩) rfl (ly_113_0 (srh.ly ly)) ?_
  refine V.iconst (v := 4) dX12_free_10 rfl ?_
  refine V.iaload dX12_free_11 rfl (Or.inl ⟨rfl, SHL_lt rfl⟩) (vp_lit (by decide)) ?_
  rw [show Int32.toNatClampNeg 4 = 4 from rfl]
  refine V.iconst (v := (-1)) dX12_free_12 rfl ?_
  refine V.ixor dX12_free_13 ?_
  refine V.iand dX12_free_14 ?_
  refine V.ireturn dX12_free_15 rfl rfl ⟨rfl, rfl⟩ ly.1 ?_
  exact ret_I hf srh
set_option maxRecDepth 100000 in
theorem th_X12_whole {h : HP} (ly : Lay h)  {rr : Int32} {hh : HP} (hf : f_X12_whole h = some (rr, hh)) : Spec yX12_whole cX12_whole miX12_whole [.ref 113] h (pI fun r' h' => (r' = rr ∧ h' = hh) ∧ SR h hh) := by
  refine Spec.of (ls0 := [.ref 113]) mo_X12_whole (Nat.le_of_ble_eq_true rfl) rfl ?_
  rw [ly.1]
  have srh : SR h h := SR.refl h
  unfold f_X12_whole at hf
  refine V.iconst (v := 1) dX12_whole_0 rfl ?_
  refine V.aload_n dX12_whole_1 rfl rfl rfl ?_
  obtain ⟨r3, h2, q1, hf2⟩ := bd2_el hf
  replace hf := hf2
  clear hf2
  refine V.callVI dX12_whole_2 ml_X12_262 mo_X12_places mv_X12_places rfl (fun q hq => by cases hq; rfl) (by decide) (Or.inl ⟨rfl, SHL_lt rfl⟩) (th_X12_places (srh.ly ly) q1) rfl rfl ⟨Nat.le_of_ble_eq_true rfl, Nat.le_of_ble_eq_true rfl, fun _ => ⟨rfl, rfl⟩⟩ (Nat.le_of_ble_eq_true rfl) rfl (post_I (fun sq => ?_))
  have srh2 : SR h h2 := srh.trans sq
  clear sq q1
  refine V.ishl dX12_whole_5 ?_
  refine V.iconst (v := 1) dX12_whole_6 rfl ?_
  refine V.isub dX12_whole_7 ?_
  refine V.ireturn dX12_whole_8 rfl rfl ⟨rfl, rfl⟩ ly.1 ?_
  exact ret_I hf srh2
set_option maxRecDepth 100000 in
theorem th_X12_near_132 {h0 : HP} (ly : Lay h0) {rr : Int32} {hh : HP}  : ∀ (l4 : Int32) (h : HP), SR h0 h → f_X12_near_132 l4 h = some (rr, hh) → V cX12_near miX12_near (ZI h0 miX12_near rr hh) 130 132 [.ref 113, .null, .null, .null, .int l4] [] h := by
  intro l4 h srh hf
  unfold f_X12_near_132 at hf
  refine V.iload dX12_near_132 rfl ?_
  refine V.aload_n dX12_near_134 rfl rfl rfl ?_
  refine V.getR (r := 114) dX12_near_135 fl_X12_7 rfl (Or.inl ⟨rfl, SHL_lt rfl⟩) rfl (ly_113_0 (srh.ly ly)) ?_
  refine V.iconst (v := 2) dX12_near_138 rfl ?_
  refine V.iaload dX12_near_139 rfl (Or.inl ⟨rfl, SHL_lt rfl⟩) (vp_lit (by decide)) ?_
  rw [show Int32.toNatClampNeg 2 = 2 from rfl]
  refine V.iand dX12_near_140 ?_
  refine V.ireturn dX12_near_141 rfl rfl ⟨rfl, rfl⟩ ly.1 ?_
  exact ret_I hf srh
set_option maxRecDepth 100000 in
theorem th_X12_near_89 {h0 : HP} (ly : Lay h0) {rr : Int32} {hh : HP}  : ∀ (l1 : Int32) (l2 : Int32) (l3 : Int32) (l4 : Int32) (h : HP), SR h0 h → f_X12_near_89 l1 l2 l3 l4 h = some (rr, hh) → V cX12_near miX12_near (ZI h0 miX12_near rr hh) 130 89 [.ref 113, .int l1, .int l2, .int l3, .int l4] [] h := by
  intro l1 l2 l3 l4 h srh hf
  unfold f_X12_near_89 at hf
  refine V.iload_n dX12_near_89 rfl rfl ?_
  refine V.iconst (v := 1) dX12_near_90 rfl ?_
  refine V.iadd dX12_near_91 ?_
  refine V.iload_n dX12_near_92 rfl rfl ?_
  refine V.icmp_ge (tgt := 109) dX12_near_93 (by decide) (fun c15 => ?_) (fun c15 => ?_)
  · replace hf := ite_p hf c15
    refine V.aload_n dX12_near_109 rfl rfl rfl ?_
    refine V.getR (r := 114) dX12_near_110 fl_X12_7 rfl (Or.inl ⟨rfl, SHL_lt rfl⟩) rfl (ly_113_0 (srh.ly ly)) ?_
    refine V.bipush (v := 9) dX12_near_113 rfl ?_
    refine V.iaload dX12_near_115 rfl (Or.inl ⟨rfl, SHL_lt rfl⟩) (vp_lit (by decide)) ?_
    rw [show Int32.toNatClampNeg 9 = 9 from rfl]
    refine V.iconst (v := 1) dX12_near_116 rfl ?_
    refine V.icmp_ne (tgt := 132) dX12_near_117 (by decide) (fun c16 => ?_) (fun c16 => ?_)
    · replace hf := ite_n hf c16
      refine V.less (ls' := [.ref 113, .null, .null, .null, .int l4]) ⟨Or.inr rfl, Or.inl rfl, Or.inl rfl, Or.inl rfl, Or.inr rfl, trivial⟩ ?_
      exact th_X12_near_132 ly l4 h srh hf
    · replace hf := ite_p hf c16
      refine V.iload dX12_near_120 rfl ?_
      refine V.iconst (v := 1) dX12_near_122 rfl ?_
      refine V.iload_n dX12_near_123 rfl rfl ?_
      refine V.iload_n dX12_near_124 rfl rfl ?_
      refine V.isub dX12_near_125 ?_
      refine V.iconst (v := 1) dX12_near_126 rfl ?_
      refine V.iadd dX12_near_127 ?_
      refine V.ishl dX12_near_128 ?_
      refine V.ior dX12_near_129 ?_
      refine V.nmi (fun x17 ex17 => ?_)
      replace hf := lt_el hf x17 ex17
      refine V.istore (ls' := [.ref 113, .int l1, .int l2, .int l3, .int x17]) dX12_near_130 (by decide) rfl ?_
      refine V.less (ls' := [.ref 113, .null, .null, .null, .int x17]) ⟨Or.inr rfl, Or.inl rfl, Or.inl rfl, Or.inl rfl, Or.inr rfl, trivial⟩ ?_
      exact th_X12_near_132 ly x17 h srh hf
  · replace hf := ite_n hf c15
    refine V.iload dX12_near_96 rfl ?_
    refine V.iconst (v := 1) dX12_near_98 rfl ?_
    refine V.iload_n dX12_near_99 rfl rfl ?_
    refine V.iconst (v := 1) dX12_near_100 rfl ?_
    refine V.iadd dX12_near_101 ?_
    refine V.ishl dX12_near_102 ?_
    refine V.ior dX12_near_103 ?_
    refine V.nmi (fun x18 ex18 => ?_)
    replace hf := lt_el hf x18 ex18
    refine V.istore (ls' := [.ref 113, .int l1, .int l2, .int l3, .int x18]) dX12_near_104 (by decide) rfl ?_
    refine V.goto (tgt := 132) dX12_near_106 (by decide) ?_
    refine V.less (ls' := [.ref 113, .null, .null, .null, .int x18]) ⟨Or.inr rfl, Or.inl rfl, Or.inl rfl, Or.inl rfl, Or.inr rfl, trivial⟩ ?_
    exact th_X12_near_132 ly x18 h srh hf
set_option maxRecDepth 100000 in
theorem th_X12_near_49 {h0 : HP} (ly : Lay h0) {rr : Int32} {hh : HP}  : ∀ (l1 : Int32) (l2 : Int32) (l3 : Int32) (l4 : Int32) (h : HP), SR h0 h → f_X12_near_49 l1 l2 l3 l4 h = some (rr, hh) → V cX12_near miX12_near (ZI h0 miX12_near rr hh) 130 49 [.ref 113, .int l1, .int l2, .int l3, .int l4] [] h := by
  intro l1 l2 l3 l4 h srh hf
  unfold f_X12_near_49 at hf
  refine V.iload_n dX12_near_49 rfl rfl ?_
  refine V.if_le (tgt := 66) dX12_near_50 (by decide) (fun c11 => ?_) (fun c11 => ?_)
  · replace hf := ite_p hf c11
    refine V.aload_n dX12_near_66 rfl rfl rfl ?_
    refine V.getR (r := 114) dX12_near_67 fl_X12_7 rfl (Or.inl ⟨rfl, SHL_lt rfl⟩) rfl (ly_113_0 (srh.ly ly)) ?_
    refine V.bipush (v := 9) dX12_near_70 rfl ?_
    refine V.iaload dX12_near_72 rfl (Or.inl ⟨rfl, SHL_lt rfl⟩) (vp_lit (by decide)) ?_
    rw [show Int32.toNatClampNeg 9 = 9 from rfl]
    refine V.iconst (v := 1) dX12_near_73 rfl ?_
    refine V.icmp_ne (tgt := 89) dX12_near_74 (by decide) (fun c12 => ?_) (fun c12 => ?_)
    · replace hf := ite_n hf c12
      exact th_X12_near_89 ly l1 l2 l3 l4 h srh hf
    · replace hf := ite_p hf c12
      refine V.iload dX12_near_77 rfl ?_
      refine V.iconst (v := 1) dX12_near_79 rfl ?_
      refine V.iload_n dX12_near_80 rfl rfl ?_
      refine V.iload_n dX12_near_81 rfl rfl ?_
      refine V.iadd dX12_near_82 ?_
      refine V.iconst (v := 1) dX12_near_83 rfl ?_
      refine V.isub dX12_near_84 ?_
      refine V.ishl dX12_near_85 ?_
      refine V.ior dX12_near_86 ?_
      refine V.nmi (fun x13 ex13 => ?_)
      replace hf := lt_el hf x13 ex13
      refine V.istore (ls' := [.ref 113, .int l1, .int l2, .int l3, .int x13]) dX12_near_87 (by decide) rfl ?_
      exact th_X12_near_89 ly l1 l2 l3 x13 h srh hf
  · replace hf := ite_n hf c11
    refine V.iload dX12_near_53 rfl ?_
    refine V.iconst (v := 1) dX12_near_55 rfl ?_
    refine V.iload_n dX12_near_56 rfl rfl ?_
    refine V.iconst (v := 1) dX12_near_57 rfl ?_
    refine V.isub dX12_near_58 ?_
    refine V.ishl dX12_near_59 ?_
    refine V.ior dX12_near_60 ?_
    refine V.nmi (fun x14 ex14 => ?_)
    replace hf := lt_el hf x14 ex14
    refine V.istore (ls' := [.ref 113, .int l1, .int l2, .int l3, .int x14]) dX12_near_61 (by decide) rfl ?_
    refine V.goto (tgt := 89) dX12_near_63 (by decide) ?_
    exact th_X12_near_89 ly l1 l2 l3 x14 h srh hf
set_option maxRecDepth 100000 in
theorem th_X12_near_29 {h0 : HP} (ly : Lay h0) {rr : Int32} {hh : HP}  : ∀ (l1 : Int32) (l2 : Int32) (l3 : Int32) (l4 : Int32) (h : HP), SR h0 h → f_X12_near_29 l1 l2 l3 l4 h = some (rr, hh) → V cX12_near miX12_near (ZI h0 miX12_near rr hh) 130 29 [.ref 113, .int l1, .int l2, .int l3, .int l4] [] h := by
  intro l1 l2 l3 l4 h srh hf
  unfold f_X12_near_29 at hf
  refine V.iload_n dX12_near_29 rfl rfl ?_
  refine V.iload_n dX12_near_30 rfl rfl ?_
  refine V.iadd dX12_near_31 ?_
  refine V.aload_n dX12_near_32 rfl rfl rfl ?_
  obtain ⟨r8, h7, q6, hf2⟩ := bd2_el hf
  replace hf := hf2
  clear hf2
  refine V.callVI dX12_near_33 ml_X12_262 mo_X12_places mv_X12_places rfl (fun q hq => by cases hq; rfl) (by decide) (Or.inl ⟨rfl, SHL_lt rfl⟩) (th_X12_places (srh.ly ly) q6) rfl rfl ⟨Nat.le_of_ble_eq_true rfl, Nat.le_of_ble_eq_true rfl, fun _ => ⟨rfl, rfl⟩⟩ (Nat.le_of_ble_eq_true rfl) rfl (post_I (fun sq => ?_))
  have srh7 : SR h0 h7 := srh.trans sq
  clear sq q6
  refine V.icmp_ge (tgt := 49) dX12_near_36 (by decide) (fun c9 => ?_) (fun c9 => ?_)
  · replace hf := ite_p hf c9
    exact th_X12_near_49 ly l1 l2 l3 l4 h7 srh7 hf
  · replace hf := ite_n hf c9
    refine V.iload dX12_near_39 rfl ?_
    refine V.iconst (v := 1) dX12_near_41 rfl ?_
    refine V.iload_n dX12_near_42 rfl rfl ?_
    refine V.iload_n dX12_near_43 rfl rfl ?_
    refine V.iadd dX12_near_44 ?_
    refine V.ishl dX12_near_45 ?_
    refine V.ior dX12_near_46 ?_
    refine V.nmi (fun x10 ex10 => ?_)
    replace hf := lt_el hf x10 ex10
    refine V.istore (ls' := [.ref 113, .int l1, .int l2, .int l3, .int x10]) dX12_near_47 (by decide) rfl ?_
    exact th_X12_near_49 ly l1 l2 l3 x10 h7 srh7 hf
set_option maxRecDepth 100000 in
theorem th_X12_near {h : HP} (ly : Lay h) {a1 : Int32} {rr : Int32} {hh : HP} (hf : f_X12_near h a1 = some (rr, hh)) : Spec yX12_near cX12_near miX12_near [.ref 113, .int a1] h (pI fun r' h' => (r' = rr ∧ h' = hh) ∧ SR h hh) := by
  refine Spec.of (ls0 := [.ref 113, .int a1, .null, .null, .null]) mo_X12_near (Nat.le_of_ble_eq_true rfl) rfl ?_
  rw [ly.1]
  have srh : SR h h := SR.refl h
  unfold f_X12_near at hf
  refine V.aload_n dX12_near_0 rfl rfl rfl ?_
  refine V.getR (r := 114) dX12_near_1 fl_X12_7 rfl (Or.inl ⟨rfl, SHL_lt rfl⟩) rfl (ly_113_0 (srh.ly ly)) ?_
  refine V.iconst (v := 0) dX12_near_4 rfl ?_
  refine V.iaload dX12_near_5 rfl (Or.inl ⟨rfl, SHL_lt rfl⟩) (vp_lit (by decide)) ?_
  rw [show Int32.toNatClampNeg 0 = 0 from rfl]
  refine V.nmi (fun x1 ex1 => ?_)
  replace hf := lt_el hf x1 ex1
  refine V.istore_n (ls' := [.ref 113, .int a1, .int x1, .null, .null]) dX12_near_6 rfl (by decide) rfl ?_
  refine V.iload_n dX12_near_7 rfl rfl ?_
  refine V.iload_n dX12_near_8 rfl rfl ?_
  obtain ⟨b2, hf2⟩ := gd_el hf
  replace hf := hf2
  clear hf2
  refine V.irem dX12_near_9 b2 ?_
  refine V.nmi (fun x3 ex3 => ?_)
  replace hf := lt_el hf x3 ex3
  refine V.istore_n (ls' := [.ref 113, .int a1, .int x1, .int x3, .null]) dX12_near_10 rfl (by decide) rfl ?_
  refine V.iconst (v := 0) dX12_near_11 rfl ?_
  refine V.istore (ls' := [.ref 113, .int a1, .int x1, .int x3, .int 0]) dX12_near_12 (by decide) rfl ?_
  refine V.iload_n dX12_near_14 rfl rfl ?_
  refine V.iload_n dX12_near_15 rfl rfl ?_
  refine V.icmp_lt (tgt := 29) dX12_near_16 (by decide) (fun c4 => ?_) (fun c4 => ?_)
  · replace hf := ite_p hf c4
    exact th_X12_near_29 ly a1 x1 x3 0 h srh hf
  · replace hf := ite_n hf c4
    refine V.iload dX12_near_19 rfl ?_
    refine V.iconst (v := 1) dX12_near_21 rfl ?_
    refine V.iload_n dX12_near_22 rfl rfl ?_
    refine V.iload_n dX12_near_23 rfl rfl ?_
    refine V.isub dX12_near_24 ?_
    refine V.ishl dX12_near_25 ?_
    refine V.ior dX12_near_26 ?_
    refine V.nmi (fun x5 ex5 => ?_)
    replace hf := lt_el hf x5 ex5
    refine V.istore (ls' := [.ref 113, .int a1, .int x1, .int x3, .int x5]) dX12_near_27 (by decide) rfl ?_
    exact th_X12_near_29 ly a1 x1 x3 x5 h srh hf
set_option maxRecDepth 100000 in
theorem th_X12_laysNear_2 {h0 : HP} (ly : Lay h0) {hh : HP}  : ∀ (n : Nat) (l1 : Int32) (h : HP), SR h0 h → f_X12_laysNear_2 n l1 h = some hh → V cX12_laysNear miX12_laysNear (ZV h0 miX12_laysNear hh) 130 2 [.ref 113, .int l1] [] h := by
  intro n
  induction n with
  | zero => intro l1 h srh hf; exact absurd hf (by unfold f_X12_laysNear_2; simp)
  | succ n ih =>
    intro l1 h srh hf
    unfold f_X12_laysNear_2 at hf
    refine V.iload_n dX12_laysNear_2 rfl rfl ?_
    refine V.aload_n dX12_laysNear_3 rfl rfl rfl ?_
    obtain ⟨r3, h2, q1, hf2⟩ := bd2_el hf
    replace hf := hf2
    clear hf2
    refine V.callVI dX12_laysNear_4 ml_X12_262 mo_X12_places mv_X12_places rfl (fun q hq => by cases hq; rfl) (by decide) (Or.inl ⟨rfl, SHL_lt rfl⟩) (th_X12_places (srh.ly ly) q1) rfl rfl ⟨Nat.le_of_ble_eq_true rfl, Nat.le_of_ble_eq_true rfl, fun _ => ⟨rfl, rfl⟩⟩ (Nat.le_of_ble_eq_true rfl) rfl (post_I (fun sq => ?_))
    have srh2 : SR h0 h2 := srh.trans sq
    clear sq q1
    refine V.icmp_ge (tgt := 27) dX12_laysNear_7 (by decide) (fun c4 => ?_) (fun c4 => ?_)
    · replace hf := ite_p hf c4
      refine V.vreturn' dX12_laysNear_27 rfl ly.1 (Or.inl ⟨rfl, rfl⟩) ?_
      exact ret_V hf srh2
    · replace hf := ite_n hf c4
      refine V.aload_n dX12_laysNear_10 rfl rfl rfl ?_
      refine V.getR (r := 122) dX12_laysNear_11 fl_X12_47 rfl (Or.inl ⟨rfl, SHL_lt rfl⟩) rfl (ly_113_23 (srh2.ly ly)) ?_
      refine V.iload_n dX12_laysNear_14 rfl rfl ?_
      refine V.aload_n dX12_laysNear_15 rfl rfl rfl ?_
      refine V.iload_n dX12_laysNear_16 rfl rfl ?_
      obtain ⟨r7, h6, q5, hf2⟩ := bd2_el hf
      replace hf := hf2
      clear hf2
      refine V.callVI dX12_laysNear_17 ml_X12_265 mo_X12_near mv_X12_near rfl (fun q hq => by cases hq; rfl) (by decide) (Or.inl ⟨rfl, SHL_lt rfl⟩) (th_X12_near (srh2.ly ly) q5) rfl rfl ⟨Nat.le_of_ble_eq_true rfl, Nat.le_of_ble_eq_true rfl, fun _ => ⟨rfl, rfl⟩⟩ (Nat.le_of_ble_eq_true rfl) rfl (post_I (fun sq => ?_))
      have srh6 : SR h0 h6 := srh2.trans sq
      clear sq q5
      obtain ⟨b8, hf2⟩ := gdi_el hf
      replace hf := hf2
      clear hf2
      refine V.iastore dX12_laysNear_20 rfl (Or.inl ⟨rfl, SHL_lt rfl⟩) b8 ?_
      refine V.nameH (fun g9 eg9 => ?_)
      replace hf := lt_el hf g9 eg9
      have srg9 : SR h0 g9 := by rw [eg9]; exact srh6.I _ _ _
      obtain ⟨x10, ex10⟩ : ∃ y : Int32, y = l1 + 1 := ⟨_, rfl⟩
      replace hf := lt_el hf x10 ex10
      refine V.iinc (v := x10) (ls' := [.ref 113, .int x10]) dX12_laysNear_21 rfl (by decide) ex10.symm rfl ?_
      refine V.goto (tgt := 2) dX12_laysNear_24 (by decide) ?_
      exact ih x10 g9 srg9 hf
set_option maxRecDepth 100000 in
theorem th_X12_laysNear {h : HP} (ly : Lay h)  {hh : HP} (hf : f_X12_laysNear h = some hh) : Spec yX12_laysNear cX12_laysNear miX12_laysNear [.ref 113] h (pV fun h' => h' = hh ∧ SR h hh) := by
  refine Spec.of (ls0 := [.ref 113, .null]) mo_X12_laysNear (Nat.le_of_ble_eq_true rfl) rfl ?_
  rw [ly.1]
  have srh : SR h h := SR.refl h
  unfold f_X12_laysNear at hf
  refine V.iconst (v := 0) dX12_laysNear_0 rfl ?_
  refine V.istore_n (ls' := [.ref 113, .int 0]) dX12_laysNear_1 rfl (by decide) rfl ?_
  exact th_X12_laysNear_2 ly FU 0 h srh hf
set_option maxRecDepth 100000 in
theorem th_X12_becomes_30 {h0 : HP} (ly : Lay h0) {rr : Int32} {hh : HP}  : ∀ (n : Nat) (l1 : Int32) (l2 : Int32) (l3 : Int32) (l4 : Int32) (l5 : Int32) (h : HP), SR h0 h → f_X12_becomes_30 n l1 l2 l3 l4 l5 h = some (rr, hh) → V cX12_becomes miX12_becomes (ZI h0 miX12_becomes rr hh) 130 30 [.ref 113, .int l1, .int l2, .int l3, .int l4, .int l5, .null] [] h := by
  intro n
  induction n with
  | zero => intro l1 l2 l3 l4 l5 h srh hf; exact absurd hf (by unfold f_X12_becomes_30; simp)
  | succ n ih =>
    intro l1 l2 l3 l4 l5 h srh hf
    unfold f_X12_becomes_30 at hf
    refine V.iload dX12_becomes_30 rfl ?_
    refine V.aload_n dX12_becomes_32 rfl rfl rfl ?_
    obtain ⟨r8, h7, q6, hf2⟩ := bd2_el hf
    replace hf := hf2
    clear hf2
    refine V.callVI dX12_becomes_33 ml_X12_262 mo_X12_places mv_X12_places rfl (fun q hq => by cases hq; rfl) (by decide) (Or.inl ⟨rfl, SHL_lt rfl⟩) (th_X12_places (srh.ly ly) q6) rfl rfl ⟨Nat.le_of_ble_eq_true rfl, Nat.le_of_ble_eq_true rfl, fun _ => ⟨rfl, rfl⟩⟩ (Nat.le_of_ble_eq_true rfl) rfl (post_I (fun sq => ?_))
    have srh7 : SR h0 h7 := srh.trans sq
    clear sq q6
    refine V.icmp_ge (tgt := 101) dX12_becomes_36 (by decide) (fun c9 => ?_) (fun c9 => ?_)
    · replace hf := ite_p hf c9
      refine V.iload_n dX12_becomes_101 rfl rfl ?_
      refine V.ireturn dX12_becomes_102 rfl rfl ⟨rfl, rfl⟩ ly.1 ?_
      exact ret_I hf srh7
    · replace hf := ite_n hf c9
      refine V.iload dX12_becomes_39 rfl ?_
      refine V.iload dX12_becomes_41 rfl ?_
      refine V.ishr dX12_becomes_43 ?_
      refine V.iconst (v := 1) dX12_becomes_44 rfl ?_
      refine V.iand dX12_becomes_45 ?_
      refine V.if_ne (tgt := 52) dX12_becomes_46 (by decide) (fun c10 => ?_) (fun c10 => ?_)
      · replace hf := ite_n hf c10
        refine V.aload_n dX12_becomes_52 rfl rfl rfl ?_
        refine V.getR (r := 114) dX12_becomes_53 fl_X12_7 rfl (Or.inl ⟨rfl, SHL_lt rfl⟩) rfl (ly_113_0 (srh7.ly ly)) ?_
        refine V.bipush (v := 12) dX12_becomes_56 rfl ?_
        refine V.iconst (v := 2) dX12_becomes_58 rfl ?_
        refine V.iload_n dX12_becomes_59 rfl rfl ?_
        refine V.imul dX12_becomes_60 ?_
        refine V.iadd dX12_becomes_61 ?_
        refine V.iload_n dX12_becomes_62 rfl rfl ?_
        refine V.iload dX12_becomes_63 rfl ?_
        refine V.ishr dX12_becomes_65 ?_
        refine V.iconst (v := 1) dX12_becomes_66 rfl ?_
        refine V.iand dX12_becomes_67 ?_
        refine V.iadd dX12_becomes_68 ?_
        obtain ⟨b11, hf2⟩ := gdi_el hf
        replace hf := hf2
        clear hf2
        refine V.iaload dX12_becomes_69 rfl (Or.inl ⟨rfl, SHL_lt rfl⟩) b11 ?_
        refine V.nmi (fun x12 ex12 => ?_)
        replace hf := lt_el hf x12 ex12
        refine V.istore (ls' := [.ref 113, .int l1, .int l2, .int l3, .int l4, .int l5, .int x12]) dX12_becomes_70 (by decide) rfl ?_
        refine V.iload_n dX12_becomes_72 rfl rfl ?_
        refine V.iload dX12_becomes_73 rfl ?_
        refine V.aload_n dX12_becomes_75 rfl rfl rfl ?_
        refine V.getR (r := 122) dX12_becomes_76 fl_X12_47 rfl (Or.inl ⟨rfl, SHL_lt rfl⟩) rfl (ly_113_23 (srh7.ly ly)) ?_
        refine V.iload dX12_becomes_79 rfl ?_
        obtain ⟨b13, hf2⟩ := gdi_el hf
        replace hf := hf2
        clear hf2
        refine V.iaload dX12_becomes_81 rfl (Or.inl ⟨rfl, SHL_lt rfl⟩) b13 ?_
        refine V.iload_n dX12_becomes_82 rfl rfl ?_
        refine V.iand dX12_becomes_83 ?_
        obtain ⟨r16, h15, q14, hf2⟩ := bd2_el hf
        replace hf := hf2
        clear hf2
        refine V.callSI dX12_becomes_84 ml_X12_226 mo_X12_bits ms_X12_bits (th_X12_bits (srh7.ly ly) q14) rfl rfl ⟨Nat.le_of_ble_eq_true rfl, Nat.le_of_ble_eq_true rfl, fun _ => ⟨rfl, rfl⟩⟩ (Nat.le_of_ble_eq_true rfl) rfl (post_I (fun sq => ?_))
        have srh15 : SR h0 h15 := srh7.trans sq
        clear sq q14
        refine V.ishr dX12_becomes_87 ?_
        refine V.iconst (v := 1) dX12_becomes_88 rfl ?_
        refine V.iand dX12_becomes_89 ?_
        refine V.iload dX12_becomes_90 rfl ?_
        refine V.ishl dX12_becomes_92 ?_
        refine V.ior dX12_becomes_93 ?_
        refine V.nmi (fun x17 ex17 => ?_)
        replace hf := lt_el hf x17 ex17
        refine V.istore_n (ls' := [.ref 113, .int l1, .int l2, .int x17, .int l4, .int l5, .int x12]) dX12_becomes_94 rfl (by decide) rfl ?_
        obtain ⟨x18, ex18⟩ : ∃ y : Int32, y = l5 + 1 := ⟨_, rfl⟩
        replace hf := lt_el hf x18 ex18
        refine V.iinc (v := x18) (ls' := [.ref 113, .int l1, .int l2, .int x17, .int l4, .int x18, .int x12]) dX12_becomes_95 rfl (by decide) ex18.symm rfl ?_
        refine V.goto (tgt := 30) dX12_becomes_98 (by decide) ?_
        refine V.less (ls' := [.ref 113, .int l1, .int l2, .int x17, .int l4, .int x18, .null]) ⟨Or.inr rfl, Or.inr rfl, Or.inr rfl, Or.inr rfl, Or.inr rfl, Or.inr rfl, Or.inl rfl, trivial⟩ ?_
        exact ih l1 l2 x17 l4 x18 h15 srh15 hf
      · replace hf := ite_p hf c10
        refine V.goto (tgt := 95) dX12_becomes_49 (by decide) ?_
        obtain ⟨x19, ex19⟩ : ∃ y : Int32, y = l5 + 1 := ⟨_, rfl⟩
        replace hf := lt_el hf x19 ex19
        refine V.iinc (v := x19) (ls' := [.ref 113, .int l1, .int l2, .int l3, .int l4, .int x19, .null]) dX12_becomes_95 rfl (by decide) ex19.symm rfl ?_
        refine V.goto (tgt := 30) dX12_becomes_98 (by decide) ?_
        exact ih l1 l2 l3 l4 x19 h7 srh7 hf
set_option maxRecDepth 100000 in
theorem th_X12_becomes {h : HP} (ly : Lay h) {a1 : Int32} {a2 : Int32} {rr : Int32} {hh : HP} (hf : f_X12_becomes h a1 a2 = some (rr, hh)) : Spec yX12_becomes cX12_becomes miX12_becomes [.ref 113, .int a1, .int a2] h (pI fun r' h' => (r' = rr ∧ h' = hh) ∧ SR h hh) := by
  refine Spec.of (ls0 := [.ref 113, .int a1, .int a2, .null, .null, .null, .null]) mo_X12_becomes (Nat.le_of_ble_eq_true rfl) rfl ?_
  rw [ly.1]
  have srh : SR h h := SR.refl h
  unfold f_X12_becomes at hf
  refine V.aload_n dX12_becomes_0 rfl rfl rfl ?_
  refine V.getR (r := 114) dX12_becomes_1 fl_X12_7 rfl (Or.inl ⟨rfl, SHL_lt rfl⟩) rfl (ly_113_0 (srh.ly ly)) ?_
  refine V.iconst (v := 3) dX12_becomes_4 rfl ?_
  refine V.iaload dX12_becomes_5 rfl (Or.inl ⟨rfl, SHL_lt rfl⟩) (vp_lit (by decide)) ?_
  rw [show Int32.toNatClampNeg 3 = 3 from rfl]
  refine V.aload_n dX12_becomes_6 rfl rfl rfl ?_
  refine V.getR (r := 114) dX12_becomes_7 fl_X12_7 rfl (Or.inl ⟨rfl, SHL_lt rfl⟩) rfl (ly_113_0 (srh.ly ly)) ?_
  refine V.iconst (v := 4) dX12_becomes_10 rfl ?_
  refine V.iaload dX12_becomes_11 rfl (Or.inl ⟨rfl, SHL_lt rfl⟩) (vp_lit (by decide)) ?_
  rw [show Int32.toNatClampNeg 4 = 4 from rfl]
  refine V.iand dX12_becomes_12 ?_
  refine V.nmi (fun x1 ex1 => ?_)
  replace hf := lt_el hf x1 ex1
  refine V.istore_n (ls' := [.ref 113, .int a1, .int a2, .int x1, .null, .null, .null]) dX12_becomes_13 rfl (by decide) rfl ?_
  refine V.iload_n dX12_becomes_14 rfl rfl ?_
  refine V.iconst (v := (-1)) dX12_becomes_15 rfl ?_
  refine V.icmp_ne (tgt := 21) dX12_becomes_16 (by decide) (fun c2 => ?_) (fun c2 => ?_)
  · replace hf := ite_n hf c2
    refine V.aload_n dX12_becomes_21 rfl rfl rfl ?_
    obtain ⟨r5, h4, q3, hf2⟩ := bd2_el hf
    replace hf := hf2
    clear hf2
    refine V.callVI dX12_becomes_22 ml_X12_268 mo_X12_free mv_X12_free rfl (fun q hq => by cases hq; rfl) (by decide) (Or.inl ⟨rfl, SHL_lt rfl⟩) (th_X12_free (srh.ly ly) q3) rfl rfl ⟨Nat.le_of_ble_eq_true rfl, Nat.le_of_ble_eq_true rfl, fun _ => ⟨rfl, rfl⟩⟩ (Nat.le_of_ble_eq_true rfl) rfl (post_I (fun sq => ?_))
    have srh4 : SR h h4 := srh.trans sq
    clear sq q3
    refine V.istore (ls' := [.ref 113, .int a1, .int a2, .int x1, .int r5, .null, .null]) dX12_becomes_25 (by decide) rfl ?_
    refine V.iconst (v := 0) dX12_becomes_27 rfl ?_
    refine V.istore (ls' := [.ref 113, .int a1, .int a2, .int x1, .int r5, .int 0, .null]) dX12_becomes_28 (by decide) rfl ?_
    exact th_X12_becomes_30 ly FU a1 a2 x1 r5 0 h4 srh4 hf
  · replace hf := ite_p hf c2
    refine V.iload_n dX12_becomes_19 rfl rfl ?_
    refine V.ireturn dX12_becomes_20 rfl rfl ⟨rfl, rfl⟩ ly.1 ?_
    exact ret_I hf srh
set_option maxRecDepth 100000 in
theorem th_X12_after_9 {h0 : HP} (ly : Lay h0) {rr : Int32} {hh : HP}  : ∀ (n : Nat) (l2 : Int32) (l3 : Int32) (l4 : Int32) (h : HP), SR h0 h → f_X12_after_9 n l2 l3 l4 h = some (rr, hh) → V cX12_after miX12_after (ZI h0 miX12_after rr hh) 130 9 [.ref 113, .null, .int l2, .int l3, .int l4] [] h := by
  intro n
  induction n with
  | zero => intro l2 l3 l4 h srh hf; exact absurd hf (by unfold f_X12_after_9; simp)
  | succ n ih =>
    intro l2 l3 l4 h srh hf
    unfold f_X12_after_9 at hf
    refine V.iload dX12_after_9 rfl ?_
    refine V.iload_n dX12_after_11 rfl rfl ?_
    refine V.icmp_ge (tgt := 34) dX12_after_12 (by decide) (fun c3 => ?_) (fun c3 => ?_)
    · replace hf := ite_p hf c3
      refine V.iload_n dX12_after_34 rfl rfl ?_
      refine V.ireturn dX12_after_35 rfl rfl ⟨rfl, rfl⟩ ly.1 ?_
      exact ret_I hf srh
    · replace hf := ite_n hf c3
      refine V.aload_n dX12_after_15 rfl rfl rfl ?_
      refine V.iload_n dX12_after_16 rfl rfl ?_
      refine V.aload_n dX12_after_17 rfl rfl rfl ?_
      refine V.getR (r := 114) dX12_after_18 fl_X12_7 rfl (Or.inl ⟨rfl, SHL_lt rfl⟩) rfl (ly_113_0 (srh.ly ly)) ?_
      refine V.bipush (v := 10) dX12_after_21 rfl ?_
      refine V.iaload dX12_after_23 rfl (Or.inl ⟨rfl, SHL_lt rfl⟩) (vp_lit (by decide)) ?_
      rw [show Int32.toNatClampNeg 10 = 10 from rfl]
      obtain ⟨r6, h5, q4, hf2⟩ := bd2_el hf
      replace hf := hf2
      clear hf2
      refine V.callVI dX12_after_24 ml_X12_274 mo_X12_becomes mv_X12_becomes rfl (fun q hq => by cases hq; rfl) (by decide) (Or.inl ⟨rfl, SHL_lt rfl⟩) (th_X12_becomes (srh.ly ly) q4) rfl rfl ⟨Nat.le_of_ble_eq_true rfl, Nat.le_of_ble_eq_true rfl, fun _ => ⟨rfl, rfl⟩⟩ (Nat.le_of_ble_eq_true rfl) rfl (post_I (fun sq => ?_))
      have srh5 : SR h0 h5 := srh.trans sq
      clear sq q4
      refine V.istore_n (ls' := [.ref 113, .null, .int l2, .int r6, .int l4]) dX12_after_27 rfl (by decide) rfl ?_
      obtain ⟨x7, ex7⟩ : ∃ y : Int32, y = l4 + 1 := ⟨_, rfl⟩
      replace hf := lt_el hf x7 ex7
      refine V.iinc (v := x7) (ls' := [.ref 113, .null, .int l2, .int r6, .int x7]) dX12_after_28 rfl (by decide) ex7.symm rfl ?_
      refine V.goto (tgt := 9) dX12_after_31 (by decide) ?_
      exact ih l2 r6 x7 h5 srh5 hf
set_option maxRecDepth 100000 in
theorem th_X12_after {h : HP} (ly : Lay h) {a1 : Int32} {a2 : Int32} {rr : Int32} {hh : HP} (hf : f_X12_after h a1 a2 = some (rr, hh)) : Spec yX12_after cX12_after miX12_after [.ref 113, .int a1, .int a2] h (pI fun r' h' => (r' = rr ∧ h' = hh) ∧ SR h hh) := by
  refine Spec.of (ls0 := [.ref 113, .int a1, .int a2, .null, .null]) mo_X12_after (Nat.le_of_ble_eq_true rfl) rfl ?_
  rw [ly.1]
  have srh : SR h h := SR.refl h
  unfold f_X12_after at hf
  refine V.aload_n dX12_after_0 rfl rfl rfl ?_
  obtain ⟨h2, q1, hf2⟩ := bd_el hf
  replace hf := hf2
  clear hf2
  refine V.callVV dX12_after_1 ml_X12_271 mo_X12_laysNear mv_X12_laysNear rfl (fun q hq => by cases hq; rfl) (by decide) (Or.inl ⟨rfl, SHL_lt rfl⟩) (th_X12_laysNear (srh.ly ly) q1) rfl rfl ⟨Nat.le_of_ble_eq_true rfl, Nat.le_of_ble_eq_true rfl, fun _ => ⟨rfl, rfl⟩⟩ (Nat.le_of_ble_eq_true rfl) (Or.inl rfl) (post_V (fun sq => ?_))
  have srh2 : SR h h2 := srh.trans sq
  clear sq q1
  refine V.iload_n dX12_after_4 rfl rfl ?_
  refine V.istore_n (ls' := [.ref 113, .int a1, .int a2, .int a1, .null]) dX12_after_5 rfl (by decide) rfl ?_
  refine V.iconst (v := 0) dX12_after_6 rfl ?_
  refine V.istore (ls' := [.ref 113, .int a1, .int a2, .int a1, .int 0]) dX12_after_7 (by decide) rfl ?_
  refine V.less (ls' := [.ref 113, .null, .int a2, .int a1, .int 0]) ⟨Or.inr rfl, Or.inl rfl, Or.inr rfl, Or.inr rfl, Or.inr rfl, trivial⟩ ?_
  exact th_X12_after_9 ly FU a2 a1 0 h2 srh2 hf
set_option maxRecDepth 100000 in
theorem th_X12_told {h : HP} (ly : Lay h) {a1 : Int32} {rr : Int32} {hh : HP} (hf : f_X12_told h a1 = some (rr, hh)) : Spec yX12_told cX12_told miX12_told [.ref 113, .int a1] h (pI fun r' h' => (r' = rr ∧ h' = hh) ∧ SR h hh) := by
  refine Spec.of (ls0 := [.ref 113, .int a1]) mo_X12_told (Nat.le_of_ble_eq_true rfl) rfl ?_
  rw [ly.1]
  have srh : SR h h := SR.refl h
  unfold f_X12_told at hf
  refine V.iload_n dX12_told_0 rfl rfl ?_
  refine V.if_lt (tgt := 10) dX12_told_1 (by decide) (fun c1 => ?_) (fun c1 => ?_)
  · replace hf := ite_p hf c1
    refine V.aload_n dX12_told_10 rfl rfl rfl ?_
    refine V.iconst (v := 1) dX12_told_11 rfl ?_
    obtain ⟨r4, h3, q2, hf2⟩ := bd2_el hf
    replace hf := hf2
    clear hf2
    refine V.callVI dX12_told_12 ml_X12_81 mo_X12_refuse mv_X12_refuse rfl (fun q hq => by cases hq; rfl) (by decide) (Or.inl ⟨rfl, SHL_lt rfl⟩) (th_X12_refuse (srh.ly ly) q2) rfl rfl ⟨Nat.le_of_ble_eq_true rfl, Nat.le_of_ble_eq_true rfl, fun _ => ⟨rfl, rfl⟩⟩ (Nat.le_of_ble_eq_true rfl) rfl (post_I (fun sq => ?_))
    have srh3 : SR h h3 := srh.trans sq
    clear sq q2
    refine V.ireturn dX12_told_15 rfl rfl ⟨rfl, rfl⟩ ly.1 ?_
    exact ret_I hf srh3
  · replace hf := ite_n hf c1
    refine V.iload_n dX12_told_4 rfl rfl ?_
    refine V.bipush (v := 10) dX12_told_5 rfl ?_
    refine V.icmp_le (tgt := 16) dX12_told_7 (by decide) (fun c5 => ?_) (fun c5 => ?_)
    · replace hf := ite_p hf c5
      refine V.iload_n dX12_told_16 rfl rfl ?_
      refine V.bipush (v := 10) dX12_told_17 rfl ?_
      refine V.icmp_ne (tgt := 34) dX12_told_19 (by decide) (fun c6 => ?_) (fun c6 => ?_)
      · replace hf := ite_n hf c6
        refine V.aload_n dX12_told_34 rfl rfl rfl ?_
        refine V.iload_n dX12_told_35 rfl rfl ?_
        refine V.iconst (v := 2) dX12_told_36 rfl ?_
        refine V.icmp_lt (tgt := 57) dX12_told_37 (by decide) (fun c7 => ?_) (fun c7 => ?_)
        · replace hf := ite_p hf c7
          refine V.aload_n dX12_told_57 rfl rfl rfl ?_
          refine V.getR (r := 114) dX12_told_58 fl_X12_7 rfl (Or.inl ⟨rfl, SHL_lt rfl⟩) rfl (ly_113_0 (srh.ly ly)) ?_
          refine V.iload_n dX12_told_61 rfl rfl ?_
          obtain ⟨b8, hf2⟩ := gdi_el hf
          replace hf := hf2
          clear hf2
          refine V.iaload dX12_told_62 rfl (Or.inl ⟨rfl, SHL_lt rfl⟩) b8 ?_
          obtain ⟨r11, h10, q9, hf2⟩ := bd2_el hf
          replace hf := hf2
          clear hf2
          refine V.callVI dX12_told_63 ml_X12_85 mo_X12_gives mv_X12_gives rfl (fun q hq => by cases hq; rfl) (by decide) (Or.inl ⟨rfl, SHL_lt rfl⟩) (th_X12_gives (srh.ly ly) q9) rfl rfl ⟨Nat.le_of_ble_eq_true rfl, Nat.le_of_ble_eq_true rfl, fun _ => ⟨rfl, rfl⟩⟩ (Nat.le_of_ble_eq_true rfl) rfl (post_I (fun sq => ?_))
          have srh10 : SR h h10 := srh.trans sq
          clear sq q9
          refine V.ireturn dX12_told_66 rfl rfl ⟨rfl, rfl⟩ ly.1 ?_
          exact ret_I hf srh10
        · replace hf := ite_n hf c7
          refine V.iload_n dX12_told_40 rfl rfl ?_
          refine V.iconst (v := 4) dX12_told_41 rfl ?_
          refine V.icmp_gt (tgt := 57) dX12_told_42 (by decide) (fun c12 => ?_) (fun c12 => ?_)
          · replace hf := ite_p hf c12
            refine V.aload_n dX12_told_57 rfl rfl rfl ?_
            refine V.getR (r := 114) dX12_told_58 fl_X12_7 rfl (Or.inl ⟨rfl, SHL_lt rfl⟩) rfl (ly_113_0 (srh.ly ly)) ?_
            refine V.iload_n dX12_told_61 rfl rfl ?_
            obtain ⟨b13, hf2⟩ := gdi_el hf
            replace hf := hf2
            clear hf2
            refine V.iaload dX12_told_62 rfl (Or.inl ⟨rfl, SHL_lt rfl⟩) b13 ?_
            obtain ⟨r16, h15, q14, hf2⟩ := bd2_el hf
            replace hf := hf2
            clear hf2
            refine V.callVI dX12_told_63 ml_X12_85 mo_X12_gives mv_X12_gives rfl (fun q hq => by cases hq; rfl) (by decide) (Or.inl ⟨rfl, SHL_lt rfl⟩) (th_X12_gives (srh.ly ly) q14) rfl rfl ⟨Nat.le_of_ble_eq_true rfl, Nat.le_of_ble_eq_true rfl, fun _ => ⟨rfl, rfl⟩⟩ (Nat.le_of_ble_eq_true rfl) rfl (post_I (fun sq => ?_))
            have srh15 : SR h h15 := srh.trans sq
            clear sq q14
            refine V.ireturn dX12_told_66 rfl rfl ⟨rfl, rfl⟩ ly.1 ?_
            exact ret_I hf srh15
          · replace hf := ite_n hf c12
            refine V.aload_n dX12_told_45 rfl rfl rfl ?_
            refine V.getR (r := 114) dX12_told_46 fl_X12_7 rfl (Or.inl ⟨rfl, SHL_lt rfl⟩) rfl (ly_113_0 (srh.ly ly)) ?_
            refine V.iload_n dX12_told_49 rfl rfl ?_
            obtain ⟨b17, hf2⟩ := gdi_el hf
            replace hf := hf2
            clear hf2
            refine V.iaload dX12_told_50 rfl (Or.inl ⟨rfl, SHL_lt rfl⟩) b17 ?_
            obtain ⟨r20, h19, q18, hf2⟩ := bd2_el hf
            replace hf := hf2
            clear hf2
            refine V.callSI dX12_told_51 ml_X12_226 mo_X12_bits ms_X12_bits (th_X12_bits (srh.ly ly) q18) rfl rfl ⟨Nat.le_of_ble_eq_true rfl, Nat.le_of_ble_eq_true rfl, fun _ => ⟨rfl, rfl⟩⟩ (Nat.le_of_ble_eq_true rfl) rfl (post_I (fun sq => ?_))
            have srh19 : SR h h19 := srh.trans sq
            clear sq q18
            refine V.goto (tgt := 63) dX12_told_54 (by decide) ?_
            obtain ⟨r23, h22, q21, hf2⟩ := bd2_el hf
            replace hf := hf2
            clear hf2
            refine V.callVI dX12_told_63 ml_X12_85 mo_X12_gives mv_X12_gives rfl (fun q hq => by cases hq; rfl) (by decide) (Or.inl ⟨rfl, SHL_lt rfl⟩) (th_X12_gives (srh19.ly ly) q21) rfl rfl ⟨Nat.le_of_ble_eq_true rfl, Nat.le_of_ble_eq_true rfl, fun _ => ⟨rfl, rfl⟩⟩ (Nat.le_of_ble_eq_true rfl) rfl (post_I (fun sq => ?_))
            have srh22 : SR h h22 := srh19.trans sq
            clear sq q21
            refine V.ireturn dX12_told_66 rfl rfl ⟨rfl, rfl⟩ ly.1 ?_
            exact ret_I hf srh22
      · replace hf := ite_p hf c6
        refine V.aload_n dX12_told_22 rfl rfl rfl ?_
        refine V.aload_n dX12_told_23 rfl rfl rfl ?_
        refine V.getR (r := 114) dX12_told_24 fl_X12_7 rfl (Or.inl ⟨rfl, SHL_lt rfl⟩) rfl (ly_113_0 (srh.ly ly)) ?_
        refine V.bipush (v := 10) dX12_told_27 rfl ?_
        refine V.iaload dX12_told_29 rfl (Or.inl ⟨rfl, SHL_lt rfl⟩) (vp_lit (by decide)) ?_
        rw [show Int32.toNatClampNeg 10 = 10 from rfl]
        obtain ⟨r26, h25, q24, hf2⟩ := bd2_el hf
        replace hf := hf2
        clear hf2
        refine V.callVI dX12_told_30 ml_X12_277 mo_X12_orNone mv_X12_orNone rfl (fun q hq => by cases hq; rfl) (by decide) (Or.inl ⟨rfl, SHL_lt rfl⟩) (th_X12_orNone (srh.ly ly) q24) rfl rfl ⟨Nat.le_of_ble_eq_true rfl, Nat.le_of_ble_eq_true rfl, fun _ => ⟨rfl, rfl⟩⟩ (Nat.le_of_ble_eq_true rfl) rfl (post_I (fun sq => ?_))
        have srh25 : SR h h25 := srh.trans sq
        clear sq q24
        refine V.ireturn dX12_told_33 rfl rfl ⟨rfl, rfl⟩ ly.1 ?_
        exact ret_I hf srh25
    · replace hf := ite_n hf c5
      refine V.aload_n dX12_told_10 rfl rfl rfl ?_
      refine V.iconst (v := 1) dX12_told_11 rfl ?_
      obtain ⟨r29, h28, q27, hf2⟩ := bd2_el hf
      replace hf := hf2
      clear hf2
      refine V.callVI dX12_told_12 ml_X12_81 mo_X12_refuse mv_X12_refuse rfl (fun q hq => by cases hq; rfl) (by decide) (Or.inl ⟨rfl, SHL_lt rfl⟩) (th_X12_refuse (srh.ly ly) q27) rfl rfl ⟨Nat.le_of_ble_eq_true rfl, Nat.le_of_ble_eq_true rfl, fun _ => ⟨rfl, rfl⟩⟩ (Nat.le_of_ble_eq_true rfl) rfl (post_I (fun sq => ?_))
      have srh28 : SR h h28 := srh.trans sq
      clear sq q27
      refine V.ireturn dX12_told_15 rfl rfl ⟨rfl, rfl⟩ ly.1 ?_
      exact ret_I hf srh28
set_option maxRecDepth 100000 in
theorem th_X12_picture {h : HP} (ly : Lay h)  {rr : Int64} {hh : HP} (hf : f_X12_picture h = some (rr, hh)) : Spec yX12_picture cX12_picture miX12_picture [.ref 113] h (pL fun r' h' => (r' = rr ∧ h' = hh) ∧ SR h hh) := by
  refine Spec.of (ls0 := [.ref 113]) mo_X12_picture (Nat.le_of_ble_eq_true rfl) rfl ?_
  rw [ly.1]
  have srh : SR h h := SR.refl h
  unfold f_X12_picture at hf
  refine V.aload_n dX12_picture_0 rfl rfl rfl ?_
  refine V.aload_n dX12_picture_1 rfl rfl rfl ?_
  refine V.getR (r := 114) dX12_picture_2 fl_X12_7 rfl (Or.inl ⟨rfl, SHL_lt rfl⟩) rfl (ly_113_0 (srh.ly ly)) ?_
  refine V.iconst (v := 3) dX12_picture_5 rfl ?_
  refine V.iaload dX12_picture_6 rfl (Or.inl ⟨rfl, SHL_lt rfl⟩) (vp_lit (by decide)) ?_
  rw [show Int32.toNatClampNeg 3 = 3 from rfl]
  refine V.i2l dX12_picture_7 ?_
  obtain ⟨r3, h2, q1, hf2⟩ := bd2_el hf
  replace hf := hf2
  clear hf2
  refine V.callVL dX12_picture_8 ml_X12_280 mo_X12_givesLong mv_X12_givesLong rfl (fun q hq => by cases hq; rfl) (by decide) (Or.inl ⟨rfl, SHL_lt rfl⟩) (th_X12_givesLong (srh.ly ly) q1) rfl rfl ⟨Nat.le_of_ble_eq_true rfl, Nat.le_of_ble_eq_true rfl, fun _ => ⟨rfl, rfl⟩⟩ (Nat.le_of_ble_eq_true rfl) rfl (post_L (fun sq => ?_))
  have srh2 : SR h h2 := srh.trans sq
  clear sq q1
  refine V.lreturn dX12_picture_11 rfl ⟨rfl, rfl⟩ ly.1 ?_
  exact ret_L hf srh2
set_option maxRecDepth 100000 in
theorem th_X12_lamp_19 {h0 : HP} (ly : Lay h0) {rr : Int32} {hh : HP}  : ∀ (l1 : Int32) (l2 : Int32) (l3 : Int32) (s0 : Int32) (h : HP), SR h0 h → f_X12_lamp_19 l1 l2 l3 s0 h = some (rr, hh) → V cX12_lamp miX12_lamp (ZI h0 miX12_lamp rr hh) 130 19 [.ref 113, .int l1, .int l2, .int l3, .null, .null, .null] [.int s0] h := by
  intro l1 l2 l3 s0 h srh hf
  unfold f_X12_lamp_19 at hf
  refine V.istore (ls' := [.ref 113, .int l1, .int l2, .int l3, .int s0, .null, .null]) dX12_lamp_19 (by decide) rfl ?_
  refine V.iload dX12_lamp_21 rfl ?_
  refine V.if_le (tgt := 33) dX12_lamp_23 (by decide) (fun c6 => ?_) (fun c6 => ?_)
  · replace hf := ite_p hf c6
    refine V.aload_n dX12_lamp_33 rfl rfl rfl ?_
    refine V.aload_n dX12_lamp_34 rfl rfl rfl ?_
    refine V.getR (r := 114) dX12_lamp_35 fl_X12_7 rfl (Or.inl ⟨rfl, SHL_lt rfl⟩) rfl (ly_113_0 (srh.ly ly)) ?_
    refine V.iconst (v := 0) dX12_lamp_38 rfl ?_
    refine V.iaload dX12_lamp_39 rfl (Or.inl ⟨rfl, SHL_lt rfl⟩) (vp_lit (by decide)) ?_
    rw [show Int32.toNatClampNeg 0 = 0 from rfl]
    refine V.iload_n dX12_lamp_40 rfl rfl ?_
    refine V.imul dX12_lamp_41 ?_
    refine V.iload_n dX12_lamp_42 rfl rfl ?_
    refine V.iadd dX12_lamp_43 ?_
    obtain ⟨r9, h8, q7, hf2⟩ := bd2_el hf
    replace hf := hf2
    clear hf2
    refine V.callVI dX12_lamp_44 ml_X12_265 mo_X12_near mv_X12_near rfl (fun q hq => by cases hq; rfl) (by decide) (Or.inl ⟨rfl, SHL_lt rfl⟩) (th_X12_near (srh.ly ly) q7) rfl rfl ⟨Nat.le_of_ble_eq_true rfl, Nat.le_of_ble_eq_true rfl, fun _ => ⟨rfl, rfl⟩⟩ (Nat.le_of_ble_eq_true rfl) rfl (post_I (fun sq => ?_))
    have srh8 : SR h0 h8 := srh.trans sq
    clear sq q7
    refine V.istore (ls' := [.ref 113, .int l1, .int l2, .int l3, .int s0, .int r9, .null]) dX12_lamp_47 (by decide) rfl ?_
    refine V.aload_n dX12_lamp_49 rfl rfl rfl ?_
    refine V.iload_n dX12_lamp_50 rfl rfl ?_
    refine V.iload_n dX12_lamp_51 rfl rfl ?_
    obtain ⟨r12, h11, q10, hf2⟩ := bd2_el hf
    replace hf := hf2
    clear hf2
    refine V.callVI dX12_lamp_52 ml_X12_256 mo_X12_bitOf mv_X12_bitOf rfl (fun q hq => by cases hq; rfl) (by decide) (Or.inl ⟨rfl, SHL_lt rfl⟩) (th_X12_bitOf (srh8.ly ly) q10) rfl rfl ⟨Nat.le_of_ble_eq_true rfl, Nat.le_of_ble_eq_true rfl, fun _ => ⟨rfl, rfl⟩⟩ (Nat.le_of_ble_eq_true rfl) rfl (post_I (fun sq => ?_))
    have srh11 : SR h0 h11 := srh8.trans sq
    clear sq q10
    refine V.istore (ls' := [.ref 113, .int l1, .int l2, .int l3, .int s0, .int r9, .int r12]) dX12_lamp_55 (by decide) rfl ?_
    refine V.aload_n dX12_lamp_57 rfl rfl rfl ?_
    refine V.iload_n dX12_lamp_58 rfl rfl ?_
    refine V.if_ne (tgt := 82) dX12_lamp_59 (by decide) (fun c13 => ?_) (fun c13 => ?_)
    · replace hf := ite_n hf c13
      refine V.iload_n dX12_lamp_82 rfl rfl ?_
      refine V.iconst (v := 1) dX12_lamp_83 rfl ?_
      refine V.icmp_ne (tgt := 95) dX12_lamp_84 (by decide) (fun c14 => ?_) (fun c14 => ?_)
      · replace hf := ite_n hf c14
        refine V.iload_n dX12_lamp_95 rfl rfl ?_
        refine V.iconst (v := 2) dX12_lamp_96 rfl ?_
        refine V.icmp_ne (tgt := 115) dX12_lamp_97 (by decide) (fun c15 => ?_) (fun c15 => ?_)
        · replace hf := ite_n hf c15
          refine V.aload_n dX12_lamp_115 rfl rfl rfl ?_
          refine V.getR (r := 114) dX12_lamp_116 fl_X12_7 rfl (Or.inl ⟨rfl, SHL_lt rfl⟩) rfl (ly_113_0 (srh11.ly ly)) ?_
          refine V.iconst (v := 4) dX12_lamp_119 rfl ?_
          refine V.iaload dX12_lamp_120 rfl (Or.inl ⟨rfl, SHL_lt rfl⟩) (vp_lit (by decide)) ?_
          rw [show Int32.toNatClampNeg 4 = 4 from rfl]
          refine V.iload dX12_lamp_121 rfl ?_
          refine V.iand dX12_lamp_123 ?_
          refine V.if_ne (tgt := 131) dX12_lamp_124 (by decide) (fun c16 => ?_) (fun c16 => ?_)
          · replace hf := ite_n hf c16
            refine V.iconst (v := 1) dX12_lamp_131 rfl ?_
            obtain ⟨r19, h18, q17, hf2⟩ := bd2_el hf
            replace hf := hf2
            clear hf2
            refine V.callVI dX12_lamp_132 ml_X12_85 mo_X12_gives mv_X12_gives rfl (fun q hq => by cases hq; rfl) (by decide) (Or.inl ⟨rfl, SHL_lt rfl⟩) (th_X12_gives (srh11.ly ly) q17) rfl rfl ⟨Nat.le_of_ble_eq_true rfl, Nat.le_of_ble_eq_true rfl, fun _ => ⟨rfl, rfl⟩⟩ (Nat.le_of_ble_eq_true rfl) rfl (post_I (fun sq => ?_))
            have srh18 : SR h0 h18 := srh11.trans sq
            clear sq q17
            refine V.ireturn dX12_lamp_135 rfl rfl ⟨rfl, rfl⟩ ly.1 ?_
            exact ret_I hf srh18
          · replace hf := ite_p hf c16
            refine V.iconst (v := 0) dX12_lamp_127 rfl ?_
            refine V.goto (tgt := 132) dX12_lamp_128 (by decide) ?_
            obtain ⟨r22, h21, q20, hf2⟩ := bd2_el hf
            replace hf := hf2
            clear hf2
            refine V.callVI dX12_lamp_132 ml_X12_85 mo_X12_gives mv_X12_gives rfl (fun q hq => by cases hq; rfl) (by decide) (Or.inl ⟨rfl, SHL_lt rfl⟩) (th_X12_gives (srh11.ly ly) q20) rfl rfl ⟨Nat.le_of_ble_eq_true rfl, Nat.le_of_ble_eq_true rfl, fun _ => ⟨rfl, rfl⟩⟩ (Nat.le_of_ble_eq_true rfl) rfl (post_I (fun sq => ?_))
            have srh21 : SR h0 h21 := srh11.trans sq
            clear sq q20
            refine V.ireturn dX12_lamp_135 rfl rfl ⟨rfl, rfl⟩ ly.1 ?_
            exact ret_I hf srh21
        · replace hf := ite_p hf c15
          refine V.iload dX12_lamp_100 rfl ?_
          refine V.aload_n dX12_lamp_102 rfl rfl rfl ?_
          refine V.getR (r := 114) dX12_lamp_103 fl_X12_7 rfl (Or.inl ⟨rfl, SHL_lt rfl⟩) rfl (ly_113_0 (srh11.ly ly)) ?_
          refine V.iconst (v := 3) dX12_lamp_106 rfl ?_
          refine V.iaload dX12_lamp_107 rfl (Or.inl ⟨rfl, SHL_lt rfl⟩) (vp_lit (by decide)) ?_
          rw [show Int32.toNatClampNeg 3 = 3 from rfl]
          refine V.iand dX12_lamp_108 ?_
          obtain ⟨r25, h24, q23, hf2⟩ := bd2_el hf
          replace hf := hf2
          clear hf2
          refine V.callSI dX12_lamp_109 ml_X12_226 mo_X12_bits ms_X12_bits (th_X12_bits (srh11.ly ly) q23) rfl rfl ⟨Nat.le_of_ble_eq_true rfl, Nat.le_of_ble_eq_true rfl, fun _ => ⟨rfl, rfl⟩⟩ (Nat.le_of_ble_eq_true rfl) rfl (post_I (fun sq => ?_))
          have srh24 : SR h0 h24 := srh11.trans sq
          clear sq q23
          refine V.goto (tgt := 132) dX12_lamp_112 (by decide) ?_
          obtain ⟨r28, h27, q26, hf2⟩ := bd2_el hf
          replace hf := hf2
          clear hf2
          refine V.callVI dX12_lamp_132 ml_X12_85 mo_X12_gives mv_X12_gives rfl (fun q hq => by cases hq; rfl) (by decide) (Or.inl ⟨rfl, SHL_lt rfl⟩) (th_X12_gives (srh24.ly ly) q26) rfl rfl ⟨Nat.le_of_ble_eq_true rfl, Nat.le_of_ble_eq_true rfl, fun _ => ⟨rfl, rfl⟩⟩ (Nat.le_of_ble_eq_true rfl) rfl (post_I (fun sq => ?_))
          have srh27 : SR h0 h27 := srh24.trans sq
          clear sq q26
          refine V.ireturn dX12_lamp_135 rfl rfl ⟨rfl, rfl⟩ ly.1 ?_
          exact ret_I hf srh27
      · replace hf := ite_p hf c14
        refine V.iload dX12_lamp_87 rfl ?_
        obtain ⟨r31, h30, q29, hf2⟩ := bd2_el hf
        replace hf := hf2
        clear hf2
        refine V.callSI dX12_lamp_89 ml_X12_226 mo_X12_bits ms_X12_bits (th_X12_bits (srh11.ly ly) q29) rfl rfl ⟨Nat.le_of_ble_eq_true rfl, Nat.le_of_ble_eq_true rfl, fun _ => ⟨rfl, rfl⟩⟩ (Nat.le_of_ble_eq_true rfl) rfl (post_I (fun sq => ?_))
        have srh30 : SR h0 h30 := srh11.trans sq
        clear sq q29
        refine V.goto (tgt := 132) dX12_lamp_92 (by decide) ?_
        obtain ⟨r34, h33, q32, hf2⟩ := bd2_el hf
        replace hf := hf2
        clear hf2
        refine V.callVI dX12_lamp_132 ml_X12_85 mo_X12_gives mv_X12_gives rfl (fun q hq => by cases hq; rfl) (by decide) (Or.inl ⟨rfl, SHL_lt rfl⟩) (th_X12_gives (srh30.ly ly) q32) rfl rfl ⟨Nat.le_of_ble_eq_true rfl, Nat.le_of_ble_eq_true rfl, fun _ => ⟨rfl, rfl⟩⟩ (Nat.le_of_ble_eq_true rfl) rfl (post_I (fun sq => ?_))
        have srh33 : SR h0 h33 := srh30.trans sq
        clear sq q32
        refine V.ireturn dX12_lamp_135 rfl rfl ⟨rfl, rfl⟩ ly.1 ?_
        exact ret_I hf srh33
    · replace hf := ite_p hf c13
      refine V.aload_n dX12_lamp_62 rfl rfl rfl ?_
      refine V.getR (r := 114) dX12_lamp_63 fl_X12_7 rfl (Or.inl ⟨rfl, SHL_lt rfl⟩) rfl (ly_113_0 (srh11.ly ly)) ?_
      refine V.iconst (v := 3) dX12_lamp_66 rfl ?_
      refine V.iaload dX12_lamp_67 rfl (Or.inl ⟨rfl, SHL_lt rfl⟩) (vp_lit (by decide)) ?_
      rw [show Int32.toNatClampNeg 3 = 3 from rfl]
      refine V.iload dX12_lamp_68 rfl ?_
      refine V.iand dX12_lamp_70 ?_
      refine V.if_ne (tgt := 78) dX12_lamp_71 (by decide) (fun c35 => ?_) (fun c35 => ?_)
      · replace hf := ite_n hf c35
        refine V.iconst (v := 1) dX12_lamp_78 rfl ?_
        refine V.goto (tgt := 132) dX12_lamp_79 (by decide) ?_
        obtain ⟨r38, h37, q36, hf2⟩ := bd2_el hf
        replace hf := hf2
        clear hf2
        refine V.callVI dX12_lamp_132 ml_X12_85 mo_X12_gives mv_X12_gives rfl (fun q hq => by cases hq; rfl) (by decide) (Or.inl ⟨rfl, SHL_lt rfl⟩) (th_X12_gives (srh11.ly ly) q36) rfl rfl ⟨Nat.le_of_ble_eq_true rfl, Nat.le_of_ble_eq_true rfl, fun _ => ⟨rfl, rfl⟩⟩ (Nat.le_of_ble_eq_true rfl) rfl (post_I (fun sq => ?_))
        have srh37 : SR h0 h37 := srh11.trans sq
        clear sq q36
        refine V.ireturn dX12_lamp_135 rfl rfl ⟨rfl, rfl⟩ ly.1 ?_
        exact ret_I hf srh37
      · replace hf := ite_p hf c35
        refine V.iconst (v := 0) dX12_lamp_74 rfl ?_
        refine V.goto (tgt := 132) dX12_lamp_75 (by decide) ?_
        obtain ⟨r41, h40, q39, hf2⟩ := bd2_el hf
        replace hf := hf2
        clear hf2
        refine V.callVI dX12_lamp_132 ml_X12_85 mo_X12_gives mv_X12_gives rfl (fun q hq => by cases hq; rfl) (by decide) (Or.inl ⟨rfl, SHL_lt rfl⟩) (th_X12_gives (srh11.ly ly) q39) rfl rfl ⟨Nat.le_of_ble_eq_true rfl, Nat.le_of_ble_eq_true rfl, fun _ => ⟨rfl, rfl⟩⟩ (Nat.le_of_ble_eq_true rfl) rfl (post_I (fun sq => ?_))
        have srh40 : SR h0 h40 := srh11.trans sq
        clear sq q39
        refine V.ireturn dX12_lamp_135 rfl rfl ⟨rfl, rfl⟩ ly.1 ?_
        exact ret_I hf srh40
  · replace hf := ite_n hf c6
    refine V.aload_n dX12_lamp_26 rfl rfl rfl ?_
    refine V.iload dX12_lamp_27 rfl ?_
    obtain ⟨r44, h43, q42, hf2⟩ := bd2_el hf
    replace hf := hf2
    clear hf2
    refine V.callVI dX12_lamp_29 ml_X12_81 mo_X12_refuse mv_X12_refuse rfl (fun q hq => by cases hq; rfl) (by decide) (Or.inl ⟨rfl, SHL_lt rfl⟩) (th_X12_refuse (srh.ly ly) q42) rfl rfl ⟨Nat.le_of_ble_eq_true rfl, Nat.le_of_ble_eq_true rfl, fun _ => ⟨rfl, rfl⟩⟩ (Nat.le_of_ble_eq_true rfl) rfl (post_I (fun sq => ?_))
    have srh43 : SR h0 h43 := srh.trans sq
    clear sq q42
    refine V.ireturn dX12_lamp_32 rfl rfl ⟨rfl, rfl⟩ ly.1 ?_
    exact ret_I hf srh43
set_option maxRecDepth 100000 in
theorem th_X12_lamp {h : HP} (ly : Lay h) {a1 : Int32} {a2 : Int32} {a3 : Int32} {rr : Int32} {hh : HP} (hf : f_X12_lamp h a1 a2 a3 = some (rr, hh)) : Spec yX12_lamp cX12_lamp miX12_lamp [.ref 113, .int a1, .int a2, .int a3] h (pI fun r' h' => (r' = rr ∧ h' = hh) ∧ SR h hh) := by
  refine Spec.of (ls0 := [.ref 113, .int a1, .int a2, .int a3, .null, .null, .null]) mo_X12_lamp (Nat.le_of_ble_eq_true rfl) rfl ?_
  rw [ly.1]
  have srh : SR h h := SR.refl h
  unfold f_X12_lamp at hf
  refine V.iload_n dX12_lamp_0 rfl rfl ?_
  refine V.if_lt (tgt := 9) dX12_lamp_1 (by decide) (fun c1 => ?_) (fun c1 => ?_)
  · replace hf := ite_p hf c1
    refine V.iconst (v := 1) dX12_lamp_9 rfl ?_
    refine V.goto (tgt := 19) dX12_lamp_10 (by decide) ?_
    exact th_X12_lamp_19 ly a1 a2 a3 1 h srh hf
  · replace hf := ite_n hf c1
    refine V.iload_n dX12_lamp_4 rfl rfl ?_
    refine V.iconst (v := 3) dX12_lamp_5 rfl ?_
    refine V.icmp_le (tgt := 13) dX12_lamp_6 (by decide) (fun c2 => ?_) (fun c2 => ?_)
    · replace hf := ite_p hf c2
      refine V.aload_n dX12_lamp_13 rfl rfl rfl ?_
      refine V.iload_n dX12_lamp_14 rfl rfl ?_
      refine V.iload_n dX12_lamp_15 rfl rfl ?_
      obtain ⟨r5, h4, q3, hf2⟩ := bd2_el hf
      replace hf := hf2
      clear hf2
      refine V.callVI dX12_lamp_16 ml_X12_259 mo_X12_wrongHouse mv_X12_wrongHouse rfl (fun q hq => by cases hq; rfl) (by decide) (Or.inl ⟨rfl, SHL_lt rfl⟩) (th_X12_wrongHouse (srh.ly ly) q3) rfl rfl ⟨Nat.le_of_ble_eq_true rfl, Nat.le_of_ble_eq_true rfl, fun _ => ⟨rfl, rfl⟩⟩ (Nat.le_of_ble_eq_true rfl) rfl (post_I (fun sq => ?_))
      have srh4 : SR h h4 := srh.trans sq
      clear sq q3
      exact th_X12_lamp_19 ly a1 a2 a3 r5 h4 srh4 hf
    · replace hf := ite_n hf c2
      refine V.iconst (v := 1) dX12_lamp_9 rfl ?_
      refine V.goto (tgt := 19) dX12_lamp_10 (by decide) ?_
      exact th_X12_lamp_19 ly a1 a2 a3 1 h srh hf
set_option maxRecDepth 100000 in
theorem th_X12_isRule {h : HP} (ly : Lay h) {a1 : Int32} {rr : Int32} {hh : HP} (hf : f_X12_isRule h a1 = some (rr, hh)) : Spec yX12_isRule cX12_isRule miX12_isRule [.ref 113, .int a1] h (pI fun r' h' => (r' = rr ∧ h' = hh) ∧ SR h hh) := by
  refine Spec.of (ls0 := [.ref 113, .int a1]) mo_X12_isRule (Nat.le_of_ble_eq_true rfl) rfl ?_
  rw [ly.1]
  have srh : SR h h := SR.refl h
  unfold f_X12_isRule at hf
  refine V.iload_n dX12_isRule_0 rfl rfl ?_
  refine V.if_lt (tgt := 18) dX12_isRule_1 (by decide) (fun c1 => ?_) (fun c1 => ?_)
  · replace hf := ite_p hf c1
    refine V.iconst (v := 0) dX12_isRule_18 rfl ?_
    refine V.ireturn dX12_isRule_19 rfl rfl ⟨rfl, rfl⟩ ly.1 ?_
    exact ret_I hf srh
  · replace hf := ite_n hf c1
    refine V.iload_n dX12_isRule_4 rfl rfl ?_
    refine V.aload_n dX12_isRule_5 rfl rfl rfl ?_
    refine V.getR (r := 114) dX12_isRule_6 fl_X12_7 rfl (Or.inl ⟨rfl, SHL_lt rfl⟩) rfl (ly_113_0 (srh.ly ly)) ?_
    refine V.iconst (v := 5) dX12_isRule_9 rfl ?_
    refine V.iaload dX12_isRule_10 rfl (Or.inl ⟨rfl, SHL_lt rfl⟩) (vp_lit (by decide)) ?_
    rw [show Int32.toNatClampNeg 5 = 5 from rfl]
    refine V.icmp_ge (tgt := 18) dX12_isRule_11 (by decide) (fun c2 => ?_) (fun c2 => ?_)
    · replace hf := ite_p hf c2
      refine V.iconst (v := 0) dX12_isRule_18 rfl ?_
      refine V.ireturn dX12_isRule_19 rfl rfl ⟨rfl, rfl⟩ ly.1 ?_
      exact ret_I hf srh
    · replace hf := ite_n hf c2
      refine V.iconst (v := 1) dX12_isRule_14 rfl ?_
      refine V.goto (tgt := 19) dX12_isRule_15 (by decide) ?_
      refine V.ireturn dX12_isRule_19 rfl rfl ⟨rfl, rfl⟩ ly.1 ?_
      exact ret_I hf srh
set_option maxRecDepth 100000 in
theorem th_X12_rule {h : HP} (ly : Lay h) {a1 : Int32} {a2 : Int32} {rr : Int32} {hh : HP} (hf : f_X12_rule h a1 a2 = some (rr, hh)) : Spec yX12_rule cX12_rule miX12_rule [.ref 113, .int a1, .int a2] h (pI fun r' h' => (r' = rr ∧ h' = hh) ∧ SR h hh) := by
  refine Spec.of (ls0 := [.ref 113, .int a1, .int a2]) mo_X12_rule (Nat.le_of_ble_eq_true rfl) rfl ?_
  rw [ly.1]
  have srh : SR h h := SR.refl h
  unfold f_X12_rule at hf
  refine V.aload_n dX12_rule_0 rfl rfl rfl ?_
  refine V.iload_n dX12_rule_1 rfl rfl ?_
  obtain ⟨r3, h2, q1, hf2⟩ := bd2_el hf
  replace hf := hf2
  clear hf2
  refine V.callVI dX12_rule_2 ml_X12_284 mo_X12_isRule mv_X12_isRule rfl (fun q hq => by cases hq; rfl) (by decide) (Or.inl ⟨rfl, SHL_lt rfl⟩) (th_X12_isRule (srh.ly ly) q1) rfl rfl ⟨Nat.le_of_ble_eq_true rfl, Nat.le_of_ble_eq_true rfl, fun _ => ⟨rfl, rfl⟩⟩ (Nat.le_of_ble_eq_true rfl) rfl (post_I (fun sq => ?_))
  have srh2 : SR h h2 := srh.trans sq
  clear sq q1
  refine V.if_eq (tgt := 37) dX12_rule_5 (by decide) (fun c4 => ?_) (fun c4 => ?_)
  · replace hf := ite_p hf c4
    refine V.aload_n dX12_rule_37 rfl rfl rfl ?_
    refine V.iconst (v := 1) dX12_rule_38 rfl ?_
    obtain ⟨r7, h6, q5, hf2⟩ := bd2_el hf
    replace hf := hf2
    clear hf2
    refine V.callVI dX12_rule_39 ml_X12_81 mo_X12_refuse mv_X12_refuse rfl (fun q hq => by cases hq; rfl) (by decide) (Or.inl ⟨rfl, SHL_lt rfl⟩) (th_X12_refuse (srh2.ly ly) q5) rfl rfl ⟨Nat.le_of_ble_eq_true rfl, Nat.le_of_ble_eq_true rfl, fun _ => ⟨rfl, rfl⟩⟩ (Nat.le_of_ble_eq_true rfl) rfl (post_I (fun sq => ?_))
    have srh6 : SR h h6 := srh2.trans sq
    clear sq q5
    refine V.ireturn dX12_rule_42 rfl rfl ⟨rfl, rfl⟩ ly.1 ?_
    exact ret_I hf srh6
  · replace hf := ite_n hf c4
    refine V.iload_n dX12_rule_8 rfl rfl ?_
    refine V.if_lt (tgt := 37) dX12_rule_9 (by decide) (fun c8 => ?_) (fun c8 => ?_)
    · replace hf := ite_p hf c8
      refine V.aload_n dX12_rule_37 rfl rfl rfl ?_
      refine V.iconst (v := 1) dX12_rule_38 rfl ?_
      obtain ⟨r11, h10, q9, hf2⟩ := bd2_el hf
      replace hf := hf2
      clear hf2
      refine V.callVI dX12_rule_39 ml_X12_81 mo_X12_refuse mv_X12_refuse rfl (fun q hq => by cases hq; rfl) (by decide) (Or.inl ⟨rfl, SHL_lt rfl⟩) (th_X12_refuse (srh2.ly ly) q9) rfl rfl ⟨Nat.le_of_ble_eq_true rfl, Nat.le_of_ble_eq_true rfl, fun _ => ⟨rfl, rfl⟩⟩ (Nat.le_of_ble_eq_true rfl) rfl (post_I (fun sq => ?_))
      have srh10 : SR h h10 := srh2.trans sq
      clear sq q9
      refine V.ireturn dX12_rule_42 rfl rfl ⟨rfl, rfl⟩ ly.1 ?_
      exact ret_I hf srh10
    · replace hf := ite_n hf c8
      refine V.iload_n dX12_rule_12 rfl rfl ?_
      refine V.iconst (v := 1) dX12_rule_13 rfl ?_
      refine V.icmp_gt (tgt := 37) dX12_rule_14 (by decide) (fun c12 => ?_) (fun c12 => ?_)
      · replace hf := ite_p hf c12
        refine V.aload_n dX12_rule_37 rfl rfl rfl ?_
        refine V.iconst (v := 1) dX12_rule_38 rfl ?_
        obtain ⟨r15, h14, q13, hf2⟩ := bd2_el hf
        replace hf := hf2
        clear hf2
        refine V.callVI dX12_rule_39 ml_X12_81 mo_X12_refuse mv_X12_refuse rfl (fun q hq => by cases hq; rfl) (by decide) (Or.inl ⟨rfl, SHL_lt rfl⟩) (th_X12_refuse (srh2.ly ly) q13) rfl rfl ⟨Nat.le_of_ble_eq_true rfl, Nat.le_of_ble_eq_true rfl, fun _ => ⟨rfl, rfl⟩⟩ (Nat.le_of_ble_eq_true rfl) rfl (post_I (fun sq => ?_))
        have srh14 : SR h h14 := srh2.trans sq
        clear sq q13
        refine V.ireturn dX12_rule_42 rfl rfl ⟨rfl, rfl⟩ ly.1 ?_
        exact ret_I hf srh14
      · replace hf := ite_n hf c12
        refine V.aload_n dX12_rule_17 rfl rfl rfl ?_
        refine V.aload_n dX12_rule_18 rfl rfl rfl ?_
        refine V.getR (r := 114) dX12_rule_19 fl_X12_7 rfl (Or.inl ⟨rfl, SHL_lt rfl⟩) rfl (ly_113_0 (srh2.ly ly)) ?_
        refine V.bipush (v := 12) dX12_rule_22 rfl ?_
        refine V.iconst (v := 2) dX12_rule_24 rfl ?_
        refine V.iload_n dX12_rule_25 rfl rfl ?_
        refine V.imul dX12_rule_26 ?_
        refine V.iadd dX12_rule_27 ?_
        refine V.iload_n dX12_rule_28 rfl rfl ?_
        refine V.iadd dX12_rule_29 ?_
        obtain ⟨b16, hf2⟩ := gdi_el hf
        replace hf := hf2
        clear hf2
        refine V.iaload dX12_rule_30 rfl (Or.inl ⟨rfl, SHL_lt rfl⟩) b16 ?_
        obtain ⟨r19, h18, q17, hf2⟩ := bd2_el hf
        replace hf := hf2
        clear hf2
        refine V.callVI dX12_rule_31 ml_X12_85 mo_X12_gives mv_X12_gives rfl (fun q hq => by cases hq; rfl) (by decide) (Or.inl ⟨rfl, SHL_lt rfl⟩) (th_X12_gives (srh2.ly ly) q17) rfl rfl ⟨Nat.le_of_ble_eq_true rfl, Nat.le_of_ble_eq_true rfl, fun _ => ⟨rfl, rfl⟩⟩ (Nat.le_of_ble_eq_true rfl) rfl (post_I (fun sq => ?_))
        have srh18 : SR h h18 := srh2.trans sq
        clear sq q17
        refine V.goto (tgt := 42) dX12_rule_34 (by decide) ?_
        refine V.ireturn dX12_rule_42 rfl rfl ⟨rfl, rfl⟩ ly.1 ?_
        exact ret_I hf srh18
set_option maxRecDepth 100000 in
theorem th_X12_isCitizen {h : HP} (ly : Lay h) {a1 : Int32} {rr : Int32} {hh : HP} (hf : f_X12_isCitizen h a1 = some (rr, hh)) : Spec yX12_isCitizen cX12_isCitizen miX12_isCitizen [.ref 113, .int a1] h (pI fun r' h' => (r' = rr ∧ h' = hh) ∧ SR h hh) := by
  refine Spec.of (ls0 := [.ref 113, .int a1]) mo_X12_isCitizen (Nat.le_of_ble_eq_true rfl) rfl ?_
  rw [ly.1]
  have srh : SR h h := SR.refl h
  unfold f_X12_isCitizen at hf
  refine V.iload_n dX12_isCitizen_0 rfl rfl ?_
  refine V.if_lt (tgt := 19) dX12_isCitizen_1 (by decide) (fun c1 => ?_) (fun c1 => ?_)
  · replace hf := ite_p hf c1
    refine V.iconst (v := 0) dX12_isCitizen_19 rfl ?_
    refine V.ireturn dX12_isCitizen_20 rfl rfl ⟨rfl, rfl⟩ ly.1 ?_
    exact ret_I hf srh
  · replace hf := ite_n hf c1
    refine V.iload_n dX12_isCitizen_4 rfl rfl ?_
    refine V.aload_n dX12_isCitizen_5 rfl rfl rfl ?_
    refine V.getR (r := 114) dX12_isCitizen_6 fl_X12_7 rfl (Or.inl ⟨rfl, SHL_lt rfl⟩) rfl (ly_113_0 (srh.ly ly)) ?_
    refine V.bipush (v := 6) dX12_isCitizen_9 rfl ?_
    refine V.iaload dX12_isCitizen_11 rfl (Or.inl ⟨rfl, SHL_lt rfl⟩) (vp_lit (by decide)) ?_
    rw [show Int32.toNatClampNeg 6 = 6 from rfl]
    refine V.icmp_ge (tgt := 19) dX12_isCitizen_12 (by decide) (fun c2 => ?_) (fun c2 => ?_)
    · replace hf := ite_p hf c2
      refine V.iconst (v := 0) dX12_isCitizen_19 rfl ?_
      refine V.ireturn dX12_isCitizen_20 rfl rfl ⟨rfl, rfl⟩ ly.1 ?_
      exact ret_I hf srh
    · replace hf := ite_n hf c2
      refine V.iconst (v := 1) dX12_isCitizen_15 rfl ?_
      refine V.goto (tgt := 20) dX12_isCitizen_16 (by decide) ?_
      refine V.ireturn dX12_isCitizen_20 rfl rfl ⟨rfl, rfl⟩ ly.1 ?_
      exact ret_I hf srh
set_option maxRecDepth 100000 in
theorem th_X12_citizen {h : HP} (ly : Lay h) {a1 : Int32} {a2 : Int32} {rr : Int32} {hh : HP} (hf : f_X12_citizen h a1 a2 = some (rr, hh)) : Spec yX12_citizen cX12_citizen miX12_citizen [.ref 113, .int a1, .int a2] h (pI fun r' h' => (r' = rr ∧ h' = hh) ∧ SR h hh) := by
  refine Spec.of (ls0 := [.ref 113, .int a1, .int a2]) mo_X12_citizen (Nat.le_of_ble_eq_true rfl) rfl ?_
  rw [ly.1]
  have srh : SR h h := SR.refl h
  unfold f_X12_citizen at hf
  refine V.aload_n dX12_citizen_0 rfl rfl rfl ?_
  refine V.iload_n dX12_citizen_1 rfl rfl ?_
  obtain ⟨r3, h2, q1, hf2⟩ := bd2_el hf
  replace hf := hf2
  clear hf2
  refine V.callVI dX12_citizen_2 ml_X12_287 mo_X12_isCitizen mv_X12_isCitizen rfl (fun q hq => by cases hq; rfl) (by decide) (Or.inl ⟨rfl, SHL_lt rfl⟩) (th_X12_isCitizen (srh.ly ly) q1) rfl rfl ⟨Nat.le_of_ble_eq_true rfl, Nat.le_of_ble_eq_true rfl, fun _ => ⟨rfl, rfl⟩⟩ (Nat.le_of_ble_eq_true rfl) rfl (post_I (fun sq => ?_))
  have srh2 : SR h h2 := srh.trans sq
  clear sq q1
  refine V.if_eq (tgt := 37) dX12_citizen_5 (by decide) (fun c4 => ?_) (fun c4 => ?_)
  · replace hf := ite_p hf c4
    refine V.aload_n dX12_citizen_37 rfl rfl rfl ?_
    refine V.iconst (v := 1) dX12_citizen_38 rfl ?_
    obtain ⟨r7, h6, q5, hf2⟩ := bd2_el hf
    replace hf := hf2
    clear hf2
    refine V.callVI dX12_citizen_39 ml_X12_81 mo_X12_refuse mv_X12_refuse rfl (fun q hq => by cases hq; rfl) (by decide) (Or.inl ⟨rfl, SHL_lt rfl⟩) (th_X12_refuse (srh2.ly ly) q5) rfl rfl ⟨Nat.le_of_ble_eq_true rfl, Nat.le_of_ble_eq_true rfl, fun _ => ⟨rfl, rfl⟩⟩ (Nat.le_of_ble_eq_true rfl) rfl (post_I (fun sq => ?_))
    have srh6 : SR h h6 := srh2.trans sq
    clear sq q5
    refine V.ireturn dX12_citizen_42 rfl rfl ⟨rfl, rfl⟩ ly.1 ?_
    exact ret_I hf srh6
  · replace hf := ite_n hf c4
    refine V.iload_n dX12_citizen_8 rfl rfl ?_
    refine V.if_lt (tgt := 37) dX12_citizen_9 (by decide) (fun c8 => ?_) (fun c8 => ?_)
    · replace hf := ite_p hf c8
      refine V.aload_n dX12_citizen_37 rfl rfl rfl ?_
      refine V.iconst (v := 1) dX12_citizen_38 rfl ?_
      obtain ⟨r11, h10, q9, hf2⟩ := bd2_el hf
      replace hf := hf2
      clear hf2
      refine V.callVI dX12_citizen_39 ml_X12_81 mo_X12_refuse mv_X12_refuse rfl (fun q hq => by cases hq; rfl) (by decide) (Or.inl ⟨rfl, SHL_lt rfl⟩) (th_X12_refuse (srh2.ly ly) q9) rfl rfl ⟨Nat.le_of_ble_eq_true rfl, Nat.le_of_ble_eq_true rfl, fun _ => ⟨rfl, rfl⟩⟩ (Nat.le_of_ble_eq_true rfl) rfl (post_I (fun sq => ?_))
      have srh10 : SR h h10 := srh2.trans sq
      clear sq q9
      refine V.ireturn dX12_citizen_42 rfl rfl ⟨rfl, rfl⟩ ly.1 ?_
      exact ret_I hf srh10
    · replace hf := ite_n hf c8
      refine V.iload_n dX12_citizen_12 rfl rfl ?_
      refine V.iconst (v := 1) dX12_citizen_13 rfl ?_
      refine V.icmp_gt (tgt := 37) dX12_citizen_14 (by decide) (fun c12 => ?_) (fun c12 => ?_)
      · replace hf := ite_p hf c12
        refine V.aload_n dX12_citizen_37 rfl rfl rfl ?_
        refine V.iconst (v := 1) dX12_citizen_38 rfl ?_
        obtain ⟨r15, h14, q13, hf2⟩ := bd2_el hf
        replace hf := hf2
        clear hf2
        refine V.callVI dX12_citizen_39 ml_X12_81 mo_X12_refuse mv_X12_refuse rfl (fun q hq => by cases hq; rfl) (by decide) (Or.inl ⟨rfl, SHL_lt rfl⟩) (th_X12_refuse (srh2.ly ly) q13) rfl rfl ⟨Nat.le_of_ble_eq_true rfl, Nat.le_of_ble_eq_true rfl, fun _ => ⟨rfl, rfl⟩⟩ (Nat.le_of_ble_eq_true rfl) rfl (post_I (fun sq => ?_))
        have srh14 : SR h h14 := srh2.trans sq
        clear sq q13
        refine V.ireturn dX12_citizen_42 rfl rfl ⟨rfl, rfl⟩ ly.1 ?_
        exact ret_I hf srh14
      · replace hf := ite_n hf c12
        refine V.aload_n dX12_citizen_17 rfl rfl rfl ?_
        refine V.aload_n dX12_citizen_18 rfl rfl rfl ?_
        refine V.getR (r := 114) dX12_citizen_19 fl_X12_7 rfl (Or.inl ⟨rfl, SHL_lt rfl⟩) rfl (ly_113_0 (srh2.ly ly)) ?_
        refine V.bipush (v := 20) dX12_citizen_22 rfl ?_
        refine V.iconst (v := 2) dX12_citizen_24 rfl ?_
        refine V.iload_n dX12_citizen_25 rfl rfl ?_
        refine V.imul dX12_citizen_26 ?_
        refine V.iadd dX12_citizen_27 ?_
        refine V.iload_n dX12_citizen_28 rfl rfl ?_
        refine V.iadd dX12_citizen_29 ?_
        obtain ⟨b16, hf2⟩ := gdi_el hf
        replace hf := hf2
        clear hf2
        refine V.iaload dX12_citizen_30 rfl (Or.inl ⟨rfl, SHL_lt rfl⟩) b16 ?_
        obtain ⟨r19, h18, q17, hf2⟩ := bd2_el hf
        replace hf := hf2
        clear hf2
        refine V.callVI dX12_citizen_31 ml_X12_85 mo_X12_gives mv_X12_gives rfl (fun q hq => by cases hq; rfl) (by decide) (Or.inl ⟨rfl, SHL_lt rfl⟩) (th_X12_gives (srh2.ly ly) q17) rfl rfl ⟨Nat.le_of_ble_eq_true rfl, Nat.le_of_ble_eq_true rfl, fun _ => ⟨rfl, rfl⟩⟩ (Nat.le_of_ble_eq_true rfl) rfl (post_I (fun sq => ?_))
        have srh18 : SR h h18 := srh2.trans sq
        clear sq q17
        refine V.goto (tgt := 42) dX12_citizen_34 (by decide) ?_
        refine V.ireturn dX12_citizen_42 rfl rfl ⟨rfl, rfl⟩ ly.1 ?_
        exact ret_I hf srh18
set_option maxRecDepth 100000 in
theorem th_X12_turn {h : HP} (ly : Lay h) {a1 : Int32} {a2 : Int32} {rr : Int32} {hh : HP} (hf : f_X12_turn h a1 a2 = some (rr, hh)) : Spec yX12_turn cX12_turn miX12_turn [.ref 113, .int a1, .int a2] h (pI fun r' h' => (r' = rr ∧ h' = hh) ∧ SR h hh) := by
  refine Spec.of (ls0 := [.ref 113, .int a1, .int a2, .null]) mo_X12_turn (Nat.le_of_ble_eq_true rfl) rfl ?_
  rw [ly.1]
  have srh : SR h h := SR.refl h
  unfold f_X12_turn at hf
  refine V.aload_n dX12_turn_0 rfl rfl rfl ?_
  refine V.iload_n dX12_turn_1 rfl rfl ?_
  refine V.iload_n dX12_turn_2 rfl rfl ?_
  obtain ⟨r3, h2, q1, hf2⟩ := bd2_el hf
  replace hf := hf2
  clear hf2
  refine V.callVI dX12_turn_3 ml_X12_290 mo_X12_wrongLamp mv_X12_wrongLamp rfl (fun q hq => by cases hq; rfl) (by decide) (Or.inl ⟨rfl, SHL_lt rfl⟩) (th_X12_wrongLamp (srh.ly ly) q1) rfl rfl ⟨Nat.le_of_ble_eq_true rfl, Nat.le_of_ble_eq_true rfl, fun _ => ⟨rfl, rfl⟩⟩ (Nat.le_of_ble_eq_true rfl) rfl (post_I (fun sq => ?_))
  have srh2 : SR h h2 := srh.trans sq
  clear sq q1
  refine V.istore_n (ls' := [.ref 113, .int a1, .int a2, .int r3]) dX12_turn_6 rfl (by decide) rfl ?_
  refine V.iload_n dX12_turn_7 rfl rfl ?_
  refine V.if_le (tgt := 17) dX12_turn_8 (by decide) (fun c4 => ?_) (fun c4 => ?_)
  · replace hf := ite_p hf c4
    refine V.aload_n dX12_turn_17 rfl rfl rfl ?_
    refine V.getR (r := 114) dX12_turn_18 fl_X12_7 rfl (Or.inl ⟨rfl, SHL_lt rfl⟩) rfl (ly_113_0 (srh2.ly ly)) ?_
    refine V.iconst (v := 3) dX12_turn_21 rfl ?_
    refine V.dup2 dX12_turn_22 rfl rfl ?_
    refine V.iaload dX12_turn_23 rfl (Or.inl ⟨rfl, SHL_lt rfl⟩) (vp_lit (by decide)) ?_
    rw [show Int32.toNatClampNeg 3 = 3 from rfl]
    refine V.aload_n dX12_turn_24 rfl rfl rfl ?_
    refine V.iload_n dX12_turn_25 rfl rfl ?_
    refine V.iload_n dX12_turn_26 rfl rfl ?_
    obtain ⟨r7, h6, q5, hf2⟩ := bd2_el hf
    replace hf := hf2
    clear hf2
    refine V.callVI dX12_turn_27 ml_X12_256 mo_X12_bitOf mv_X12_bitOf rfl (fun q hq => by cases hq; rfl) (by decide) (Or.inl ⟨rfl, SHL_lt rfl⟩) (th_X12_bitOf (srh2.ly ly) q5) rfl rfl ⟨Nat.le_of_ble_eq_true rfl, Nat.le_of_ble_eq_true rfl, fun _ => ⟨rfl, rfl⟩⟩ (Nat.le_of_ble_eq_true rfl) rfl (post_I (fun sq => ?_))
    have srh6 : SR h h6 := srh2.trans sq
    clear sq q5
    refine V.ixor dX12_turn_30 ?_
    refine V.iastore dX12_turn_31 rfl (Or.inl ⟨rfl, SHL_lt rfl⟩) (vp_lit (by decide)) ?_
    rw [show Int32.toNatClampNeg 3 = 3 from rfl]
    refine V.nameH (fun g8 eg8 => ?_)
    replace hf := lt_el hf g8 eg8
    have srg8 : SR h g8 := by rw [eg8]; exact srh6.I _ _ _
    refine V.aload_n dX12_turn_32 rfl rfl rfl ?_
    refine V.aload_n dX12_turn_33 rfl rfl rfl ?_
    refine V.getR (r := 114) dX12_turn_34 fl_X12_7 rfl (Or.inl ⟨rfl, SHL_lt rfl⟩) rfl (ly_113_0 (srg8.ly ly)) ?_
    refine V.iconst (v := 3) dX12_turn_37 rfl ?_
    refine V.iaload dX12_turn_38 rfl (Or.inl ⟨rfl, SHL_lt rfl⟩) (vp_lit (by decide)) ?_
    rw [show Int32.toNatClampNeg 3 = 3 from rfl]
    refine V.aload_n dX12_turn_39 rfl rfl rfl ?_
    refine V.iload_n dX12_turn_40 rfl rfl ?_
    refine V.iload_n dX12_turn_41 rfl rfl ?_
    obtain ⟨r11, h10, q9, hf2⟩ := bd2_el hf
    replace hf := hf2
    clear hf2
    refine V.callVI dX12_turn_42 ml_X12_256 mo_X12_bitOf mv_X12_bitOf rfl (fun q hq => by cases hq; rfl) (by decide) (Or.inl ⟨rfl, SHL_lt rfl⟩) (th_X12_bitOf (srg8.ly ly) q9) rfl rfl ⟨Nat.le_of_ble_eq_true rfl, Nat.le_of_ble_eq_true rfl, fun _ => ⟨rfl, rfl⟩⟩ (Nat.le_of_ble_eq_true rfl) rfl (post_I (fun sq => ?_))
    have srh10 : SR h h10 := srg8.trans sq
    clear sq q9
    refine V.iand dX12_turn_45 ?_
    refine V.if_ne (tgt := 53) dX12_turn_46 (by decide) (fun c12 => ?_) (fun c12 => ?_)
    · replace hf := ite_n hf c12
      refine V.iconst (v := 1) dX12_turn_53 rfl ?_
      obtain ⟨r15, h14, q13, hf2⟩ := bd2_el hf
      replace hf := hf2
      clear hf2
      refine V.callVI dX12_turn_54 ml_X12_85 mo_X12_gives mv_X12_gives rfl (fun q hq => by cases hq; rfl) (by decide) (Or.inl ⟨rfl, SHL_lt rfl⟩) (th_X12_gives (srh10.ly ly) q13) rfl rfl ⟨Nat.le_of_ble_eq_true rfl, Nat.le_of_ble_eq_true rfl, fun _ => ⟨rfl, rfl⟩⟩ (Nat.le_of_ble_eq_true rfl) rfl (post_I (fun sq => ?_))
      have srh14 : SR h h14 := srh10.trans sq
      clear sq q13
      refine V.ireturn dX12_turn_57 rfl rfl ⟨rfl, rfl⟩ ly.1 ?_
      exact ret_I hf srh14
    · replace hf := ite_p hf c12
      refine V.iconst (v := 0) dX12_turn_49 rfl ?_
      refine V.goto (tgt := 54) dX12_turn_50 (by decide) ?_
      obtain ⟨r18, h17, q16, hf2⟩ := bd2_el hf
      replace hf := hf2
      clear hf2
      refine V.callVI dX12_turn_54 ml_X12_85 mo_X12_gives mv_X12_gives rfl (fun q hq => by cases hq; rfl) (by decide) (Or.inl ⟨rfl, SHL_lt rfl⟩) (th_X12_gives (srh10.ly ly) q16) rfl rfl ⟨Nat.le_of_ble_eq_true rfl, Nat.le_of_ble_eq_true rfl, fun _ => ⟨rfl, rfl⟩⟩ (Nat.le_of_ble_eq_true rfl) rfl (post_I (fun sq => ?_))
      have srh17 : SR h h17 := srh10.trans sq
      clear sq q16
      refine V.ireturn dX12_turn_57 rfl rfl ⟨rfl, rfl⟩ ly.1 ?_
      exact ret_I hf srh17
  · replace hf := ite_n hf c4
    refine V.aload_n dX12_turn_11 rfl rfl rfl ?_
    refine V.iload_n dX12_turn_12 rfl rfl ?_
    obtain ⟨r21, h20, q19, hf2⟩ := bd2_el hf
    replace hf := hf2
    clear hf2
    refine V.callVI dX12_turn_13 ml_X12_81 mo_X12_refuse mv_X12_refuse rfl (fun q hq => by cases hq; rfl) (by decide) (Or.inl ⟨rfl, SHL_lt rfl⟩) (th_X12_refuse (srh2.ly ly) q19) rfl rfl ⟨Nat.le_of_ble_eq_true rfl, Nat.le_of_ble_eq_true rfl, fun _ => ⟨rfl, rfl⟩⟩ (Nat.le_of_ble_eq_true rfl) rfl (post_I (fun sq => ?_))
    have srh20 : SR h h20 := srh2.trans sq
    clear sq q19
    refine V.ireturn dX12_turn_16 rfl rfl ⟨rfl, rfl⟩ ly.1 ?_
    exact ret_I hf srh20
set_option maxRecDepth 100000 in
theorem th_X12_paints {h : HP} (ly : Lay h) {a1 : Int32} {rr : Int32} {hh : HP} (hf : f_X12_paints h a1 = some (rr, hh)) : Spec yX12_paints cX12_paints miX12_paints [.ref 113, .int a1] h (pI fun r' h' => (r' = rr ∧ h' = hh) ∧ SR h hh) := by
  refine Spec.of (ls0 := [.ref 113, .int a1]) mo_X12_paints (Nat.le_of_ble_eq_true rfl) rfl ?_
  rw [ly.1]
  have srh : SR h h := SR.refl h
  unfold f_X12_paints at hf
  refine V.aload_n dX12_paints_0 rfl rfl rfl ?_
  refine V.getR (r := 114) dX12_paints_1 fl_X12_7 rfl (Or.inl ⟨rfl, SHL_lt rfl⟩) rfl (ly_113_0 (srh.ly ly)) ?_
  refine V.iconst (v := 3) dX12_paints_4 rfl ?_
  refine V.aload_n dX12_paints_5 rfl rfl rfl ?_
  refine V.getR (r := 114) dX12_paints_6 fl_X12_7 rfl (Or.inl ⟨rfl, SHL_lt rfl⟩) rfl (ly_113_0 (srh.ly ly)) ?_
  refine V.iconst (v := 3) dX12_paints_9 rfl ?_
  refine V.iaload dX12_paints_10 rfl (Or.inl ⟨rfl, SHL_lt rfl⟩) (vp_lit (by decide)) ?_
  rw [show Int32.toNatClampNeg 3 = 3 from rfl]
  refine V.aload_n dX12_paints_11 rfl rfl rfl ?_
  refine V.getR (r := 114) dX12_paints_12 fl_X12_7 rfl (Or.inl ⟨rfl, SHL_lt rfl⟩) rfl (ly_113_0 (srh.ly ly)) ?_
  refine V.iconst (v := 4) dX12_paints_15 rfl ?_
  refine V.iaload dX12_paints_16 rfl (Or.inl ⟨rfl, SHL_lt rfl⟩) (vp_lit (by decide)) ?_
  rw [show Int32.toNatClampNeg 4 = 4 from rfl]
  refine V.iand dX12_paints_17 ?_
  refine V.iload_n dX12_paints_18 rfl rfl ?_
  refine V.aload_n dX12_paints_19 rfl rfl rfl ?_
  obtain ⟨r3, h2, q1, hf2⟩ := bd2_el hf
  replace hf := hf2
  clear hf2
  refine V.callVI dX12_paints_20 ml_X12_268 mo_X12_free mv_X12_free rfl (fun q hq => by cases hq; rfl) (by decide) (Or.inl ⟨rfl, SHL_lt rfl⟩) (th_X12_free (srh.ly ly) q1) rfl rfl ⟨Nat.le_of_ble_eq_true rfl, Nat.le_of_ble_eq_true rfl, fun _ => ⟨rfl, rfl⟩⟩ (Nat.le_of_ble_eq_true rfl) rfl (post_I (fun sq => ?_))
  have srh2 : SR h h2 := srh.trans sq
  clear sq q1
  refine V.iand dX12_paints_23 ?_
  refine V.ior dX12_paints_24 ?_
  refine V.iastore dX12_paints_25 rfl (Or.inl ⟨rfl, SHL_lt rfl⟩) (vp_lit (by decide)) ?_
  rw [show Int32.toNatClampNeg 3 = 3 from rfl]
  refine V.nameH (fun g4 eg4 => ?_)
  replace hf := lt_el hf g4 eg4
  have srg4 : SR h g4 := by rw [eg4]; exact srh2.I _ _ _
  refine V.aload_n dX12_paints_26 rfl rfl rfl ?_
  refine V.getR (r := 114) dX12_paints_27 fl_X12_7 rfl (Or.inl ⟨rfl, SHL_lt rfl⟩) rfl (ly_113_0 (srg4.ly ly)) ?_
  refine V.iconst (v := 3) dX12_paints_30 rfl ?_
  refine V.iaload dX12_paints_31 rfl (Or.inl ⟨rfl, SHL_lt rfl⟩) (vp_lit (by decide)) ?_
  rw [show Int32.toNatClampNeg 3 = 3 from rfl]
  obtain ⟨r7, h6, q5, hf2⟩ := bd2_el hf
  replace hf := hf2
  clear hf2
  refine V.callSI dX12_paints_32 ml_X12_226 mo_X12_bits ms_X12_bits (th_X12_bits (srg4.ly ly) q5) rfl rfl ⟨Nat.le_of_ble_eq_true rfl, Nat.le_of_ble_eq_true rfl, fun _ => ⟨rfl, rfl⟩⟩ (Nat.le_of_ble_eq_true rfl) rfl (post_I (fun sq => ?_))
  have srh6 : SR h h6 := srg4.trans sq
  clear sq q5
  refine V.ireturn dX12_paints_35 rfl rfl ⟨rfl, rfl⟩ ly.1 ?_
  exact ret_I hf srh6
set_option maxRecDepth 100000 in
theorem th_X12_paint {h : HP} (ly : Lay h) {a1 : Int64} {rr : Int32} {hh : HP} (hf : f_X12_paint h a1 = some (rr, hh)) : Spec yX12_paint cX12_paint miX12_paint [.ref 113, .long a1] h (pI fun r' h' => (r' = rr ∧ h' = hh) ∧ SR h hh) := by
  refine Spec.of (ls0 := [.ref 113, .long a1, .null]) mo_X12_paint (Nat.le_of_ble_eq_true rfl) rfl ?_
  rw [ly.1]
  have srh : SR h h := SR.refl h
  unfold f_X12_paint at hf
  refine V.lload_n dX12_paint_0 rfl rfl ?_
  refine V.lconst (v := 0) dX12_paint_1 rfl ?_
  refine V.ldc2 (v := 1073741823) dX12_paint_2 kc_X12_293 ?_
  obtain ⟨r3, h2, q1, hf2⟩ := bd2_el hf
  replace hf := hf2
  clear hf2
  refine V.callSI dX12_paint_5 ml_X12_295 mo_X12_isFrom ms_X12_isFrom (th_X12_isFrom (srh.ly ly) q1) rfl rfl ⟨Nat.le_of_ble_eq_true rfl, Nat.le_of_ble_eq_true rfl, fun _ => ⟨rfl, rfl⟩⟩ (Nat.le_of_ble_eq_true rfl) rfl (post_I (fun sq => ?_))
  have srh2 : SR h h2 := srh.trans sq
  clear sq q1
  refine V.if_eq (tgt := 24) dX12_paint_8 (by decide) (fun c4 => ?_) (fun c4 => ?_)
  · replace hf := ite_p hf c4
    refine V.aload_n dX12_paint_24 rfl rfl rfl ?_
    refine V.iconst (v := 1) dX12_paint_25 rfl ?_
    obtain ⟨r7, h6, q5, hf2⟩ := bd2_el hf
    replace hf := hf2
    clear hf2
    refine V.callVI dX12_paint_26 ml_X12_81 mo_X12_refuse mv_X12_refuse rfl (fun q hq => by cases hq; rfl) (by decide) (Or.inl ⟨rfl, SHL_lt rfl⟩) (th_X12_refuse (srh2.ly ly) q5) rfl rfl ⟨Nat.le_of_ble_eq_true rfl, Nat.le_of_ble_eq_true rfl, fun _ => ⟨rfl, rfl⟩⟩ (Nat.le_of_ble_eq_true rfl) rfl (post_I (fun sq => ?_))
    have srh6 : SR h h6 := srh2.trans sq
    clear sq q5
    refine V.ireturn dX12_paint_29 rfl rfl ⟨rfl, rfl⟩ ly.1 ?_
    exact ret_I hf srh6
  · replace hf := ite_n hf c4
    refine V.aload_n dX12_paint_11 rfl rfl rfl ?_
    refine V.aload_n dX12_paint_12 rfl rfl rfl ?_
    refine V.lload_n dX12_paint_13 rfl rfl ?_
    refine V.l2i dX12_paint_14 ?_
    obtain ⟨r10, h9, q8, hf2⟩ := bd2_el hf
    replace hf := hf2
    clear hf2
    refine V.callVI dX12_paint_15 ml_X12_299 mo_X12_paints mv_X12_paints rfl (fun q hq => by cases hq; rfl) (by decide) (Or.inl ⟨rfl, SHL_lt rfl⟩) (th_X12_paints (srh2.ly ly) q8) rfl rfl ⟨Nat.le_of_ble_eq_true rfl, Nat.le_of_ble_eq_true rfl, fun _ => ⟨rfl, rfl⟩⟩ (Nat.le_of_ble_eq_true rfl) rfl (post_I (fun sq => ?_))
    have srh9 : SR h h9 := srh2.trans sq
    clear sq q8
    obtain ⟨r13, h12, q11, hf2⟩ := bd2_el hf
    replace hf := hf2
    clear hf2
    refine V.callVI dX12_paint_18 ml_X12_85 mo_X12_gives mv_X12_gives rfl (fun q hq => by cases hq; rfl) (by decide) (Or.inl ⟨rfl, SHL_lt rfl⟩) (th_X12_gives (srh9.ly ly) q11) rfl rfl ⟨Nat.le_of_ble_eq_true rfl, Nat.le_of_ble_eq_true rfl, fun _ => ⟨rfl, rfl⟩⟩ (Nat.le_of_ble_eq_true rfl) rfl (post_I (fun sq => ?_))
    have srh12 : SR h h12 := srh9.trans sq
    clear sq q11
    refine V.goto (tgt := 29) dX12_paint_21 (by decide) ?_
    refine V.ireturn dX12_paint_29 rfl rfl ⟨rfl, rfl⟩ ly.1 ?_
    exact ret_I hf srh12
set_option maxRecDepth 100000 in
theorem th_X12_paintRows_54 {h0 : HP} (ly : Lay h0) {rr : Int32} {hh : HP}  : ∀ (n : Nat) (l1 : Int32) (l2 : Int32) (l3 : Int32) (h : HP), SR h0 h → f_X12_paintRows_54 n l1 l2 l3 h = some (rr, hh) → V cX12_paintRows miX12_paintRows (ZI h0 miX12_paintRows rr hh) 130 54 [.ref 113, .int l1, .int l2, .int l3] [] h := by
  intro n
  induction n with
  | zero => intro l1 l2 l3 h srh hf; exact absurd hf (by unfold f_X12_paintRows_54; simp)
  | succ n ih =>
    intro l1 l2 l3 h srh hf
    unfold f_X12_paintRows_54 at hf
    refine V.iload_n dX12_paintRows_54 rfl rfl ?_
    refine V.aload_n dX12_paintRows_55 rfl rfl rfl ?_
    refine V.getR (r := 114) dX12_paintRows_56 fl_X12_7 rfl (Or.inl ⟨rfl, SHL_lt rfl⟩) rfl (ly_113_0 (srh.ly ly)) ?_
    refine V.iconst (v := 1) dX12_paintRows_59 rfl ?_
    refine V.iaload dX12_paintRows_60 rfl (Or.inl ⟨rfl, SHL_lt rfl⟩) (vp_lit (by decide)) ?_
    rw [show Int32.toNatClampNeg 1 = 1 from rfl]
    refine V.icmp_ge (tgt := 132) dX12_paintRows_61 (by decide) (fun c18 => ?_) (fun c18 => ?_)
    · replace hf := ite_p hf c18
      refine V.aload_n dX12_paintRows_132 rfl rfl rfl ?_
      refine V.aload_n dX12_paintRows_133 rfl rfl rfl ?_
      refine V.iload_n dX12_paintRows_134 rfl rfl ?_
      obtain ⟨r21, h20, q19, hf2⟩ := bd2_el hf
      replace hf := hf2
      clear hf2
      refine V.callVI dX12_paintRows_135 ml_X12_299 mo_X12_paints mv_X12_paints rfl (fun q hq => by cases hq; rfl) (by decide) (Or.inl ⟨rfl, SHL_lt rfl⟩) (th_X12_paints (srh.ly ly) q19) rfl rfl ⟨Nat.le_of_ble_eq_true rfl, Nat.le_of_ble_eq_true rfl, fun _ => ⟨rfl, rfl⟩⟩ (Nat.le_of_ble_eq_true rfl) rfl (post_I (fun sq => ?_))
      have srh20 : SR h0 h20 := srh.trans sq
      clear sq q19
      obtain ⟨r24, h23, q22, hf2⟩ := bd2_el hf
      replace hf := hf2
      clear hf2
      refine V.callVI dX12_paintRows_138 ml_X12_85 mo_X12_gives mv_X12_gives rfl (fun q hq => by cases hq; rfl) (by decide) (Or.inl ⟨rfl, SHL_lt rfl⟩) (th_X12_gives (srh20.ly ly) q22) rfl rfl ⟨Nat.le_of_ble_eq_true rfl, Nat.le_of_ble_eq_true rfl, fun _ => ⟨rfl, rfl⟩⟩ (Nat.le_of_ble_eq_true rfl) rfl (post_I (fun sq => ?_))
      have srh23 : SR h0 h23 := srh20.trans sq
      clear sq q22
      refine V.ireturn dX12_paintRows_141 rfl rfl ⟨rfl, rfl⟩ ly.1 ?_
      exact ret_I hf srh23
    · replace hf := ite_n hf c18
      refine V.aload_n dX12_paintRows_64 rfl rfl rfl ?_
      refine V.getR (r := 118) dX12_paintRows_65 fl_X12_27 rfl (Or.inl ⟨rfl, SHL_lt rfl⟩) rfl (ly_113_7 (srh.ly ly)) ?_
      refine V.bipush (v := 60) dX12_paintRows_68 rfl ?_
      refine V.iload_n dX12_paintRows_70 rfl rfl ?_
      refine V.imul dX12_paintRows_71 ?_
      refine V.iload_n dX12_paintRows_72 rfl rfl ?_
      refine V.iadd dX12_paintRows_73 ?_
      obtain ⟨b25, hf2⟩ := gdi_el hf
      replace hf := hf2
      clear hf2
      refine V.laload dX12_paintRows_74 rfl (Or.inl ⟨rfl, SHL_lt rfl⟩) b25 ?_
      refine V.lconst (v := 0) dX12_paintRows_75 rfl ?_
      refine V.ldc2 (v := 31) dX12_paintRows_76 kc_X12_302 ?_
      obtain ⟨r28, h27, q26, hf2⟩ := bd2_el hf
      replace hf := hf2
      clear hf2
      refine V.callSI dX12_paintRows_79 ml_X12_295 mo_X12_isFrom ms_X12_isFrom (th_X12_isFrom (srh.ly ly) q26) rfl rfl ⟨Nat.le_of_ble_eq_true rfl, Nat.le_of_ble_eq_true rfl, fun _ => ⟨rfl, rfl⟩⟩ (Nat.le_of_ble_eq_true rfl) rfl (post_I (fun sq => ?_))
      have srh27 : SR h0 h27 := srh.trans sq
      clear sq q26
      refine V.if_ne (tgt := 91) dX12_paintRows_82 (by decide) (fun c29 => ?_) (fun c29 => ?_)
      · replace hf := ite_n hf c29
        refine V.iload_n dX12_paintRows_91 rfl rfl ?_
        refine V.aload_n dX12_paintRows_92 rfl rfl rfl ?_
        refine V.getR (r := 118) dX12_paintRows_93 fl_X12_27 rfl (Or.inl ⟨rfl, SHL_lt rfl⟩) rfl (ly_113_7 (srh27.ly ly)) ?_
        refine V.bipush (v := 60) dX12_paintRows_96 rfl ?_
        refine V.iload_n dX12_paintRows_98 rfl rfl ?_
        refine V.imul dX12_paintRows_99 ?_
        refine V.iload_n dX12_paintRows_100 rfl rfl ?_
        refine V.iadd dX12_paintRows_101 ?_
        obtain ⟨b30, hf2⟩ := gdi_el hf
        replace hf := hf2
        clear hf2
        refine V.laload dX12_paintRows_102 rfl (Or.inl ⟨rfl, SHL_lt rfl⟩) b30 ?_
        refine V.l2i dX12_paintRows_103 ?_
        refine V.iconst (v := 1) dX12_paintRows_104 rfl ?_
        refine V.aload_n dX12_paintRows_105 rfl rfl rfl ?_
        refine V.getR (r := 114) dX12_paintRows_106 fl_X12_7 rfl (Or.inl ⟨rfl, SHL_lt rfl⟩) rfl (ly_113_0 (srh27.ly ly)) ?_
        refine V.iconst (v := 0) dX12_paintRows_109 rfl ?_
        refine V.iaload dX12_paintRows_110 rfl (Or.inl ⟨rfl, SHL_lt rfl⟩) (vp_lit (by decide)) ?_
        rw [show Int32.toNatClampNeg 0 = 0 from rfl]
        refine V.ishl dX12_paintRows_111 ?_
        refine V.iconst (v := 1) dX12_paintRows_112 rfl ?_
        refine V.isub dX12_paintRows_113 ?_
        refine V.iand dX12_paintRows_114 ?_
        refine V.aload_n dX12_paintRows_115 rfl rfl rfl ?_
        refine V.getR (r := 114) dX12_paintRows_116 fl_X12_7 rfl (Or.inl ⟨rfl, SHL_lt rfl⟩) rfl (ly_113_0 (srh27.ly ly)) ?_
        refine V.iconst (v := 0) dX12_paintRows_119 rfl ?_
        refine V.iaload dX12_paintRows_120 rfl (Or.inl ⟨rfl, SHL_lt rfl⟩) (vp_lit (by decide)) ?_
        rw [show Int32.toNatClampNeg 0 = 0 from rfl]
        refine V.iload_n dX12_paintRows_121 rfl rfl ?_
        refine V.imul dX12_paintRows_122 ?_
        refine V.ishl dX12_paintRows_123 ?_
        refine V.ior dX12_paintRows_124 ?_
        refine V.nmi (fun x31 ex31 => ?_)
        replace hf := lt_el hf x31 ex31
        refine V.istore_n (ls' := [.ref 113, .int l1, .int x31, .int l3]) dX12_paintRows_125 rfl (by decide) rfl ?_
        obtain ⟨x32, ex32⟩ : ∃ y : Int32, y = l3 + 1 := ⟨_, rfl⟩
        replace hf := lt_el hf x32 ex32
        refine V.iinc (v := x32) (ls' := [.ref 113, .int l1, .int x31, .int x32]) dX12_paintRows_126 rfl (by decide) ex32.symm rfl ?_
        refine V.goto (tgt := 54) dX12_paintRows_129 (by decide) ?_
        exact ih l1 x31 x32 h27 srh27 hf
      · replace hf := ite_p hf c29
        refine V.aload_n dX12_paintRows_85 rfl rfl rfl ?_
        refine V.iconst (v := 5) dX12_paintRows_86 rfl ?_
        obtain ⟨r35, h34, q33, hf2⟩ := bd2_el hf
        replace hf := hf2
        clear hf2
        refine V.callVI dX12_paintRows_87 ml_X12_81 mo_X12_refuse mv_X12_refuse rfl (fun q hq => by cases hq; rfl) (by decide) (Or.inl ⟨rfl, SHL_lt rfl⟩) (th_X12_refuse (srh27.ly ly) q33) rfl rfl ⟨Nat.le_of_ble_eq_true rfl, Nat.le_of_ble_eq_true rfl, fun _ => ⟨rfl, rfl⟩⟩ (Nat.le_of_ble_eq_true rfl) rfl (post_I (fun sq => ?_))
        have srh34 : SR h0 h34 := srh27.trans sq
        clear sq q33
        refine V.ireturn dX12_paintRows_90 rfl rfl ⟨rfl, rfl⟩ ly.1 ?_
        exact ret_I hf srh34
set_option maxRecDepth 100000 in
theorem th_X12_paintRows {h : HP} (ly : Lay h) {a1 : Int32} {rr : Int32} {hh : HP} (hf : f_X12_paintRows h a1 = some (rr, hh)) : Spec yX12_paintRows cX12_paintRows miX12_paintRows [.ref 113, .int a1] h (pI fun r' h' => (r' = rr ∧ h' = hh) ∧ SR h hh) := by
  refine Spec.of (ls0 := [.ref 113, .int a1, .null, .null]) mo_X12_paintRows (Nat.le_of_ble_eq_true rfl) rfl ?_
  rw [ly.1]
  have srh : SR h h := SR.refl h
  unfold f_X12_paintRows at hf
  refine V.iload_n dX12_paintRows_0 rfl rfl ?_
  obtain ⟨r3, h2, q1, hf2⟩ := bd2_el hf
  replace hf := hf2
  clear hf2
  refine V.callSI dX12_paintRows_1 ml_X12_92 mo_X12_isTray ms_X12_isTray (th_X12_isTray (srh.ly ly) q1) rfl rfl ⟨Nat.le_of_ble_eq_true rfl, Nat.le_of_ble_eq_true rfl, fun _ => ⟨rfl, rfl⟩⟩ (Nat.le_of_ble_eq_true rfl) rfl (post_I (fun sq => ?_))
  have srh2 : SR h h2 := srh.trans sq
  clear sq q1
  refine V.if_ne (tgt := 13) dX12_paintRows_4 (by decide) (fun c4 => ?_) (fun c4 => ?_)
  · replace hf := ite_n hf c4
    refine V.aload_n dX12_paintRows_13 rfl rfl rfl ?_
    refine V.getR (r := 117) dX12_paintRows_14 fl_X12_24 rfl (Or.inl ⟨rfl, SHL_lt rfl⟩) rfl (ly_113_6 (srh2.ly ly)) ?_
    refine V.iload_n dX12_paintRows_17 rfl rfl ?_
    obtain ⟨b5, hf2⟩ := gdi_el hf
    replace hf := hf2
    clear hf2
    refine V.iaload dX12_paintRows_18 rfl (Or.inl ⟨rfl, SHL_lt rfl⟩) b5 ?_
    refine V.iconst (v := (-1)) dX12_paintRows_19 rfl ?_
    refine V.icmp_ne (tgt := 29) dX12_paintRows_20 (by decide) (fun c6 => ?_) (fun c6 => ?_)
    · replace hf := ite_n hf c6
      refine V.aload_n dX12_paintRows_29 rfl rfl rfl ?_
      refine V.getR (r := 117) dX12_paintRows_30 fl_X12_24 rfl (Or.inl ⟨rfl, SHL_lt rfl⟩) rfl (ly_113_6 (srh2.ly ly)) ?_
      refine V.iload_n dX12_paintRows_33 rfl rfl ?_
      obtain ⟨b7, hf2⟩ := gdi_el hf
      replace hf := hf2
      clear hf2
      refine V.iaload dX12_paintRows_34 rfl (Or.inl ⟨rfl, SHL_lt rfl⟩) b7 ?_
      refine V.aload_n dX12_paintRows_35 rfl rfl rfl ?_
      refine V.getR (r := 114) dX12_paintRows_36 fl_X12_7 rfl (Or.inl ⟨rfl, SHL_lt rfl⟩) rfl (ly_113_0 (srh2.ly ly)) ?_
      refine V.iconst (v := 1) dX12_paintRows_39 rfl ?_
      refine V.iaload dX12_paintRows_40 rfl (Or.inl ⟨rfl, SHL_lt rfl⟩) (vp_lit (by decide)) ?_
      rw [show Int32.toNatClampNeg 1 = 1 from rfl]
      refine V.icmp_ge (tgt := 50) dX12_paintRows_41 (by decide) (fun c8 => ?_) (fun c8 => ?_)
      · replace hf := ite_p hf c8
        refine V.iconst (v := 0) dX12_paintRows_50 rfl ?_
        refine V.istore_n (ls' := [.ref 113, .int a1, .int 0, .null]) dX12_paintRows_51 rfl (by decide) rfl ?_
        refine V.iconst (v := 0) dX12_paintRows_52 rfl ?_
        refine V.istore_n (ls' := [.ref 113, .int a1, .int 0, .int 0]) dX12_paintRows_53 rfl (by decide) rfl ?_
        exact th_X12_paintRows_54 ly FU a1 0 0 h2 srh2 hf
      · replace hf := ite_n hf c8
        refine V.aload_n dX12_paintRows_44 rfl rfl rfl ?_
        refine V.iconst (v := 3) dX12_paintRows_45 rfl ?_
        obtain ⟨r11, h10, q9, hf2⟩ := bd2_el hf
        replace hf := hf2
        clear hf2
        refine V.callVI dX12_paintRows_46 ml_X12_81 mo_X12_refuse mv_X12_refuse rfl (fun q hq => by cases hq; rfl) (by decide) (Or.inl ⟨rfl, SHL_lt rfl⟩) (th_X12_refuse (srh2.ly ly) q9) rfl rfl ⟨Nat.le_of_ble_eq_true rfl, Nat.le_of_ble_eq_true rfl, fun _ => ⟨rfl, rfl⟩⟩ (Nat.le_of_ble_eq_true rfl) rfl (post_I (fun sq => ?_))
        have srh10 : SR h h10 := srh2.trans sq
        clear sq q9
        refine V.ireturn dX12_paintRows_49 rfl rfl ⟨rfl, rfl⟩ ly.1 ?_
        exact ret_I hf srh10
    · replace hf := ite_p hf c6
      refine V.aload_n dX12_paintRows_23 rfl rfl rfl ?_
      refine V.iconst (v := 2) dX12_paintRows_24 rfl ?_
      obtain ⟨r14, h13, q12, hf2⟩ := bd2_el hf
      replace hf := hf2
      clear hf2
      refine V.callVI dX12_paintRows_25 ml_X12_81 mo_X12_refuse mv_X12_refuse rfl (fun q hq => by cases hq; rfl) (by decide) (Or.inl ⟨rfl, SHL_lt rfl⟩) (th_X12_refuse (srh2.ly ly) q12) rfl rfl ⟨Nat.le_of_ble_eq_true rfl, Nat.le_of_ble_eq_true rfl, fun _ => ⟨rfl, rfl⟩⟩ (Nat.le_of_ble_eq_true rfl) rfl (post_I (fun sq => ?_))
      have srh13 : SR h h13 := srh2.trans sq
      clear sq q12
      refine V.ireturn dX12_paintRows_28 rfl rfl ⟨rfl, rfl⟩ ly.1 ?_
      exact ret_I hf srh13
  · replace hf := ite_p hf c4
    refine V.aload_n dX12_paintRows_7 rfl rfl rfl ?_
    refine V.iconst (v := 1) dX12_paintRows_8 rfl ?_
    obtain ⟨r17, h16, q15, hf2⟩ := bd2_el hf
    replace hf := hf2
    clear hf2
    refine V.callVI dX12_paintRows_9 ml_X12_81 mo_X12_refuse mv_X12_refuse rfl (fun q hq => by cases hq; rfl) (by decide) (Or.inl ⟨rfl, SHL_lt rfl⟩) (th_X12_refuse (srh2.ly ly) q15) rfl rfl ⟨Nat.le_of_ble_eq_true rfl, Nat.le_of_ble_eq_true rfl, fun _ => ⟨rfl, rfl⟩⟩ (Nat.le_of_ble_eq_true rfl) rfl (post_I (fun sq => ?_))
    have srh16 : SR h h16 := srh2.trans sq
    clear sq q15
    refine V.ireturn dX12_paintRows_12 rfl rfl ⟨rfl, rfl⟩ ly.1 ?_
    exact ret_I hf srh16
set_option maxRecDepth 100000 in
theorem th_X12_rowOf {h : HP} (ly : Lay h) {a1 : Int32} {a2 : Int32} {rr : Int32} {hh : HP} (hf : f_X12_rowOf h a1 a2 = some (rr, hh)) : Spec yX12_rowOf cX12_rowOf miX12_rowOf [.ref 113, .int a1, .int a2] h (pI fun r' h' => (r' = rr ∧ h' = hh) ∧ SR h hh) := by
  refine Spec.of (ls0 := [.ref 113, .int a1, .int a2]) mo_X12_rowOf (Nat.le_of_ble_eq_true rfl) rfl ?_
  rw [ly.1]
  have srh : SR h h := SR.refl h
  unfold f_X12_rowOf at hf
  refine V.iload_n dX12_rowOf_0 rfl rfl ?_
  refine V.aload_n dX12_rowOf_1 rfl rfl rfl ?_
  refine V.getR (r := 114) dX12_rowOf_2 fl_X12_7 rfl (Or.inl ⟨rfl, SHL_lt rfl⟩) rfl (ly_113_0 (srh.ly ly)) ?_
  refine V.iconst (v := 0) dX12_rowOf_5 rfl ?_
  refine V.iaload dX12_rowOf_6 rfl (Or.inl ⟨rfl, SHL_lt rfl⟩) (vp_lit (by decide)) ?_
  rw [show Int32.toNatClampNeg 0 = 0 from rfl]
  refine V.iload_n dX12_rowOf_7 rfl rfl ?_
  refine V.imul dX12_rowOf_8 ?_
  refine V.ishr dX12_rowOf_9 ?_
  refine V.iconst (v := 1) dX12_rowOf_10 rfl ?_
  refine V.aload_n dX12_rowOf_11 rfl rfl rfl ?_
  refine V.getR (r := 114) dX12_rowOf_12 fl_X12_7 rfl (Or.inl ⟨rfl, SHL_lt rfl⟩) rfl (ly_113_0 (srh.ly ly)) ?_
  refine V.iconst (v := 0) dX12_rowOf_15 rfl ?_
  refine V.iaload dX12_rowOf_16 rfl (Or.inl ⟨rfl, SHL_lt rfl⟩) (vp_lit (by decide)) ?_
  rw [show Int32.toNatClampNeg 0 = 0 from rfl]
  refine V.ishl dX12_rowOf_17 ?_
  refine V.iconst (v := 1) dX12_rowOf_18 rfl ?_
  refine V.isub dX12_rowOf_19 ?_
  refine V.iand dX12_rowOf_20 ?_
  refine V.ireturn dX12_rowOf_21 rfl rfl ⟨rfl, rfl⟩ ly.1 ?_
  exact ret_I hf srh
set_option maxRecDepth 100000 in
theorem th_X12_copyRows_52 {h0 : HP} (ly : Lay h0) {rr : Int32} {hh : HP}  : ∀ (n : Nat) (l1 : Int32) (l2 : Int32) (h : HP), SR h0 h → f_X12_copyRows_52 n l1 l2 h = some (rr, hh) → V cX12_copyRows miX12_copyRows (ZI h0 miX12_copyRows rr hh) 130 52 [.ref 113, .int l1, .int l2] [] h := by
  intro n
  induction n with
  | zero => intro l1 l2 h srh hf; exact absurd hf (by unfold f_X12_copyRows_52; simp)
  | succ n ih =>
    intro l1 l2 h srh hf
    unfold f_X12_copyRows_52 at hf
    refine V.iload_n dX12_copyRows_52 rfl rfl ?_
    refine V.aload_n dX12_copyRows_53 rfl rfl rfl ?_
    refine V.getR (r := 114) dX12_copyRows_54 fl_X12_7 rfl (Or.inl ⟨rfl, SHL_lt rfl⟩) rfl (ly_113_0 (srh.ly ly)) ?_
    refine V.iconst (v := 1) dX12_copyRows_57 rfl ?_
    refine V.iaload dX12_copyRows_58 rfl (Or.inl ⟨rfl, SHL_lt rfl⟩) (vp_lit (by decide)) ?_
    rw [show Int32.toNatClampNeg 1 = 1 from rfl]
    refine V.icmp_ge (tgt := 91) dX12_copyRows_59 (by decide) (fun c18 => ?_) (fun c18 => ?_)
    · replace hf := ite_p hf c18
      refine V.aload_n dX12_copyRows_91 rfl rfl rfl ?_
      refine V.aload_n dX12_copyRows_92 rfl rfl rfl ?_
      refine V.getR (r := 114) dX12_copyRows_93 fl_X12_7 rfl (Or.inl ⟨rfl, SHL_lt rfl⟩) rfl (ly_113_0 (srh.ly ly)) ?_
      refine V.iconst (v := 1) dX12_copyRows_96 rfl ?_
      refine V.iaload dX12_copyRows_97 rfl (Or.inl ⟨rfl, SHL_lt rfl⟩) (vp_lit (by decide)) ?_
      rw [show Int32.toNatClampNeg 1 = 1 from rfl]
      obtain ⟨r21, h20, q19, hf2⟩ := bd2_el hf
      replace hf := hf2
      clear hf2
      refine V.callVI dX12_copyRows_98 ml_X12_85 mo_X12_gives mv_X12_gives rfl (fun q hq => by cases hq; rfl) (by decide) (Or.inl ⟨rfl, SHL_lt rfl⟩) (th_X12_gives (srh.ly ly) q19) rfl rfl ⟨Nat.le_of_ble_eq_true rfl, Nat.le_of_ble_eq_true rfl, fun _ => ⟨rfl, rfl⟩⟩ (Nat.le_of_ble_eq_true rfl) rfl (post_I (fun sq => ?_))
      have srh20 : SR h0 h20 := srh.trans sq
      clear sq q19
      refine V.ireturn dX12_copyRows_101 rfl rfl ⟨rfl, rfl⟩ ly.1 ?_
      exact ret_I hf srh20
    · replace hf := ite_n hf c18
      refine V.aload_n dX12_copyRows_62 rfl rfl rfl ?_
      refine V.getR (r := 118) dX12_copyRows_63 fl_X12_27 rfl (Or.inl ⟨rfl, SHL_lt rfl⟩) rfl (ly_113_7 (srh.ly ly)) ?_
      refine V.bipush (v := 60) dX12_copyRows_66 rfl ?_
      refine V.iload_n dX12_copyRows_68 rfl rfl ?_
      refine V.imul dX12_copyRows_69 ?_
      refine V.iload_n dX12_copyRows_70 rfl rfl ?_
      refine V.iadd dX12_copyRows_71 ?_
      refine V.aload_n dX12_copyRows_72 rfl rfl rfl ?_
      refine V.aload_n dX12_copyRows_73 rfl rfl rfl ?_
      refine V.getR (r := 114) dX12_copyRows_74 fl_X12_7 rfl (Or.inl ⟨rfl, SHL_lt rfl⟩) rfl (ly_113_0 (srh.ly ly)) ?_
      refine V.iconst (v := 3) dX12_copyRows_77 rfl ?_
      refine V.iaload dX12_copyRows_78 rfl (Or.inl ⟨rfl, SHL_lt rfl⟩) (vp_lit (by decide)) ?_
      rw [show Int32.toNatClampNeg 3 = 3 from rfl]
      refine V.iload_n dX12_copyRows_79 rfl rfl ?_
      obtain ⟨r24, h23, q22, hf2⟩ := bd2_el hf
      replace hf := hf2
      clear hf2
      refine V.callVI dX12_copyRows_80 ml_X12_304 mo_X12_rowOf mv_X12_rowOf rfl (fun q hq => by cases hq; rfl) (by decide) (Or.inl ⟨rfl, SHL_lt rfl⟩) (th_X12_rowOf (srh.ly ly) q22) rfl rfl ⟨Nat.le_of_ble_eq_true rfl, Nat.le_of_ble_eq_true rfl, fun _ => ⟨rfl, rfl⟩⟩ (Nat.le_of_ble_eq_true rfl) rfl (post_I (fun sq => ?_))
      have srh23 : SR h0 h23 := srh.trans sq
      clear sq q22
      refine V.i2l dX12_copyRows_83 ?_
      obtain ⟨b25, hf2⟩ := gdi_el hf
      replace hf := hf2
      clear hf2
      refine V.lastore dX12_copyRows_84 rfl (Or.inl ⟨rfl, SHL_lt rfl⟩) b25 ?_
      refine V.nameH (fun g26 eg26 => ?_)
      replace hf := lt_el hf g26 eg26
      have srg26 : SR h0 g26 := by rw [eg26]; exact srh23.L _ _ _
      obtain ⟨x27, ex27⟩ : ∃ y : Int32, y = l2 + 1 := ⟨_, rfl⟩
      replace hf := lt_el hf x27 ex27
      refine V.iinc (v := x27) (ls' := [.ref 113, .int l1, .int x27]) dX12_copyRows_85 rfl (by decide) ex27.symm rfl ?_
      refine V.goto (tgt := 52) dX12_copyRows_88 (by decide) ?_
      exact ih l1 x27 g26 srg26 hf
set_option maxRecDepth 100000 in
theorem th_X12_copyRows {h : HP} (ly : Lay h) {a1 : Int32} {rr : Int32} {hh : HP} (hf : f_X12_copyRows h a1 = some (rr, hh)) : Spec yX12_copyRows cX12_copyRows miX12_copyRows [.ref 113, .int a1] h (pI fun r' h' => (r' = rr ∧ h' = hh) ∧ SR h hh) := by
  refine Spec.of (ls0 := [.ref 113, .int a1, .null]) mo_X12_copyRows (Nat.le_of_ble_eq_true rfl) rfl ?_
  rw [ly.1]
  have srh : SR h h := SR.refl h
  unfold f_X12_copyRows at hf
  refine V.iload_n dX12_copyRows_0 rfl rfl ?_
  obtain ⟨r3, h2, q1, hf2⟩ := bd2_el hf
  replace hf := hf2
  clear hf2
  refine V.callSI dX12_copyRows_1 ml_X12_92 mo_X12_isTray ms_X12_isTray (th_X12_isTray (srh.ly ly) q1) rfl rfl ⟨Nat.le_of_ble_eq_true rfl, Nat.le_of_ble_eq_true rfl, fun _ => ⟨rfl, rfl⟩⟩ (Nat.le_of_ble_eq_true rfl) rfl (post_I (fun sq => ?_))
  have srh2 : SR h h2 := srh.trans sq
  clear sq q1
  refine V.if_ne (tgt := 13) dX12_copyRows_4 (by decide) (fun c4 => ?_) (fun c4 => ?_)
  · replace hf := ite_n hf c4
    refine V.aload_n dX12_copyRows_13 rfl rfl rfl ?_
    refine V.getR (r := 117) dX12_copyRows_14 fl_X12_24 rfl (Or.inl ⟨rfl, SHL_lt rfl⟩) rfl (ly_113_6 (srh2.ly ly)) ?_
    refine V.iload_n dX12_copyRows_17 rfl rfl ?_
    obtain ⟨b5, hf2⟩ := gdi_el hf
    replace hf := hf2
    clear hf2
    refine V.iaload dX12_copyRows_18 rfl (Or.inl ⟨rfl, SHL_lt rfl⟩) b5 ?_
    refine V.iconst (v := (-1)) dX12_copyRows_19 rfl ?_
    refine V.icmp_ne (tgt := 29) dX12_copyRows_20 (by decide) (fun c6 => ?_) (fun c6 => ?_)
    · replace hf := ite_n hf c6
      refine V.aload_n dX12_copyRows_29 rfl rfl rfl ?_
      refine V.getR (r := 117) dX12_copyRows_30 fl_X12_24 rfl (Or.inl ⟨rfl, SHL_lt rfl⟩) rfl (ly_113_6 (srh2.ly ly)) ?_
      refine V.iload_n dX12_copyRows_33 rfl rfl ?_
      obtain ⟨b7, hf2⟩ := gdi_el hf
      replace hf := hf2
      clear hf2
      refine V.iaload dX12_copyRows_34 rfl (Or.inl ⟨rfl, SHL_lt rfl⟩) b7 ?_
      refine V.aload_n dX12_copyRows_35 rfl rfl rfl ?_
      refine V.getR (r := 114) dX12_copyRows_36 fl_X12_7 rfl (Or.inl ⟨rfl, SHL_lt rfl⟩) rfl (ly_113_0 (srh2.ly ly)) ?_
      refine V.iconst (v := 1) dX12_copyRows_39 rfl ?_
      refine V.iaload dX12_copyRows_40 rfl (Or.inl ⟨rfl, SHL_lt rfl⟩) (vp_lit (by decide)) ?_
      rw [show Int32.toNatClampNeg 1 = 1 from rfl]
      refine V.icmp_ge (tgt := 50) dX12_copyRows_41 (by decide) (fun c8 => ?_) (fun c8 => ?_)
      · replace hf := ite_p hf c8
        refine V.iconst (v := 0) dX12_copyRows_50 rfl ?_
        refine V.istore_n (ls' := [.ref 113, .int a1, .int 0]) dX12_copyRows_51 rfl (by decide) rfl ?_
        exact th_X12_copyRows_52 ly FU a1 0 h2 srh2 hf
      · replace hf := ite_n hf c8
        refine V.aload_n dX12_copyRows_44 rfl rfl rfl ?_
        refine V.iconst (v := 3) dX12_copyRows_45 rfl ?_
        obtain ⟨r11, h10, q9, hf2⟩ := bd2_el hf
        replace hf := hf2
        clear hf2
        refine V.callVI dX12_copyRows_46 ml_X12_81 mo_X12_refuse mv_X12_refuse rfl (fun q hq => by cases hq; rfl) (by decide) (Or.inl ⟨rfl, SHL_lt rfl⟩) (th_X12_refuse (srh2.ly ly) q9) rfl rfl ⟨Nat.le_of_ble_eq_true rfl, Nat.le_of_ble_eq_true rfl, fun _ => ⟨rfl, rfl⟩⟩ (Nat.le_of_ble_eq_true rfl) rfl (post_I (fun sq => ?_))
        have srh10 : SR h h10 := srh2.trans sq
        clear sq q9
        refine V.ireturn dX12_copyRows_49 rfl rfl ⟨rfl, rfl⟩ ly.1 ?_
        exact ret_I hf srh10
    · replace hf := ite_p hf c6
      refine V.aload_n dX12_copyRows_23 rfl rfl rfl ?_
      refine V.iconst (v := 2) dX12_copyRows_24 rfl ?_
      obtain ⟨r14, h13, q12, hf2⟩ := bd2_el hf
      replace hf := hf2
      clear hf2
      refine V.callVI dX12_copyRows_25 ml_X12_81 mo_X12_refuse mv_X12_refuse rfl (fun q hq => by cases hq; rfl) (by decide) (Or.inl ⟨rfl, SHL_lt rfl⟩) (th_X12_refuse (srh2.ly ly) q12) rfl rfl ⟨Nat.le_of_ble_eq_true rfl, Nat.le_of_ble_eq_true rfl, fun _ => ⟨rfl, rfl⟩⟩ (Nat.le_of_ble_eq_true rfl) rfl (post_I (fun sq => ?_))
      have srh13 : SR h h13 := srh2.trans sq
      clear sq q12
      refine V.ireturn dX12_copyRows_28 rfl rfl ⟨rfl, rfl⟩ ly.1 ?_
      exact ret_I hf srh13
  · replace hf := ite_p hf c4
    refine V.aload_n dX12_copyRows_7 rfl rfl rfl ?_
    refine V.iconst (v := 1) dX12_copyRows_8 rfl ?_
    obtain ⟨r17, h16, q15, hf2⟩ := bd2_el hf
    replace hf := hf2
    clear hf2
    refine V.callVI dX12_copyRows_9 ml_X12_81 mo_X12_refuse mv_X12_refuse rfl (fun q hq => by cases hq; rfl) (by decide) (Or.inl ⟨rfl, SHL_lt rfl⟩) (th_X12_refuse (srh2.ly ly) q15) rfl rfl ⟨Nat.le_of_ble_eq_true rfl, Nat.le_of_ble_eq_true rfl, fun _ => ⟨rfl, rfl⟩⟩ (Nat.le_of_ble_eq_true rfl) rfl (post_I (fun sq => ?_))
    have srh16 : SR h h16 := srh2.trans sq
    clear sq q15
    refine V.ireturn dX12_copyRows_12 rfl rfl ⟨rfl, rfl⟩ ly.1 ?_
    exact ret_I hf srh16
set_option maxRecDepth 100000 in
theorem th_X12_mayor {h : HP} (ly : Lay h) {a1 : Int32} {rr : Int32} {hh : HP} (hf : f_X12_mayor h a1 = some (rr, hh)) : Spec yX12_mayor cX12_mayor miX12_mayor [.ref 113, .int a1] h (pI fun r' h' => (r' = rr ∧ h' = hh) ∧ SR h hh) := by
  refine Spec.of (ls0 := [.ref 113, .int a1]) mo_X12_mayor (Nat.le_of_ble_eq_true rfl) rfl ?_
  rw [ly.1]
  have srh : SR h h := SR.refl h
  unfold f_X12_mayor at hf
  refine V.aload_n dX12_mayor_0 rfl rfl rfl ?_
  refine V.iload_n dX12_mayor_1 rfl rfl ?_
  obtain ⟨r3, h2, q1, hf2⟩ := bd2_el hf
  replace hf := hf2
  clear hf2
  refine V.callVI dX12_mayor_2 ml_X12_284 mo_X12_isRule mv_X12_isRule rfl (fun q hq => by cases hq; rfl) (by decide) (Or.inl ⟨rfl, SHL_lt rfl⟩) (th_X12_isRule (srh.ly ly) q1) rfl rfl ⟨Nat.le_of_ble_eq_true rfl, Nat.le_of_ble_eq_true rfl, fun _ => ⟨rfl, rfl⟩⟩ (Nat.le_of_ble_eq_true rfl) rfl (post_I (fun sq => ?_))
  have srh2 : SR h h2 := srh.trans sq
  clear sq q1
  refine V.if_ne (tgt := 14) dX12_mayor_5 (by decide) (fun c4 => ?_) (fun c4 => ?_)
  · replace hf := ite_n hf c4
    refine V.aload_n dX12_mayor_14 rfl rfl rfl ?_
    refine V.getR (r := 114) dX12_mayor_15 fl_X12_7 rfl (Or.inl ⟨rfl, SHL_lt rfl⟩) rfl (ly_113_0 (srh2.ly ly)) ?_
    refine V.bipush (v := 10) dX12_mayor_18 rfl ?_
    refine V.iload_n dX12_mayor_20 rfl rfl ?_
    refine V.iastore dX12_mayor_21 rfl (Or.inl ⟨rfl, SHL_lt rfl⟩) (vp_lit (by decide)) ?_
    rw [show Int32.toNatClampNeg 10 = 10 from rfl]
    refine V.nameH (fun g5 eg5 => ?_)
    replace hf := lt_el hf g5 eg5
    have srg5 : SR h g5 := by rw [eg5]; exact srh2.I _ _ _
    refine V.aload_n dX12_mayor_22 rfl rfl rfl ?_
    refine V.iconst (v := 0) dX12_mayor_23 rfl ?_
    obtain ⟨r8, h7, q6, hf2⟩ := bd2_el hf
    replace hf := hf2
    clear hf2
    refine V.callVI dX12_mayor_24 ml_X12_88 mo_X12_is mv_X12_is rfl (fun q hq => by cases hq; rfl) (by decide) (Or.inl ⟨rfl, SHL_lt rfl⟩) (th_X12_is (srg5.ly ly) q6) rfl rfl ⟨Nat.le_of_ble_eq_true rfl, Nat.le_of_ble_eq_true rfl, fun _ => ⟨rfl, rfl⟩⟩ (Nat.le_of_ble_eq_true rfl) rfl (post_I (fun sq => ?_))
    have srh7 : SR h h7 := srg5.trans sq
    clear sq q6
    obtain ⟨b9, hf2⟩ := gd_el hf
    replace hf := hf2
    clear hf2
    refine V.ireturn dX12_mayor_27 rfl (narB b9) ⟨rfl, rfl⟩ ly.1 ?_
    exact ret_I hf srh7
  · replace hf := ite_p hf c4
    refine V.aload_n dX12_mayor_8 rfl rfl rfl ?_
    refine V.iconst (v := 1) dX12_mayor_9 rfl ?_
    obtain ⟨r12, h11, q10, hf2⟩ := bd2_el hf
    replace hf := hf2
    clear hf2
    refine V.callVI dX12_mayor_10 ml_X12_88 mo_X12_is mv_X12_is rfl (fun q hq => by cases hq; rfl) (by decide) (Or.inl ⟨rfl, SHL_lt rfl⟩) (th_X12_is (srh2.ly ly) q10) rfl rfl ⟨Nat.le_of_ble_eq_true rfl, Nat.le_of_ble_eq_true rfl, fun _ => ⟨rfl, rfl⟩⟩ (Nat.le_of_ble_eq_true rfl) rfl (post_I (fun sq => ?_))
    have srh11 : SR h h11 := srh2.trans sq
    clear sq q10
    obtain ⟨b13, hf2⟩ := gd_el hf
    replace hf := hf2
    clear hf2
    refine V.ireturn dX12_mayor_13 rfl (narB b13) ⟨rfl, rfl⟩ ly.1 ?_
    exact ret_I hf srh11
set_option maxRecDepth 100000 in
theorem th_X12_bend {h : HP} (ly : Lay h) {a1 : Int32} {a2 : Int32} {a3 : Int32} {rr : Int32} {hh : HP} (hf : f_X12_bend h a1 a2 a3 = some (rr, hh)) : Spec yX12_bend cX12_bend miX12_bend [.ref 113, .int a1, .int a2, .int a3] h (pI fun r' h' => (r' = rr ∧ h' = hh) ∧ SR h hh) := by
  refine Spec.of (ls0 := [.ref 113, .int a1, .int a2, .int a3]) mo_X12_bend (Nat.le_of_ble_eq_true rfl) rfl ?_
  rw [ly.1]
  have srh : SR h h := SR.refl h
  unfold f_X12_bend at hf
  refine V.aload_n dX12_bend_0 rfl rfl rfl ?_
  refine V.iload_n dX12_bend_1 rfl rfl ?_
  obtain ⟨r3, h2, q1, hf2⟩ := bd2_el hf
  replace hf := hf2
  clear hf2
  refine V.callVI dX12_bend_2 ml_X12_284 mo_X12_isRule mv_X12_isRule rfl (fun q hq => by cases hq; rfl) (by decide) (Or.inl ⟨rfl, SHL_lt rfl⟩) (th_X12_isRule (srh.ly ly) q1) rfl rfl ⟨Nat.le_of_ble_eq_true rfl, Nat.le_of_ble_eq_true rfl, fun _ => ⟨rfl, rfl⟩⟩ (Nat.le_of_ble_eq_true rfl) rfl (post_I (fun sq => ?_))
  have srh2 : SR h h2 := srh.trans sq
  clear sq q1
  refine V.if_eq (tgt := 32) dX12_bend_5 (by decide) (fun c4 => ?_) (fun c4 => ?_)
  · replace hf := ite_p hf c4
    refine V.aload_n dX12_bend_32 rfl rfl rfl ?_
    refine V.iconst (v := 1) dX12_bend_33 rfl ?_
    obtain ⟨r7, h6, q5, hf2⟩ := bd2_el hf
    replace hf := hf2
    clear hf2
    refine V.callVI dX12_bend_34 ml_X12_88 mo_X12_is mv_X12_is rfl (fun q hq => by cases hq; rfl) (by decide) (Or.inl ⟨rfl, SHL_lt rfl⟩) (th_X12_is (srh2.ly ly) q5) rfl rfl ⟨Nat.le_of_ble_eq_true rfl, Nat.le_of_ble_eq_true rfl, fun _ => ⟨rfl, rfl⟩⟩ (Nat.le_of_ble_eq_true rfl) rfl (post_I (fun sq => ?_))
    have srh6 : SR h h6 := srh2.trans sq
    clear sq q5
    obtain ⟨b8, hf2⟩ := gd_el hf
    replace hf := hf2
    clear hf2
    refine V.ireturn dX12_bend_37 rfl (narB b8) ⟨rfl, rfl⟩ ly.1 ?_
    exact ret_I hf srh6
  · replace hf := ite_n hf c4
    refine V.iload_n dX12_bend_8 rfl rfl ?_
    refine V.i2l dX12_bend_9 ?_
    refine V.lconst (v := 0) dX12_bend_10 rfl ?_
    refine V.ldc2 (v := 31) dX12_bend_11 kc_X12_302 ?_
    obtain ⟨r11, h10, q9, hf2⟩ := bd2_el hf
    replace hf := hf2
    clear hf2
    refine V.callSI dX12_bend_14 ml_X12_295 mo_X12_isFrom ms_X12_isFrom (th_X12_isFrom (srh2.ly ly) q9) rfl rfl ⟨Nat.le_of_ble_eq_true rfl, Nat.le_of_ble_eq_true rfl, fun _ => ⟨rfl, rfl⟩⟩ (Nat.le_of_ble_eq_true rfl) rfl (post_I (fun sq => ?_))
    have srh10 : SR h h10 := srh2.trans sq
    clear sq q9
    refine V.if_eq (tgt := 32) dX12_bend_17 (by decide) (fun c12 => ?_) (fun c12 => ?_)
    · replace hf := ite_p hf c12
      refine V.aload_n dX12_bend_32 rfl rfl rfl ?_
      refine V.iconst (v := 1) dX12_bend_33 rfl ?_
      obtain ⟨r15, h14, q13, hf2⟩ := bd2_el hf
      replace hf := hf2
      clear hf2
      refine V.callVI dX12_bend_34 ml_X12_88 mo_X12_is mv_X12_is rfl (fun q hq => by cases hq; rfl) (by decide) (Or.inl ⟨rfl, SHL_lt rfl⟩) (th_X12_is (srh10.ly ly) q13) rfl rfl ⟨Nat.le_of_ble_eq_true rfl, Nat.le_of_ble_eq_true rfl, fun _ => ⟨rfl, rfl⟩⟩ (Nat.le_of_ble_eq_true rfl) rfl (post_I (fun sq => ?_))
      have srh14 : SR h h14 := srh10.trans sq
      clear sq q13
      obtain ⟨b16, hf2⟩ := gd_el hf
      replace hf := hf2
      clear hf2
      refine V.ireturn dX12_bend_37 rfl (narB b16) ⟨rfl, rfl⟩ ly.1 ?_
      exact ret_I hf srh14
    · replace hf := ite_n hf c12
      refine V.iload_n dX12_bend_20 rfl rfl ?_
      refine V.i2l dX12_bend_21 ?_
      refine V.lconst (v := 0) dX12_bend_22 rfl ?_
      refine V.ldc2 (v := 31) dX12_bend_23 kc_X12_302 ?_
      obtain ⟨r19, h18, q17, hf2⟩ := bd2_el hf
      replace hf := hf2
      clear hf2
      refine V.callSI dX12_bend_26 ml_X12_295 mo_X12_isFrom ms_X12_isFrom (th_X12_isFrom (srh10.ly ly) q17) rfl rfl ⟨Nat.le_of_ble_eq_true rfl, Nat.le_of_ble_eq_true rfl, fun _ => ⟨rfl, rfl⟩⟩ (Nat.le_of_ble_eq_true rfl) rfl (post_I (fun sq => ?_))
      have srh18 : SR h h18 := srh10.trans sq
      clear sq q17
      refine V.if_ne (tgt := 38) dX12_bend_29 (by decide) (fun c20 => ?_) (fun c20 => ?_)
      · replace hf := ite_n hf c20
        refine V.aload_n dX12_bend_38 rfl rfl rfl ?_
        refine V.getR (r := 114) dX12_bend_39 fl_X12_7 rfl (Or.inl ⟨rfl, SHL_lt rfl⟩) rfl (ly_113_0 (srh18.ly ly)) ?_
        refine V.bipush (v := 12) dX12_bend_42 rfl ?_
        refine V.iconst (v := 2) dX12_bend_44 rfl ?_
        refine V.iload_n dX12_bend_45 rfl rfl ?_
        refine V.imul dX12_bend_46 ?_
        refine V.iadd dX12_bend_47 ?_
        refine V.iload_n dX12_bend_48 rfl rfl ?_
        obtain ⟨b21, hf2⟩ := gdi_el hf
        replace hf := hf2
        clear hf2
        refine V.iastore dX12_bend_49 rfl (Or.inl ⟨rfl, SHL_lt rfl⟩) b21 ?_
        refine V.nameH (fun g22 eg22 => ?_)
        replace hf := lt_el hf g22 eg22
        have srg22 : SR h g22 := by rw [eg22]; exact srh18.I _ _ _
        refine V.aload_n dX12_bend_50 rfl rfl rfl ?_
        refine V.getR (r := 114) dX12_bend_51 fl_X12_7 rfl (Or.inl ⟨rfl, SHL_lt rfl⟩) rfl (ly_113_0 (srg22.ly ly)) ?_
        refine V.bipush (v := 12) dX12_bend_54 rfl ?_
        refine V.iconst (v := 2) dX12_bend_56 rfl ?_
        refine V.iload_n dX12_bend_57 rfl rfl ?_
        refine V.imul dX12_bend_58 ?_
        refine V.iadd dX12_bend_59 ?_
        refine V.iconst (v := 1) dX12_bend_60 rfl ?_
        refine V.iadd dX12_bend_61 ?_
        refine V.iload_n dX12_bend_62 rfl rfl ?_
        obtain ⟨b23, hf2⟩ := gdi_el hf
        replace hf := hf2
        clear hf2
        refine V.iastore dX12_bend_63 rfl (Or.inl ⟨rfl, SHL_lt rfl⟩) b23 ?_
        refine V.nameH (fun g24 eg24 => ?_)
        replace hf := lt_el hf g24 eg24
        have srg24 : SR h g24 := by rw [eg24]; exact srg22.I _ _ _
        refine V.aload_n dX12_bend_64 rfl rfl rfl ?_
        refine V.iconst (v := 0) dX12_bend_65 rfl ?_
        obtain ⟨r27, h26, q25, hf2⟩ := bd2_el hf
        replace hf := hf2
        clear hf2
        refine V.callVI dX12_bend_66 ml_X12_88 mo_X12_is mv_X12_is rfl (fun q hq => by cases hq; rfl) (by decide) (Or.inl ⟨rfl, SHL_lt rfl⟩) (th_X12_is (srg24.ly ly) q25) rfl rfl ⟨Nat.le_of_ble_eq_true rfl, Nat.le_of_ble_eq_true rfl, fun _ => ⟨rfl, rfl⟩⟩ (Nat.le_of_ble_eq_true rfl) rfl (post_I (fun sq => ?_))
        have srh26 : SR h h26 := srg24.trans sq
        clear sq q25
        obtain ⟨b28, hf2⟩ := gd_el hf
        replace hf := hf2
        clear hf2
        refine V.ireturn dX12_bend_69 rfl (narB b28) ⟨rfl, rfl⟩ ly.1 ?_
        exact ret_I hf srh26
      · replace hf := ite_p hf c20
        refine V.aload_n dX12_bend_32 rfl rfl rfl ?_
        refine V.iconst (v := 1) dX12_bend_33 rfl ?_
        obtain ⟨r31, h30, q29, hf2⟩ := bd2_el hf
        replace hf := hf2
        clear hf2
        refine V.callVI dX12_bend_34 ml_X12_88 mo_X12_is mv_X12_is rfl (fun q hq => by cases hq; rfl) (by decide) (Or.inl ⟨rfl, SHL_lt rfl⟩) (th_X12_is (srh18.ly ly) q29) rfl rfl ⟨Nat.le_of_ble_eq_true rfl, Nat.le_of_ble_eq_true rfl, fun _ => ⟨rfl, rfl⟩⟩ (Nat.le_of_ble_eq_true rfl) rfl (post_I (fun sq => ?_))
        have srh30 : SR h h30 := srh18.trans sq
        clear sq q29
        obtain ⟨b32, hf2⟩ := gd_el hf
        replace hf := hf2
        clear hf2
        refine V.ireturn dX12_bend_37 rfl (narB b32) ⟨rfl, rfl⟩ ly.1 ?_
        exact ret_I hf srh30
set_option maxRecDepth 100000 in
theorem th_X12_goes_24 {h0 : HP} (ly : Lay h0) {hh : HP}  : ∀ (n : Nat) (l1 : Int32) (l2 : Int32) (h : HP), SR h0 h → f_X12_goes_24 n l1 l2 h = some hh → V cX12_goes miX12_goes (ZV h0 miX12_goes hh) 130 24 [.ref 113, .int l1, .int l2] [] h := by
  intro n
  induction n with
  | zero => intro l1 l2 h srh hf; exact absurd hf (by unfold f_X12_goes_24; simp)
  | succ n ih =>
    intro l1 l2 h srh hf
    unfold f_X12_goes_24 at hf
    refine V.iload_n dX12_goes_24 rfl rfl ?_
    refine V.aload_n dX12_goes_25 rfl rfl rfl ?_
    obtain ⟨r8, h7, q6, hf2⟩ := bd2_el hf
    replace hf := hf2
    clear hf2
    refine V.callVI dX12_goes_26 ml_X12_262 mo_X12_places mv_X12_places rfl (fun q hq => by cases hq; rfl) (by decide) (Or.inl ⟨rfl, SHL_lt rfl⟩) (th_X12_places (srh.ly ly) q6) rfl rfl ⟨Nat.le_of_ble_eq_true rfl, Nat.le_of_ble_eq_true rfl, fun _ => ⟨rfl, rfl⟩⟩ (Nat.le_of_ble_eq_true rfl) rfl (post_I (fun sq => ?_))
    have srh7 : SR h0 h7 := srh.trans sq
    clear sq q6
    refine V.icmp_ge (tgt := 99) dX12_goes_29 (by decide) (fun c9 => ?_) (fun c9 => ?_)
    · replace hf := ite_p hf c9
      refine V.aload_n dX12_goes_99 rfl rfl rfl ?_
      refine V.getR (r := 114) dX12_goes_100 fl_X12_7 rfl (Or.inl ⟨rfl, SHL_lt rfl⟩) rfl (ly_113_0 (srh7.ly ly)) ?_
      refine V.bipush (v := 8) dX12_goes_103 rfl ?_
      refine V.dup2 dX12_goes_105 rfl rfl ?_
      refine V.iaload dX12_goes_106 rfl (Or.inl ⟨rfl, SHL_lt rfl⟩) (vp_lit (by decide)) ?_
      rw [show Int32.toNatClampNeg 8 = 8 from rfl]
      refine V.aload_n dX12_goes_107 rfl rfl rfl ?_
      refine V.getR (r := 114) dX12_goes_108 fl_X12_7 rfl (Or.inl ⟨rfl, SHL_lt rfl⟩) rfl (ly_113_0 (srh7.ly ly)) ?_
      refine V.iconst (v := 3) dX12_goes_111 rfl ?_
      refine V.iaload dX12_goes_112 rfl (Or.inl ⟨rfl, SHL_lt rfl⟩) (vp_lit (by decide)) ?_
      rw [show Int32.toNatClampNeg 3 = 3 from rfl]
      obtain ⟨r12, h11, q10, hf2⟩ := bd2_el hf
      replace hf := hf2
      clear hf2
      refine V.callSI dX12_goes_113 ml_X12_226 mo_X12_bits ms_X12_bits (th_X12_bits (srh7.ly ly) q10) rfl rfl ⟨Nat.le_of_ble_eq_true rfl, Nat.le_of_ble_eq_true rfl, fun _ => ⟨rfl, rfl⟩⟩ (Nat.le_of_ble_eq_true rfl) rfl (post_I (fun sq => ?_))
      have srh11 : SR h0 h11 := srh7.trans sq
      clear sq q10
      refine V.iadd dX12_goes_116 ?_
      refine V.iastore dX12_goes_117 rfl (Or.inl ⟨rfl, SHL_lt rfl⟩) (vp_lit (by decide)) ?_
      rw [show Int32.toNatClampNeg 8 = 8 from rfl]
      refine V.nameH (fun g13 eg13 => ?_)
      replace hf := lt_el hf g13 eg13
      have srg13 : SR h0 g13 := by rw [eg13]; exact srh11.I _ _ _
      refine V.aload_n dX12_goes_118 rfl rfl rfl ?_
      refine V.getR (r := 114) dX12_goes_119 fl_X12_7 rfl (Or.inl ⟨rfl, SHL_lt rfl⟩) rfl (ly_113_0 (srg13.ly ly)) ?_
      refine V.iconst (v := 3) dX12_goes_122 rfl ?_
      refine V.iload_n dX12_goes_123 rfl rfl ?_
      refine V.iastore dX12_goes_124 rfl (Or.inl ⟨rfl, SHL_lt rfl⟩) (vp_lit (by decide)) ?_
      rw [show Int32.toNatClampNeg 3 = 3 from rfl]
      refine V.nameH (fun g14 eg14 => ?_)
      replace hf := lt_el hf g14 eg14
      have srg14 : SR h0 g14 := by rw [eg14]; exact srg13.I _ _ _
      refine V.aload_n dX12_goes_125 rfl rfl rfl ?_
      refine V.getR (r := 114) dX12_goes_126 fl_X12_7 rfl (Or.inl ⟨rfl, SHL_lt rfl⟩) rfl (ly_113_0 (srg14.ly ly)) ?_
      refine V.bipush (v := 7) dX12_goes_129 rfl ?_
      refine V.dup2 dX12_goes_131 rfl rfl ?_
      refine V.iaload dX12_goes_132 rfl (Or.inl ⟨rfl, SHL_lt rfl⟩) (vp_lit (by decide)) ?_
      rw [show Int32.toNatClampNeg 7 = 7 from rfl]
      refine V.iconst (v := 1) dX12_goes_133 rfl ?_
      refine V.iadd dX12_goes_134 ?_
      refine V.iastore dX12_goes_135 rfl (Or.inl ⟨rfl, SHL_lt rfl⟩) (vp_lit (by decide)) ?_
      rw [show Int32.toNatClampNeg 7 = 7 from rfl]
      refine V.nameH (fun g15 eg15 => ?_)
      replace hf := lt_el hf g15 eg15
      have srg15 : SR h0 g15 := by rw [eg15]; exact srg14.I _ _ _
      refine V.vreturn' dX12_goes_136 rfl ly.1 (Or.inl ⟨rfl, rfl⟩) ?_
      exact ret_V hf srg15
    · replace hf := ite_n hf c9
      refine V.aload_n dX12_goes_32 rfl rfl rfl ?_
      obtain ⟨r18, h17, q16, hf2⟩ := bd2_el hf
      replace hf := hf2
      clear hf2
      refine V.callVI dX12_goes_33 ml_X12_268 mo_X12_free mv_X12_free rfl (fun q hq => by cases hq; rfl) (by decide) (Or.inl ⟨rfl, SHL_lt rfl⟩) (th_X12_free (srh7.ly ly) q16) rfl rfl ⟨Nat.le_of_ble_eq_true rfl, Nat.le_of_ble_eq_true rfl, fun _ => ⟨rfl, rfl⟩⟩ (Nat.le_of_ble_eq_true rfl) rfl (post_I (fun sq => ?_))
      have srh17 : SR h0 h17 := srh7.trans sq
      clear sq q16
      refine V.iload_n dX12_goes_36 rfl rfl ?_
      refine V.ishr dX12_goes_37 ?_
      refine V.iconst (v := 1) dX12_goes_38 rfl ?_
      refine V.iand dX12_goes_39 ?_
      refine V.if_ne (tgt := 46) dX12_goes_40 (by decide) (fun c19 => ?_) (fun c19 => ?_)
      · replace hf := ite_n hf c19
        refine V.aload_n dX12_goes_46 rfl rfl rfl ?_
        refine V.getR (r := 114) dX12_goes_47 fl_X12_7 rfl (Or.inl ⟨rfl, SHL_lt rfl⟩) rfl (ly_113_0 (srh17.ly ly)) ?_
        refine V.bipush (v := 32) dX12_goes_50 rfl ?_
        refine V.iconst (v := 5) dX12_goes_52 rfl ?_
        refine V.aload_n dX12_goes_53 rfl rfl rfl ?_
        refine V.getR (r := 114) dX12_goes_54 fl_X12_7 rfl (Or.inl ⟨rfl, SHL_lt rfl⟩) rfl (ly_113_0 (srh17.ly ly)) ?_
        refine V.iconst (v := 3) dX12_goes_57 rfl ?_
        refine V.iaload dX12_goes_58 rfl (Or.inl ⟨rfl, SHL_lt rfl⟩) (vp_lit (by decide)) ?_
        rw [show Int32.toNatClampNeg 3 = 3 from rfl]
        refine V.iload_n dX12_goes_59 rfl rfl ?_
        refine V.ishr dX12_goes_60 ?_
        refine V.iconst (v := 1) dX12_goes_61 rfl ?_
        refine V.iand dX12_goes_62 ?_
        refine V.imul dX12_goes_63 ?_
        refine V.iadd dX12_goes_64 ?_
        refine V.aload_n dX12_goes_65 rfl rfl rfl ?_
        refine V.getR (r := 122) dX12_goes_66 fl_X12_47 rfl (Or.inl ⟨rfl, SHL_lt rfl⟩) rfl (ly_113_23 (srh17.ly ly)) ?_
        refine V.iload_n dX12_goes_69 rfl rfl ?_
        obtain ⟨b20, hf2⟩ := gdi_el hf
        replace hf := hf2
        clear hf2
        refine V.iaload dX12_goes_70 rfl (Or.inl ⟨rfl, SHL_lt rfl⟩) b20 ?_
        refine V.aload_n dX12_goes_71 rfl rfl rfl ?_
        refine V.getR (r := 114) dX12_goes_72 fl_X12_7 rfl (Or.inl ⟨rfl, SHL_lt rfl⟩) rfl (ly_113_0 (srh17.ly ly)) ?_
        refine V.iconst (v := 3) dX12_goes_75 rfl ?_
        refine V.iaload dX12_goes_76 rfl (Or.inl ⟨rfl, SHL_lt rfl⟩) (vp_lit (by decide)) ?_
        rw [show Int32.toNatClampNeg 3 = 3 from rfl]
        refine V.iand dX12_goes_77 ?_
        obtain ⟨r23, h22, q21, hf2⟩ := bd2_el hf
        replace hf := hf2
        clear hf2
        refine V.callSI dX12_goes_78 ml_X12_226 mo_X12_bits ms_X12_bits (th_X12_bits (srh17.ly ly) q21) rfl rfl ⟨Nat.le_of_ble_eq_true rfl, Nat.le_of_ble_eq_true rfl, fun _ => ⟨rfl, rfl⟩⟩ (Nat.le_of_ble_eq_true rfl) rfl (post_I (fun sq => ?_))
        have srh22 : SR h0 h22 := srh17.trans sq
        clear sq q21
        refine V.iadd dX12_goes_81 ?_
        refine V.nmi (fun x24 ex24 => ?_)
        replace hf := lt_el hf x24 ex24
        refine V.dup2 dX12_goes_82 rfl rfl ?_
        obtain ⟨b25, hf2⟩ := gdi_el hf
        replace hf := hf2
        clear hf2
        refine V.iaload dX12_goes_83 rfl (Or.inl ⟨rfl, SHL_lt rfl⟩) b25 ?_
        refine V.iconst (v := 1) dX12_goes_84 rfl ?_
        refine V.iload_n dX12_goes_85 rfl rfl ?_
        refine V.iload_n dX12_goes_86 rfl rfl ?_
        refine V.ishr dX12_goes_87 ?_
        refine V.iconst (v := 1) dX12_goes_88 rfl ?_
        refine V.iand dX12_goes_89 ?_
        refine V.ishl dX12_goes_90 ?_
        refine V.ior dX12_goes_91 ?_
        obtain ⟨b26, hf2⟩ := gdi_el hf
        replace hf := hf2
        clear hf2
        refine V.iastore dX12_goes_92 rfl (Or.inl ⟨rfl, SHL_lt rfl⟩) b26 ?_
        refine V.nameH (fun g27 eg27 => ?_)
        replace hf := lt_el hf g27 eg27
        have srg27 : SR h0 g27 := by rw [eg27]; exact srh22.I _ _ _
        obtain ⟨x28, ex28⟩ : ∃ y : Int32, y = l2 + 1 := ⟨_, rfl⟩
        replace hf := lt_el hf x28 ex28
        refine V.iinc (v := x28) (ls' := [.ref 113, .int l1, .int x28]) dX12_goes_93 rfl (by decide) ex28.symm rfl ?_
        refine V.goto (tgt := 24) dX12_goes_96 (by decide) ?_
        exact ih l1 x28 g27 srg27 hf
      · replace hf := ite_p hf c19
        refine V.goto (tgt := 93) dX12_goes_43 (by decide) ?_
        obtain ⟨x29, ex29⟩ : ∃ y : Int32, y = l2 + 1 := ⟨_, rfl⟩
        replace hf := lt_el hf x29 ex29
        refine V.iinc (v := x29) (ls' := [.ref 113, .int l1, .int x29]) dX12_goes_93 rfl (by decide) ex29.symm rfl ?_
        refine V.goto (tgt := 24) dX12_goes_96 (by decide) ?_
        exact ih l1 x29 h17 srh17 hf
set_option maxRecDepth 100000 in
theorem th_X12_goes {h : HP} (ly : Lay h)  {hh : HP} (hf : f_X12_goes h = some hh) : Spec yX12_goes cX12_goes miX12_goes [.ref 113] h (pV fun h' => h' = hh ∧ SR h hh) := by
  refine Spec.of (ls0 := [.ref 113, .null, .null]) mo_X12_goes (Nat.le_of_ble_eq_true rfl) rfl ?_
  rw [ly.1]
  have srh : SR h h := SR.refl h
  unfold f_X12_goes at hf
  refine V.aload_n dX12_goes_0 rfl rfl rfl ?_
  obtain ⟨h2, q1, hf2⟩ := bd_el hf
  replace hf := hf2
  clear hf2
  refine V.callVV dX12_goes_1 ml_X12_271 mo_X12_laysNear mv_X12_laysNear rfl (fun q hq => by cases hq; rfl) (by decide) (Or.inl ⟨rfl, SHL_lt rfl⟩) (th_X12_laysNear (srh.ly ly) q1) rfl rfl ⟨Nat.le_of_ble_eq_true rfl, Nat.le_of_ble_eq_true rfl, fun _ => ⟨rfl, rfl⟩⟩ (Nat.le_of_ble_eq_true rfl) (Or.inl rfl) (post_V (fun sq => ?_))
  have srh2 : SR h h2 := srh.trans sq
  clear sq q1
  refine V.aload_n dX12_goes_4 rfl rfl rfl ?_
  refine V.aload_n dX12_goes_5 rfl rfl rfl ?_
  refine V.getR (r := 114) dX12_goes_6 fl_X12_7 rfl (Or.inl ⟨rfl, SHL_lt rfl⟩) rfl (ly_113_0 (srh2.ly ly)) ?_
  refine V.iconst (v := 3) dX12_goes_9 rfl ?_
  refine V.iaload dX12_goes_10 rfl (Or.inl ⟨rfl, SHL_lt rfl⟩) (vp_lit (by decide)) ?_
  rw [show Int32.toNatClampNeg 3 = 3 from rfl]
  refine V.aload_n dX12_goes_11 rfl rfl rfl ?_
  refine V.getR (r := 114) dX12_goes_12 fl_X12_7 rfl (Or.inl ⟨rfl, SHL_lt rfl⟩) rfl (ly_113_0 (srh2.ly ly)) ?_
  refine V.bipush (v := 10) dX12_goes_15 rfl ?_
  refine V.iaload dX12_goes_17 rfl (Or.inl ⟨rfl, SHL_lt rfl⟩) (vp_lit (by decide)) ?_
  rw [show Int32.toNatClampNeg 10 = 10 from rfl]
  obtain ⟨r5, h4, q3, hf2⟩ := bd2_el hf
  replace hf := hf2
  clear hf2
  refine V.callVI dX12_goes_18 ml_X12_274 mo_X12_becomes mv_X12_becomes rfl (fun q hq => by cases hq; rfl) (by decide) (Or.inl ⟨rfl, SHL_lt rfl⟩) (th_X12_becomes (srh2.ly ly) q3) rfl rfl ⟨Nat.le_of_ble_eq_true rfl, Nat.le_of_ble_eq_true rfl, fun _ => ⟨rfl, rfl⟩⟩ (Nat.le_of_ble_eq_true rfl) rfl (post_I (fun sq => ?_))
  have srh4 : SR h h4 := srh2.trans sq
  clear sq q3
  refine V.istore_n (ls' := [.ref 113, .int r5, .null]) dX12_goes_21 rfl (by decide) rfl ?_
  refine V.iconst (v := 0) dX12_goes_22 rfl ?_
  refine V.istore_n (ls' := [.ref 113, .int r5, .int 0]) dX12_goes_23 rfl (by decide) rfl ?_
  exact th_X12_goes_24 ly FU r5 0 h4 srh4 hf
set_option maxRecDepth 100000 in
theorem th_X12_night_20 {h0 : HP} (ly : Lay h0) {rr : Int32} {hh : HP}  : ∀ (n : Nat) (l1 : Int32) (l2 : Int32) (h : HP), SR h0 h → f_X12_night_20 n l1 l2 h = some (rr, hh) → V cX12_night miX12_night (ZI h0 miX12_night rr hh) 130 20 [.ref 113, .int l1, .int l2] [] h := by
  intro n
  induction n with
  | zero => intro l1 l2 h srh hf; exact absurd hf (by unfold f_X12_night_20; simp)
  | succ n ih =>
    intro l1 l2 h srh hf
    unfold f_X12_night_20 at hf
    refine V.iload_n dX12_night_20 rfl rfl ?_
    refine V.iload_n dX12_night_21 rfl rfl ?_
    refine V.icmp_ge (tgt := 35) dX12_night_22 (by decide) (fun c8 => ?_) (fun c8 => ?_)
    · replace hf := ite_p hf c8
      refine V.aload_n dX12_night_35 rfl rfl rfl ?_
      refine V.aload_n dX12_night_36 rfl rfl rfl ?_
      refine V.getR (r := 114) dX12_night_37 fl_X12_7 rfl (Or.inl ⟨rfl, SHL_lt rfl⟩) rfl (ly_113_0 (srh.ly ly)) ?_
      refine V.iconst (v := 3) dX12_night_40 rfl ?_
      refine V.iaload dX12_night_41 rfl (Or.inl ⟨rfl, SHL_lt rfl⟩) (vp_lit (by decide)) ?_
      rw [show Int32.toNatClampNeg 3 = 3 from rfl]
      obtain ⟨r11, h10, q9, hf2⟩ := bd2_el hf
      replace hf := hf2
      clear hf2
      refine V.callSI dX12_night_42 ml_X12_226 mo_X12_bits ms_X12_bits (th_X12_bits (srh.ly ly) q9) rfl rfl ⟨Nat.le_of_ble_eq_true rfl, Nat.le_of_ble_eq_true rfl, fun _ => ⟨rfl, rfl⟩⟩ (Nat.le_of_ble_eq_true rfl) rfl (post_I (fun sq => ?_))
      have srh10 : SR h0 h10 := srh.trans sq
      clear sq q9
      obtain ⟨r14, h13, q12, hf2⟩ := bd2_el hf
      replace hf := hf2
      clear hf2
      refine V.callVI dX12_night_45 ml_X12_85 mo_X12_gives mv_X12_gives rfl (fun q hq => by cases hq; rfl) (by decide) (Or.inl ⟨rfl, SHL_lt rfl⟩) (th_X12_gives (srh10.ly ly) q12) rfl rfl ⟨Nat.le_of_ble_eq_true rfl, Nat.le_of_ble_eq_true rfl, fun _ => ⟨rfl, rfl⟩⟩ (Nat.le_of_ble_eq_true rfl) rfl (post_I (fun sq => ?_))
      have srh13 : SR h0 h13 := srh10.trans sq
      clear sq q12
      refine V.ireturn dX12_night_48 rfl rfl ⟨rfl, rfl⟩ ly.1 ?_
      exact ret_I hf srh13
    · replace hf := ite_n hf c8
      refine V.aload_n dX12_night_25 rfl rfl rfl ?_
      obtain ⟨h16, q15, hf2⟩ := bd_el hf
      replace hf := hf2
      clear hf2
      refine V.callVV dX12_night_26 ml_X12_309 mo_X12_goes mv_X12_goes rfl (fun q hq => by cases hq; rfl) (by decide) (Or.inl ⟨rfl, SHL_lt rfl⟩) (th_X12_goes (srh.ly ly) q15) rfl rfl ⟨Nat.le_of_ble_eq_true rfl, Nat.le_of_ble_eq_true rfl, fun _ => ⟨rfl, rfl⟩⟩ (Nat.le_of_ble_eq_true rfl) (Or.inl rfl) (post_V (fun sq => ?_))
      have srh16 : SR h0 h16 := srh.trans sq
      clear sq q15
      obtain ⟨x17, ex17⟩ : ∃ y : Int32, y = l2 + 1 := ⟨_, rfl⟩
      replace hf := lt_el hf x17 ex17
      refine V.iinc (v := x17) (ls' := [.ref 113, .int l1, .int x17]) dX12_night_29 rfl (by decide) ex17.symm rfl ?_
      refine V.goto (tgt := 20) dX12_night_32 (by decide) ?_
      exact ih l1 x17 h16 srh16 hf
set_option maxRecDepth 100000 in
theorem th_X12_night {h : HP} (ly : Lay h) {a1 : Int32} {rr : Int32} {hh : HP} (hf : f_X12_night h a1 = some (rr, hh)) : Spec yX12_night cX12_night miX12_night [.ref 113, .int a1] h (pI fun r' h' => (r' = rr ∧ h' = hh) ∧ SR h hh) := by
  refine Spec.of (ls0 := [.ref 113, .int a1, .null]) mo_X12_night (Nat.le_of_ble_eq_true rfl) rfl ?_
  rw [ly.1]
  have srh : SR h h := SR.refl h
  unfold f_X12_night at hf
  refine V.iload_n dX12_night_0 rfl rfl ?_
  refine V.i2l dX12_night_1 ?_
  refine V.lconst (v := 1) dX12_night_2 rfl ?_
  refine V.ldc2 (v := 999) dX12_night_3 kc_X12_307 ?_
  obtain ⟨r3, h2, q1, hf2⟩ := bd2_el hf
  replace hf := hf2
  clear hf2
  refine V.callSI dX12_night_6 ml_X12_295 mo_X12_isFrom ms_X12_isFrom (th_X12_isFrom (srh.ly ly) q1) rfl rfl ⟨Nat.le_of_ble_eq_true rfl, Nat.le_of_ble_eq_true rfl, fun _ => ⟨rfl, rfl⟩⟩ (Nat.le_of_ble_eq_true rfl) rfl (post_I (fun sq => ?_))
  have srh2 : SR h h2 := srh.trans sq
  clear sq q1
  refine V.if_ne (tgt := 18) dX12_night_9 (by decide) (fun c4 => ?_) (fun c4 => ?_)
  · replace hf := ite_n hf c4
    refine V.iconst (v := 0) dX12_night_18 rfl ?_
    refine V.istore_n (ls' := [.ref 113, .int a1, .int 0]) dX12_night_19 rfl (by decide) rfl ?_
    exact th_X12_night_20 ly FU a1 0 h2 srh2 hf
  · replace hf := ite_p hf c4
    refine V.aload_n dX12_night_12 rfl rfl rfl ?_
    refine V.iconst (v := 1) dX12_night_13 rfl ?_
    obtain ⟨r7, h6, q5, hf2⟩ := bd2_el hf
    replace hf := hf2
    clear hf2
    refine V.callVI dX12_night_14 ml_X12_81 mo_X12_refuse mv_X12_refuse rfl (fun q hq => by cases hq; rfl) (by decide) (Or.inl ⟨rfl, SHL_lt rfl⟩) (th_X12_refuse (srh2.ly ly) q5) rfl rfl ⟨Nat.le_of_ble_eq_true rfl, Nat.le_of_ble_eq_true rfl, fun _ => ⟨rfl, rfl⟩⟩ (Nat.le_of_ble_eq_true rfl) rfl (post_I (fun sq => ?_))
    have srh6 : SR h h6 := srh2.trans sq
    clear sq q5
    refine V.ireturn dX12_night_17 rfl rfl ⟨rfl, rfl⟩ ly.1 ?_
    exact ret_I hf srh6
set_option maxRecDepth 100000 in
theorem th_X12_ahead {h : HP} (ly : Lay h) {a1 : Int32} {rr : Int64} {hh : HP} (hf : f_X12_ahead h a1 = some (rr, hh)) : Spec yX12_ahead cX12_ahead miX12_ahead [.ref 113, .int a1] h (pL fun r' h' => (r' = rr ∧ h' = hh) ∧ SR h hh) := by
  refine Spec.of (ls0 := [.ref 113, .int a1]) mo_X12_ahead (Nat.le_of_ble_eq_true rfl) rfl ?_
  rw [ly.1]
  have srh : SR h h := SR.refl h
  unfold f_X12_ahead at hf
  refine V.iload_n dX12_ahead_0 rfl rfl ?_
  refine V.i2l dX12_ahead_1 ?_
  refine V.lconst (v := 0) dX12_ahead_2 rfl ?_
  refine V.ldc2 (v := 999) dX12_ahead_3 kc_X12_307 ?_
  obtain ⟨r3, h2, q1, hf2⟩ := bd2_el hf
  replace hf := hf2
  clear hf2
  refine V.callSI dX12_ahead_6 ml_X12_295 mo_X12_isFrom ms_X12_isFrom (th_X12_isFrom (srh.ly ly) q1) rfl rfl ⟨Nat.le_of_ble_eq_true rfl, Nat.le_of_ble_eq_true rfl, fun _ => ⟨rfl, rfl⟩⟩ (Nat.le_of_ble_eq_true rfl) rfl (post_I (fun sq => ?_))
  have srh2 : SR h h2 := srh.trans sq
  clear sq q1
  refine V.if_eq (tgt := 31) dX12_ahead_9 (by decide) (fun c4 => ?_) (fun c4 => ?_)
  · replace hf := ite_p hf c4
    refine V.aload_n dX12_ahead_31 rfl rfl rfl ?_
    refine V.iconst (v := 1) dX12_ahead_32 rfl ?_
    obtain ⟨r7, h6, q5, hf2⟩ := bd2_el hf
    replace hf := hf2
    clear hf2
    refine V.callVI dX12_ahead_33 ml_X12_81 mo_X12_refuse mv_X12_refuse rfl (fun q hq => by cases hq; rfl) (by decide) (Or.inl ⟨rfl, SHL_lt rfl⟩) (th_X12_refuse (srh2.ly ly) q5) rfl rfl ⟨Nat.le_of_ble_eq_true rfl, Nat.le_of_ble_eq_true rfl, fun _ => ⟨rfl, rfl⟩⟩ (Nat.le_of_ble_eq_true rfl) rfl (post_I (fun sq => ?_))
    have srh6 : SR h h6 := srh2.trans sq
    clear sq q5
    refine V.i2l dX12_ahead_36 ?_
    refine V.lreturn dX12_ahead_37 rfl ⟨rfl, rfl⟩ ly.1 ?_
    exact ret_L hf srh6
  · replace hf := ite_n hf c4
    refine V.aload_n dX12_ahead_12 rfl rfl rfl ?_
    refine V.aload_n dX12_ahead_13 rfl rfl rfl ?_
    refine V.aload_n dX12_ahead_14 rfl rfl rfl ?_
    refine V.getR (r := 114) dX12_ahead_15 fl_X12_7 rfl (Or.inl ⟨rfl, SHL_lt rfl⟩) rfl (ly_113_0 (srh2.ly ly)) ?_
    refine V.iconst (v := 3) dX12_ahead_18 rfl ?_
    refine V.iaload dX12_ahead_19 rfl (Or.inl ⟨rfl, SHL_lt rfl⟩) (vp_lit (by decide)) ?_
    rw [show Int32.toNatClampNeg 3 = 3 from rfl]
    refine V.iload_n dX12_ahead_20 rfl rfl ?_
    obtain ⟨r10, h9, q8, hf2⟩ := bd2_el hf
    replace hf := hf2
    clear hf2
    refine V.callVI dX12_ahead_21 ml_X12_312 mo_X12_after mv_X12_after rfl (fun q hq => by cases hq; rfl) (by decide) (Or.inl ⟨rfl, SHL_lt rfl⟩) (th_X12_after (srh2.ly ly) q8) rfl rfl ⟨Nat.le_of_ble_eq_true rfl, Nat.le_of_ble_eq_true rfl, fun _ => ⟨rfl, rfl⟩⟩ (Nat.le_of_ble_eq_true rfl) rfl (post_I (fun sq => ?_))
    have srh9 : SR h h9 := srh2.trans sq
    clear sq q8
    refine V.i2l dX12_ahead_24 ?_
    obtain ⟨r13, h12, q11, hf2⟩ := bd2_el hf
    replace hf := hf2
    clear hf2
    refine V.callVL dX12_ahead_25 ml_X12_280 mo_X12_givesLong mv_X12_givesLong rfl (fun q hq => by cases hq; rfl) (by decide) (Or.inl ⟨rfl, SHL_lt rfl⟩) (th_X12_givesLong (srh9.ly ly) q11) rfl rfl ⟨Nat.le_of_ble_eq_true rfl, Nat.le_of_ble_eq_true rfl, fun _ => ⟨rfl, rfl⟩⟩ (Nat.le_of_ble_eq_true rfl) rfl (post_L (fun sq => ?_))
    have srh12 : SR h h12 := srh9.trans sq
    clear sq q11
    refine V.goto (tgt := 37) dX12_ahead_28 (by decide) ?_
    refine V.lreturn dX12_ahead_37 rfl ⟨rfl, rfl⟩ ly.1 ?_
    exact ret_L hf srh12
set_option maxRecDepth 100000 in
theorem th_X12_comesAgain_52 {h0 : HP} (ly : Lay h0) {rr : Int32} {hh : HP} {K18 : Int32 → HP → Option (Int32 × HP)} (kok18 : ∀ (l1 : Int32) (g : HP), SR h0 g → K18 l1 g = some (rr, hh) → V cX12_comesAgain miX12_comesAgain (ZI h0 miX12_comesAgain rr hh) 130 18 [.ref 113, .int l1, .null] [] g) : ∀ (n : Nat) (l1 : Int32) (l2 : Int32) (h : HP), SR h0 h → f_X12_comesAgain_52 K18 n l1 l2 h = some (rr, hh) → V cX12_comesAgain miX12_comesAgain (ZI h0 miX12_comesAgain rr hh) 130 52 [.ref 113, .int l1, .int l2] [] h := by
  intro n
  induction n with
  | zero => intro l1 l2 h srh hf; exact absurd hf (by unfold f_X12_comesAgain_52; simp)
  | succ n ih =>
    intro l1 l2 h srh hf
    unfold f_X12_comesAgain_52 at hf
    refine V.iload_n dX12_comesAgain_52 rfl rfl ?_
    refine V.iload_n dX12_comesAgain_53 rfl rfl ?_
    refine V.icmp_ge (tgt := 95) dX12_comesAgain_54 (by decide) (fun c11 => ?_) (fun c11 => ?_)
    · replace hf := ite_p hf c11
      obtain ⟨x12, ex12⟩ : ∃ y : Int32, y = l1 + 1 := ⟨_, rfl⟩
      replace hf := lt_el hf x12 ex12
      refine V.iinc (v := x12) (ls' := [.ref 113, .int x12, .int l2]) dX12_comesAgain_95 rfl (by decide) ex12.symm rfl ?_
      refine V.goto (tgt := 18) dX12_comesAgain_98 (by decide) ?_
      refine V.less (ls' := [.ref 113, .int x12, .null]) ⟨Or.inr rfl, Or.inr rfl, Or.inl rfl, trivial⟩ ?_
      exact kok18 x12 h srh hf
    · replace hf := ite_n hf c11
      refine V.aload_n dX12_comesAgain_57 rfl rfl rfl ?_
      refine V.getR (r := 123) dX12_comesAgain_58 fl_X12_50 rfl (Or.inl ⟨rfl, SHL_lt rfl⟩) rfl (ly_113_24 (srh.ly ly)) ?_
      refine V.iload_n dX12_comesAgain_61 rfl rfl ?_
      obtain ⟨b13, hf2⟩ := gdi_el hf
      replace hf := hf2
      clear hf2
      refine V.iaload dX12_comesAgain_62 rfl (Or.inl ⟨rfl, SHL_lt rfl⟩) b13 ?_
      refine V.aload_n dX12_comesAgain_63 rfl rfl rfl ?_
      refine V.getR (r := 123) dX12_comesAgain_64 fl_X12_50 rfl (Or.inl ⟨rfl, SHL_lt rfl⟩) rfl (ly_113_24 (srh.ly ly)) ?_
      refine V.iload_n dX12_comesAgain_67 rfl rfl ?_
      obtain ⟨b14, hf2⟩ := gdi_el hf
      replace hf := hf2
      clear hf2
      refine V.iaload dX12_comesAgain_68 rfl (Or.inl ⟨rfl, SHL_lt rfl⟩) b14 ?_
      refine V.icmp_eq (tgt := 75) dX12_comesAgain_69 (by decide) (fun c15 => ?_) (fun c15 => ?_)
      · replace hf := ite_p hf c15
        refine V.aload_n dX12_comesAgain_75 rfl rfl rfl ?_
        refine V.iload_n dX12_comesAgain_76 rfl rfl ?_
        refine V.putI dX12_comesAgain_77 fl_X12_315 rfl (Or.inl ⟨rfl, SHL_lt rfl⟩) rfl (fun q hq => by cases hq; rfl) ⟨rfl, rfl⟩ ?_
        refine V.nameH (fun g16 eg16 => ?_)
        replace hf := lt_el hf g16 eg16
        have srg16 : SR h0 g16 := by rw [eg16]; exact srh.I _ _ _
        refine V.aload_n dX12_comesAgain_80 rfl rfl rfl ?_
        refine V.iload_n dX12_comesAgain_81 rfl rfl ?_
        refine V.iload_n dX12_comesAgain_82 rfl rfl ?_
        refine V.isub dX12_comesAgain_83 ?_
        refine V.putI dX12_comesAgain_84 fl_X12_318 rfl (Or.inl ⟨rfl, SHL_lt rfl⟩) rfl (fun q hq => by cases hq; rfl) ⟨rfl, rfl⟩ ?_
        refine V.nameH (fun g17 eg17 => ?_)
        replace hf := lt_el hf g17 eg17
        have srg17 : SR h0 g17 := by rw [eg17]; exact srg16.I _ _ _
        refine V.iconst (v := 1) dX12_comesAgain_87 rfl ?_
        refine V.ireturn dX12_comesAgain_88 rfl rfl ⟨rfl, rfl⟩ ly.1 ?_
        exact ret_I hf srg17
      · replace hf := ite_n hf c15
        refine V.goto (tgt := 89) dX12_comesAgain_72 (by decide) ?_
        obtain ⟨x18, ex18⟩ : ∃ y : Int32, y = l2 + 1 := ⟨_, rfl⟩
        replace hf := lt_el hf x18 ex18
        refine V.iinc (v := x18) (ls' := [.ref 113, .int l1, .int x18]) dX12_comesAgain_89 rfl (by decide) ex18.symm rfl ?_
        refine V.goto (tgt := 52) dX12_comesAgain_92 (by decide) ?_
        exact ih l1 x18 h srh hf
set_option maxRecDepth 100000 in
theorem th_X12_comesAgain_18 {h0 : HP} (ly : Lay h0) {rr : Int32} {hh : HP}  : ∀ (n : Nat) (l1 : Int32) (h : HP), SR h0 h → f_X12_comesAgain_18 n l1 h = some (rr, hh) → V cX12_comesAgain miX12_comesAgain (ZI h0 miX12_comesAgain rr hh) 130 18 [.ref 113, .int l1, .null] [] h := by
  intro n
  induction n with
  | zero => intro l1 h srh hf; exact absurd hf (by unfold f_X12_comesAgain_18; simp)
  | succ n ih =>
    intro l1 h srh hf
    unfold f_X12_comesAgain_18 at hf
    refine V.iload_n dX12_comesAgain_18 rfl rfl ?_
    refine V.sipush (v := 2000) dX12_comesAgain_19 rfl ?_
    refine V.icmp_gt (tgt := 101) dX12_comesAgain_22 (by decide) (fun c4 => ?_) (fun c4 => ?_)
    · replace hf := ite_p hf c4
      refine V.iconst (v := 0) dX12_comesAgain_101 rfl ?_
      refine V.ireturn dX12_comesAgain_102 rfl rfl ⟨rfl, rfl⟩ ly.1 ?_
      exact ret_I hf srh
    · replace hf := ite_n hf c4
      refine V.aload_n dX12_comesAgain_25 rfl rfl rfl ?_
      refine V.getR (r := 123) dX12_comesAgain_26 fl_X12_50 rfl (Or.inl ⟨rfl, SHL_lt rfl⟩) rfl (ly_113_24 (srh.ly ly)) ?_
      refine V.iload_n dX12_comesAgain_29 rfl rfl ?_
      refine V.aload_n dX12_comesAgain_30 rfl rfl rfl ?_
      refine V.aload_n dX12_comesAgain_31 rfl rfl rfl ?_
      refine V.getR (r := 123) dX12_comesAgain_32 fl_X12_50 rfl (Or.inl ⟨rfl, SHL_lt rfl⟩) rfl (ly_113_24 (srh.ly ly)) ?_
      refine V.iload_n dX12_comesAgain_35 rfl rfl ?_
      refine V.iconst (v := 1) dX12_comesAgain_36 rfl ?_
      refine V.isub dX12_comesAgain_37 ?_
      obtain ⟨b5, hf2⟩ := gdi_el hf
      replace hf := hf2
      clear hf2
      refine V.iaload dX12_comesAgain_38 rfl (Or.inl ⟨rfl, SHL_lt rfl⟩) b5 ?_
      refine V.aload_n dX12_comesAgain_39 rfl rfl rfl ?_
      refine V.getR (r := 114) dX12_comesAgain_40 fl_X12_7 rfl (Or.inl ⟨rfl, SHL_lt rfl⟩) rfl (ly_113_0 (srh.ly ly)) ?_
      refine V.bipush (v := 10) dX12_comesAgain_43 rfl ?_
      refine V.iaload dX12_comesAgain_45 rfl (Or.inl ⟨rfl, SHL_lt rfl⟩) (vp_lit (by decide)) ?_
      rw [show Int32.toNatClampNeg 10 = 10 from rfl]
      obtain ⟨r8, h7, q6, hf2⟩ := bd2_el hf
      replace hf := hf2
      clear hf2
      refine V.callVI dX12_comesAgain_46 ml_X12_274 mo_X12_becomes mv_X12_becomes rfl (fun q hq => by cases hq; rfl) (by decide) (Or.inl ⟨rfl, SHL_lt rfl⟩) (th_X12_becomes (srh.ly ly) q6) rfl rfl ⟨Nat.le_of_ble_eq_true rfl, Nat.le_of_ble_eq_true rfl, fun _ => ⟨rfl, rfl⟩⟩ (Nat.le_of_ble_eq_true rfl) rfl (post_I (fun sq => ?_))
      have srh7 : SR h0 h7 := srh.trans sq
      clear sq q6
      obtain ⟨b9, hf2⟩ := gdi_el hf
      replace hf := hf2
      clear hf2
      refine V.iastore dX12_comesAgain_49 rfl (Or.inl ⟨rfl, SHL_lt rfl⟩) b9 ?_
      refine V.nameH (fun g10 eg10 => ?_)
      replace hf := lt_el hf g10 eg10
      have srg10 : SR h0 g10 := by rw [eg10]; exact srh7.I _ _ _
      refine V.iconst (v := 0) dX12_comesAgain_50 rfl ?_
      refine V.istore_n (ls' := [.ref 113, .int l1, .int 0]) dX12_comesAgain_51 rfl (by decide) rfl ?_
      exact th_X12_comesAgain_52 ly ih FU l1 0 g10 srg10 hf
set_option maxRecDepth 100000 in
theorem th_X12_comesAgain {h : HP} (ly : Lay h)  {rr : Int32} {hh : HP} (hf : f_X12_comesAgain h = some (rr, hh)) : Spec yX12_comesAgain cX12_comesAgain miX12_comesAgain [.ref 113] h (pI fun r' h' => (r' = rr ∧ h' = hh) ∧ SR h hh) := by
  refine Spec.of (ls0 := [.ref 113, .null, .null]) mo_X12_comesAgain (Nat.le_of_ble_eq_true rfl) rfl ?_
  rw [ly.1]
  have srh : SR h h := SR.refl h
  unfold f_X12_comesAgain at hf
  refine V.aload_n dX12_comesAgain_0 rfl rfl rfl ?_
  obtain ⟨h2, q1, hf2⟩ := bd_el hf
  replace hf := hf2
  clear hf2
  refine V.callVV dX12_comesAgain_1 ml_X12_271 mo_X12_laysNear mv_X12_laysNear rfl (fun q hq => by cases hq; rfl) (by decide) (Or.inl ⟨rfl, SHL_lt rfl⟩) (th_X12_laysNear (srh.ly ly) q1) rfl rfl ⟨Nat.le_of_ble_eq_true rfl, Nat.le_of_ble_eq_true rfl, fun _ => ⟨rfl, rfl⟩⟩ (Nat.le_of_ble_eq_true rfl) (Or.inl rfl) (post_V (fun sq => ?_))
  have srh2 : SR h h2 := srh.trans sq
  clear sq q1
  refine V.aload_n dX12_comesAgain_4 rfl rfl rfl ?_
  refine V.getR (r := 123) dX12_comesAgain_5 fl_X12_50 rfl (Or.inl ⟨rfl, SHL_lt rfl⟩) rfl (ly_113_24 (srh2.ly ly)) ?_
  refine V.iconst (v := 0) dX12_comesAgain_8 rfl ?_
  refine V.aload_n dX12_comesAgain_9 rfl rfl rfl ?_
  refine V.getR (r := 114) dX12_comesAgain_10 fl_X12_7 rfl (Or.inl ⟨rfl, SHL_lt rfl⟩) rfl (ly_113_0 (srh2.ly ly)) ?_
  refine V.iconst (v := 3) dX12_comesAgain_13 rfl ?_
  refine V.iaload dX12_comesAgain_14 rfl (Or.inl ⟨rfl, SHL_lt rfl⟩) (vp_lit (by decide)) ?_
  rw [show Int32.toNatClampNeg 3 = 3 from rfl]
  refine V.iastore dX12_comesAgain_15 rfl (Or.inl ⟨rfl, SHL_lt rfl⟩) (vp_lit (by decide)) ?_
  rw [show Int32.toNatClampNeg 0 = 0 from rfl]
  refine V.nameH (fun g3 eg3 => ?_)
  replace hf := lt_el hf g3 eg3
  have srg3 : SR h g3 := by rw [eg3]; exact srh2.I _ _ _
  refine V.iconst (v := 1) dX12_comesAgain_16 rfl ?_
  refine V.istore_n (ls' := [.ref 113, .int 1, .null]) dX12_comesAgain_17 rfl (by decide) rfl ?_
  exact th_X12_comesAgain_18 ly FU 1 g3 srg3 hf
set_option maxRecDepth 100000 in
theorem th_X12_again {h : HP} (ly : Lay h) {a1 : Int32} {rr : Int32} {hh : HP} (hf : f_X12_again h a1 = some (rr, hh)) : Spec yX12_again cX12_again miX12_again [.ref 113, .int a1] h (pI fun r' h' => (r' = rr ∧ h' = hh) ∧ SR h hh) := by
  refine Spec.of (ls0 := [.ref 113, .int a1]) mo_X12_again (Nat.le_of_ble_eq_true rfl) rfl ?_
  rw [ly.1]
  have srh : SR h h := SR.refl h
  unfold f_X12_again at hf
  refine V.iload_n dX12_again_0 rfl rfl ?_
  refine V.if_lt (tgt := 9) dX12_again_1 (by decide) (fun c1 => ?_) (fun c1 => ?_)
  · replace hf := ite_p hf c1
    refine V.aload_n dX12_again_9 rfl rfl rfl ?_
    refine V.iconst (v := 1) dX12_again_10 rfl ?_
    obtain ⟨r4, h3, q2, hf2⟩ := bd2_el hf
    replace hf := hf2
    clear hf2
    refine V.callVI dX12_again_11 ml_X12_81 mo_X12_refuse mv_X12_refuse rfl (fun q hq => by cases hq; rfl) (by decide) (Or.inl ⟨rfl, SHL_lt rfl⟩) (th_X12_refuse (srh.ly ly) q2) rfl rfl ⟨Nat.le_of_ble_eq_true rfl, Nat.le_of_ble_eq_true rfl, fun _ => ⟨rfl, rfl⟩⟩ (Nat.le_of_ble_eq_true rfl) rfl (post_I (fun sq => ?_))
    have srh3 : SR h h3 := srh.trans sq
    clear sq q2
    refine V.ireturn dX12_again_14 rfl rfl ⟨rfl, rfl⟩ ly.1 ?_
    exact ret_I hf srh3
  · replace hf := ite_n hf c1
    refine V.iload_n dX12_again_4 rfl rfl ?_
    refine V.iconst (v := 1) dX12_again_5 rfl ?_
    refine V.icmp_le (tgt := 15) dX12_again_6 (by decide) (fun c5 => ?_) (fun c5 => ?_)
    · replace hf := ite_p hf c5
      refine V.aload_n dX12_again_15 rfl rfl rfl ?_
      obtain ⟨r8, h7, q6, hf2⟩ := bd2_el hf
      replace hf := hf2
      clear hf2
      refine V.callVI dX12_again_16 ml_X12_321 mo_X12_comesAgain mv_X12_comesAgain rfl (fun q hq => by cases hq; rfl) (by decide) (Or.inl ⟨rfl, SHL_lt rfl⟩) (th_X12_comesAgain (srh.ly ly) q6) rfl rfl ⟨Nat.le_of_ble_eq_true rfl, Nat.le_of_ble_eq_true rfl, fun _ => ⟨rfl, rfl⟩⟩ (Nat.le_of_ble_eq_true rfl) rfl (post_I (fun sq => ?_))
      have srh7 : SR h h7 := srh.trans sq
      clear sq q6
      refine V.if_eq (tgt := 44) dX12_again_19 (by decide) (fun c9 => ?_) (fun c9 => ?_)
      · replace hf := ite_p hf c9
        refine V.aload_n dX12_again_44 rfl rfl rfl ?_
        refine V.bipush (v := 7) dX12_again_45 rfl ?_
        obtain ⟨r12, h11, q10, hf2⟩ := bd2_el hf
        replace hf := hf2
        clear hf2
        refine V.callVI dX12_again_47 ml_X12_81 mo_X12_refuse mv_X12_refuse rfl (fun q hq => by cases hq; rfl) (by decide) (Or.inl ⟨rfl, SHL_lt rfl⟩) (th_X12_refuse (srh7.ly ly) q10) rfl rfl ⟨Nat.le_of_ble_eq_true rfl, Nat.le_of_ble_eq_true rfl, fun _ => ⟨rfl, rfl⟩⟩ (Nat.le_of_ble_eq_true rfl) rfl (post_I (fun sq => ?_))
        have srh11 : SR h h11 := srh7.trans sq
        clear sq q10
        refine V.ireturn dX12_again_50 rfl rfl ⟨rfl, rfl⟩ ly.1 ?_
        exact ret_I hf srh11
      · replace hf := ite_n hf c9
        refine V.aload_n dX12_again_22 rfl rfl rfl ?_
        refine V.iload_n dX12_again_23 rfl rfl ?_
        refine V.if_ne (tgt := 34) dX12_again_24 (by decide) (fun c13 => ?_) (fun c13 => ?_)
        · replace hf := ite_n hf c13
          refine V.aload_n dX12_again_34 rfl rfl rfl ?_
          refine V.getI dX12_again_35 fl_X12_318 rfl (Or.inl ⟨rfl, SHL_lt rfl⟩) rfl rfl ?_
          obtain ⟨r16, h15, q14, hf2⟩ := bd2_el hf
          replace hf := hf2
          clear hf2
          refine V.callVI dX12_again_38 ml_X12_85 mo_X12_gives mv_X12_gives rfl (fun q hq => by cases hq; rfl) (by decide) (Or.inl ⟨rfl, SHL_lt rfl⟩) (th_X12_gives (srh7.ly ly) q14) rfl rfl ⟨Nat.le_of_ble_eq_true rfl, Nat.le_of_ble_eq_true rfl, fun _ => ⟨rfl, rfl⟩⟩ (Nat.le_of_ble_eq_true rfl) rfl (post_I (fun sq => ?_))
          have srh15 : SR h h15 := srh7.trans sq
          clear sq q14
          refine V.goto (tgt := 50) dX12_again_41 (by decide) ?_
          refine V.ireturn dX12_again_50 rfl rfl ⟨rfl, rfl⟩ ly.1 ?_
          exact ret_I hf srh15
        · replace hf := ite_p hf c13
          refine V.aload_n dX12_again_27 rfl rfl rfl ?_
          refine V.getI dX12_again_28 fl_X12_315 rfl (Or.inl ⟨rfl, SHL_lt rfl⟩) rfl rfl ?_
          refine V.goto (tgt := 38) dX12_again_31 (by decide) ?_
          obtain ⟨r19, h18, q17, hf2⟩ := bd2_el hf
          replace hf := hf2
          clear hf2
          refine V.callVI dX12_again_38 ml_X12_85 mo_X12_gives mv_X12_gives rfl (fun q hq => by cases hq; rfl) (by decide) (Or.inl ⟨rfl, SHL_lt rfl⟩) (th_X12_gives (srh7.ly ly) q17) rfl rfl ⟨Nat.le_of_ble_eq_true rfl, Nat.le_of_ble_eq_true rfl, fun _ => ⟨rfl, rfl⟩⟩ (Nat.le_of_ble_eq_true rfl) rfl (post_I (fun sq => ?_))
          have srh18 : SR h h18 := srh7.trans sq
          clear sq q17
          refine V.goto (tgt := 50) dX12_again_41 (by decide) ?_
          refine V.ireturn dX12_again_50 rfl rfl ⟨rfl, rfl⟩ ly.1 ?_
          exact ret_I hf srh18
    · replace hf := ite_n hf c5
      refine V.aload_n dX12_again_9 rfl rfl rfl ?_
      refine V.iconst (v := 1) dX12_again_10 rfl ?_
      obtain ⟨r22, h21, q20, hf2⟩ := bd2_el hf
      replace hf := hf2
      clear hf2
      refine V.callVI dX12_again_11 ml_X12_81 mo_X12_refuse mv_X12_refuse rfl (fun q hq => by cases hq; rfl) (by decide) (Or.inl ⟨rfl, SHL_lt rfl⟩) (th_X12_refuse (srh.ly ly) q20) rfl rfl ⟨Nat.le_of_ble_eq_true rfl, Nat.le_of_ble_eq_true rfl, fun _ => ⟨rfl, rfl⟩⟩ (Nat.le_of_ble_eq_true rfl) rfl (post_I (fun sq => ?_))
      have srh21 : SR h h21 := srh.trans sq
      clear sq q20
      refine V.ireturn dX12_again_14 rfl rfl ⟨rfl, rfl⟩ ly.1 ?_
      exact ret_I hf srh21
set_option maxRecDepth 100000 in
theorem th_X12_far {h : HP} (ly : Lay h) {a1 : Int32} {rr : Int64} {hh : HP} (hf : f_X12_far h a1 = some (rr, hh)) : Spec yX12_far cX12_far miX12_far [.ref 113, .int a1] h (pL fun r' h' => (r' = rr ∧ h' = hh) ∧ SR h hh) := by
  refine Spec.of (ls0 := [.ref 113, .int a1]) mo_X12_far (Nat.le_of_ble_eq_true rfl) rfl ?_
  rw [ly.1]
  have srh : SR h h := SR.refl h
  unfold f_X12_far at hf
  refine V.iload_n dX12_far_0 rfl rfl ?_
  refine V.i2l dX12_far_1 ?_
  refine V.lconst (v := 0) dX12_far_2 rfl ?_
  refine V.ldc2 (v := 999999999) dX12_far_3 kc_X12_324 ?_
  obtain ⟨r3, h2, q1, hf2⟩ := bd2_el hf
  replace hf := hf2
  clear hf2
  refine V.callSI dX12_far_6 ml_X12_295 mo_X12_isFrom ms_X12_isFrom (th_X12_isFrom (srh.ly ly) q1) rfl rfl ⟨Nat.le_of_ble_eq_true rfl, Nat.le_of_ble_eq_true rfl, fun _ => ⟨rfl, rfl⟩⟩ (Nat.le_of_ble_eq_true rfl) rfl (post_I (fun sq => ?_))
  have srh2 : SR h h2 := srh.trans sq
  clear sq q1
  refine V.if_ne (tgt := 19) dX12_far_9 (by decide) (fun c4 => ?_) (fun c4 => ?_)
  · replace hf := ite_n hf c4
    refine V.aload_n dX12_far_19 rfl rfl rfl ?_
    obtain ⟨r7, h6, q5, hf2⟩ := bd2_el hf
    replace hf := hf2
    clear hf2
    refine V.callVI dX12_far_20 ml_X12_321 mo_X12_comesAgain mv_X12_comesAgain rfl (fun q hq => by cases hq; rfl) (by decide) (Or.inl ⟨rfl, SHL_lt rfl⟩) (th_X12_comesAgain (srh2.ly ly) q5) rfl rfl ⟨Nat.le_of_ble_eq_true rfl, Nat.le_of_ble_eq_true rfl, fun _ => ⟨rfl, rfl⟩⟩ (Nat.le_of_ble_eq_true rfl) rfl (post_I (fun sq => ?_))
    have srh6 : SR h h6 := srh2.trans sq
    clear sq q5
    refine V.if_ne (tgt := 34) dX12_far_23 (by decide) (fun c8 => ?_) (fun c8 => ?_)
    · replace hf := ite_n hf c8
      refine V.aload_n dX12_far_34 rfl rfl rfl ?_
      refine V.aload_n dX12_far_35 rfl rfl rfl ?_
      refine V.getR (r := 123) dX12_far_36 fl_X12_50 rfl (Or.inl ⟨rfl, SHL_lt rfl⟩) rfl (ly_113_24 (srh6.ly ly)) ?_
      refine V.iload_n dX12_far_39 rfl rfl ?_
      refine V.aload_n dX12_far_40 rfl rfl rfl ?_
      refine V.getI dX12_far_41 fl_X12_315 rfl (Or.inl ⟨rfl, SHL_lt rfl⟩) rfl rfl ?_
      refine V.icmp_ge (tgt := 51) dX12_far_44 (by decide) (fun c9 => ?_) (fun c9 => ?_)
      · replace hf := ite_p hf c9
        refine V.aload_n dX12_far_51 rfl rfl rfl ?_
        refine V.getI dX12_far_52 fl_X12_315 rfl (Or.inl ⟨rfl, SHL_lt rfl⟩) rfl rfl ?_
        refine V.iload_n dX12_far_55 rfl rfl ?_
        refine V.aload_n dX12_far_56 rfl rfl rfl ?_
        refine V.getI dX12_far_57 fl_X12_315 rfl (Or.inl ⟨rfl, SHL_lt rfl⟩) rfl rfl ?_
        refine V.isub dX12_far_60 ?_
        refine V.aload_n dX12_far_61 rfl rfl rfl ?_
        refine V.getI dX12_far_62 fl_X12_318 rfl (Or.inl ⟨rfl, SHL_lt rfl⟩) rfl rfl ?_
        obtain ⟨b10, hf2⟩ := gd_el hf
        replace hf := hf2
        clear hf2
        refine V.irem dX12_far_65 b10 ?_
        refine V.iadd dX12_far_66 ?_
        obtain ⟨b11, hf2⟩ := gdi_el hf
        replace hf := hf2
        clear hf2
        refine V.iaload dX12_far_67 rfl (Or.inl ⟨rfl, SHL_lt rfl⟩) b11 ?_
        refine V.i2l dX12_far_68 ?_
        obtain ⟨r14, h13, q12, hf2⟩ := bd2_el hf
        replace hf := hf2
        clear hf2
        refine V.callVL dX12_far_69 ml_X12_280 mo_X12_givesLong mv_X12_givesLong rfl (fun q hq => by cases hq; rfl) (by decide) (Or.inl ⟨rfl, SHL_lt rfl⟩) (th_X12_givesLong (srh6.ly ly) q12) rfl rfl ⟨Nat.le_of_ble_eq_true rfl, Nat.le_of_ble_eq_true rfl, fun _ => ⟨rfl, rfl⟩⟩ (Nat.le_of_ble_eq_true rfl) rfl (post_L (fun sq => ?_))
        have srh13 : SR h h13 := srh6.trans sq
        clear sq q12
        refine V.lreturn dX12_far_72 rfl ⟨rfl, rfl⟩ ly.1 ?_
        exact ret_L hf srh13
      · replace hf := ite_n hf c9
        refine V.iload_n dX12_far_47 rfl rfl ?_
        refine V.goto (tgt := 67) dX12_far_48 (by decide) ?_
        obtain ⟨b15, hf2⟩ := gdi_el hf
        replace hf := hf2
        clear hf2
        refine V.iaload dX12_far_67 rfl (Or.inl ⟨rfl, SHL_lt rfl⟩) b15 ?_
        refine V.i2l dX12_far_68 ?_
        obtain ⟨r18, h17, q16, hf2⟩ := bd2_el hf
        replace hf := hf2
        clear hf2
        refine V.callVL dX12_far_69 ml_X12_280 mo_X12_givesLong mv_X12_givesLong rfl (fun q hq => by cases hq; rfl) (by decide) (Or.inl ⟨rfl, SHL_lt rfl⟩) (th_X12_givesLong (srh6.ly ly) q16) rfl rfl ⟨Nat.le_of_ble_eq_true rfl, Nat.le_of_ble_eq_true rfl, fun _ => ⟨rfl, rfl⟩⟩ (Nat.le_of_ble_eq_true rfl) rfl (post_L (fun sq => ?_))
        have srh17 : SR h h17 := srh6.trans sq
        clear sq q16
        refine V.lreturn dX12_far_72 rfl ⟨rfl, rfl⟩ ly.1 ?_
        exact ret_L hf srh17
    · replace hf := ite_p hf c8
      refine V.aload_n dX12_far_26 rfl rfl rfl ?_
      refine V.bipush (v := 7) dX12_far_27 rfl ?_
      obtain ⟨r21, h20, q19, hf2⟩ := bd2_el hf
      replace hf := hf2
      clear hf2
      refine V.callVI dX12_far_29 ml_X12_81 mo_X12_refuse mv_X12_refuse rfl (fun q hq => by cases hq; rfl) (by decide) (Or.inl ⟨rfl, SHL_lt rfl⟩) (th_X12_refuse (srh6.ly ly) q19) rfl rfl ⟨Nat.le_of_ble_eq_true rfl, Nat.le_of_ble_eq_true rfl, fun _ => ⟨rfl, rfl⟩⟩ (Nat.le_of_ble_eq_true rfl) rfl (post_I (fun sq => ?_))
      have srh20 : SR h h20 := srh6.trans sq
      clear sq q19
      refine V.i2l dX12_far_32 ?_
      refine V.lreturn dX12_far_33 rfl ⟨rfl, rfl⟩ ly.1 ?_
      exact ret_L hf srh20
  · replace hf := ite_p hf c4
    refine V.aload_n dX12_far_12 rfl rfl rfl ?_
    refine V.iconst (v := 1) dX12_far_13 rfl ?_
    obtain ⟨r24, h23, q22, hf2⟩ := bd2_el hf
    replace hf := hf2
    clear hf2
    refine V.callVI dX12_far_14 ml_X12_81 mo_X12_refuse mv_X12_refuse rfl (fun q hq => by cases hq; rfl) (by decide) (Or.inl ⟨rfl, SHL_lt rfl⟩) (th_X12_refuse (srh2.ly ly) q22) rfl rfl ⟨Nat.le_of_ble_eq_true rfl, Nat.le_of_ble_eq_true rfl, fun _ => ⟨rfl, rfl⟩⟩ (Nat.le_of_ble_eq_true rfl) rfl (post_I (fun sq => ?_))
    have srh23 : SR h h23 := srh2.trans sq
    clear sq q22
    refine V.i2l dX12_far_17 ?_
    refine V.lreturn dX12_far_18 rfl ⟨rfl, rfl⟩ ly.1 ?_
    exact ret_L hf srh23
set_option maxRecDepth 100000 in
theorem th_X12_moved_6 {h0 : HP} (ly : Lay h0) {rr : Int32} {hh : HP}  : ∀ (n : Nat) (l1 : Int32) (l2 : Int32) (l3 : Int32) (l4 : Int32) (l5 : Int32) (h : HP), SR h0 h → f_X12_moved_6 n l1 l2 l3 l4 l5 h = some (rr, hh) → V cX12_moved miX12_moved (ZI h0 miX12_moved rr hh) 130 6 [.ref 113, .int l1, .int l2, .int l3, .int l4, .int l5, .null, .null] [] h := by
  intro n
  induction n with
  | zero => intro l1 l2 l3 l4 l5 h srh hf; exact absurd hf (by unfold f_X12_moved_6; simp)
  | succ n ih =>
    intro l1 l2 l3 l4 l5 h srh hf
    unfold f_X12_moved_6 at hf
    refine V.iload dX12_moved_6 rfl ?_
    refine V.aload_n dX12_moved_8 rfl rfl rfl ?_
    obtain ⟨r3, h2, q1, hf2⟩ := bd2_el hf
    replace hf := hf2
    clear hf2
    refine V.callVI dX12_moved_9 ml_X12_262 mo_X12_places mv_X12_places rfl (fun q hq => by cases hq; rfl) (by decide) (Or.inl ⟨rfl, SHL_lt rfl⟩) (th_X12_places (srh.ly ly) q1) rfl rfl ⟨Nat.le_of_ble_eq_true rfl, Nat.le_of_ble_eq_true rfl, fun _ => ⟨rfl, rfl⟩⟩ (Nat.le_of_ble_eq_true rfl) rfl (post_I (fun sq => ?_))
    have srh2 : SR h0 h2 := srh.trans sq
    clear sq q1
    refine V.icmp_ge (tgt := 85) dX12_moved_12 (by decide) (fun c4 => ?_) (fun c4 => ?_)
    · replace hf := ite_p hf c4
      refine V.iload dX12_moved_85 rfl ?_
      refine V.ireturn dX12_moved_87 rfl rfl ⟨rfl, rfl⟩ ly.1 ?_
      exact ret_I hf srh2
    · replace hf := ite_n hf c4
      refine V.iload_n dX12_moved_15 rfl rfl ?_
      refine V.iload dX12_moved_16 rfl ?_
      refine V.ishr dX12_moved_18 ?_
      refine V.iconst (v := 1) dX12_moved_19 rfl ?_
      refine V.iand dX12_moved_20 ?_
      refine V.if_ne (tgt := 27) dX12_moved_21 (by decide) (fun c5 => ?_) (fun c5 => ?_)
      · replace hf := ite_n hf c5
        refine V.iload dX12_moved_27 rfl ?_
        refine V.aload_n dX12_moved_29 rfl rfl rfl ?_
        refine V.getR (r := 114) dX12_moved_30 fl_X12_7 rfl (Or.inl ⟨rfl, SHL_lt rfl⟩) rfl (ly_113_0 (srh2.ly ly)) ?_
        refine V.iconst (v := 0) dX12_moved_33 rfl ?_
        refine V.iaload dX12_moved_34 rfl (Or.inl ⟨rfl, SHL_lt rfl⟩) (vp_lit (by decide)) ?_
        rw [show Int32.toNatClampNeg 0 = 0 from rfl]
        obtain ⟨b6, hf2⟩ := gd_el hf
        replace hf := hf2
        clear hf2
        refine V.irem dX12_moved_35 b6 ?_
        refine V.iload_n dX12_moved_36 rfl rfl ?_
        refine V.iadd dX12_moved_37 ?_
        refine V.nmi (fun x7 ex7 => ?_)
        replace hf := lt_el hf x7 ex7
        refine V.istore (ls' := [.ref 113, .int l1, .int l2, .int l3, .int l4, .int l5, .int x7, .null]) dX12_moved_38 (by decide) rfl ?_
        refine V.iload dX12_moved_40 rfl ?_
        refine V.aload_n dX12_moved_42 rfl rfl rfl ?_
        refine V.getR (r := 114) dX12_moved_43 fl_X12_7 rfl (Or.inl ⟨rfl, SHL_lt rfl⟩) rfl (ly_113_0 (srh2.ly ly)) ?_
        refine V.iconst (v := 0) dX12_moved_46 rfl ?_
        refine V.iaload dX12_moved_47 rfl (Or.inl ⟨rfl, SHL_lt rfl⟩) (vp_lit (by decide)) ?_
        rw [show Int32.toNatClampNeg 0 = 0 from rfl]
        obtain ⟨b8, hf2⟩ := gd_el hf
        replace hf := hf2
        clear hf2
        refine V.idiv dX12_moved_48 b8 ?_
        refine V.iload_n dX12_moved_49 rfl rfl ?_
        refine V.iadd dX12_moved_50 ?_
        refine V.nmi (fun x9 ex9 => ?_)
        replace hf := lt_el hf x9 ex9
        refine V.istore (ls' := [.ref 113, .int l1, .int l2, .int l3, .int l4, .int l5, .int x7, .int x9]) dX12_moved_51 (by decide) rfl ?_
        refine V.aload_n dX12_moved_53 rfl rfl rfl ?_
        refine V.iload dX12_moved_54 rfl ?_
        refine V.iload dX12_moved_56 rfl ?_
        obtain ⟨r12, h11, q10, hf2⟩ := bd2_el hf
        replace hf := hf2
        clear hf2
        refine V.callVI dX12_moved_58 ml_X12_253 mo_X12_isPlace mv_X12_isPlace rfl (fun q hq => by cases hq; rfl) (by decide) (Or.inl ⟨rfl, SHL_lt rfl⟩) (th_X12_isPlace (srh2.ly ly) q10) rfl rfl ⟨Nat.le_of_ble_eq_true rfl, Nat.le_of_ble_eq_true rfl, fun _ => ⟨rfl, rfl⟩⟩ (Nat.le_of_ble_eq_true rfl) rfl (post_I (fun sq => ?_))
        have srh11 : SR h0 h11 := srh2.trans sq
        clear sq q10
        refine V.if_ne (tgt := 66) dX12_moved_61 (by decide) (fun c13 => ?_) (fun c13 => ?_)
        · replace hf := ite_n hf c13
          refine V.iload dX12_moved_66 rfl ?_
          refine V.aload_n dX12_moved_68 rfl rfl rfl ?_
          refine V.iload dX12_moved_69 rfl ?_
          refine V.iload dX12_moved_71 rfl ?_
          obtain ⟨r16, h15, q14, hf2⟩ := bd2_el hf
          replace hf := hf2
          clear hf2
          refine V.callVI dX12_moved_73 ml_X12_256 mo_X12_bitOf mv_X12_bitOf rfl (fun q hq => by cases hq; rfl) (by decide) (Or.inl ⟨rfl, SHL_lt rfl⟩) (th_X12_bitOf (srh11.ly ly) q14) rfl rfl ⟨Nat.le_of_ble_eq_true rfl, Nat.le_of_ble_eq_true rfl, fun _ => ⟨rfl, rfl⟩⟩ (Nat.le_of_ble_eq_true rfl) rfl (post_I (fun sq => ?_))
          have srh15 : SR h0 h15 := srh11.trans sq
          clear sq q14
          refine V.ior dX12_moved_76 ?_
          refine V.nmi (fun x17 ex17 => ?_)
          replace hf := lt_el hf x17 ex17
          refine V.istore (ls' := [.ref 113, .int l1, .int l2, .int l3, .int x17, .int l5, .int x7, .int x9]) dX12_moved_77 (by decide) rfl ?_
          obtain ⟨x18, ex18⟩ : ∃ y : Int32, y = l5 + 1 := ⟨_, rfl⟩
          replace hf := lt_el hf x18 ex18
          refine V.iinc (v := x18) (ls' := [.ref 113, .int l1, .int l2, .int l3, .int x17, .int x18, .int x7, .int x9]) dX12_moved_79 rfl (by decide) ex18.symm rfl ?_
          refine V.goto (tgt := 6) dX12_moved_82 (by decide) ?_
          refine V.less (ls' := [.ref 113, .int l1, .int l2, .int l3, .int x17, .int x18, .null, .null]) ⟨Or.inr rfl, Or.inr rfl, Or.inr rfl, Or.inr rfl, Or.inr rfl, Or.inr rfl, Or.inl rfl, Or.inl rfl, trivial⟩ ?_
          exact ih l1 l2 l3 x17 x18 h15 srh15 hf
        · replace hf := ite_p hf c13
          refine V.iconst (v := (-1)) dX12_moved_64 rfl ?_
          refine V.ireturn dX12_moved_65 rfl rfl ⟨rfl, rfl⟩ ly.1 ?_
          exact ret_I hf srh11
      · replace hf := ite_p hf c5
        refine V.goto (tgt := 79) dX12_moved_24 (by decide) ?_
        obtain ⟨x19, ex19⟩ : ∃ y : Int32, y = l5 + 1 := ⟨_, rfl⟩
        replace hf := lt_el hf x19 ex19
        refine V.iinc (v := x19) (ls' := [.ref 113, .int l1, .int l2, .int l3, .int l4, .int x19, .null, .null]) dX12_moved_79 rfl (by decide) ex19.symm rfl ?_
        refine V.goto (tgt := 6) dX12_moved_82 (by decide) ?_
        exact ih l1 l2 l3 l4 x19 h2 srh2 hf
set_option maxRecDepth 100000 in
theorem th_X12_moved {h : HP} (ly : Lay h) {a1 : Int32} {a2 : Int32} {a3 : Int32} {rr : Int32} {hh : HP} (hf : f_X12_moved h a1 a2 a3 = some (rr, hh)) : Spec yX12_moved cX12_moved miX12_moved [.ref 113, .int a1, .int a2, .int a3] h (pI fun r' h' => (r' = rr ∧ h' = hh) ∧ SR h hh) := by
  refine Spec.of (ls0 := [.ref 113, .int a1, .int a2, .int a3, .null, .null, .null, .null]) mo_X12_moved (Nat.le_of_ble_eq_true rfl) rfl ?_
  rw [ly.1]
  have srh : SR h h := SR.refl h
  unfold f_X12_moved at hf
  refine V.iconst (v := 0) dX12_moved_0 rfl ?_
  refine V.istore (ls' := [.ref 113, .int a1, .int a2, .int a3, .int 0, .null, .null, .null]) dX12_moved_1 (by decide) rfl ?_
  refine V.iconst (v := 0) dX12_moved_3 rfl ?_
  refine V.istore (ls' := [.ref 113, .int a1, .int a2, .int a3, .int 0, .int 0, .null, .null]) dX12_moved_4 (by decide) rfl ?_
  exact th_X12_moved_6 ly FU a1 a2 a3 0 0 h srh hf
set_option maxRecDepth 100000 in
theorem th_X12_walks_77 {h0 : HP} (ly : Lay h0) {rr : Int32} {hh : HP} {K67 : Int32 → Int32 → Int32 → Int32 → HP → Option (Int32 × HP)} (kok67 : ∀ (l1 : Int32) (l2 : Int32) (l3 : Int32) (l4 : Int32) (g : HP), SR h0 g → K67 l1 l2 l3 l4 g = some (rr, hh) → V cX12_walks miX12_walks (ZI h0 miX12_walks rr hh) 130 67 [.ref 113, .int l1, .int l2, .int l3, .int l4, .null] [] g) : ∀ (n : Nat) (l1 : Int32) (l2 : Int32) (l3 : Int32) (l4 : Int32) (l5 : Int32) (h : HP), SR h0 h → f_X12_walks_77 K67 n l1 l2 l3 l4 l5 h = some (rr, hh) → V cX12_walks miX12_walks (ZI h0 miX12_walks rr hh) 130 77 [.ref 113, .int l1, .int l2, .int l3, .int l4, .int l5] [] h := by
  intro n
  induction n with
  | zero => intro l1 l2 l3 l4 l5 h srh hf; exact absurd hf (by unfold f_X12_walks_77; simp)
  | succ n ih =>
    intro l1 l2 l3 l4 l5 h srh hf
    unfold f_X12_walks_77 at hf
    refine V.iload dX12_walks_77 rfl ?_
    refine V.iconst (v := 4) dX12_walks_79 rfl ?_
    refine V.icmp_gt (tgt := 132) dX12_walks_80 (by decide) (fun c25 => ?_) (fun c25 => ?_)
    · replace hf := ite_p hf c25
      obtain ⟨x26, ex26⟩ : ∃ y : Int32, y = l4 + 1 := ⟨_, rfl⟩
      replace hf := lt_el hf x26 ex26
      refine V.iinc (v := x26) (ls' := [.ref 113, .int l1, .int l2, .int l3, .int x26, .int l5]) dX12_walks_132 rfl (by decide) ex26.symm rfl ?_
      refine V.goto (tgt := 67) dX12_walks_135 (by decide) ?_
      refine V.less (ls' := [.ref 113, .int l1, .int l2, .int l3, .int x26, .null]) ⟨Or.inr rfl, Or.inr rfl, Or.inr rfl, Or.inr rfl, Or.inr rfl, Or.inl rfl, trivial⟩ ?_
      exact kok67 l1 l2 l3 x26 h srh hf
    · replace hf := ite_n hf c25
      refine V.aload_n dX12_walks_83 rfl rfl rfl ?_
      refine V.aload_n dX12_walks_84 rfl rfl rfl ?_
      refine V.getR (r := 114) dX12_walks_85 fl_X12_7 rfl (Or.inl ⟨rfl, SHL_lt rfl⟩) rfl (ly_113_0 (srh.ly ly)) ?_
      refine V.iconst (v := 3) dX12_walks_88 rfl ?_
      refine V.iaload dX12_walks_89 rfl (Or.inl ⟨rfl, SHL_lt rfl⟩) (vp_lit (by decide)) ?_
      rw [show Int32.toNatClampNeg 3 = 3 from rfl]
      refine V.iload dX12_walks_90 rfl ?_
      refine V.iload dX12_walks_92 rfl ?_
      obtain ⟨r29, h28, q27, hf2⟩ := bd2_el hf
      replace hf := hf2
      clear hf2
      refine V.callVI dX12_walks_94 ml_X12_326 mo_X12_moved mv_X12_moved rfl (fun q hq => by cases hq; rfl) (by decide) (Or.inl ⟨rfl, SHL_lt rfl⟩) (th_X12_moved (srh.ly ly) q27) rfl rfl ⟨Nat.le_of_ble_eq_true rfl, Nat.le_of_ble_eq_true rfl, fun _ => ⟨rfl, rfl⟩⟩ (Nat.le_of_ble_eq_true rfl) rfl (post_I (fun sq => ?_))
      have srh28 : SR h0 h28 := srh.trans sq
      clear sq q27
      refine V.iload_n dX12_walks_97 rfl rfl ?_
      refine V.icmp_ne (tgt := 126) dX12_walks_98 (by decide) (fun c30 => ?_) (fun c30 => ?_)
      · replace hf := ite_n hf c30
        obtain ⟨x31, ex31⟩ : ∃ y : Int32, y = l5 + 1 := ⟨_, rfl⟩
        replace hf := lt_el hf x31 ex31
        refine V.iinc (v := x31) (ls' := [.ref 113, .int l1, .int l2, .int l3, .int l4, .int x31]) dX12_walks_126 rfl (by decide) ex31.symm rfl ?_
        refine V.goto (tgt := 77) dX12_walks_129 (by decide) ?_
        exact ih l1 l2 l3 l4 x31 h28 srh28 hf
      · replace hf := ite_p hf c30
        refine V.aload_n dX12_walks_101 rfl rfl rfl ?_
        refine V.iload_n dX12_walks_102 rfl rfl ?_
        refine V.if_ne (tgt := 110) dX12_walks_103 (by decide) (fun c32 => ?_) (fun c32 => ?_)
        · replace hf := ite_n hf c32
          refine V.iload_n dX12_walks_110 rfl rfl ?_
          refine V.iconst (v := 1) dX12_walks_111 rfl ?_
          refine V.icmp_ne (tgt := 120) dX12_walks_112 (by decide) (fun c33 => ?_) (fun c33 => ?_)
          · replace hf := ite_n hf c33
            refine V.iload dX12_walks_120 rfl ?_
            obtain ⟨r36, h35, q34, hf2⟩ := bd2_el hf
            replace hf := hf2
            clear hf2
            refine V.callVI dX12_walks_122 ml_X12_85 mo_X12_gives mv_X12_gives rfl (fun q hq => by cases hq; rfl) (by decide) (Or.inl ⟨rfl, SHL_lt rfl⟩) (th_X12_gives (srh28.ly ly) q34) rfl rfl ⟨Nat.le_of_ble_eq_true rfl, Nat.le_of_ble_eq_true rfl, fun _ => ⟨rfl, rfl⟩⟩ (Nat.le_of_ble_eq_true rfl) rfl (post_I (fun sq => ?_))
            have srh35 : SR h0 h35 := srh28.trans sq
            clear sq q34
            refine V.ireturn dX12_walks_125 rfl rfl ⟨rfl, rfl⟩ ly.1 ?_
            exact ret_I hf srh35
          · replace hf := ite_p hf c33
            refine V.iload dX12_walks_115 rfl ?_
            refine V.goto (tgt := 122) dX12_walks_117 (by decide) ?_
            obtain ⟨r39, h38, q37, hf2⟩ := bd2_el hf
            replace hf := hf2
            clear hf2
            refine V.callVI dX12_walks_122 ml_X12_85 mo_X12_gives mv_X12_gives rfl (fun q hq => by cases hq; rfl) (by decide) (Or.inl ⟨rfl, SHL_lt rfl⟩) (th_X12_gives (srh28.ly ly) q37) rfl rfl ⟨Nat.le_of_ble_eq_true rfl, Nat.le_of_ble_eq_true rfl, fun _ => ⟨rfl, rfl⟩⟩ (Nat.le_of_ble_eq_true rfl) rfl (post_I (fun sq => ?_))
            have srh38 : SR h0 h38 := srh28.trans sq
            clear sq q37
            refine V.ireturn dX12_walks_125 rfl rfl ⟨rfl, rfl⟩ ly.1 ?_
            exact ret_I hf srh38
        · replace hf := ite_p hf c32
          refine V.iload_n dX12_walks_106 rfl rfl ?_
          refine V.goto (tgt := 122) dX12_walks_107 (by decide) ?_
          obtain ⟨r42, h41, q40, hf2⟩ := bd2_el hf
          replace hf := hf2
          clear hf2
          refine V.callVI dX12_walks_122 ml_X12_85 mo_X12_gives mv_X12_gives rfl (fun q hq => by cases hq; rfl) (by decide) (Or.inl ⟨rfl, SHL_lt rfl⟩) (th_X12_gives (srh28.ly ly) q40) rfl rfl ⟨Nat.le_of_ble_eq_true rfl, Nat.le_of_ble_eq_true rfl, fun _ => ⟨rfl, rfl⟩⟩ (Nat.le_of_ble_eq_true rfl) rfl (post_I (fun sq => ?_))
          have srh41 : SR h0 h41 := srh28.trans sq
          clear sq q40
          refine V.ireturn dX12_walks_125 rfl rfl ⟨rfl, rfl⟩ ly.1 ?_
          exact ret_I hf srh41
set_option maxRecDepth 100000 in
theorem th_X12_walks_67 {h0 : HP} (ly : Lay h0) {rr : Int32} {hh : HP} {K44 : Int32 → Int32 → Int32 → HP → Option (Int32 × HP)} (kok44 : ∀ (l1 : Int32) (l2 : Int32) (l3 : Int32) (g : HP), SR h0 g → K44 l1 l2 l3 g = some (rr, hh) → V cX12_walks miX12_walks (ZI h0 miX12_walks rr hh) 130 44 [.ref 113, .int l1, .int l2, .int l3, .null, .null] [] g) : ∀ (n : Nat) (l1 : Int32) (l2 : Int32) (l3 : Int32) (l4 : Int32) (h : HP), SR h0 h → f_X12_walks_67 K44 n l1 l2 l3 l4 h = some (rr, hh) → V cX12_walks miX12_walks (ZI h0 miX12_walks rr hh) 130 67 [.ref 113, .int l1, .int l2, .int l3, .int l4, .null] [] h := by
  intro n
  induction n with
  | zero => intro l1 l2 l3 l4 h srh hf; exact absurd hf (by unfold f_X12_walks_67; simp)
  | succ n ih =>
    intro l1 l2 l3 l4 h srh hf
    unfold f_X12_walks_67 at hf
    refine V.iload dX12_walks_67 rfl ?_
    refine V.iconst (v := 5) dX12_walks_69 rfl ?_
    refine V.icmp_gt (tgt := 138) dX12_walks_70 (by decide) (fun c23 => ?_) (fun c23 => ?_)
    · replace hf := ite_p hf c23
      obtain ⟨x24, ex24⟩ : ∃ y : Int32, y = l3 + 1 := ⟨_, rfl⟩
      replace hf := lt_el hf x24 ex24
      refine V.iinc (v := x24) (ls' := [.ref 113, .int l1, .int l2, .int x24, .int l4, .null]) dX12_walks_138 rfl (by decide) ex24.symm rfl ?_
      refine V.goto (tgt := 44) dX12_walks_141 (by decide) ?_
      refine V.less (ls' := [.ref 113, .int l1, .int l2, .int x24, .null, .null]) ⟨Or.inr rfl, Or.inr rfl, Or.inr rfl, Or.inr rfl, Or.inl rfl, Or.inl rfl, trivial⟩ ?_
      exact kok44 l1 l2 x24 h srh hf
    · replace hf := ite_n hf c23
      refine V.bipush (v := (-4)) dX12_walks_73 rfl ?_
      refine V.istore (ls' := [.ref 113, .int l1, .int l2, .int l3, .int l4, .int ((-4))]) dX12_walks_75 (by decide) rfl ?_
      exact th_X12_walks_77 ly ih FU l1 l2 l3 l4 (-4) h srh hf
set_option maxRecDepth 100000 in
theorem th_X12_walks_44 {h0 : HP} (ly : Lay h0) {rr : Int32} {hh : HP}  : ∀ (n : Nat) (l1 : Int32) (l2 : Int32) (l3 : Int32) (h : HP), SR h0 h → f_X12_walks_44 n l1 l2 l3 h = some (rr, hh) → V cX12_walks miX12_walks (ZI h0 miX12_walks rr hh) 130 44 [.ref 113, .int l1, .int l2, .int l3, .null, .null] [] h := by
  intro n
  induction n with
  | zero => intro l1 l2 l3 h srh hf; exact absurd hf (by unfold f_X12_walks_44; simp)
  | succ n ih =>
    intro l1 l2 l3 h srh hf
    unfold f_X12_walks_44 at hf
    refine V.iload_n dX12_walks_44 rfl rfl ?_
    refine V.bipush (v := 60) dX12_walks_45 rfl ?_
    refine V.icmp_gt (tgt := 144) dX12_walks_47 (by decide) (fun c16 => ?_) (fun c16 => ?_)
    · replace hf := ite_p hf c16
      refine V.aload_n dX12_walks_144 rfl rfl rfl ?_
      refine V.bipush (v := 6) dX12_walks_145 rfl ?_
      obtain ⟨r19, h18, q17, hf2⟩ := bd2_el hf
      replace hf := hf2
      clear hf2
      refine V.callVI dX12_walks_147 ml_X12_81 mo_X12_refuse mv_X12_refuse rfl (fun q hq => by cases hq; rfl) (by decide) (Or.inl ⟨rfl, SHL_lt rfl⟩) (th_X12_refuse (srh.ly ly) q17) rfl rfl ⟨Nat.le_of_ble_eq_true rfl, Nat.le_of_ble_eq_true rfl, fun _ => ⟨rfl, rfl⟩⟩ (Nat.le_of_ble_eq_true rfl) rfl (post_I (fun sq => ?_))
      have srh18 : SR h0 h18 := srh.trans sq
      clear sq q17
      refine V.ireturn dX12_walks_150 rfl rfl ⟨rfl, rfl⟩ ly.1 ?_
      exact ret_I hf srh18
    · replace hf := ite_n hf c16
      refine V.aload_n dX12_walks_50 rfl rfl rfl ?_
      refine V.iload_n dX12_walks_51 rfl rfl ?_
      refine V.aload_n dX12_walks_52 rfl rfl rfl ?_
      refine V.getR (r := 114) dX12_walks_53 fl_X12_7 rfl (Or.inl ⟨rfl, SHL_lt rfl⟩) rfl (ly_113_0 (srh.ly ly)) ?_
      refine V.bipush (v := 10) dX12_walks_56 rfl ?_
      refine V.iaload dX12_walks_58 rfl (Or.inl ⟨rfl, SHL_lt rfl⟩) (vp_lit (by decide)) ?_
      rw [show Int32.toNatClampNeg 10 = 10 from rfl]
      obtain ⟨r22, h21, q20, hf2⟩ := bd2_el hf
      replace hf := hf2
      clear hf2
      refine V.callVI dX12_walks_59 ml_X12_274 mo_X12_becomes mv_X12_becomes rfl (fun q hq => by cases hq; rfl) (by decide) (Or.inl ⟨rfl, SHL_lt rfl⟩) (th_X12_becomes (srh.ly ly) q20) rfl rfl ⟨Nat.le_of_ble_eq_true rfl, Nat.le_of_ble_eq_true rfl, fun _ => ⟨rfl, rfl⟩⟩ (Nat.le_of_ble_eq_true rfl) rfl (post_I (fun sq => ?_))
      have srh21 : SR h0 h21 := srh.trans sq
      clear sq q20
      refine V.istore_n (ls' := [.ref 113, .int l1, .int r22, .int l3, .null, .null]) dX12_walks_62 rfl (by decide) rfl ?_
      refine V.bipush (v := (-5)) dX12_walks_63 rfl ?_
      refine V.istore (ls' := [.ref 113, .int l1, .int r22, .int l3, .int ((-5)), .null]) dX12_walks_65 (by decide) rfl ?_
      exact th_X12_walks_67 ly ih FU l1 r22 l3 (-5) h21 srh21 hf
set_option maxRecDepth 100000 in
theorem th_X12_walks {h : HP} (ly : Lay h) {a1 : Int32} {rr : Int32} {hh : HP} (hf : f_X12_walks h a1 = some (rr, hh)) : Spec yX12_walks cX12_walks miX12_walks [.ref 113, .int a1] h (pI fun r' h' => (r' = rr ∧ h' = hh) ∧ SR h hh) := by
  refine Spec.of (ls0 := [.ref 113, .int a1, .null, .null, .null, .null]) mo_X12_walks (Nat.le_of_ble_eq_true rfl) rfl ?_
  rw [ly.1]
  have srh : SR h h := SR.refl h
  unfold f_X12_walks at hf
  refine V.iload_n dX12_walks_0 rfl rfl ?_
  refine V.if_lt (tgt := 9) dX12_walks_1 (by decide) (fun c1 => ?_) (fun c1 => ?_)
  · replace hf := ite_p hf c1
    refine V.aload_n dX12_walks_9 rfl rfl rfl ?_
    refine V.iconst (v := 1) dX12_walks_10 rfl ?_
    obtain ⟨r4, h3, q2, hf2⟩ := bd2_el hf
    replace hf := hf2
    clear hf2
    refine V.callVI dX12_walks_11 ml_X12_81 mo_X12_refuse mv_X12_refuse rfl (fun q hq => by cases hq; rfl) (by decide) (Or.inl ⟨rfl, SHL_lt rfl⟩) (th_X12_refuse (srh.ly ly) q2) rfl rfl ⟨Nat.le_of_ble_eq_true rfl, Nat.le_of_ble_eq_true rfl, fun _ => ⟨rfl, rfl⟩⟩ (Nat.le_of_ble_eq_true rfl) rfl (post_I (fun sq => ?_))
    have srh3 : SR h h3 := srh.trans sq
    clear sq q2
    refine V.ireturn dX12_walks_14 rfl rfl ⟨rfl, rfl⟩ ly.1 ?_
    exact ret_I hf srh3
  · replace hf := ite_n hf c1
    refine V.iload_n dX12_walks_4 rfl rfl ?_
    refine V.iconst (v := 2) dX12_walks_5 rfl ?_
    refine V.icmp_le (tgt := 15) dX12_walks_6 (by decide) (fun c5 => ?_) (fun c5 => ?_)
    · replace hf := ite_p hf c5
      refine V.aload_n dX12_walks_15 rfl rfl rfl ?_
      refine V.getR (r := 114) dX12_walks_16 fl_X12_7 rfl (Or.inl ⟨rfl, SHL_lt rfl⟩) rfl (ly_113_0 (srh.ly ly)) ?_
      refine V.iconst (v := 3) dX12_walks_19 rfl ?_
      refine V.iaload dX12_walks_20 rfl (Or.inl ⟨rfl, SHL_lt rfl⟩) (vp_lit (by decide)) ?_
      rw [show Int32.toNatClampNeg 3 = 3 from rfl]
      refine V.if_ne (tgt := 31) dX12_walks_21 (by decide) (fun c6 => ?_) (fun c6 => ?_)
      · replace hf := ite_n hf c6
        refine V.aload_n dX12_walks_31 rfl rfl rfl ?_
        obtain ⟨h8, q7, hf2⟩ := bd_el hf
        replace hf := hf2
        clear hf2
        refine V.callVV dX12_walks_32 ml_X12_271 mo_X12_laysNear mv_X12_laysNear rfl (fun q hq => by cases hq; rfl) (by decide) (Or.inl ⟨rfl, SHL_lt rfl⟩) (th_X12_laysNear (srh.ly ly) q7) rfl rfl ⟨Nat.le_of_ble_eq_true rfl, Nat.le_of_ble_eq_true rfl, fun _ => ⟨rfl, rfl⟩⟩ (Nat.le_of_ble_eq_true rfl) (Or.inl rfl) (post_V (fun sq => ?_))
        have srh8 : SR h h8 := srh.trans sq
        clear sq q7
        refine V.aload_n dX12_walks_35 rfl rfl rfl ?_
        refine V.getR (r := 114) dX12_walks_36 fl_X12_7 rfl (Or.inl ⟨rfl, SHL_lt rfl⟩) rfl (ly_113_0 (srh8.ly ly)) ?_
        refine V.iconst (v := 3) dX12_walks_39 rfl ?_
        refine V.iaload dX12_walks_40 rfl (Or.inl ⟨rfl, SHL_lt rfl⟩) (vp_lit (by decide)) ?_
        rw [show Int32.toNatClampNeg 3 = 3 from rfl]
        refine V.nmi (fun x9 ex9 => ?_)
        replace hf := lt_el hf x9 ex9
        refine V.istore_n (ls' := [.ref 113, .int a1, .int x9, .null, .null, .null]) dX12_walks_41 rfl (by decide) rfl ?_
        refine V.iconst (v := 1) dX12_walks_42 rfl ?_
        refine V.istore_n (ls' := [.ref 113, .int a1, .int x9, .int 1, .null, .null]) dX12_walks_43 rfl (by decide) rfl ?_
        exact th_X12_walks_44 ly FU a1 x9 1 h8 srh8 hf
      · replace hf := ite_p hf c6
        refine V.aload_n dX12_walks_24 rfl rfl rfl ?_
        refine V.bipush (v := 6) dX12_walks_25 rfl ?_
        obtain ⟨r12, h11, q10, hf2⟩ := bd2_el hf
        replace hf := hf2
        clear hf2
        refine V.callVI dX12_walks_27 ml_X12_81 mo_X12_refuse mv_X12_refuse rfl (fun q hq => by cases hq; rfl) (by decide) (Or.inl ⟨rfl, SHL_lt rfl⟩) (th_X12_refuse (srh.ly ly) q10) rfl rfl ⟨Nat.le_of_ble_eq_true rfl, Nat.le_of_ble_eq_true rfl, fun _ => ⟨rfl, rfl⟩⟩ (Nat.le_of_ble_eq_true rfl) rfl (post_I (fun sq => ?_))
        have srh11 : SR h h11 := srh.trans sq
        clear sq q10
        refine V.ireturn dX12_walks_30 rfl rfl ⟨rfl, rfl⟩ ly.1 ?_
        exact ret_I hf srh11
    · replace hf := ite_n hf c5
      refine V.aload_n dX12_walks_9 rfl rfl rfl ?_
      refine V.iconst (v := 1) dX12_walks_10 rfl ?_
      obtain ⟨r15, h14, q13, hf2⟩ := bd2_el hf
      replace hf := hf2
      clear hf2
      refine V.callVI dX12_walks_11 ml_X12_81 mo_X12_refuse mv_X12_refuse rfl (fun q hq => by cases hq; rfl) (by decide) (Or.inl ⟨rfl, SHL_lt rfl⟩) (th_X12_refuse (srh.ly ly) q13) rfl rfl ⟨Nat.le_of_ble_eq_true rfl, Nat.le_of_ble_eq_true rfl, fun _ => ⟨rfl, rfl⟩⟩ (Nat.le_of_ble_eq_true rfl) rfl (post_I (fun sq => ?_))
      have srh14 : SR h h14 := srh.trans sq
      clear sq q13
      refine V.ireturn dX12_walks_14 rfl rfl ⟨rfl, rfl⟩ ly.1 ?_
      exact ret_I hf srh14
set_option maxRecDepth 100000 in
theorem th_X12_isStill {h : HP} (ly : Lay h)  {rr : Int32} {hh : HP} (hf : f_X12_isStill h = some (rr, hh)) : Spec yX12_isStill cX12_isStill miX12_isStill [.ref 113] h (pI fun r' h' => (r' = rr ∧ h' = hh) ∧ SR h hh) := by
  refine Spec.of (ls0 := [.ref 113]) mo_X12_isStill (Nat.le_of_ble_eq_true rfl) rfl ?_
  rw [ly.1]
  have srh : SR h h := SR.refl h
  unfold f_X12_isStill at hf
  refine V.aload_n dX12_isStill_0 rfl rfl rfl ?_
  refine V.aload_n dX12_isStill_1 rfl rfl rfl ?_
  refine V.getR (r := 114) dX12_isStill_2 fl_X12_7 rfl (Or.inl ⟨rfl, SHL_lt rfl⟩) rfl (ly_113_0 (srh.ly ly)) ?_
  refine V.iconst (v := 3) dX12_isStill_5 rfl ?_
  refine V.iaload dX12_isStill_6 rfl (Or.inl ⟨rfl, SHL_lt rfl⟩) (vp_lit (by decide)) ?_
  rw [show Int32.toNatClampNeg 3 = 3 from rfl]
  refine V.iconst (v := 1) dX12_isStill_7 rfl ?_
  obtain ⟨r3, h2, q1, hf2⟩ := bd2_el hf
  replace hf := hf2
  clear hf2
  refine V.callVI dX12_isStill_8 ml_X12_312 mo_X12_after mv_X12_after rfl (fun q hq => by cases hq; rfl) (by decide) (Or.inl ⟨rfl, SHL_lt rfl⟩) (th_X12_after (srh.ly ly) q1) rfl rfl ⟨Nat.le_of_ble_eq_true rfl, Nat.le_of_ble_eq_true rfl, fun _ => ⟨rfl, rfl⟩⟩ (Nat.le_of_ble_eq_true rfl) rfl (post_I (fun sq => ?_))
  have srh2 : SR h h2 := srh.trans sq
  clear sq q1
  refine V.aload_n dX12_isStill_11 rfl rfl rfl ?_
  refine V.getR (r := 114) dX12_isStill_12 fl_X12_7 rfl (Or.inl ⟨rfl, SHL_lt rfl⟩) rfl (ly_113_0 (srh2.ly ly)) ?_
  refine V.iconst (v := 3) dX12_isStill_15 rfl ?_
  refine V.iaload dX12_isStill_16 rfl (Or.inl ⟨rfl, SHL_lt rfl⟩) (vp_lit (by decide)) ?_
  rw [show Int32.toNatClampNeg 3 = 3 from rfl]
  refine V.icmp_ne (tgt := 24) dX12_isStill_17 (by decide) (fun c4 => ?_) (fun c4 => ?_)
  · replace hf := ite_n hf c4
    refine V.iconst (v := 0) dX12_isStill_24 rfl ?_
    refine V.ireturn dX12_isStill_25 rfl rfl ⟨rfl, rfl⟩ ly.1 ?_
    exact ret_I hf srh2
  · replace hf := ite_p hf c4
    refine V.iconst (v := 1) dX12_isStill_20 rfl ?_
    refine V.goto (tgt := 25) dX12_isStill_21 (by decide) ?_
    refine V.ireturn dX12_isStill_25 rfl rfl ⟨rfl, rfl⟩ ly.1 ?_
    exact ret_I hf srh2
set_option maxRecDepth 100000 in
theorem th_X12_still {h : HP} (ly : Lay h)  {rr : Int32} {hh : HP} (hf : f_X12_still h = some (rr, hh)) : Spec yX12_still cX12_still miX12_still [.ref 113] h (pI fun r' h' => (r' = rr ∧ h' = hh) ∧ SR h hh) := by
  refine Spec.of (ls0 := [.ref 113]) mo_X12_still (Nat.le_of_ble_eq_true rfl) rfl ?_
  rw [ly.1]
  have srh : SR h h := SR.refl h
  unfold f_X12_still at hf
  refine V.aload_n dX12_still_0 rfl rfl rfl ?_
  refine V.aload_n dX12_still_1 rfl rfl rfl ?_
  obtain ⟨r3, h2, q1, hf2⟩ := bd2_el hf
  replace hf := hf2
  clear hf2
  refine V.callVI dX12_still_2 ml_X12_330 mo_X12_isStill mv_X12_isStill rfl (fun q hq => by cases hq; rfl) (by decide) (Or.inl ⟨rfl, SHL_lt rfl⟩) (th_X12_isStill (srh.ly ly) q1) rfl rfl ⟨Nat.le_of_ble_eq_true rfl, Nat.le_of_ble_eq_true rfl, fun _ => ⟨rfl, rfl⟩⟩ (Nat.le_of_ble_eq_true rfl) rfl (post_I (fun sq => ?_))
  have srh2 : SR h h2 := srh.trans sq
  clear sq q1
  refine V.if_eq (tgt := 12) dX12_still_5 (by decide) (fun c4 => ?_) (fun c4 => ?_)
  · replace hf := ite_p hf c4
    refine V.iconst (v := 0) dX12_still_12 rfl ?_
    obtain ⟨r7, h6, q5, hf2⟩ := bd2_el hf
    replace hf := hf2
    clear hf2
    refine V.callVI dX12_still_13 ml_X12_85 mo_X12_gives mv_X12_gives rfl (fun q hq => by cases hq; rfl) (by decide) (Or.inl ⟨rfl, SHL_lt rfl⟩) (th_X12_gives (srh2.ly ly) q5) rfl rfl ⟨Nat.le_of_ble_eq_true rfl, Nat.le_of_ble_eq_true rfl, fun _ => ⟨rfl, rfl⟩⟩ (Nat.le_of_ble_eq_true rfl) rfl (post_I (fun sq => ?_))
    have srh6 : SR h h6 := srh2.trans sq
    clear sq q5
    refine V.ireturn dX12_still_16 rfl rfl ⟨rfl, rfl⟩ ly.1 ?_
    exact ret_I hf srh6
  · replace hf := ite_n hf c4
    refine V.iconst (v := 1) dX12_still_8 rfl ?_
    refine V.goto (tgt := 13) dX12_still_9 (by decide) ?_
    obtain ⟨r10, h9, q8, hf2⟩ := bd2_el hf
    replace hf := hf2
    clear hf2
    refine V.callVI dX12_still_13 ml_X12_85 mo_X12_gives mv_X12_gives rfl (fun q hq => by cases hq; rfl) (by decide) (Or.inl ⟨rfl, SHL_lt rfl⟩) (th_X12_gives (srh2.ly ly) q8) rfl rfl ⟨Nat.le_of_ble_eq_true rfl, Nat.le_of_ble_eq_true rfl, fun _ => ⟨rfl, rfl⟩⟩ (Nat.le_of_ble_eq_true rfl) rfl (post_I (fun sq => ?_))
    have srh9 : SR h h9 := srh2.trans sq
    clear sq q8
    refine V.ireturn dX12_still_16 rfl rfl ⟨rfl, rfl⟩ ly.1 ?_
    exact ret_I hf srh9
set_option maxRecDepth 100000 in
theorem th_X12_next {h : HP} (ly : Lay h) {a1 : Int32} {rr : Int32} {hh : HP} (hf : f_X12_next h a1 = some (rr, hh)) : Spec yX12_next cX12_next miX12_next [.ref 113, .int a1] h (pI fun r' h' => (r' = rr ∧ h' = hh) ∧ SR h hh) := by
  refine Spec.of (ls0 := [.ref 113, .int a1, .null]) mo_X12_next (Nat.le_of_ble_eq_true rfl) rfl ?_
  rw [ly.1]
  have srh : SR h h := SR.refl h
  unfold f_X12_next at hf
  refine V.iload_n dX12_next_0 rfl rfl ?_
  refine V.if_lt (tgt := 9) dX12_next_1 (by decide) (fun c1 => ?_) (fun c1 => ?_)
  · replace hf := ite_p hf c1
    refine V.aload_n dX12_next_9 rfl rfl rfl ?_
    refine V.iconst (v := 1) dX12_next_10 rfl ?_
    obtain ⟨r4, h3, q2, hf2⟩ := bd2_el hf
    replace hf := hf2
    clear hf2
    refine V.callVI dX12_next_11 ml_X12_81 mo_X12_refuse mv_X12_refuse rfl (fun q hq => by cases hq; rfl) (by decide) (Or.inl ⟨rfl, SHL_lt rfl⟩) (th_X12_refuse (srh.ly ly) q2) rfl rfl ⟨Nat.le_of_ble_eq_true rfl, Nat.le_of_ble_eq_true rfl, fun _ => ⟨rfl, rfl⟩⟩ (Nat.le_of_ble_eq_true rfl) rfl (post_I (fun sq => ?_))
    have srh3 : SR h h3 := srh.trans sq
    clear sq q2
    refine V.ireturn dX12_next_14 rfl rfl ⟨rfl, rfl⟩ ly.1 ?_
    exact ret_I hf srh3
  · replace hf := ite_n hf c1
    refine V.iload_n dX12_next_4 rfl rfl ?_
    refine V.iconst (v := 2) dX12_next_5 rfl ?_
    refine V.icmp_le (tgt := 15) dX12_next_6 (by decide) (fun c5 => ?_) (fun c5 => ?_)
    · replace hf := ite_p hf c5
      refine V.aload_n dX12_next_15 rfl rfl rfl ?_
      refine V.aload_n dX12_next_16 rfl rfl rfl ?_
      refine V.getR (r := 114) dX12_next_17 fl_X12_7 rfl (Or.inl ⟨rfl, SHL_lt rfl⟩) rfl (ly_113_0 (srh.ly ly)) ?_
      refine V.iconst (v := 3) dX12_next_20 rfl ?_
      refine V.iaload dX12_next_21 rfl (Or.inl ⟨rfl, SHL_lt rfl⟩) (vp_lit (by decide)) ?_
      rw [show Int32.toNatClampNeg 3 = 3 from rfl]
      refine V.iconst (v := 1) dX12_next_22 rfl ?_
      obtain ⟨r8, h7, q6, hf2⟩ := bd2_el hf
      replace hf := hf2
      clear hf2
      refine V.callVI dX12_next_23 ml_X12_312 mo_X12_after mv_X12_after rfl (fun q hq => by cases hq; rfl) (by decide) (Or.inl ⟨rfl, SHL_lt rfl⟩) (th_X12_after (srh.ly ly) q6) rfl rfl ⟨Nat.le_of_ble_eq_true rfl, Nat.le_of_ble_eq_true rfl, fun _ => ⟨rfl, rfl⟩⟩ (Nat.le_of_ble_eq_true rfl) rfl (post_I (fun sq => ?_))
      have srh7 : SR h h7 := srh.trans sq
      clear sq q6
      refine V.istore_n (ls' := [.ref 113, .int a1, .int r8]) dX12_next_26 rfl (by decide) rfl ?_
      refine V.aload_n dX12_next_27 rfl rfl rfl ?_
      refine V.iload_n dX12_next_28 rfl rfl ?_
      refine V.if_ne (tgt := 45) dX12_next_29 (by decide) (fun c9 => ?_) (fun c9 => ?_)
      · replace hf := ite_n hf c9
        refine V.iload_n dX12_next_45 rfl rfl ?_
        refine V.iconst (v := 1) dX12_next_46 rfl ?_
        refine V.icmp_ne (tgt := 63) dX12_next_47 (by decide) (fun c10 => ?_) (fun c10 => ?_)
        · replace hf := ite_n hf c10
          refine V.aload_n dX12_next_63 rfl rfl rfl ?_
          refine V.getR (r := 114) dX12_next_64 fl_X12_7 rfl (Or.inl ⟨rfl, SHL_lt rfl⟩) rfl (ly_113_0 (srh7.ly ly)) ?_
          refine V.iconst (v := 3) dX12_next_67 rfl ?_
          refine V.iaload dX12_next_68 rfl (Or.inl ⟨rfl, SHL_lt rfl⟩) (vp_lit (by decide)) ?_
          rw [show Int32.toNatClampNeg 3 = 3 from rfl]
          refine V.iload_n dX12_next_69 rfl rfl ?_
          refine V.iand dX12_next_70 ?_
          obtain ⟨r13, h12, q11, hf2⟩ := bd2_el hf
          replace hf := hf2
          clear hf2
          refine V.callSI dX12_next_71 ml_X12_226 mo_X12_bits ms_X12_bits (th_X12_bits (srh7.ly ly) q11) rfl rfl ⟨Nat.le_of_ble_eq_true rfl, Nat.le_of_ble_eq_true rfl, fun _ => ⟨rfl, rfl⟩⟩ (Nat.le_of_ble_eq_true rfl) rfl (post_I (fun sq => ?_))
          have srh12 : SR h h12 := srh7.trans sq
          clear sq q11
          obtain ⟨r16, h15, q14, hf2⟩ := bd2_el hf
          replace hf := hf2
          clear hf2
          refine V.callVI dX12_next_74 ml_X12_85 mo_X12_gives mv_X12_gives rfl (fun q hq => by cases hq; rfl) (by decide) (Or.inl ⟨rfl, SHL_lt rfl⟩) (th_X12_gives (srh12.ly ly) q14) rfl rfl ⟨Nat.le_of_ble_eq_true rfl, Nat.le_of_ble_eq_true rfl, fun _ => ⟨rfl, rfl⟩⟩ (Nat.le_of_ble_eq_true rfl) rfl (post_I (fun sq => ?_))
          have srh15 : SR h h15 := srh12.trans sq
          clear sq q14
          refine V.ireturn dX12_next_77 rfl rfl ⟨rfl, rfl⟩ ly.1 ?_
          exact ret_I hf srh15
        · replace hf := ite_p hf c10
          refine V.aload_n dX12_next_50 rfl rfl rfl ?_
          refine V.getR (r := 114) dX12_next_51 fl_X12_7 rfl (Or.inl ⟨rfl, SHL_lt rfl⟩) rfl (ly_113_0 (srh7.ly ly)) ?_
          refine V.iconst (v := 3) dX12_next_54 rfl ?_
          refine V.iaload dX12_next_55 rfl (Or.inl ⟨rfl, SHL_lt rfl⟩) (vp_lit (by decide)) ?_
          rw [show Int32.toNatClampNeg 3 = 3 from rfl]
          refine V.iload_n dX12_next_56 rfl rfl ?_
          refine V.iconst (v := (-1)) dX12_next_57 rfl ?_
          refine V.ixor dX12_next_58 ?_
          refine V.iand dX12_next_59 ?_
          refine V.goto (tgt := 71) dX12_next_60 (by decide) ?_
          obtain ⟨r19, h18, q17, hf2⟩ := bd2_el hf
          replace hf := hf2
          clear hf2
          refine V.callSI dX12_next_71 ml_X12_226 mo_X12_bits ms_X12_bits (th_X12_bits (srh7.ly ly) q17) rfl rfl ⟨Nat.le_of_ble_eq_true rfl, Nat.le_of_ble_eq_true rfl, fun _ => ⟨rfl, rfl⟩⟩ (Nat.le_of_ble_eq_true rfl) rfl (post_I (fun sq => ?_))
          have srh18 : SR h h18 := srh7.trans sq
          clear sq q17
          obtain ⟨r22, h21, q20, hf2⟩ := bd2_el hf
          replace hf := hf2
          clear hf2
          refine V.callVI dX12_next_74 ml_X12_85 mo_X12_gives mv_X12_gives rfl (fun q hq => by cases hq; rfl) (by decide) (Or.inl ⟨rfl, SHL_lt rfl⟩) (th_X12_gives (srh18.ly ly) q20) rfl rfl ⟨Nat.le_of_ble_eq_true rfl, Nat.le_of_ble_eq_true rfl, fun _ => ⟨rfl, rfl⟩⟩ (Nat.le_of_ble_eq_true rfl) rfl (post_I (fun sq => ?_))
          have srh21 : SR h h21 := srh18.trans sq
          clear sq q20
          refine V.ireturn dX12_next_77 rfl rfl ⟨rfl, rfl⟩ ly.1 ?_
          exact ret_I hf srh21
      · replace hf := ite_p hf c9
        refine V.iload_n dX12_next_32 rfl rfl ?_
        refine V.aload_n dX12_next_33 rfl rfl rfl ?_
        refine V.getR (r := 114) dX12_next_34 fl_X12_7 rfl (Or.inl ⟨rfl, SHL_lt rfl⟩) rfl (ly_113_0 (srh7.ly ly)) ?_
        refine V.iconst (v := 3) dX12_next_37 rfl ?_
        refine V.iaload dX12_next_38 rfl (Or.inl ⟨rfl, SHL_lt rfl⟩) (vp_lit (by decide)) ?_
        rw [show Int32.toNatClampNeg 3 = 3 from rfl]
        refine V.iconst (v := (-1)) dX12_next_39 rfl ?_
        refine V.ixor dX12_next_40 ?_
        refine V.iand dX12_next_41 ?_
        refine V.goto (tgt := 71) dX12_next_42 (by decide) ?_
        obtain ⟨r25, h24, q23, hf2⟩ := bd2_el hf
        replace hf := hf2
        clear hf2
        refine V.callSI dX12_next_71 ml_X12_226 mo_X12_bits ms_X12_bits (th_X12_bits (srh7.ly ly) q23) rfl rfl ⟨Nat.le_of_ble_eq_true rfl, Nat.le_of_ble_eq_true rfl, fun _ => ⟨rfl, rfl⟩⟩ (Nat.le_of_ble_eq_true rfl) rfl (post_I (fun sq => ?_))
        have srh24 : SR h h24 := srh7.trans sq
        clear sq q23
        obtain ⟨r28, h27, q26, hf2⟩ := bd2_el hf
        replace hf := hf2
        clear hf2
        refine V.callVI dX12_next_74 ml_X12_85 mo_X12_gives mv_X12_gives rfl (fun q hq => by cases hq; rfl) (by decide) (Or.inl ⟨rfl, SHL_lt rfl⟩) (th_X12_gives (srh24.ly ly) q26) rfl rfl ⟨Nat.le_of_ble_eq_true rfl, Nat.le_of_ble_eq_true rfl, fun _ => ⟨rfl, rfl⟩⟩ (Nat.le_of_ble_eq_true rfl) rfl (post_I (fun sq => ?_))
        have srh27 : SR h h27 := srh24.trans sq
        clear sq q26
        refine V.ireturn dX12_next_77 rfl rfl ⟨rfl, rfl⟩ ly.1 ?_
        exact ret_I hf srh27
    · replace hf := ite_n hf c5
      refine V.aload_n dX12_next_9 rfl rfl rfl ?_
      refine V.iconst (v := 1) dX12_next_10 rfl ?_
      obtain ⟨r31, h30, q29, hf2⟩ := bd2_el hf
      replace hf := hf2
      clear hf2
      refine V.callVI dX12_next_11 ml_X12_81 mo_X12_refuse mv_X12_refuse rfl (fun q hq => by cases hq; rfl) (by decide) (Or.inl ⟨rfl, SHL_lt rfl⟩) (th_X12_refuse (srh.ly ly) q29) rfl rfl ⟨Nat.le_of_ble_eq_true rfl, Nat.le_of_ble_eq_true rfl, fun _ => ⟨rfl, rfl⟩⟩ (Nat.le_of_ble_eq_true rfl) rfl (post_I (fun sq => ?_))
      have srh30 : SR h h30 := srh.trans sq
      clear sq q29
      refine V.ireturn dX12_next_14 rfl rfl ⟨rfl, rfl⟩ ly.1 ?_
      exact ret_I hf srh30
set_option maxRecDepth 100000 in
theorem th_X12_oil_34 {h0 : HP} (ly : Lay h0) {rr : Int32} {hh : HP}  : ∀ (n : Nat) (l2 : Int32) (l3 : Int32) (l4 : Int32) (h : HP), SR h0 h → f_X12_oil_34 n l2 l3 l4 h = some (rr, hh) → V cX12_oil miX12_oil (ZI h0 miX12_oil rr hh) 130 34 [.ref 113, .null, .int l2, .int l3, .int l4] [] h := by
  intro n
  induction n with
  | zero => intro l2 l3 l4 h srh hf; exact absurd hf (by unfold f_X12_oil_34; simp)
  | succ n ih =>
    intro l2 l3 l4 h srh hf
    unfold f_X12_oil_34 at hf
    refine V.iload dX12_oil_34 rfl ?_
    refine V.sipush (v := 999) dX12_oil_36 rfl ?_
    refine V.icmp_ge (tgt := 76) dX12_oil_39 (by decide) (fun c11 => ?_) (fun c11 => ?_)
    · replace hf := ite_p hf c11
      refine V.aload_n dX12_oil_76 rfl rfl rfl ?_
      refine V.iload dX12_oil_77 rfl ?_
      obtain ⟨r14, h13, q12, hf2⟩ := bd2_el hf
      replace hf := hf2
      clear hf2
      refine V.callVI dX12_oil_79 ml_X12_85 mo_X12_gives mv_X12_gives rfl (fun q hq => by cases hq; rfl) (by decide) (Or.inl ⟨rfl, SHL_lt rfl⟩) (th_X12_gives (srh.ly ly) q12) rfl rfl ⟨Nat.le_of_ble_eq_true rfl, Nat.le_of_ble_eq_true rfl, fun _ => ⟨rfl, rfl⟩⟩ (Nat.le_of_ble_eq_true rfl) rfl (post_I (fun sq => ?_))
      have srh13 : SR h0 h13 := srh.trans sq
      clear sq q12
      refine V.ireturn dX12_oil_82 rfl rfl ⟨rfl, rfl⟩ ly.1 ?_
      exact ret_I hf srh13
    · replace hf := ite_n hf c11
      refine V.iload_n dX12_oil_42 rfl rfl ?_
      obtain ⟨r17, h16, q15, hf2⟩ := bd2_el hf
      replace hf := hf2
      clear hf2
      refine V.callSI dX12_oil_43 ml_X12_226 mo_X12_bits ms_X12_bits (th_X12_bits (srh.ly ly) q15) rfl rfl ⟨Nat.le_of_ble_eq_true rfl, Nat.le_of_ble_eq_true rfl, fun _ => ⟨rfl, rfl⟩⟩ (Nat.le_of_ble_eq_true rfl) rfl (post_I (fun sq => ?_))
      have srh16 : SR h0 h16 := srh.trans sq
      clear sq q15
      refine V.iload_n dX12_oil_46 rfl rfl ?_
      refine V.icmp_gt (tgt := 76) dX12_oil_47 (by decide) (fun c18 => ?_) (fun c18 => ?_)
      · replace hf := ite_p hf c18
        refine V.aload_n dX12_oil_76 rfl rfl rfl ?_
        refine V.iload dX12_oil_77 rfl ?_
        obtain ⟨r21, h20, q19, hf2⟩ := bd2_el hf
        replace hf := hf2
        clear hf2
        refine V.callVI dX12_oil_79 ml_X12_85 mo_X12_gives mv_X12_gives rfl (fun q hq => by cases hq; rfl) (by decide) (Or.inl ⟨rfl, SHL_lt rfl⟩) (th_X12_gives (srh16.ly ly) q19) rfl rfl ⟨Nat.le_of_ble_eq_true rfl, Nat.le_of_ble_eq_true rfl, fun _ => ⟨rfl, rfl⟩⟩ (Nat.le_of_ble_eq_true rfl) rfl (post_I (fun sq => ?_))
        have srh20 : SR h0 h20 := srh16.trans sq
        clear sq q19
        refine V.ireturn dX12_oil_82 rfl rfl ⟨rfl, rfl⟩ ly.1 ?_
        exact ret_I hf srh20
      · replace hf := ite_n hf c18
        refine V.iload_n dX12_oil_50 rfl rfl ?_
        refine V.iload_n dX12_oil_51 rfl rfl ?_
        obtain ⟨r24, h23, q22, hf2⟩ := bd2_el hf
        replace hf := hf2
        clear hf2
        refine V.callSI dX12_oil_52 ml_X12_226 mo_X12_bits ms_X12_bits (th_X12_bits (srh16.ly ly) q22) rfl rfl ⟨Nat.le_of_ble_eq_true rfl, Nat.le_of_ble_eq_true rfl, fun _ => ⟨rfl, rfl⟩⟩ (Nat.le_of_ble_eq_true rfl) rfl (post_I (fun sq => ?_))
        have srh23 : SR h0 h23 := srh16.trans sq
        clear sq q22
        refine V.isub dX12_oil_55 ?_
        refine V.nmi (fun x25 ex25 => ?_)
        replace hf := lt_el hf x25 ex25
        refine V.istore_n (ls' := [.ref 113, .null, .int l2, .int x25, .int l4]) dX12_oil_56 rfl (by decide) rfl ?_
        refine V.aload_n dX12_oil_57 rfl rfl rfl ?_
        refine V.iload_n dX12_oil_58 rfl rfl ?_
        refine V.aload_n dX12_oil_59 rfl rfl rfl ?_
        refine V.getR (r := 114) dX12_oil_60 fl_X12_7 rfl (Or.inl ⟨rfl, SHL_lt rfl⟩) rfl (ly_113_0 (srh23.ly ly)) ?_
        refine V.bipush (v := 10) dX12_oil_63 rfl ?_
        refine V.iaload dX12_oil_65 rfl (Or.inl ⟨rfl, SHL_lt rfl⟩) (vp_lit (by decide)) ?_
        rw [show Int32.toNatClampNeg 10 = 10 from rfl]
        obtain ⟨r28, h27, q26, hf2⟩ := bd2_el hf
        replace hf := hf2
        clear hf2
        refine V.callVI dX12_oil_66 ml_X12_274 mo_X12_becomes mv_X12_becomes rfl (fun q hq => by cases hq; rfl) (by decide) (Or.inl ⟨rfl, SHL_lt rfl⟩) (th_X12_becomes (srh23.ly ly) q26) rfl rfl ⟨Nat.le_of_ble_eq_true rfl, Nat.le_of_ble_eq_true rfl, fun _ => ⟨rfl, rfl⟩⟩ (Nat.le_of_ble_eq_true rfl) rfl (post_I (fun sq => ?_))
        have srh27 : SR h0 h27 := srh23.trans sq
        clear sq q26
        refine V.istore_n (ls' := [.ref 113, .null, .int r28, .int x25, .int l4]) dX12_oil_69 rfl (by decide) rfl ?_
        obtain ⟨x29, ex29⟩ : ∃ y : Int32, y = l4 + 1 := ⟨_, rfl⟩
        replace hf := lt_el hf x29 ex29
        refine V.iinc (v := x29) (ls' := [.ref 113, .null, .int r28, .int x25, .int x29]) dX12_oil_70 rfl (by decide) ex29.symm rfl ?_
        refine V.goto (tgt := 34) dX12_oil_73 (by decide) ?_
        exact ih r28 x25 x29 h27 srh27 hf
set_option maxRecDepth 100000 in
theorem th_X12_oil {h : HP} (ly : Lay h) {a1 : Int32} {rr : Int32} {hh : HP} (hf : f_X12_oil h a1 = some (rr, hh)) : Spec yX12_oil cX12_oil miX12_oil [.ref 113, .int a1] h (pI fun r' h' => (r' = rr ∧ h' = hh) ∧ SR h hh) := by
  refine Spec.of (ls0 := [.ref 113, .int a1, .null, .null, .null]) mo_X12_oil (Nat.le_of_ble_eq_true rfl) rfl ?_
  rw [ly.1]
  have srh : SR h h := SR.refl h
  unfold f_X12_oil at hf
  refine V.iload_n dX12_oil_0 rfl rfl ?_
  refine V.i2l dX12_oil_1 ?_
  refine V.lconst (v := 0) dX12_oil_2 rfl ?_
  refine V.ldc2 (v := 9999) dX12_oil_3 kc_X12_333 ?_
  obtain ⟨r3, h2, q1, hf2⟩ := bd2_el hf
  replace hf := hf2
  clear hf2
  refine V.callSI dX12_oil_6 ml_X12_295 mo_X12_isFrom ms_X12_isFrom (th_X12_isFrom (srh.ly ly) q1) rfl rfl ⟨Nat.le_of_ble_eq_true rfl, Nat.le_of_ble_eq_true rfl, fun _ => ⟨rfl, rfl⟩⟩ (Nat.le_of_ble_eq_true rfl) rfl (post_I (fun sq => ?_))
  have srh2 : SR h h2 := srh.trans sq
  clear sq q1
  refine V.if_ne (tgt := 18) dX12_oil_9 (by decide) (fun c4 => ?_) (fun c4 => ?_)
  · replace hf := ite_n hf c4
    refine V.aload_n dX12_oil_18 rfl rfl rfl ?_
    obtain ⟨h6, q5, hf2⟩ := bd_el hf
    replace hf := hf2
    clear hf2
    refine V.callVV dX12_oil_19 ml_X12_271 mo_X12_laysNear mv_X12_laysNear rfl (fun q hq => by cases hq; rfl) (by decide) (Or.inl ⟨rfl, SHL_lt rfl⟩) (th_X12_laysNear (srh2.ly ly) q5) rfl rfl ⟨Nat.le_of_ble_eq_true rfl, Nat.le_of_ble_eq_true rfl, fun _ => ⟨rfl, rfl⟩⟩ (Nat.le_of_ble_eq_true rfl) (Or.inl rfl) (post_V (fun sq => ?_))
    have srh6 : SR h h6 := srh2.trans sq
    clear sq q5
    refine V.aload_n dX12_oil_22 rfl rfl rfl ?_
    refine V.getR (r := 114) dX12_oil_23 fl_X12_7 rfl (Or.inl ⟨rfl, SHL_lt rfl⟩) rfl (ly_113_0 (srh6.ly ly)) ?_
    refine V.iconst (v := 3) dX12_oil_26 rfl ?_
    refine V.iaload dX12_oil_27 rfl (Or.inl ⟨rfl, SHL_lt rfl⟩) (vp_lit (by decide)) ?_
    rw [show Int32.toNatClampNeg 3 = 3 from rfl]
    refine V.nmi (fun x7 ex7 => ?_)
    replace hf := lt_el hf x7 ex7
    refine V.istore_n (ls' := [.ref 113, .int a1, .int x7, .null, .null]) dX12_oil_28 rfl (by decide) rfl ?_
    refine V.iload_n dX12_oil_29 rfl rfl ?_
    refine V.istore_n (ls' := [.ref 113, .int a1, .int x7, .int a1, .null]) dX12_oil_30 rfl (by decide) rfl ?_
    refine V.iconst (v := 0) dX12_oil_31 rfl ?_
    refine V.istore (ls' := [.ref 113, .int a1, .int x7, .int a1, .int 0]) dX12_oil_32 (by decide) rfl ?_
    refine V.less (ls' := [.ref 113, .null, .int x7, .int a1, .int 0]) ⟨Or.inr rfl, Or.inl rfl, Or.inr rfl, Or.inr rfl, Or.inr rfl, trivial⟩ ?_
    exact th_X12_oil_34 ly FU x7 a1 0 h6 srh6 hf
  · replace hf := ite_p hf c4
    refine V.aload_n dX12_oil_12 rfl rfl rfl ?_
    refine V.iconst (v := 1) dX12_oil_13 rfl ?_
    obtain ⟨r10, h9, q8, hf2⟩ := bd2_el hf
    replace hf := hf2
    clear hf2
    refine V.callVI dX12_oil_14 ml_X12_81 mo_X12_refuse mv_X12_refuse rfl (fun q hq => by cases hq; rfl) (by decide) (Or.inl ⟨rfl, SHL_lt rfl⟩) (th_X12_refuse (srh2.ly ly) q8) rfl rfl ⟨Nat.le_of_ble_eq_true rfl, Nat.le_of_ble_eq_true rfl, fun _ => ⟨rfl, rfl⟩⟩ (Nat.le_of_ble_eq_true rfl) rfl (post_I (fun sq => ?_))
    have srh9 : SR h h9 := srh2.trans sq
    clear sq q8
    refine V.ireturn dX12_oil_17 rfl rfl ⟨rfl, rfl⟩ ly.1 ?_
    exact ret_I hf srh9
set_option maxRecDepth 100000 in
theorem th_X12_brightest_37 {h0 : HP} (ly : Lay h0) {rr : Int32} {hh : HP}  : ∀ (n : Nat) (l1 : Int32) (l2 : Int32) (l3 : Int32) (l4 : Int32) (h : HP), SR h0 h → f_X12_brightest_37 n l1 l2 l3 l4 h = some (rr, hh) → V cX12_brightest miX12_brightest (ZI h0 miX12_brightest rr hh) 130 37 [.ref 113, .int l1, .int l2, .int l3, .int l4] [] h := by
  intro n
  induction n with
  | zero => intro l1 l2 l3 l4 h srh hf; exact absurd hf (by unfold f_X12_brightest_37; simp)
  | succ n ih =>
    intro l1 l2 l3 l4 h srh hf
    unfold f_X12_brightest_37 at hf
    refine V.iload dX12_brightest_37 rfl ?_
    refine V.iload_n dX12_brightest_39 rfl rfl ?_
    refine V.icmp_ge (tgt := 71) dX12_brightest_40 (by decide) (fun c14 => ?_) (fun c14 => ?_)
    · replace hf := ite_p hf c14
      refine V.aload_n dX12_brightest_71 rfl rfl rfl ?_
      refine V.iload_n dX12_brightest_72 rfl rfl ?_
      obtain ⟨r17, h16, q15, hf2⟩ := bd2_el hf
      replace hf := hf2
      clear hf2
      refine V.callVI dX12_brightest_73 ml_X12_85 mo_X12_gives mv_X12_gives rfl (fun q hq => by cases hq; rfl) (by decide) (Or.inl ⟨rfl, SHL_lt rfl⟩) (th_X12_gives (srh.ly ly) q15) rfl rfl ⟨Nat.le_of_ble_eq_true rfl, Nat.le_of_ble_eq_true rfl, fun _ => ⟨rfl, rfl⟩⟩ (Nat.le_of_ble_eq_true rfl) rfl (post_I (fun sq => ?_))
      have srh16 : SR h0 h16 := srh.trans sq
      clear sq q15
      refine V.ireturn dX12_brightest_76 rfl rfl ⟨rfl, rfl⟩ ly.1 ?_
      exact ret_I hf srh16
    · replace hf := ite_n hf c14
      refine V.aload_n dX12_brightest_43 rfl rfl rfl ?_
      refine V.iload_n dX12_brightest_44 rfl rfl ?_
      refine V.aload_n dX12_brightest_45 rfl rfl rfl ?_
      refine V.getR (r := 114) dX12_brightest_46 fl_X12_7 rfl (Or.inl ⟨rfl, SHL_lt rfl⟩) rfl (ly_113_0 (srh.ly ly)) ?_
      refine V.bipush (v := 10) dX12_brightest_49 rfl ?_
      refine V.iaload dX12_brightest_51 rfl (Or.inl ⟨rfl, SHL_lt rfl⟩) (vp_lit (by decide)) ?_
      rw [show Int32.toNatClampNeg 10 = 10 from rfl]
      obtain ⟨r20, h19, q18, hf2⟩ := bd2_el hf
      replace hf := hf2
      clear hf2
      refine V.callVI dX12_brightest_52 ml_X12_274 mo_X12_becomes mv_X12_becomes rfl (fun q hq => by cases hq; rfl) (by decide) (Or.inl ⟨rfl, SHL_lt rfl⟩) (th_X12_becomes (srh.ly ly) q18) rfl rfl ⟨Nat.le_of_ble_eq_true rfl, Nat.le_of_ble_eq_true rfl, fun _ => ⟨rfl, rfl⟩⟩ (Nat.le_of_ble_eq_true rfl) rfl (post_I (fun sq => ?_))
      have srh19 : SR h0 h19 := srh.trans sq
      clear sq q18
      refine V.istore_n (ls' := [.ref 113, .int l1, .int r20, .int l3, .int l4]) dX12_brightest_55 rfl (by decide) rfl ?_
      refine V.iload_n dX12_brightest_56 rfl rfl ?_
      refine V.iload_n dX12_brightest_57 rfl rfl ?_
      obtain ⟨r23, h22, q21, hf2⟩ := bd2_el hf
      replace hf := hf2
      clear hf2
      refine V.callSI dX12_brightest_58 ml_X12_226 mo_X12_bits ms_X12_bits (th_X12_bits (srh19.ly ly) q21) rfl rfl ⟨Nat.le_of_ble_eq_true rfl, Nat.le_of_ble_eq_true rfl, fun _ => ⟨rfl, rfl⟩⟩ (Nat.le_of_ble_eq_true rfl) rfl (post_I (fun sq => ?_))
      have srh22 : SR h0 h22 := srh19.trans sq
      clear sq q21
      refine V.max dX12_brightest_61 lk_X12_335 max_ok rfl ⟨Nat.le_of_ble_eq_true rfl, Nat.le_of_ble_eq_true rfl⟩ ?_
      refine V.nmi (fun x24 ex24 => ?_)
      replace hf := lt_el hf x24 ex24
      refine V.istore_n (ls' := [.ref 113, .int l1, .int r20, .int x24, .int l4]) dX12_brightest_64 rfl (by decide) rfl ?_
      obtain ⟨x25, ex25⟩ : ∃ y : Int32, y = l4 + 1 := ⟨_, rfl⟩
      replace hf := lt_el hf x25 ex25
      refine V.iinc (v := x25) (ls' := [.ref 113, .int l1, .int r20, .int x24, .int x25]) dX12_brightest_65 rfl (by decide) ex25.symm rfl ?_
      refine V.goto (tgt := 37) dX12_brightest_68 (by decide) ?_
      exact ih l1 r20 x24 x25 h22 srh22 hf
set_option maxRecDepth 100000 in
theorem th_X12_brightest {h : HP} (ly : Lay h) {a1 : Int32} {rr : Int32} {hh : HP} (hf : f_X12_brightest h a1 = some (rr, hh)) : Spec yX12_brightest cX12_brightest miX12_brightest [.ref 113, .int a1] h (pI fun r' h' => (r' = rr ∧ h' = hh) ∧ SR h hh) := by
  refine Spec.of (ls0 := [.ref 113, .int a1, .null, .null, .null]) mo_X12_brightest (Nat.le_of_ble_eq_true rfl) rfl ?_
  rw [ly.1]
  have srh : SR h h := SR.refl h
  unfold f_X12_brightest at hf
  refine V.iload_n dX12_brightest_0 rfl rfl ?_
  refine V.i2l dX12_brightest_1 ?_
  refine V.lconst (v := 0) dX12_brightest_2 rfl ?_
  refine V.ldc2 (v := 999) dX12_brightest_3 kc_X12_307 ?_
  obtain ⟨r3, h2, q1, hf2⟩ := bd2_el hf
  replace hf := hf2
  clear hf2
  refine V.callSI dX12_brightest_6 ml_X12_295 mo_X12_isFrom ms_X12_isFrom (th_X12_isFrom (srh.ly ly) q1) rfl rfl ⟨Nat.le_of_ble_eq_true rfl, Nat.le_of_ble_eq_true rfl, fun _ => ⟨rfl, rfl⟩⟩ (Nat.le_of_ble_eq_true rfl) rfl (post_I (fun sq => ?_))
  have srh2 : SR h h2 := srh.trans sq
  clear sq q1
  refine V.if_ne (tgt := 18) dX12_brightest_9 (by decide) (fun c4 => ?_) (fun c4 => ?_)
  · replace hf := ite_n hf c4
    refine V.aload_n dX12_brightest_18 rfl rfl rfl ?_
    obtain ⟨h6, q5, hf2⟩ := bd_el hf
    replace hf := hf2
    clear hf2
    refine V.callVV dX12_brightest_19 ml_X12_271 mo_X12_laysNear mv_X12_laysNear rfl (fun q hq => by cases hq; rfl) (by decide) (Or.inl ⟨rfl, SHL_lt rfl⟩) (th_X12_laysNear (srh2.ly ly) q5) rfl rfl ⟨Nat.le_of_ble_eq_true rfl, Nat.le_of_ble_eq_true rfl, fun _ => ⟨rfl, rfl⟩⟩ (Nat.le_of_ble_eq_true rfl) (Or.inl rfl) (post_V (fun sq => ?_))
    have srh6 : SR h h6 := srh2.trans sq
    clear sq q5
    refine V.aload_n dX12_brightest_22 rfl rfl rfl ?_
    refine V.getR (r := 114) dX12_brightest_23 fl_X12_7 rfl (Or.inl ⟨rfl, SHL_lt rfl⟩) rfl (ly_113_0 (srh6.ly ly)) ?_
    refine V.iconst (v := 3) dX12_brightest_26 rfl ?_
    refine V.iaload dX12_brightest_27 rfl (Or.inl ⟨rfl, SHL_lt rfl⟩) (vp_lit (by decide)) ?_
    rw [show Int32.toNatClampNeg 3 = 3 from rfl]
    refine V.nmi (fun x7 ex7 => ?_)
    replace hf := lt_el hf x7 ex7
    refine V.istore_n (ls' := [.ref 113, .int a1, .int x7, .null, .null]) dX12_brightest_28 rfl (by decide) rfl ?_
    refine V.iload_n dX12_brightest_29 rfl rfl ?_
    obtain ⟨r10, h9, q8, hf2⟩ := bd2_el hf
    replace hf := hf2
    clear hf2
    refine V.callSI dX12_brightest_30 ml_X12_226 mo_X12_bits ms_X12_bits (th_X12_bits (srh6.ly ly) q8) rfl rfl ⟨Nat.le_of_ble_eq_true rfl, Nat.le_of_ble_eq_true rfl, fun _ => ⟨rfl, rfl⟩⟩ (Nat.le_of_ble_eq_true rfl) rfl (post_I (fun sq => ?_))
    have srh9 : SR h h9 := srh6.trans sq
    clear sq q8
    refine V.istore_n (ls' := [.ref 113, .int a1, .int x7, .int r10, .null]) dX12_brightest_33 rfl (by decide) rfl ?_
    refine V.iconst (v := 0) dX12_brightest_34 rfl ?_
    refine V.istore (ls' := [.ref 113, .int a1, .int x7, .int r10, .int 0]) dX12_brightest_35 (by decide) rfl ?_
    exact th_X12_brightest_37 ly FU a1 x7 r10 0 h9 srh9 hf
  · replace hf := ite_p hf c4
    refine V.aload_n dX12_brightest_12 rfl rfl rfl ?_
    refine V.iconst (v := 1) dX12_brightest_13 rfl ?_
    obtain ⟨r13, h12, q11, hf2⟩ := bd2_el hf
    replace hf := hf2
    clear hf2
    refine V.callVI dX12_brightest_14 ml_X12_81 mo_X12_refuse mv_X12_refuse rfl (fun q hq => by cases hq; rfl) (by decide) (Or.inl ⟨rfl, SHL_lt rfl⟩) (th_X12_refuse (srh2.ly ly) q11) rfl rfl ⟨Nat.le_of_ble_eq_true rfl, Nat.le_of_ble_eq_true rfl, fun _ => ⟨rfl, rfl⟩⟩ (Nat.le_of_ble_eq_true rfl) rfl (post_I (fun sq => ?_))
    have srh12 : SR h h12 := srh2.trans sq
    clear sq q11
    refine V.ireturn dX12_brightest_17 rfl rfl ⟨rfl, rfl⟩ ly.1 ?_
    exact ret_I hf srh12
set_option maxRecDepth 100000 in
theorem th_X12_fitsRow {h : HP} (ly : Lay h) {a1 : Int32} {a2 : Int32} {rr : Int32} {hh : HP} (hf : f_X12_fitsRow h a1 a2 = some (rr, hh)) : Spec yX12_fitsRow cX12_fitsRow miX12_fitsRow [.ref 113, .int a1, .int a2] h (pI fun r' h' => (r' = rr ∧ h' = hh) ∧ SR h hh) := by
  refine Spec.of (ls0 := [.ref 113, .int a1, .int a2, .null, .null]) mo_X12_fitsRow (Nat.le_of_ble_eq_true rfl) rfl ?_
  rw [ly.1]
  have srh : SR h h := SR.refl h
  unfold f_X12_fitsRow at hf
  refine V.aload_n dX12_fitsRow_0 rfl rfl rfl ?_
  refine V.aload_n dX12_fitsRow_1 rfl rfl rfl ?_
  refine V.getR (r := 114) dX12_fitsRow_2 fl_X12_7 rfl (Or.inl ⟨rfl, SHL_lt rfl⟩) rfl (ly_113_0 (srh.ly ly)) ?_
  refine V.iconst (v := 2) dX12_fitsRow_5 rfl ?_
  refine V.iaload dX12_fitsRow_6 rfl (Or.inl ⟨rfl, SHL_lt rfl⟩) (vp_lit (by decide)) ?_
  rw [show Int32.toNatClampNeg 2 = 2 from rfl]
  refine V.iload_n dX12_fitsRow_7 rfl rfl ?_
  obtain ⟨r3, h2, q1, hf2⟩ := bd2_el hf
  replace hf := hf2
  clear hf2
  refine V.callVI dX12_fitsRow_8 ml_X12_304 mo_X12_rowOf mv_X12_rowOf rfl (fun q hq => by cases hq; rfl) (by decide) (Or.inl ⟨rfl, SHL_lt rfl⟩) (th_X12_rowOf (srh.ly ly) q1) rfl rfl ⟨Nat.le_of_ble_eq_true rfl, Nat.le_of_ble_eq_true rfl, fun _ => ⟨rfl, rfl⟩⟩ (Nat.le_of_ble_eq_true rfl) rfl (post_I (fun sq => ?_))
  have srh2 : SR h h2 := srh.trans sq
  clear sq q1
  refine V.istore_n (ls' := [.ref 113, .int a1, .int a2, .int r3, .null]) dX12_fitsRow_11 rfl (by decide) rfl ?_
  refine V.aload_n dX12_fitsRow_12 rfl rfl rfl ?_
  refine V.aload_n dX12_fitsRow_13 rfl rfl rfl ?_
  refine V.getR (r := 114) dX12_fitsRow_14 fl_X12_7 rfl (Or.inl ⟨rfl, SHL_lt rfl⟩) rfl (ly_113_0 (srh2.ly ly)) ?_
  refine V.iconst (v := 4) dX12_fitsRow_17 rfl ?_
  refine V.iaload dX12_fitsRow_18 rfl (Or.inl ⟨rfl, SHL_lt rfl⟩) (vp_lit (by decide)) ?_
  rw [show Int32.toNatClampNeg 4 = 4 from rfl]
  refine V.iload_n dX12_fitsRow_19 rfl rfl ?_
  obtain ⟨r6, h5, q4, hf2⟩ := bd2_el hf
  replace hf := hf2
  clear hf2
  refine V.callVI dX12_fitsRow_20 ml_X12_304 mo_X12_rowOf mv_X12_rowOf rfl (fun q hq => by cases hq; rfl) (by decide) (Or.inl ⟨rfl, SHL_lt rfl⟩) (th_X12_rowOf (srh2.ly ly) q4) rfl rfl ⟨Nat.le_of_ble_eq_true rfl, Nat.le_of_ble_eq_true rfl, fun _ => ⟨rfl, rfl⟩⟩ (Nat.le_of_ble_eq_true rfl) rfl (post_I (fun sq => ?_))
  have srh5 : SR h h5 := srh2.trans sq
  clear sq q4
  refine V.istore (ls' := [.ref 113, .int a1, .int a2, .int r3, .int r6]) dX12_fitsRow_23 (by decide) rfl ?_
  refine V.iload_n dX12_fitsRow_25 rfl rfl ?_
  refine V.iload_n dX12_fitsRow_26 rfl rfl ?_
  refine V.iconst (v := (-1)) dX12_fitsRow_27 rfl ?_
  refine V.ixor dX12_fitsRow_28 ?_
  refine V.iand dX12_fitsRow_29 ?_
  refine V.if_ne (tgt := 58) dX12_fitsRow_30 (by decide) (fun c7 => ?_) (fun c7 => ?_)
  · replace hf := ite_n hf c7
    refine V.iconst (v := 0) dX12_fitsRow_58 rfl ?_
    refine V.ireturn dX12_fitsRow_59 rfl rfl ⟨rfl, rfl⟩ ly.1 ?_
    exact ret_I hf srh5
  · replace hf := ite_p hf c7
    refine V.iload_n dX12_fitsRow_33 rfl rfl ?_
    refine V.iload dX12_fitsRow_34 rfl ?_
    refine V.iand dX12_fitsRow_36 ?_
    refine V.aload_n dX12_fitsRow_37 rfl rfl rfl ?_
    refine V.aload_n dX12_fitsRow_38 rfl rfl rfl ?_
    refine V.getR (r := 114) dX12_fitsRow_39 fl_X12_7 rfl (Or.inl ⟨rfl, SHL_lt rfl⟩) rfl (ly_113_0 (srh5.ly ly)) ?_
    refine V.iconst (v := 3) dX12_fitsRow_42 rfl ?_
    refine V.iaload dX12_fitsRow_43 rfl (Or.inl ⟨rfl, SHL_lt rfl⟩) (vp_lit (by decide)) ?_
    rw [show Int32.toNatClampNeg 3 = 3 from rfl]
    refine V.iload_n dX12_fitsRow_44 rfl rfl ?_
    obtain ⟨r10, h9, q8, hf2⟩ := bd2_el hf
    replace hf := hf2
    clear hf2
    refine V.callVI dX12_fitsRow_45 ml_X12_304 mo_X12_rowOf mv_X12_rowOf rfl (fun q hq => by cases hq; rfl) (by decide) (Or.inl ⟨rfl, SHL_lt rfl⟩) (th_X12_rowOf (srh5.ly ly) q8) rfl rfl ⟨Nat.le_of_ble_eq_true rfl, Nat.le_of_ble_eq_true rfl, fun _ => ⟨rfl, rfl⟩⟩ (Nat.le_of_ble_eq_true rfl) rfl (post_I (fun sq => ?_))
    have srh9 : SR h h9 := srh5.trans sq
    clear sq q8
    refine V.iload dX12_fitsRow_48 rfl ?_
    refine V.iand dX12_fitsRow_50 ?_
    refine V.icmp_ne (tgt := 58) dX12_fitsRow_51 (by decide) (fun c11 => ?_) (fun c11 => ?_)
    · replace hf := ite_n hf c11
      refine V.iconst (v := 0) dX12_fitsRow_58 rfl ?_
      refine V.ireturn dX12_fitsRow_59 rfl rfl ⟨rfl, rfl⟩ ly.1 ?_
      exact ret_I hf srh9
    · replace hf := ite_p hf c11
      refine V.iconst (v := 1) dX12_fitsRow_54 rfl ?_
      refine V.goto (tgt := 59) dX12_fitsRow_55 (by decide) ?_
      refine V.ireturn dX12_fitsRow_59 rfl rfl ⟨rfl, rfl⟩ ly.1 ?_
      exact ret_I hf srh9
set_option maxRecDepth 100000 in
theorem th_X12_rowBecomes_196 {h0 : HP} (ly : Lay h0) {rr : Int32} {hh : HP} {K56 : Int32 → Int32 → Int32 → Int32 → Int32 → Int32 → Int32 → Int32 → HP → Option (Int32 × HP)} (kok56 : ∀ (l1 : Int32) (l2 : Int32) (l3 : Int32) (l5 : Int32) (l6 : Int32) (l7 : Int32) (l8 : Int32) (l9 : Int32) (g : HP), SR h0 g → K56 l1 l2 l3 l5 l6 l7 l8 l9 g = some (rr, hh) → V cX12_rowBecomes miX12_rowBecomes (ZI h0 miX12_rowBecomes rr hh) 130 56 [.ref 113, .int l1, .int l2, .int l3, .null, .int l5, .int l6, .int l7, .int l8, .int l9, .null] [] g) : ∀ (l1 : Int32) (l2 : Int32) (l3 : Int32) (l5 : Int32) (l6 : Int32) (l7 : Int32) (l8 : Int32) (l9 : Int32) (l10 : Int32) (h : HP), SR h0 h → f_X12_rowBecomes_196 K56 l1 l2 l3 l5 l6 l7 l8 l9 l10 h = some (rr, hh) → V cX12_rowBecomes miX12_rowBecomes (ZI h0 miX12_rowBecomes rr hh) 130 196 [.ref 113, .int l1, .int l2, .int l3, .null, .int l5, .int l6, .int l7, .int l8, .int l9, .int l10] [] h := by
  intro l1 l2 l3 l5 l6 l7 l8 l9 l10 h srh hf
  unfold f_X12_rowBecomes_196 at hf
  refine V.iload dX12_rowBecomes_196 rfl ?_
  refine V.aload_n dX12_rowBecomes_198 rfl rfl rfl ?_
  refine V.getR (r := 114) dX12_rowBecomes_199 fl_X12_7 rfl (Or.inl ⟨rfl, SHL_lt rfl⟩) rfl (ly_113_0 (srh.ly ly)) ?_
  refine V.bipush (v := 12) dX12_rowBecomes_202 rfl ?_
  refine V.iconst (v := 2) dX12_rowBecomes_204 rfl ?_
  refine V.aload_n dX12_rowBecomes_205 rfl rfl rfl ?_
  refine V.getR (r := 114) dX12_rowBecomes_206 fl_X12_7 rfl (Or.inl ⟨rfl, SHL_lt rfl⟩) rfl (ly_113_0 (srh.ly ly)) ?_
  refine V.bipush (v := 10) dX12_rowBecomes_209 rfl ?_
  refine V.iaload dX12_rowBecomes_211 rfl (Or.inl ⟨rfl, SHL_lt rfl⟩) (vp_lit (by decide)) ?_
  rw [show Int32.toNatClampNeg 10 = 10 from rfl]
  refine V.imul dX12_rowBecomes_212 ?_
  refine V.iadd dX12_rowBecomes_213 ?_
  refine V.iload_n dX12_rowBecomes_214 rfl rfl ?_
  refine V.iload dX12_rowBecomes_215 rfl ?_
  refine V.ishr dX12_rowBecomes_217 ?_
  refine V.iconst (v := 1) dX12_rowBecomes_218 rfl ?_
  refine V.iand dX12_rowBecomes_219 ?_
  refine V.iadd dX12_rowBecomes_220 ?_
  obtain ⟨b25, hf2⟩ := gdi_el hf
  replace hf := hf2
  clear hf2
  refine V.iaload dX12_rowBecomes_221 rfl (Or.inl ⟨rfl, SHL_lt rfl⟩) b25 ?_
  refine V.iload dX12_rowBecomes_222 rfl ?_
  refine V.ishr dX12_rowBecomes_224 ?_
  refine V.iconst (v := 1) dX12_rowBecomes_225 rfl ?_
  refine V.iand dX12_rowBecomes_226 ?_
  refine V.iload dX12_rowBecomes_227 rfl ?_
  refine V.ishl dX12_rowBecomes_229 ?_
  refine V.ior dX12_rowBecomes_230 ?_
  refine V.nmi (fun x26 ex26 => ?_)
  replace hf := lt_el hf x26 ex26
  refine V.istore (ls' := [.ref 113, .int l1, .int l2, .int l3, .null, .int l5, .int l6, .int l7, .int x26, .int l9, .int l10]) dX12_rowBecomes_231 (by decide) rfl ?_
  obtain ⟨x27, ex27⟩ : ∃ y : Int32, y = l9 + 1 := ⟨_, rfl⟩
  replace hf := lt_el hf x27 ex27
  refine V.iinc (v := x27) (ls' := [.ref 113, .int l1, .int l2, .int l3, .null, .int l5, .int l6, .int l7, .int x26, .int x27, .int l10]) dX12_rowBecomes_233 rfl (by decide) ex27.symm rfl ?_
  refine V.goto (tgt := 56) dX12_rowBecomes_236 (by decide) ?_
  refine V.less (ls' := [.ref 113, .int l1, .int l2, .int l3, .null, .int l5, .int l6, .int l7, .int x26, .int x27, .null]) ⟨Or.inr rfl, Or.inr rfl, Or.inr rfl, Or.inr rfl, Or.inl rfl, Or.inr rfl, Or.inr rfl, Or.inr rfl, Or.inr rfl, Or.inr rfl, Or.inl rfl, trivial⟩ ?_
  exact kok56 l1 l2 l3 l5 l6 l7 x26 x27 h srh hf
set_option maxRecDepth 100000 in
theorem th_X12_rowBecomes_152 {h0 : HP} (ly : Lay h0) {rr : Int32} {hh : HP} {K56 : Int32 → Int32 → Int32 → Int32 → Int32 → Int32 → Int32 → Int32 → HP → Option (Int32 × HP)} (kok56 : ∀ (l1 : Int32) (l2 : Int32) (l3 : Int32) (l5 : Int32) (l6 : Int32) (l7 : Int32) (l8 : Int32) (l9 : Int32) (g : HP), SR h0 g → K56 l1 l2 l3 l5 l6 l7 l8 l9 g = some (rr, hh) → V cX12_rowBecomes miX12_rowBecomes (ZI h0 miX12_rowBecomes rr hh) 130 56 [.ref 113, .int l1, .int l2, .int l3, .null, .int l5, .int l6, .int l7, .int l8, .int l9, .null] [] g) : ∀ (l1 : Int32) (l2 : Int32) (l3 : Int32) (l5 : Int32) (l6 : Int32) (l7 : Int32) (l8 : Int32) (l9 : Int32) (l10 : Int32) (h : HP), SR h0 h → f_X12_rowBecomes_152 K56 l1 l2 l3 l5 l6 l7 l8 l9 l10 h = some (rr, hh) → V cX12_rowBecomes miX12_rowBecomes (ZI h0 miX12_rowBecomes rr hh) 130 152 [.ref 113, .int l1, .int l2, .int l3, .null, .int l5, .int l6, .int l7, .int l8, .int l9, .int l10] [] h := by
  intro l1 l2 l3 l5 l6 l7 l8 l9 l10 h srh hf
  unfold f_X12_rowBecomes_152 at hf
  refine V.iload dX12_rowBecomes_152 rfl ?_
  refine V.iconst (v := 1) dX12_rowBecomes_154 rfl ?_
  refine V.iadd dX12_rowBecomes_155 ?_
  refine V.iload dX12_rowBecomes_156 rfl ?_
  refine V.icmp_ge (tgt := 177) dX12_rowBecomes_158 (by decide) (fun c21 => ?_) (fun c21 => ?_)
  · replace hf := ite_p hf c21
    refine V.aload_n dX12_rowBecomes_177 rfl rfl rfl ?_
    refine V.getR (r := 114) dX12_rowBecomes_178 fl_X12_7 rfl (Or.inl ⟨rfl, SHL_lt rfl⟩) rfl (ly_113_0 (srh.ly ly)) ?_
    refine V.bipush (v := 9) dX12_rowBecomes_181 rfl ?_
    refine V.iaload dX12_rowBecomes_183 rfl (Or.inl ⟨rfl, SHL_lt rfl⟩) (vp_lit (by decide)) ?_
    rw [show Int32.toNatClampNeg 9 = 9 from rfl]
    refine V.iconst (v := 1) dX12_rowBecomes_184 rfl ?_
    refine V.icmp_ne (tgt := 196) dX12_rowBecomes_185 (by decide) (fun c22 => ?_) (fun c22 => ?_)
    · replace hf := ite_n hf c22
      exact th_X12_rowBecomes_196 ly kok56 l1 l2 l3 l5 l6 l7 l8 l9 l10 h srh hf
    · replace hf := ite_p hf c22
      refine V.iload dX12_rowBecomes_188 rfl ?_
      refine V.iload_n dX12_rowBecomes_190 rfl rfl ?_
      refine V.iconst (v := 1) dX12_rowBecomes_191 rfl ?_
      refine V.iand dX12_rowBecomes_192 ?_
      refine V.iadd dX12_rowBecomes_193 ?_
      refine V.nmi (fun x23 ex23 => ?_)
      replace hf := lt_el hf x23 ex23
      refine V.istore (ls' := [.ref 113, .int l1, .int l2, .int l3, .null, .int l5, .int l6, .int l7, .int l8, .int l9, .int x23]) dX12_rowBecomes_194 (by decide) rfl ?_
      exact th_X12_rowBecomes_196 ly kok56 l1 l2 l3 l5 l6 l7 l8 l9 x23 h srh hf
  · replace hf := ite_n hf c21
    refine V.iload dX12_rowBecomes_161 rfl ?_
    refine V.iload_n dX12_rowBecomes_163 rfl rfl ?_
    refine V.iload dX12_rowBecomes_164 rfl ?_
    refine V.iconst (v := 1) dX12_rowBecomes_166 rfl ?_
    refine V.iadd dX12_rowBecomes_167 ?_
    refine V.ishr dX12_rowBecomes_168 ?_
    refine V.iconst (v := 1) dX12_rowBecomes_169 rfl ?_
    refine V.iand dX12_rowBecomes_170 ?_
    refine V.iadd dX12_rowBecomes_171 ?_
    refine V.nmi (fun x24 ex24 => ?_)
    replace hf := lt_el hf x24 ex24
    refine V.istore (ls' := [.ref 113, .int l1, .int l2, .int l3, .null, .int l5, .int l6, .int l7, .int l8, .int l9, .int x24]) dX12_rowBecomes_172 (by decide) rfl ?_
    refine V.goto (tgt := 196) dX12_rowBecomes_174 (by decide) ?_
    exact th_X12_rowBecomes_196 ly kok56 l1 l2 l3 l5 l6 l7 l8 l9 x24 h srh hf
set_option maxRecDepth 100000 in
theorem th_X12_rowBecomes_56 {h0 : HP} (ly : Lay h0) {rr : Int32} {hh : HP}  : ∀ (n : Nat) (l1 : Int32) (l2 : Int32) (l3 : Int32) (l5 : Int32) (l6 : Int32) (l7 : Int32) (l8 : Int32) (l9 : Int32) (h : HP), SR h0 h → f_X12_rowBecomes_56 n l1 l2 l3 l5 l6 l7 l8 l9 h = some (rr, hh) → V cX12_rowBecomes miX12_rowBecomes (ZI h0 miX12_rowBecomes rr hh) 130 56 [.ref 113, .int l1, .int l2, .int l3, .null, .int l5, .int l6, .int l7, .int l8, .int l9, .null] [] h := by
  intro n
  induction n with
  | zero => intro l1 l2 l3 l5 l6 l7 l8 l9 h srh hf; exact absurd hf (by unfold f_X12_rowBecomes_56; simp)
  | succ n ih =>
    intro l1 l2 l3 l5 l6 l7 l8 l9 h srh hf
    unfold f_X12_rowBecomes_56 at hf
    refine V.iload dX12_rowBecomes_56 rfl ?_
    refine V.iload dX12_rowBecomes_58 rfl ?_
    refine V.icmp_ge (tgt := 239) dX12_rowBecomes_60 (by decide) (fun c12 => ?_) (fun c12 => ?_)
    · replace hf := ite_p hf c12
      refine V.iload dX12_rowBecomes_239 rfl ?_
      refine V.ireturn dX12_rowBecomes_241 rfl rfl ⟨rfl, rfl⟩ ly.1 ?_
      exact ret_I hf srh
    · replace hf := ite_n hf c12
      refine V.aload_n dX12_rowBecomes_63 rfl rfl rfl ?_
      refine V.getR (r := 114) dX12_rowBecomes_64 fl_X12_7 rfl (Or.inl ⟨rfl, SHL_lt rfl⟩) rfl (ly_113_0 (srh.ly ly)) ?_
      refine V.bipush (v := 10) dX12_rowBecomes_67 rfl ?_
      refine V.iaload dX12_rowBecomes_69 rfl (Or.inl ⟨rfl, SHL_lt rfl⟩) (vp_lit (by decide)) ?_
      rw [show Int32.toNatClampNeg 10 = 10 from rfl]
      refine V.iconst (v := (-1)) dX12_rowBecomes_70 rfl ?_
      refine V.icmp_eq (tgt := 239) dX12_rowBecomes_71 (by decide) (fun c13 => ?_) (fun c13 => ?_)
      · replace hf := ite_p hf c13
        refine V.iload dX12_rowBecomes_239 rfl ?_
        refine V.ireturn dX12_rowBecomes_241 rfl rfl ⟨rfl, rfl⟩ ly.1 ?_
        exact ret_I hf srh
      · replace hf := ite_n hf c13
        refine V.iload dX12_rowBecomes_74 rfl ?_
        refine V.iload dX12_rowBecomes_76 rfl ?_
        refine V.iconst (v := (-1)) dX12_rowBecomes_78 rfl ?_
        refine V.ixor dX12_rowBecomes_79 ?_
        refine V.iand dX12_rowBecomes_80 ?_
        refine V.iconst (v := 1) dX12_rowBecomes_81 rfl ?_
        refine V.iload dX12_rowBecomes_82 rfl ?_
        refine V.ishl dX12_rowBecomes_84 ?_
        refine V.iand dX12_rowBecomes_85 ?_
        refine V.if_ne (tgt := 92) dX12_rowBecomes_86 (by decide) (fun c14 => ?_) (fun c14 => ?_)
        · replace hf := ite_n hf c14
          refine V.iload_n dX12_rowBecomes_92 rfl rfl ?_
          refine V.iload dX12_rowBecomes_93 rfl ?_
          refine V.ishr dX12_rowBecomes_95 ?_
          refine V.iconst (v := 1) dX12_rowBecomes_96 rfl ?_
          refine V.iand dX12_rowBecomes_97 ?_
          refine V.iload_n dX12_rowBecomes_98 rfl rfl ?_
          refine V.iload dX12_rowBecomes_99 rfl ?_
          refine V.ishr dX12_rowBecomes_101 ?_
          refine V.iconst (v := 1) dX12_rowBecomes_102 rfl ?_
          refine V.iand dX12_rowBecomes_103 ?_
          refine V.iadd dX12_rowBecomes_104 ?_
          refine V.nmi (fun x15 ex15 => ?_)
          replace hf := lt_el hf x15 ex15
          refine V.istore (ls' := [.ref 113, .int l1, .int l2, .int l3, .null, .int l5, .int l6, .int l7, .int l8, .int l9, .int x15]) dX12_rowBecomes_105 (by decide) rfl ?_
          refine V.iload dX12_rowBecomes_107 rfl ?_
          refine V.if_le (tgt := 128) dX12_rowBecomes_109 (by decide) (fun c16 => ?_) (fun c16 => ?_)
          · replace hf := ite_p hf c16
            refine V.aload_n dX12_rowBecomes_128 rfl rfl rfl ?_
            refine V.getR (r := 114) dX12_rowBecomes_129 fl_X12_7 rfl (Or.inl ⟨rfl, SHL_lt rfl⟩) rfl (ly_113_0 (srh.ly ly)) ?_
            refine V.bipush (v := 9) dX12_rowBecomes_132 rfl ?_
            refine V.iaload dX12_rowBecomes_134 rfl (Or.inl ⟨rfl, SHL_lt rfl⟩) (vp_lit (by decide)) ?_
            rw [show Int32.toNatClampNeg 9 = 9 from rfl]
            refine V.iconst (v := 1) dX12_rowBecomes_135 rfl ?_
            refine V.icmp_ne (tgt := 152) dX12_rowBecomes_136 (by decide) (fun c17 => ?_) (fun c17 => ?_)
            · replace hf := ite_n hf c17
              exact th_X12_rowBecomes_152 ly ih l1 l2 l3 l5 l6 l7 l8 l9 x15 h srh hf
            · replace hf := ite_p hf c17
              refine V.iload dX12_rowBecomes_139 rfl ?_
              refine V.iload_n dX12_rowBecomes_141 rfl rfl ?_
              refine V.iload dX12_rowBecomes_142 rfl ?_
              refine V.iconst (v := 1) dX12_rowBecomes_144 rfl ?_
              refine V.isub dX12_rowBecomes_145 ?_
              refine V.ishr dX12_rowBecomes_146 ?_
              refine V.iconst (v := 1) dX12_rowBecomes_147 rfl ?_
              refine V.iand dX12_rowBecomes_148 ?_
              refine V.iadd dX12_rowBecomes_149 ?_
              refine V.nmi (fun x18 ex18 => ?_)
              replace hf := lt_el hf x18 ex18
              refine V.istore (ls' := [.ref 113, .int l1, .int l2, .int l3, .null, .int l5, .int l6, .int l7, .int l8, .int l9, .int x18]) dX12_rowBecomes_150 (by decide) rfl ?_
              exact th_X12_rowBecomes_152 ly ih l1 l2 l3 l5 l6 l7 l8 l9 x18 h srh hf
          · replace hf := ite_n hf c16
            refine V.iload dX12_rowBecomes_112 rfl ?_
            refine V.iload_n dX12_rowBecomes_114 rfl rfl ?_
            refine V.iload dX12_rowBecomes_115 rfl ?_
            refine V.iconst (v := 1) dX12_rowBecomes_117 rfl ?_
            refine V.isub dX12_rowBecomes_118 ?_
            refine V.ishr dX12_rowBecomes_119 ?_
            refine V.iconst (v := 1) dX12_rowBecomes_120 rfl ?_
            refine V.iand dX12_rowBecomes_121 ?_
            refine V.iadd dX12_rowBecomes_122 ?_
            refine V.nmi (fun x19 ex19 => ?_)
            replace hf := lt_el hf x19 ex19
            refine V.istore (ls' := [.ref 113, .int l1, .int l2, .int l3, .null, .int l5, .int l6, .int l7, .int l8, .int l9, .int x19]) dX12_rowBecomes_123 (by decide) rfl ?_
            refine V.goto (tgt := 152) dX12_rowBecomes_125 (by decide) ?_
            exact th_X12_rowBecomes_152 ly ih l1 l2 l3 l5 l6 l7 l8 l9 x19 h srh hf
        · replace hf := ite_p hf c14
          refine V.goto (tgt := 233) dX12_rowBecomes_89 (by decide) ?_
          obtain ⟨x20, ex20⟩ : ∃ y : Int32, y = l9 + 1 := ⟨_, rfl⟩
          replace hf := lt_el hf x20 ex20
          refine V.iinc (v := x20) (ls' := [.ref 113, .int l1, .int l2, .int l3, .null, .int l5, .int l6, .int l7, .int l8, .int x20, .null]) dX12_rowBecomes_233 rfl (by decide) ex20.symm rfl ?_
          refine V.goto (tgt := 56) dX12_rowBecomes_236 (by decide) ?_
          exact ih l1 l2 l3 l5 l6 l7 l8 x20 h srh hf
set_option maxRecDepth 100000 in
theorem th_X12_rowBecomes {h : HP} (ly : Lay h) {a1 : Int32} {a2 : Int32} {a3 : Int32} {a4 : Int32} {rr : Int32} {hh : HP} (hf : f_X12_rowBecomes h a1 a2 a3 a4 = some (rr, hh)) : Spec yX12_rowBecomes cX12_rowBecomes miX12_rowBecomes [.ref 113, .int a1, .int a2, .int a3, .int a4] h (pI fun r' h' => (r' = rr ∧ h' = hh) ∧ SR h hh) := by
  refine Spec.of (ls0 := [.ref 113, .int a1, .int a2, .int a3, .int a4, .null, .null, .null, .null, .null, .null]) mo_X12_rowBecomes (Nat.le_of_ble_eq_true rfl) rfl ?_
  rw [ly.1]
  have srh : SR h h := SR.refl h
  unfold f_X12_rowBecomes at hf
  refine V.aload_n dX12_rowBecomes_0 rfl rfl rfl ?_
  refine V.getR (r := 114) dX12_rowBecomes_1 fl_X12_7 rfl (Or.inl ⟨rfl, SHL_lt rfl⟩) rfl (ly_113_0 (srh.ly ly)) ?_
  refine V.iconst (v := 0) dX12_rowBecomes_4 rfl ?_
  refine V.iaload dX12_rowBecomes_5 rfl (Or.inl ⟨rfl, SHL_lt rfl⟩) (vp_lit (by decide)) ?_
  rw [show Int32.toNatClampNeg 0 = 0 from rfl]
  refine V.nmi (fun x1 ex1 => ?_)
  replace hf := lt_el hf x1 ex1
  refine V.istore (ls' := [.ref 113, .int a1, .int a2, .int a3, .int a4, .int x1, .null, .null, .null, .null, .null]) dX12_rowBecomes_6 (by decide) rfl ?_
  refine V.aload_n dX12_rowBecomes_8 rfl rfl rfl ?_
  refine V.aload_n dX12_rowBecomes_9 rfl rfl rfl ?_
  refine V.getR (r := 114) dX12_rowBecomes_10 fl_X12_7 rfl (Or.inl ⟨rfl, SHL_lt rfl⟩) rfl (ly_113_0 (srh.ly ly)) ?_
  refine V.iconst (v := 4) dX12_rowBecomes_13 rfl ?_
  refine V.iaload dX12_rowBecomes_14 rfl (Or.inl ⟨rfl, SHL_lt rfl⟩) (vp_lit (by decide)) ?_
  rw [show Int32.toNatClampNeg 4 = 4 from rfl]
  refine V.iload dX12_rowBecomes_15 rfl ?_
  obtain ⟨r4, h3, q2, hf2⟩ := bd2_el hf
  replace hf := hf2
  clear hf2
  refine V.callVI dX12_rowBecomes_17 ml_X12_304 mo_X12_rowOf mv_X12_rowOf rfl (fun q hq => by cases hq; rfl) (by decide) (Or.inl ⟨rfl, SHL_lt rfl⟩) (th_X12_rowOf (srh.ly ly) q2) rfl rfl ⟨Nat.le_of_ble_eq_true rfl, Nat.le_of_ble_eq_true rfl, fun _ => ⟨rfl, rfl⟩⟩ (Nat.le_of_ble_eq_true rfl) rfl (post_I (fun sq => ?_))
  have srh3 : SR h h3 := srh.trans sq
  clear sq q2
  refine V.istore (ls' := [.ref 113, .int a1, .int a2, .int a3, .int a4, .int x1, .int r4, .null, .null, .null, .null]) dX12_rowBecomes_20 (by decide) rfl ?_
  refine V.aload_n dX12_rowBecomes_22 rfl rfl rfl ?_
  refine V.aload_n dX12_rowBecomes_23 rfl rfl rfl ?_
  refine V.getR (r := 114) dX12_rowBecomes_24 fl_X12_7 rfl (Or.inl ⟨rfl, SHL_lt rfl⟩) rfl (ly_113_0 (srh3.ly ly)) ?_
  refine V.iconst (v := 2) dX12_rowBecomes_27 rfl ?_
  refine V.iaload dX12_rowBecomes_28 rfl (Or.inl ⟨rfl, SHL_lt rfl⟩) (vp_lit (by decide)) ?_
  rw [show Int32.toNatClampNeg 2 = 2 from rfl]
  refine V.iload dX12_rowBecomes_29 rfl ?_
  obtain ⟨r7, h6, q5, hf2⟩ := bd2_el hf
  replace hf := hf2
  clear hf2
  refine V.callVI dX12_rowBecomes_31 ml_X12_304 mo_X12_rowOf mv_X12_rowOf rfl (fun q hq => by cases hq; rfl) (by decide) (Or.inl ⟨rfl, SHL_lt rfl⟩) (th_X12_rowOf (srh3.ly ly) q5) rfl rfl ⟨Nat.le_of_ble_eq_true rfl, Nat.le_of_ble_eq_true rfl, fun _ => ⟨rfl, rfl⟩⟩ (Nat.le_of_ble_eq_true rfl) rfl (post_I (fun sq => ?_))
  have srh6 : SR h h6 := srh3.trans sq
  clear sq q5
  refine V.istore (ls' := [.ref 113, .int a1, .int a2, .int a3, .int a4, .int x1, .int r4, .int r7, .null, .null, .null]) dX12_rowBecomes_34 (by decide) rfl ?_
  refine V.aload_n dX12_rowBecomes_36 rfl rfl rfl ?_
  refine V.aload_n dX12_rowBecomes_37 rfl rfl rfl ?_
  refine V.getR (r := 114) dX12_rowBecomes_38 fl_X12_7 rfl (Or.inl ⟨rfl, SHL_lt rfl⟩) rfl (ly_113_0 (srh6.ly ly)) ?_
  refine V.iconst (v := 3) dX12_rowBecomes_41 rfl ?_
  refine V.iaload dX12_rowBecomes_42 rfl (Or.inl ⟨rfl, SHL_lt rfl⟩) (vp_lit (by decide)) ?_
  rw [show Int32.toNatClampNeg 3 = 3 from rfl]
  refine V.iload dX12_rowBecomes_43 rfl ?_
  obtain ⟨r10, h9, q8, hf2⟩ := bd2_el hf
  replace hf := hf2
  clear hf2
  refine V.callVI dX12_rowBecomes_45 ml_X12_304 mo_X12_rowOf mv_X12_rowOf rfl (fun q hq => by cases hq; rfl) (by decide) (Or.inl ⟨rfl, SHL_lt rfl⟩) (th_X12_rowOf (srh6.ly ly) q8) rfl rfl ⟨Nat.le_of_ble_eq_true rfl, Nat.le_of_ble_eq_true rfl, fun _ => ⟨rfl, rfl⟩⟩ (Nat.le_of_ble_eq_true rfl) rfl (post_I (fun sq => ?_))
  have srh9 : SR h h9 := srh6.trans sq
  clear sq q8
  refine V.iload dX12_rowBecomes_48 rfl ?_
  refine V.iand dX12_rowBecomes_50 ?_
  refine V.nmi (fun x11 ex11 => ?_)
  replace hf := lt_el hf x11 ex11
  refine V.istore (ls' := [.ref 113, .int a1, .int a2, .int a3, .int a4, .int x1, .int r4, .int r7, .int x11, .null, .null]) dX12_rowBecomes_51 (by decide) rfl ?_
  refine V.iconst (v := 0) dX12_rowBecomes_53 rfl ?_
  refine V.istore (ls' := [.ref 113, .int a1, .int a2, .int a3, .int a4, .int x1, .int r4, .int r7, .int x11, .int 0, .null]) dX12_rowBecomes_54 (by decide) rfl ?_
  refine V.less (ls' := [.ref 113, .int a1, .int a2, .int a3, .null, .int x1, .int r4, .int r7, .int x11, .int 0, .null]) ⟨Or.inr rfl, Or.inr rfl, Or.inr rfl, Or.inr rfl, Or.inl rfl, Or.inr rfl, Or.inr rfl, Or.inr rfl, Or.inr rfl, Or.inr rfl, Or.inl rfl, trivial⟩ ?_
  exact th_X12_rowBecomes_56 ly FU a1 a2 a3 x1 r4 r7 x11 0 h9 srh9 hf
set_option maxRecDepth 100000 in
theorem th_X12_isGood {h : HP} (ly : Lay h) {a1 : Int32} {a2 : Int32} {a3 : Int32} {a4 : Int32} {a5 : Int32} {rr : Int32} {hh : HP} (hf : f_X12_isGood h a1 a2 a3 a4 a5 = some (rr, hh)) : Spec yX12_isGood cX12_isGood miX12_isGood [.ref 113, .int a1, .int a2, .int a3, .int a4, .int a5] h (pI fun r' h' => (r' = rr ∧ h' = hh) ∧ SR h hh) := by
  refine Spec.of (ls0 := [.ref 113, .int a1, .int a2, .int a3, .int a4, .int a5]) mo_X12_isGood (Nat.le_of_ble_eq_true rfl) rfl ?_
  rw [ly.1]
  have srh : SR h h := SR.refl h
  unfold f_X12_isGood at hf
  refine V.aload_n dX12_isGood_0 rfl rfl rfl ?_
  refine V.iload_n dX12_isGood_1 rfl rfl ?_
  refine V.iload_n dX12_isGood_2 rfl rfl ?_
  refine V.iload_n dX12_isGood_3 rfl rfl ?_
  refine V.iload dX12_isGood_4 rfl ?_
  obtain ⟨r3, h2, q1, hf2⟩ := bd2_el hf
  replace hf := hf2
  clear hf2
  refine V.callVI dX12_isGood_6 ml_X12_338 mo_X12_rowBecomes mv_X12_rowBecomes rfl (fun q hq => by cases hq; rfl) (by decide) (Or.inl ⟨rfl, SHL_lt rfl⟩) (th_X12_rowBecomes (srh.ly ly) q1) rfl rfl ⟨Nat.le_of_ble_eq_true rfl, Nat.le_of_ble_eq_true rfl, fun _ => ⟨rfl, rfl⟩⟩ (Nat.le_of_ble_eq_true rfl) rfl (post_I (fun sq => ?_))
  have srh2 : SR h h2 := srh.trans sq
  clear sq q1
  refine V.iload dX12_isGood_9 rfl ?_
  refine V.if_eq (tgt := 18) dX12_isGood_11 (by decide) (fun c4 => ?_) (fun c4 => ?_)
  · replace hf := ite_p hf c4
    refine V.aload_n dX12_isGood_18 rfl rfl rfl ?_
    refine V.aload_n dX12_isGood_19 rfl rfl rfl ?_
    refine V.getR (r := 114) dX12_isGood_20 fl_X12_7 rfl (Or.inl ⟨rfl, SHL_lt rfl⟩) rfl (ly_113_0 (srh2.ly ly)) ?_
    refine V.iconst (v := 3) dX12_isGood_23 rfl ?_
    refine V.iaload dX12_isGood_24 rfl (Or.inl ⟨rfl, SHL_lt rfl⟩) (vp_lit (by decide)) ?_
    rw [show Int32.toNatClampNeg 3 = 3 from rfl]
    refine V.iload dX12_isGood_25 rfl ?_
    obtain ⟨r7, h6, q5, hf2⟩ := bd2_el hf
    replace hf := hf2
    clear hf2
    refine V.callVI dX12_isGood_27 ml_X12_304 mo_X12_rowOf mv_X12_rowOf rfl (fun q hq => by cases hq; rfl) (by decide) (Or.inl ⟨rfl, SHL_lt rfl⟩) (th_X12_rowOf (srh2.ly ly) q5) rfl rfl ⟨Nat.le_of_ble_eq_true rfl, Nat.le_of_ble_eq_true rfl, fun _ => ⟨rfl, rfl⟩⟩ (Nat.le_of_ble_eq_true rfl) rfl (post_I (fun sq => ?_))
    have srh6 : SR h h6 := srh2.trans sq
    clear sq q5
    refine V.icmp_ne (tgt := 37) dX12_isGood_30 (by decide) (fun c8 => ?_) (fun c8 => ?_)
    · replace hf := ite_n hf c8
      refine V.iconst (v := 0) dX12_isGood_37 rfl ?_
      refine V.ireturn dX12_isGood_38 rfl rfl ⟨rfl, rfl⟩ ly.1 ?_
      exact ret_I hf srh6
    · replace hf := ite_p hf c8
      refine V.iconst (v := 1) dX12_isGood_33 rfl ?_
      refine V.goto (tgt := 38) dX12_isGood_34 (by decide) ?_
      refine V.ireturn dX12_isGood_38 rfl rfl ⟨rfl, rfl⟩ ly.1 ?_
      exact ret_I hf srh6
  · replace hf := ite_n hf c4
    refine V.iload_n dX12_isGood_14 rfl rfl ?_
    refine V.goto (tgt := 30) dX12_isGood_15 (by decide) ?_
    refine V.icmp_ne (tgt := 37) dX12_isGood_30 (by decide) (fun c9 => ?_) (fun c9 => ?_)
    · replace hf := ite_n hf c9
      refine V.iconst (v := 0) dX12_isGood_37 rfl ?_
      refine V.ireturn dX12_isGood_38 rfl rfl ⟨rfl, rfl⟩ ly.1 ?_
      exact ret_I hf srh2
    · replace hf := ite_p hf c9
      refine V.iconst (v := 1) dX12_isGood_33 rfl ?_
      refine V.goto (tgt := 38) dX12_isGood_34 (by decide) ?_
      refine V.ireturn dX12_isGood_38 rfl rfl ⟨rfl, rfl⟩ ly.1 ?_
      exact ret_I hf srh2
set_option maxRecDepth 100000 in
theorem th_X12_reckons_180 {h0 : HP} (ly : Lay h0) {rr : Int64} {hh : HP} {K150 : Int32 → Int32 → Int32 → Int32 → Int32 → HP → Option (Int64 × HP)} (kok150 : ∀ (l1 : Int32) (l2 : Int32) (l3 : Int32) (l4 : Int32) (l5 : Int32) (g : HP), SR h0 g → K150 l1 l2 l3 l4 l5 g = some (rr, hh) → V cX12_reckons miX12_reckons (ZJ h0 miX12_reckons rr hh) 130 150 [.ref 113, .int l1, .int l2, .int l3, .int l4, .int l5, .null] [] g) : ∀ (n : Nat) (l1 : Int32) (l2 : Int32) (l3 : Int32) (l4 : Int32) (l5 : Int32) (l6 : Int32) (h : HP), SR h0 h → f_X12_reckons_180 K150 n l1 l2 l3 l4 l5 l6 h = some (rr, hh) → V cX12_reckons miX12_reckons (ZJ h0 miX12_reckons rr hh) 130 180 [.ref 113, .int l1, .int l2, .int l3, .int l4, .int l5, .int l6] [] h := by
  intro n
  induction n with
  | zero => intro l1 l2 l3 l4 l5 l6 h srh hf; exact absurd hf (by unfold f_X12_reckons_180; simp)
  | succ n ih =>
    intro l1 l2 l3 l4 l5 l6 h srh hf
    unfold f_X12_reckons_180 at hf
    refine V.iload dX12_reckons_180 rfl ?_
    refine V.iload_n dX12_reckons_182 rfl rfl ?_
    refine V.icmp_ge (tgt := 248) dX12_reckons_183 (by decide) (fun c37 => ?_) (fun c37 => ?_)
    · replace hf := ite_p hf c37
      obtain ⟨x38, ex38⟩ : ∃ y : Int32, y = l5 + 1 := ⟨_, rfl⟩
      replace hf := lt_el hf x38 ex38
      refine V.iinc (v := x38) (ls' := [.ref 113, .int l1, .int l2, .int l3, .int l4, .int x38, .int l6]) dX12_reckons_248 rfl (by decide) ex38.symm rfl ?_
      refine V.goto (tgt := 150) dX12_reckons_251 (by decide) ?_
      refine V.less (ls' := [.ref 113, .int l1, .int l2, .int l3, .int l4, .int x38, .null]) ⟨Or.inr rfl, Or.inr rfl, Or.inr rfl, Or.inr rfl, Or.inr rfl, Or.inr rfl, Or.inl rfl, trivial⟩ ?_
      exact kok150 l1 l2 l3 l4 x38 h srh hf
    · replace hf := ite_n hf c37
      refine V.aload_n dX12_reckons_186 rfl rfl rfl ?_
      refine V.iload dX12_reckons_187 rfl ?_
      refine V.iload_n dX12_reckons_189 rfl rfl ?_
      obtain ⟨r41, h40, q39, hf2⟩ := bd2_el hf
      replace hf := hf2
      clear hf2
      refine V.callVI dX12_reckons_190 ml_X12_342 mo_X12_fitsRow mv_X12_fitsRow rfl (fun q hq => by cases hq; rfl) (by decide) (Or.inl ⟨rfl, SHL_lt rfl⟩) (th_X12_fitsRow (srh.ly ly) q39) rfl rfl ⟨Nat.le_of_ble_eq_true rfl, Nat.le_of_ble_eq_true rfl, fun _ => ⟨rfl, rfl⟩⟩ (Nat.le_of_ble_eq_true rfl) rfl (post_I (fun sq => ?_))
      have srh40 : SR h0 h40 := srh.trans sq
      clear sq q39
      refine V.if_eq (tgt := 242) dX12_reckons_193 (by decide) (fun c42 => ?_) (fun c42 => ?_)
      · replace hf := ite_p hf c42
        obtain ⟨x43, ex43⟩ : ∃ y : Int32, y = l6 + 1 := ⟨_, rfl⟩
        replace hf := lt_el hf x43 ex43
        refine V.iinc (v := x43) (ls' := [.ref 113, .int l1, .int l2, .int l3, .int l4, .int l5, .int x43]) dX12_reckons_242 rfl (by decide) ex43.symm rfl ?_
        refine V.goto (tgt := 180) dX12_reckons_245 (by decide) ?_
        exact ih l1 l2 l3 l4 l5 x43 h40 srh40 hf
      · replace hf := ite_n hf c42
        refine V.aload_n dX12_reckons_196 rfl rfl rfl ?_
        refine V.iload dX12_reckons_197 rfl ?_
        refine V.iload dX12_reckons_199 rfl ?_
        refine V.iload dX12_reckons_201 rfl ?_
        refine V.iload_n dX12_reckons_203 rfl rfl ?_
        refine V.iconst (v := 1) dX12_reckons_204 rfl ?_
        refine V.isub dX12_reckons_205 ?_
        refine V.iload_n dX12_reckons_206 rfl rfl ?_
        obtain ⟨r46, h45, q44, hf2⟩ := bd2_el hf
        replace hf := hf2
        clear hf2
        refine V.callVI dX12_reckons_207 ml_X12_345 mo_X12_isGood mv_X12_isGood rfl (fun q hq => by cases hq; rfl) (by decide) (Or.inl ⟨rfl, SHL_lt rfl⟩) (th_X12_isGood (srh40.ly ly) q44) rfl rfl ⟨Nat.le_of_ble_eq_true rfl, Nat.le_of_ble_eq_true rfl, fun _ => ⟨rfl, rfl⟩⟩ (Nat.le_of_ble_eq_true rfl) rfl (post_I (fun sq => ?_))
        have srh45 : SR h0 h45 := srh40.trans sq
        clear sq q44
        refine V.if_eq (tgt := 242) dX12_reckons_210 (by decide) (fun c47 => ?_) (fun c47 => ?_)
        · replace hf := ite_p hf c47
          obtain ⟨x48, ex48⟩ : ∃ y : Int32, y = l6 + 1 := ⟨_, rfl⟩
          replace hf := lt_el hf x48 ex48
          refine V.iinc (v := x48) (ls' := [.ref 113, .int l1, .int l2, .int l3, .int l4, .int l5, .int x48]) dX12_reckons_242 rfl (by decide) ex48.symm rfl ?_
          refine V.goto (tgt := 180) dX12_reckons_245 (by decide) ?_
          exact ih l1 l2 l3 l4 l5 x48 h45 srh45 hf
        · replace hf := ite_n hf c47
          refine V.aload_n dX12_reckons_213 rfl rfl rfl ?_
          refine V.getR (r := 125) dX12_reckons_214 fl_X12_56 rfl (Or.inl ⟨rfl, SHL_lt rfl⟩) rfl (ly_113_28 (srh45.ly ly)) ?_
          refine V.bipush (v := 32) dX12_reckons_217 rfl ?_
          refine V.iload dX12_reckons_219 rfl ?_
          refine V.imul dX12_reckons_221 ?_
          refine V.iload dX12_reckons_222 rfl ?_
          refine V.iadd dX12_reckons_224 ?_
          refine V.nmi (fun x49 ex49 => ?_)
          replace hf := lt_el hf x49 ex49
          refine V.dup2 dX12_reckons_225 rfl rfl ?_
          obtain ⟨b50, hf2⟩ := gdi_el hf
          replace hf := hf2
          clear hf2
          refine V.laload dX12_reckons_226 rfl (Or.inl ⟨rfl, SHL_lt rfl⟩) b50 ?_
          refine V.aload_n dX12_reckons_227 rfl rfl rfl ?_
          refine V.getR (r := 124) dX12_reckons_228 fl_X12_53 rfl (Or.inl ⟨rfl, SHL_lt rfl⟩) rfl (ly_113_27 (srh45.ly ly)) ?_
          refine V.bipush (v := 32) dX12_reckons_231 rfl ?_
          refine V.iload dX12_reckons_233 rfl ?_
          refine V.imul dX12_reckons_235 ?_
          refine V.iload dX12_reckons_236 rfl ?_
          refine V.iadd dX12_reckons_238 ?_
          obtain ⟨b51, hf2⟩ := gdi_el hf
          replace hf := hf2
          clear hf2
          refine V.laload dX12_reckons_239 rfl (Or.inl ⟨rfl, SHL_lt rfl⟩) b51 ?_
          refine V.ladd dX12_reckons_240 ?_
          obtain ⟨b52, hf2⟩ := gdi_el hf
          replace hf := hf2
          clear hf2
          refine V.lastore dX12_reckons_241 rfl (Or.inl ⟨rfl, SHL_lt rfl⟩) b52 ?_
          refine V.nameH (fun g53 eg53 => ?_)
          replace hf := lt_el hf g53 eg53
          have srg53 : SR h0 g53 := by rw [eg53]; exact srh45.L _ _ _
          obtain ⟨x54, ex54⟩ : ∃ y : Int32, y = l6 + 1 := ⟨_, rfl⟩
          replace hf := lt_el hf x54 ex54
          refine V.iinc (v := x54) (ls' := [.ref 113, .int l1, .int l2, .int l3, .int l4, .int l5, .int x54]) dX12_reckons_242 rfl (by decide) ex54.symm rfl ?_
          refine V.goto (tgt := 180) dX12_reckons_245 (by decide) ?_
          exact ih l1 l2 l3 l4 l5 x54 g53 srg53 hf
set_option maxRecDepth 100000 in
theorem th_X12_reckons_150 {h0 : HP} (ly : Lay h0) {rr : Int64} {hh : HP} {K141 : Int32 → Int32 → Int32 → Int32 → HP → Option (Int64 × HP)} (kok141 : ∀ (l1 : Int32) (l2 : Int32) (l3 : Int32) (l4 : Int32) (g : HP), SR h0 g → K141 l1 l2 l3 l4 g = some (rr, hh) → V cX12_reckons miX12_reckons (ZJ h0 miX12_reckons rr hh) 130 141 [.ref 113, .int l1, .int l2, .int l3, .int l4, .null, .null] [] g) : ∀ (n : Nat) (l1 : Int32) (l2 : Int32) (l3 : Int32) (l4 : Int32) (l5 : Int32) (h : HP), SR h0 h → f_X12_reckons_150 K141 n l1 l2 l3 l4 l5 h = some (rr, hh) → V cX12_reckons miX12_reckons (ZJ h0 miX12_reckons rr hh) 130 150 [.ref 113, .int l1, .int l2, .int l3, .int l4, .int l5, .null] [] h := by
  intro n
  induction n with
  | zero => intro l1 l2 l3 l4 l5 h srh hf; exact absurd hf (by unfold f_X12_reckons_150; simp)
  | succ n ih =>
    intro l1 l2 l3 l4 l5 h srh hf
    unfold f_X12_reckons_150 at hf
    refine V.iload dX12_reckons_150 rfl ?_
    refine V.iload_n dX12_reckons_152 rfl rfl ?_
    refine V.icmp_ge (tgt := 254) dX12_reckons_153 (by decide) (fun c32 => ?_) (fun c32 => ?_)
    · replace hf := ite_p hf c32
      obtain ⟨x33, ex33⟩ : ∃ y : Int32, y = l4 + 1 := ⟨_, rfl⟩
      replace hf := lt_el hf x33 ex33
      refine V.iinc (v := x33) (ls' := [.ref 113, .int l1, .int l2, .int l3, .int x33, .int l5, .null]) dX12_reckons_254 rfl (by decide) ex33.symm rfl ?_
      refine V.goto (tgt := 141) dX12_reckons_257 (by decide) ?_
      refine V.less (ls' := [.ref 113, .int l1, .int l2, .int l3, .int x33, .null, .null]) ⟨Or.inr rfl, Or.inr rfl, Or.inr rfl, Or.inr rfl, Or.inr rfl, Or.inl rfl, Or.inl rfl, trivial⟩ ?_
      exact kok141 l1 l2 l3 x33 h srh hf
    · replace hf := ite_n hf c32
      refine V.aload_n dX12_reckons_156 rfl rfl rfl ?_
      refine V.getR (r := 124) dX12_reckons_157 fl_X12_53 rfl (Or.inl ⟨rfl, SHL_lt rfl⟩) rfl (ly_113_27 (srh.ly ly)) ?_
      refine V.bipush (v := 32) dX12_reckons_160 rfl ?_
      refine V.iload dX12_reckons_162 rfl ?_
      refine V.imul dX12_reckons_164 ?_
      refine V.iload dX12_reckons_165 rfl ?_
      refine V.iadd dX12_reckons_167 ?_
      obtain ⟨b34, hf2⟩ := gdi_el hf
      replace hf := hf2
      clear hf2
      refine V.laload dX12_reckons_168 rfl (Or.inl ⟨rfl, SHL_lt rfl⟩) b34 ?_
      refine V.lconst (v := 0) dX12_reckons_169 rfl ?_
      refine V.lcmp dX12_reckons_170 ?_
      refine V.if_ne (tgt := 177) dX12_reckons_171 (by decide) (fun c35 => ?_) (fun c35 => ?_)
      · replace hf := ite_n hf c35
        refine V.iconst (v := 0) dX12_reckons_177 rfl ?_
        refine V.istore (ls' := [.ref 113, .int l1, .int l2, .int l3, .int l4, .int l5, .int 0]) dX12_reckons_178 (by decide) rfl ?_
        exact th_X12_reckons_180 ly ih FU l1 l2 l3 l4 l5 0 h srh hf
      · replace hf := ite_p hf c35
        refine V.goto (tgt := 248) dX12_reckons_174 (by decide) ?_
        obtain ⟨x36, ex36⟩ : ∃ y : Int32, y = l5 + 1 := ⟨_, rfl⟩
        replace hf := lt_el hf x36 ex36
        refine V.iinc (v := x36) (ls' := [.ref 113, .int l1, .int l2, .int l3, .int l4, .int x36, .null]) dX12_reckons_248 rfl (by decide) ex36.symm rfl ?_
        refine V.goto (tgt := 150) dX12_reckons_251 (by decide) ?_
        exact ih l1 l2 l3 l4 x36 h srh hf
set_option maxRecDepth 100000 in
theorem th_X12_reckons_263 {h0 : HP} (ly : Lay h0) {rr : Int64} {hh : HP} {K103 : Int32 → Int32 → Int32 → HP → Option (Int64 × HP)} (kok103 : ∀ (l1 : Int32) (l2 : Int32) (l3 : Int32) (g : HP), SR h0 g → K103 l1 l2 l3 g = some (rr, hh) → V cX12_reckons miX12_reckons (ZJ h0 miX12_reckons rr hh) 130 103 [.ref 113, .int l1, .int l2, .int l3, .null, .null, .null] [] g) : ∀ (n : Nat) (l1 : Int32) (l2 : Int32) (l3 : Int32) (l4 : Int32) (h : HP), SR h0 h → f_X12_reckons_263 K103 n l1 l2 l3 l4 h = some (rr, hh) → V cX12_reckons miX12_reckons (ZJ h0 miX12_reckons rr hh) 130 263 [.ref 113, .int l1, .int l2, .int l3, .int l4, .null, .null] [] h := by
  intro n
  induction n with
  | zero => intro l1 l2 l3 l4 h srh hf; exact absurd hf (by unfold f_X12_reckons_263; simp)
  | succ n ih =>
    intro l1 l2 l3 l4 h srh hf
    unfold f_X12_reckons_263 at hf
    refine V.iload dX12_reckons_263 rfl ?_
    refine V.sipush (v := 1024) dX12_reckons_265 rfl ?_
    refine V.icmp_ge (tgt := 321) dX12_reckons_268 (by decide) (fun c55 => ?_) (fun c55 => ?_)
    · replace hf := ite_p hf c55
      obtain ⟨x56, ex56⟩ : ∃ y : Int32, y = l3 + 1 := ⟨_, rfl⟩
      replace hf := lt_el hf x56 ex56
      refine V.iinc (v := x56) (ls' := [.ref 113, .int l1, .int l2, .int x56, .int l4, .null, .null]) dX12_reckons_321 rfl (by decide) ex56.symm rfl ?_
      refine V.goto (tgt := 103) dX12_reckons_324 (by decide) ?_
      refine V.less (ls' := [.ref 113, .int l1, .int l2, .int x56, .null, .null, .null]) ⟨Or.inr rfl, Or.inr rfl, Or.inr rfl, Or.inr rfl, Or.inl rfl, Or.inl rfl, Or.inl rfl, trivial⟩ ?_
      exact kok103 l1 l2 x56 h srh hf
    · replace hf := ite_n hf c55
      refine V.aload_n dX12_reckons_271 rfl rfl rfl ?_
      refine V.getR (r := 124) dX12_reckons_272 fl_X12_53 rfl (Or.inl ⟨rfl, SHL_lt rfl⟩) rfl (ly_113_27 (srh.ly ly)) ?_
      refine V.iload dX12_reckons_275 rfl ?_
      refine V.aload_n dX12_reckons_277 rfl rfl rfl ?_
      refine V.getR (r := 125) dX12_reckons_278 fl_X12_56 rfl (Or.inl ⟨rfl, SHL_lt rfl⟩) rfl (ly_113_28 (srh.ly ly)) ?_
      refine V.iload dX12_reckons_281 rfl ?_
      obtain ⟨b57, hf2⟩ := gdi_el hf
      replace hf := hf2
      clear hf2
      refine V.laload dX12_reckons_283 rfl (Or.inl ⟨rfl, SHL_lt rfl⟩) b57 ?_
      obtain ⟨b58, hf2⟩ := gdi_el hf
      replace hf := hf2
      clear hf2
      refine V.lastore dX12_reckons_284 rfl (Or.inl ⟨rfl, SHL_lt rfl⟩) b58 ?_
      refine V.nameH (fun g59 eg59 => ?_)
      replace hf := lt_el hf g59 eg59
      have srg59 : SR h0 g59 := by rw [eg59]; exact srh.L _ _ _
      refine V.aload_n dX12_reckons_285 rfl rfl rfl ?_
      refine V.getR (r := 126) dX12_reckons_286 fl_X12_59 rfl (Or.inl ⟨rfl, SHL_lt rfl⟩) rfl (ly_113_29 (srg59.ly ly)) ?_
      refine V.sipush (v := 1024) dX12_reckons_289 rfl ?_
      refine V.iload_n dX12_reckons_292 rfl rfl ?_
      refine V.imul dX12_reckons_293 ?_
      refine V.iload dX12_reckons_294 rfl ?_
      refine V.iadd dX12_reckons_296 ?_
      refine V.aload_n dX12_reckons_297 rfl rfl rfl ?_
      refine V.getR (r := 124) dX12_reckons_298 fl_X12_53 rfl (Or.inl ⟨rfl, SHL_lt rfl⟩) rfl (ly_113_27 (srg59.ly ly)) ?_
      refine V.iload dX12_reckons_301 rfl ?_
      obtain ⟨b60, hf2⟩ := gdi_el hf
      replace hf := hf2
      clear hf2
      refine V.laload dX12_reckons_303 rfl (Or.inl ⟨rfl, SHL_lt rfl⟩) b60 ?_
      refine V.lconst (v := 0) dX12_reckons_304 rfl ?_
      refine V.lcmp dX12_reckons_305 ?_
      refine V.if_le (tgt := 313) dX12_reckons_306 (by decide) (fun c61 => ?_) (fun c61 => ?_)
      · replace hf := ite_p hf c61
        refine V.iconst (v := 0) dX12_reckons_313 rfl ?_
        obtain ⟨b62, hf2⟩ := gdi_el hf
        replace hf := hf2
        clear hf2
        refine V.iastore dX12_reckons_314 rfl (Or.inl ⟨rfl, SHL_lt rfl⟩) b62 ?_
        refine V.nameH (fun g63 eg63 => ?_)
        replace hf := lt_el hf g63 eg63
        have srg63 : SR h0 g63 := by rw [eg63]; exact srg59.I _ _ _
        obtain ⟨x64, ex64⟩ : ∃ y : Int32, y = l4 + 1 := ⟨_, rfl⟩
        replace hf := lt_el hf x64 ex64
        refine V.iinc (v := x64) (ls' := [.ref 113, .int l1, .int l2, .int l3, .int x64, .null, .null]) dX12_reckons_315 rfl (by decide) ex64.symm rfl ?_
        refine V.goto (tgt := 263) dX12_reckons_318 (by decide) ?_
        exact ih l1 l2 l3 x64 g63 srg63 hf
      · replace hf := ite_n hf c61
        refine V.iconst (v := 1) dX12_reckons_309 rfl ?_
        refine V.goto (tgt := 314) dX12_reckons_310 (by decide) ?_
        obtain ⟨b65, hf2⟩ := gdi_el hf
        replace hf := hf2
        clear hf2
        refine V.iastore dX12_reckons_314 rfl (Or.inl ⟨rfl, SHL_lt rfl⟩) b65 ?_
        refine V.nameH (fun g66 eg66 => ?_)
        replace hf := lt_el hf g66 eg66
        have srg66 : SR h0 g66 := by rw [eg66]; exact srg59.I _ _ _
        obtain ⟨x67, ex67⟩ : ∃ y : Int32, y = l4 + 1 := ⟨_, rfl⟩
        replace hf := lt_el hf x67 ex67
        refine V.iinc (v := x67) (ls' := [.ref 113, .int l1, .int l2, .int l3, .int x67, .null, .null]) dX12_reckons_315 rfl (by decide) ex67.symm rfl ?_
        refine V.goto (tgt := 263) dX12_reckons_318 (by decide) ?_
        exact ih l1 l2 l3 x67 g66 srg66 hf
set_option maxRecDepth 100000 in
theorem th_X12_reckons_141 {h0 : HP} (ly : Lay h0) {rr : Int64} {hh : HP} {K103 : Int32 → Int32 → Int32 → HP → Option (Int64 × HP)} (kok103 : ∀ (l1 : Int32) (l2 : Int32) (l3 : Int32) (g : HP), SR h0 g → K103 l1 l2 l3 g = some (rr, hh) → V cX12_reckons miX12_reckons (ZJ h0 miX12_reckons rr hh) 130 103 [.ref 113, .int l1, .int l2, .int l3, .null, .null, .null] [] g) : ∀ (n : Nat) (l1 : Int32) (l2 : Int32) (l3 : Int32) (l4 : Int32) (h : HP), SR h0 h → f_X12_reckons_141 K103 n l1 l2 l3 l4 h = some (rr, hh) → V cX12_reckons miX12_reckons (ZJ h0 miX12_reckons rr hh) 130 141 [.ref 113, .int l1, .int l2, .int l3, .int l4, .null, .null] [] h := by
  intro n
  induction n with
  | zero => intro l1 l2 l3 l4 h srh hf; exact absurd hf (by unfold f_X12_reckons_141; simp)
  | succ n ih =>
    intro l1 l2 l3 l4 h srh hf
    unfold f_X12_reckons_141 at hf
    refine V.iload dX12_reckons_141 rfl ?_
    refine V.iload_n dX12_reckons_143 rfl rfl ?_
    refine V.icmp_ge (tgt := 260) dX12_reckons_144 (by decide) (fun c31 => ?_) (fun c31 => ?_)
    · replace hf := ite_p hf c31
      refine V.iconst (v := 0) dX12_reckons_260 rfl ?_
      refine V.istore (ls' := [.ref 113, .int l1, .int l2, .int l3, .int 0, .null, .null]) dX12_reckons_261 (by decide) rfl ?_
      exact th_X12_reckons_263 ly kok103 FU l1 l2 l3 0 h srh hf
    · replace hf := ite_n hf c31
      refine V.iconst (v := 0) dX12_reckons_147 rfl ?_
      refine V.istore (ls' := [.ref 113, .int l1, .int l2, .int l3, .int l4, .int 0, .null]) dX12_reckons_148 (by decide) rfl ?_
      exact th_X12_reckons_150 ly ih FU l1 l2 l3 l4 0 h srh hf
set_option maxRecDepth 100000 in
theorem th_X12_reckons_116 {h0 : HP} (ly : Lay h0) {rr : Int64} {hh : HP} {K103 : Int32 → Int32 → Int32 → HP → Option (Int64 × HP)} (kok103 : ∀ (l1 : Int32) (l2 : Int32) (l3 : Int32) (g : HP), SR h0 g → K103 l1 l2 l3 g = some (rr, hh) → V cX12_reckons miX12_reckons (ZJ h0 miX12_reckons rr hh) 130 103 [.ref 113, .int l1, .int l2, .int l3, .null, .null, .null] [] g) : ∀ (n : Nat) (l1 : Int32) (l2 : Int32) (l3 : Int32) (l4 : Int32) (h : HP), SR h0 h → f_X12_reckons_116 K103 n l1 l2 l3 l4 h = some (rr, hh) → V cX12_reckons miX12_reckons (ZJ h0 miX12_reckons rr hh) 130 116 [.ref 113, .int l1, .int l2, .int l3, .int l4, .null, .null] [] h := by
  intro n
  induction n with
  | zero => intro l1 l2 l3 l4 h srh hf; exact absurd hf (by unfold f_X12_reckons_116; simp)
  | succ n ih =>
    intro l1 l2 l3 l4 h srh hf
    unfold f_X12_reckons_116 at hf
    refine V.iload dX12_reckons_116 rfl ?_
    refine V.sipush (v := 1024) dX12_reckons_118 rfl ?_
    refine V.icmp_ge (tgt := 138) dX12_reckons_121 (by decide) (fun c27 => ?_) (fun c27 => ?_)
    · replace hf := ite_p hf c27
      refine V.iconst (v := 0) dX12_reckons_138 rfl ?_
      refine V.istore (ls' := [.ref 113, .int l1, .int l2, .int l3, .int 0, .null, .null]) dX12_reckons_139 (by decide) rfl ?_
      exact th_X12_reckons_141 ly kok103 FU l1 l2 l3 0 h srh hf
    · replace hf := ite_n hf c27
      refine V.aload_n dX12_reckons_124 rfl rfl rfl ?_
      refine V.getR (r := 125) dX12_reckons_125 fl_X12_56 rfl (Or.inl ⟨rfl, SHL_lt rfl⟩) rfl (ly_113_28 (srh.ly ly)) ?_
      refine V.iload dX12_reckons_128 rfl ?_
      refine V.lconst (v := 0) dX12_reckons_130 rfl ?_
      obtain ⟨b28, hf2⟩ := gdi_el hf
      replace hf := hf2
      clear hf2
      refine V.lastore dX12_reckons_131 rfl (Or.inl ⟨rfl, SHL_lt rfl⟩) b28 ?_
      refine V.nameH (fun g29 eg29 => ?_)
      replace hf := lt_el hf g29 eg29
      have srg29 : SR h0 g29 := by rw [eg29]; exact srh.L _ _ _
      obtain ⟨x30, ex30⟩ : ∃ y : Int32, y = l4 + 1 := ⟨_, rfl⟩
      replace hf := lt_el hf x30 ex30
      refine V.iinc (v := x30) (ls' := [.ref 113, .int l1, .int l2, .int l3, .int x30, .null, .null]) dX12_reckons_132 rfl (by decide) ex30.symm rfl ?_
      refine V.goto (tgt := 116) dX12_reckons_135 (by decide) ?_
      exact ih l1 l2 l3 x30 g29 srg29 hf
set_option maxRecDepth 100000 in
theorem th_X12_reckons_341 {h0 : HP} (ly : Lay h0) {rr : Int64} {hh : HP} {K332 : Int32 → Int32 → Int64 → Int32 → HP → Option (Int64 × HP)} (kok332 : ∀ (l1 : Int32) (l2 : Int32) (l3 : Int64) (l5 : Int32) (g : HP), SR h0 g → K332 l1 l2 l3 l5 g = some (rr, hh) → V cX12_reckons miX12_reckons (ZJ h0 miX12_reckons rr hh) 130 332 [.ref 113, .int l1, .int l2, .long l3, .null, .int l5, .null] [] g) : ∀ (n : Nat) (l1 : Int32) (l2 : Int32) (l3 : Int64) (l5 : Int32) (l6 : Int32) (h : HP), SR h0 h → f_X12_reckons_341 K332 n l1 l2 l3 l5 l6 h = some (rr, hh) → V cX12_reckons miX12_reckons (ZJ h0 miX12_reckons rr hh) 130 341 [.ref 113, .int l1, .int l2, .long l3, .null, .int l5, .int l6] [] h := by
  intro n
  induction n with
  | zero => intro l1 l2 l3 l5 l6 h srh hf; exact absurd hf (by unfold f_X12_reckons_341; simp)
  | succ n ih =>
    intro l1 l2 l3 l5 l6 h srh hf
    unfold f_X12_reckons_341 at hf
    refine V.iload dX12_reckons_341 rfl ?_
    refine V.iload_n dX12_reckons_343 rfl rfl ?_
    refine V.icmp_ge (tgt := 412) dX12_reckons_344 (by decide) (fun c69 => ?_) (fun c69 => ?_)
    · replace hf := ite_p hf c69
      obtain ⟨x70, ex70⟩ : ∃ y : Int32, y = l5 + 1 := ⟨_, rfl⟩
      replace hf := lt_el hf x70 ex70
      refine V.iinc (v := x70) (ls' := [.ref 113, .int l1, .int l2, .long l3, .null, .int x70, .int l6]) dX12_reckons_412 rfl (by decide) ex70.symm rfl ?_
      refine V.goto (tgt := 332) dX12_reckons_415 (by decide) ?_
      refine V.less (ls' := [.ref 113, .int l1, .int l2, .long l3, .null, .int x70, .null]) ⟨Or.inr rfl, Or.inr rfl, Or.inr rfl, Or.inr rfl, Or.inl rfl, Or.inr rfl, Or.inl rfl, trivial⟩ ?_
      exact kok332 l1 l2 l3 x70 h srh hf
    · replace hf := ite_n hf c69
      refine V.lload_n dX12_reckons_347 rfl rfl ?_
      refine V.aload_n dX12_reckons_348 rfl rfl rfl ?_
      refine V.getR (r := 124) dX12_reckons_349 fl_X12_53 rfl (Or.inl ⟨rfl, SHL_lt rfl⟩) rfl (ly_113_27 (srh.ly ly)) ?_
      refine V.bipush (v := 32) dX12_reckons_352 rfl ?_
      refine V.iload dX12_reckons_354 rfl ?_
      refine V.imul dX12_reckons_356 ?_
      refine V.iload dX12_reckons_357 rfl ?_
      refine V.iadd dX12_reckons_359 ?_
      obtain ⟨b71, hf2⟩ := gdi_el hf
      replace hf := hf2
      clear hf2
      refine V.laload dX12_reckons_360 rfl (Or.inl ⟨rfl, SHL_lt rfl⟩) b71 ?_
      refine V.lconst (v := 0) dX12_reckons_361 rfl ?_
      refine V.lcmp dX12_reckons_362 ?_
      refine V.if_le (tgt := 403) dX12_reckons_363 (by decide) (fun c72 => ?_) (fun c72 => ?_)
      · replace hf := ite_p hf c72
        refine V.lconst (v := 0) dX12_reckons_403 rfl ?_
        refine V.ladd dX12_reckons_404 ?_
        refine V.nml (fun x73 ex73 => ?_)
        replace hf := lt_el hf x73 ex73
        refine V.lstore_n (ls' := [.ref 113, .int l1, .int l2, .long x73, .null, .int l5, .int l6]) dX12_reckons_405 rfl (by decide) rfl ?_
        obtain ⟨x74, ex74⟩ : ∃ y : Int32, y = l6 + 1 := ⟨_, rfl⟩
        replace hf := lt_el hf x74 ex74
        refine V.iinc (v := x74) (ls' := [.ref 113, .int l1, .int l2, .long x73, .null, .int l5, .int x74]) dX12_reckons_406 rfl (by decide) ex74.symm rfl ?_
        refine V.goto (tgt := 341) dX12_reckons_409 (by decide) ?_
        exact ih l1 l2 x73 l5 x74 h srh hf
      · replace hf := ite_n hf c72
        refine V.aload_n dX12_reckons_366 rfl rfl rfl ?_
        refine V.iload dX12_reckons_367 rfl ?_
        refine V.iload dX12_reckons_369 rfl ?_
        refine V.iconst (v := 0) dX12_reckons_371 rfl ?_
        refine V.aload_n dX12_reckons_372 rfl rfl rfl ?_
        refine V.getR (r := 114) dX12_reckons_373 fl_X12_7 rfl (Or.inl ⟨rfl, SHL_lt rfl⟩) rfl (ly_113_0 (srh.ly ly)) ?_
        refine V.iconst (v := 1) dX12_reckons_376 rfl ?_
        refine V.iaload dX12_reckons_377 rfl (Or.inl ⟨rfl, SHL_lt rfl⟩) (vp_lit (by decide)) ?_
        rw [show Int32.toNatClampNeg 1 = 1 from rfl]
        refine V.iconst (v := 1) dX12_reckons_378 rfl ?_
        refine V.isub dX12_reckons_379 ?_
        refine V.iload_n dX12_reckons_380 rfl rfl ?_
        obtain ⟨r77, h76, q75, hf2⟩ := bd2_el hf
        replace hf := hf2
        clear hf2
        refine V.callVI dX12_reckons_381 ml_X12_345 mo_X12_isGood mv_X12_isGood rfl (fun q hq => by cases hq; rfl) (by decide) (Or.inl ⟨rfl, SHL_lt rfl⟩) (th_X12_isGood (srh.ly ly) q75) rfl rfl ⟨Nat.le_of_ble_eq_true rfl, Nat.le_of_ble_eq_true rfl, fun _ => ⟨rfl, rfl⟩⟩ (Nat.le_of_ble_eq_true rfl) rfl (post_I (fun sq => ?_))
        have srh76 : SR h0 h76 := srh.trans sq
        clear sq q75
        refine V.if_eq (tgt := 403) dX12_reckons_384 (by decide) (fun c78 => ?_) (fun c78 => ?_)
        · replace hf := ite_p hf c78
          refine V.lconst (v := 0) dX12_reckons_403 rfl ?_
          refine V.ladd dX12_reckons_404 ?_
          refine V.nml (fun x79 ex79 => ?_)
          replace hf := lt_el hf x79 ex79
          refine V.lstore_n (ls' := [.ref 113, .int l1, .int l2, .long x79, .null, .int l5, .int l6]) dX12_reckons_405 rfl (by decide) rfl ?_
          obtain ⟨x80, ex80⟩ : ∃ y : Int32, y = l6 + 1 := ⟨_, rfl⟩
          replace hf := lt_el hf x80 ex80
          refine V.iinc (v := x80) (ls' := [.ref 113, .int l1, .int l2, .long x79, .null, .int l5, .int x80]) dX12_reckons_406 rfl (by decide) ex80.symm rfl ?_
          refine V.goto (tgt := 341) dX12_reckons_409 (by decide) ?_
          exact ih l1 l2 x79 l5 x80 h76 srh76 hf
        · replace hf := ite_n hf c78
          refine V.aload_n dX12_reckons_387 rfl rfl rfl ?_
          refine V.getR (r := 124) dX12_reckons_388 fl_X12_53 rfl (Or.inl ⟨rfl, SHL_lt rfl⟩) rfl (ly_113_27 (srh76.ly ly)) ?_
          refine V.bipush (v := 32) dX12_reckons_391 rfl ?_
          refine V.iload dX12_reckons_393 rfl ?_
          refine V.imul dX12_reckons_395 ?_
          refine V.iload dX12_reckons_396 rfl ?_
          refine V.iadd dX12_reckons_398 ?_
          obtain ⟨b81, hf2⟩ := gdi_el hf
          replace hf := hf2
          clear hf2
          refine V.laload dX12_reckons_399 rfl (Or.inl ⟨rfl, SHL_lt rfl⟩) b81 ?_
          refine V.goto (tgt := 404) dX12_reckons_400 (by decide) ?_
          refine V.ladd dX12_reckons_404 ?_
          refine V.nml (fun x82 ex82 => ?_)
          replace hf := lt_el hf x82 ex82
          refine V.lstore_n (ls' := [.ref 113, .int l1, .int l2, .long x82, .null, .int l5, .int l6]) dX12_reckons_405 rfl (by decide) rfl ?_
          obtain ⟨x83, ex83⟩ : ∃ y : Int32, y = l6 + 1 := ⟨_, rfl⟩
          replace hf := lt_el hf x83 ex83
          refine V.iinc (v := x83) (ls' := [.ref 113, .int l1, .int l2, .long x82, .null, .int l5, .int x83]) dX12_reckons_406 rfl (by decide) ex83.symm rfl ?_
          refine V.goto (tgt := 341) dX12_reckons_409 (by decide) ?_
          exact ih l1 l2 x82 l5 x83 h76 srh76 hf
set_option maxRecDepth 100000 in
theorem th_X12_reckons_332 {h0 : HP} (ly : Lay h0) {rr : Int64} {hh : HP}  : ∀ (n : Nat) (l1 : Int32) (l2 : Int32) (l3 : Int64) (l5 : Int32) (h : HP), SR h0 h → f_X12_reckons_332 n l1 l2 l3 l5 h = some (rr, hh) → V cX12_reckons miX12_reckons (ZJ h0 miX12_reckons rr hh) 130 332 [.ref 113, .int l1, .int l2, .long l3, .null, .int l5, .null] [] h := by
  intro n
  induction n with
  | zero => intro l1 l2 l3 l5 h srh hf; exact absurd hf (by unfold f_X12_reckons_332; simp)
  | succ n ih =>
    intro l1 l2 l3 l5 h srh hf
    unfold f_X12_reckons_332 at hf
    refine V.iload dX12_reckons_332 rfl ?_
    refine V.iload_n dX12_reckons_334 rfl rfl ?_
    refine V.icmp_ge (tgt := 418) dX12_reckons_335 (by decide) (fun c68 => ?_) (fun c68 => ?_)
    · replace hf := ite_p hf c68
      refine V.lload_n dX12_reckons_418 rfl rfl ?_
      refine V.lreturn dX12_reckons_419 rfl ⟨rfl, rfl⟩ ly.1 ?_
      exact ret_L hf srh
    · replace hf := ite_n hf c68
      refine V.iconst (v := 0) dX12_reckons_338 rfl ?_
      refine V.istore (ls' := [.ref 113, .int l1, .int l2, .long l3, .null, .int l5, .int 0]) dX12_reckons_339 (by decide) rfl ?_
      exact th_X12_reckons_341 ly ih FU l1 l2 l3 l5 0 h srh hf
set_option maxRecDepth 100000 in
theorem th_X12_reckons_103 {h0 : HP} (ly : Lay h0) {rr : Int64} {hh : HP}  : ∀ (n : Nat) (l1 : Int32) (l2 : Int32) (l3 : Int32) (h : HP), SR h0 h → f_X12_reckons_103 n l1 l2 l3 h = some (rr, hh) → V cX12_reckons miX12_reckons (ZJ h0 miX12_reckons rr hh) 130 103 [.ref 113, .int l1, .int l2, .int l3, .null, .null, .null] [] h := by
  intro n
  induction n with
  | zero => intro l1 l2 l3 h srh hf; exact absurd hf (by unfold f_X12_reckons_103; simp)
  | succ n ih =>
    intro l1 l2 l3 h srh hf
    unfold f_X12_reckons_103 at hf
    refine V.iload_n dX12_reckons_103 rfl rfl ?_
    refine V.aload_n dX12_reckons_104 rfl rfl rfl ?_
    refine V.getR (r := 114) dX12_reckons_105 fl_X12_7 rfl (Or.inl ⟨rfl, SHL_lt rfl⟩) rfl (ly_113_0 (srh.ly ly)) ?_
    refine V.iconst (v := 1) dX12_reckons_108 rfl ?_
    refine V.iaload dX12_reckons_109 rfl (Or.inl ⟨rfl, SHL_lt rfl⟩) (vp_lit (by decide)) ?_
    rw [show Int32.toNatClampNeg 1 = 1 from rfl]
    refine V.icmp_ge (tgt := 327) dX12_reckons_110 (by decide) (fun c26 => ?_) (fun c26 => ?_)
    · replace hf := ite_p hf c26
      refine V.lconst (v := 0) dX12_reckons_327 rfl ?_
      refine V.lstore_n (ls' := [.ref 113, .int l1, .int l2, .long 0, .null, .null, .null]) dX12_reckons_328 rfl (by decide) rfl ?_
      refine V.iconst (v := 0) dX12_reckons_329 rfl ?_
      refine V.istore (ls' := [.ref 113, .int l1, .int l2, .long 0, .null, .int 0, .null]) dX12_reckons_330 (by decide) rfl ?_
      exact th_X12_reckons_332 ly FU l1 l2 0 0 h srh hf
    · replace hf := ite_n hf c26
      refine V.iconst (v := 0) dX12_reckons_113 rfl ?_
      refine V.istore (ls' := [.ref 113, .int l1, .int l2, .int l3, .int 0, .null, .null]) dX12_reckons_114 (by decide) rfl ?_
      exact th_X12_reckons_116 ly ih FU l1 l2 l3 0 h srh hf
set_option maxRecDepth 100000 in
theorem th_X12_reckons_66 {h0 : HP} (ly : Lay h0) {rr : Int64} {hh : HP}  : ∀ (n : Nat) (l1 : Int32) (l2 : Int32) (l3 : Int32) (h : HP), SR h0 h → f_X12_reckons_66 n l1 l2 l3 h = some (rr, hh) → V cX12_reckons miX12_reckons (ZJ h0 miX12_reckons rr hh) 130 66 [.ref 113, .int l1, .int l2, .int l3, .null, .null, .null] [] h := by
  intro n
  induction n with
  | zero => intro l1 l2 l3 h srh hf; exact absurd hf (by unfold f_X12_reckons_66; simp)
  | succ n ih =>
    intro l1 l2 l3 h srh hf
    unfold f_X12_reckons_66 at hf
    refine V.iload_n dX12_reckons_66 rfl rfl ?_
    refine V.sipush (v := 1024) dX12_reckons_67 rfl ?_
    refine V.icmp_ge (tgt := 101) dX12_reckons_70 (by decide) (fun c17 => ?_) (fun c17 => ?_)
    · replace hf := ite_p hf c17
      refine V.iconst (v := 1) dX12_reckons_101 rfl ?_
      refine V.istore_n (ls' := [.ref 113, .int l1, .int l2, .int 1, .null, .null, .null]) dX12_reckons_102 rfl (by decide) rfl ?_
      exact th_X12_reckons_103 ly FU l1 l2 1 h srh hf
    · replace hf := ite_n hf c17
      refine V.aload_n dX12_reckons_73 rfl rfl rfl ?_
      refine V.getR (r := 126) dX12_reckons_74 fl_X12_59 rfl (Or.inl ⟨rfl, SHL_lt rfl⟩) rfl (ly_113_29 (srh.ly ly)) ?_
      refine V.iload_n dX12_reckons_77 rfl rfl ?_
      refine V.aload_n dX12_reckons_78 rfl rfl rfl ?_
      refine V.getR (r := 124) dX12_reckons_79 fl_X12_53 rfl (Or.inl ⟨rfl, SHL_lt rfl⟩) rfl (ly_113_27 (srh.ly ly)) ?_
      refine V.iload_n dX12_reckons_82 rfl rfl ?_
      obtain ⟨b18, hf2⟩ := gdi_el hf
      replace hf := hf2
      clear hf2
      refine V.laload dX12_reckons_83 rfl (Or.inl ⟨rfl, SHL_lt rfl⟩) b18 ?_
      refine V.lconst (v := 0) dX12_reckons_84 rfl ?_
      refine V.lcmp dX12_reckons_85 ?_
      refine V.if_le (tgt := 93) dX12_reckons_86 (by decide) (fun c19 => ?_) (fun c19 => ?_)
      · replace hf := ite_p hf c19
        refine V.iconst (v := 0) dX12_reckons_93 rfl ?_
        obtain ⟨b20, hf2⟩ := gdi_el hf
        replace hf := hf2
        clear hf2
        refine V.iastore dX12_reckons_94 rfl (Or.inl ⟨rfl, SHL_lt rfl⟩) b20 ?_
        refine V.nameH (fun g21 eg21 => ?_)
        replace hf := lt_el hf g21 eg21
        have srg21 : SR h0 g21 := by rw [eg21]; exact srh.I _ _ _
        obtain ⟨x22, ex22⟩ : ∃ y : Int32, y = l3 + 1 := ⟨_, rfl⟩
        replace hf := lt_el hf x22 ex22
        refine V.iinc (v := x22) (ls' := [.ref 113, .int l1, .int l2, .int x22, .null, .null, .null]) dX12_reckons_95 rfl (by decide) ex22.symm rfl ?_
        refine V.goto (tgt := 66) dX12_reckons_98 (by decide) ?_
        exact ih l1 l2 x22 g21 srg21 hf
      · replace hf := ite_n hf c19
        refine V.iconst (v := 1) dX12_reckons_89 rfl ?_
        refine V.goto (tgt := 94) dX12_reckons_90 (by decide) ?_
        obtain ⟨b23, hf2⟩ := gdi_el hf
        replace hf := hf2
        clear hf2
        refine V.iastore dX12_reckons_94 rfl (Or.inl ⟨rfl, SHL_lt rfl⟩) b23 ?_
        refine V.nameH (fun g24 eg24 => ?_)
        replace hf := lt_el hf g24 eg24
        have srg24 : SR h0 g24 := by rw [eg24]; exact srh.I _ _ _
        obtain ⟨x25, ex25⟩ : ∃ y : Int32, y = l3 + 1 := ⟨_, rfl⟩
        replace hf := lt_el hf x25 ex25
        refine V.iinc (v := x25) (ls' := [.ref 113, .int l1, .int l2, .int x25, .null, .null, .null]) dX12_reckons_95 rfl (by decide) ex25.symm rfl ?_
        refine V.goto (tgt := 66) dX12_reckons_98 (by decide) ?_
        exact ih l1 l2 x25 g24 srg24 hf
set_option maxRecDepth 100000 in
theorem th_X12_reckons_33 {h0 : HP} (ly : Lay h0) {rr : Int64} {hh : HP}  : ∀ (n : Nat) (l1 : Int32) (l2 : Int32) (l3 : Int32) (h : HP), SR h0 h → f_X12_reckons_33 n l1 l2 l3 h = some (rr, hh) → V cX12_reckons miX12_reckons (ZJ h0 miX12_reckons rr hh) 130 33 [.ref 113, .int l1, .int l2, .int l3, .null, .null, .null] [] h := by
  intro n
  induction n with
  | zero => intro l1 l2 l3 h srh hf; exact absurd hf (by unfold f_X12_reckons_33; simp)
  | succ n ih =>
    intro l1 l2 l3 h srh hf
    unfold f_X12_reckons_33 at hf
    refine V.iload_n dX12_reckons_33 rfl rfl ?_
    refine V.iload_n dX12_reckons_34 rfl rfl ?_
    refine V.icmp_ge (tgt := 64) dX12_reckons_35 (by decide) (fun c6 => ?_) (fun c6 => ?_)
    · replace hf := ite_p hf c6
      refine V.iconst (v := 0) dX12_reckons_64 rfl ?_
      refine V.istore_n (ls' := [.ref 113, .int l1, .int l2, .int 0, .null, .null, .null]) dX12_reckons_65 rfl (by decide) rfl ?_
      exact th_X12_reckons_66 ly FU l1 l2 0 h srh hf
    · replace hf := ite_n hf c6
      refine V.aload_n dX12_reckons_38 rfl rfl rfl ?_
      refine V.getR (r := 124) dX12_reckons_39 fl_X12_53 rfl (Or.inl ⟨rfl, SHL_lt rfl⟩) rfl (ly_113_27 (srh.ly ly)) ?_
      refine V.iload_n dX12_reckons_42 rfl rfl ?_
      refine V.aload_n dX12_reckons_43 rfl rfl rfl ?_
      refine V.iload_n dX12_reckons_44 rfl rfl ?_
      refine V.iconst (v := 0) dX12_reckons_45 rfl ?_
      obtain ⟨r9, h8, q7, hf2⟩ := bd2_el hf
      replace hf := hf2
      clear hf2
      refine V.callVI dX12_reckons_46 ml_X12_342 mo_X12_fitsRow mv_X12_fitsRow rfl (fun q hq => by cases hq; rfl) (by decide) (Or.inl ⟨rfl, SHL_lt rfl⟩) (th_X12_fitsRow (srh.ly ly) q7) rfl rfl ⟨Nat.le_of_ble_eq_true rfl, Nat.le_of_ble_eq_true rfl, fun _ => ⟨rfl, rfl⟩⟩ (Nat.le_of_ble_eq_true rfl) rfl (post_I (fun sq => ?_))
      have srh8 : SR h0 h8 := srh.trans sq
      clear sq q7
      refine V.if_eq (tgt := 56) dX12_reckons_49 (by decide) (fun c10 => ?_) (fun c10 => ?_)
      · replace hf := ite_p hf c10
        refine V.lconst (v := 0) dX12_reckons_56 rfl ?_
        obtain ⟨b11, hf2⟩ := gdi_el hf
        replace hf := hf2
        clear hf2
        refine V.lastore dX12_reckons_57 rfl (Or.inl ⟨rfl, SHL_lt rfl⟩) b11 ?_
        refine V.nameH (fun g12 eg12 => ?_)
        replace hf := lt_el hf g12 eg12
        have srg12 : SR h0 g12 := by rw [eg12]; exact srh8.L _ _ _
        obtain ⟨x13, ex13⟩ : ∃ y : Int32, y = l3 + 1 := ⟨_, rfl⟩
        replace hf := lt_el hf x13 ex13
        refine V.iinc (v := x13) (ls' := [.ref 113, .int l1, .int l2, .int x13, .null, .null, .null]) dX12_reckons_58 rfl (by decide) ex13.symm rfl ?_
        refine V.goto (tgt := 33) dX12_reckons_61 (by decide) ?_
        exact ih l1 l2 x13 g12 srg12 hf
      · replace hf := ite_n hf c10
        refine V.lconst (v := 1) dX12_reckons_52 rfl ?_
        refine V.goto (tgt := 57) dX12_reckons_53 (by decide) ?_
        obtain ⟨b14, hf2⟩ := gdi_el hf
        replace hf := hf2
        clear hf2
        refine V.lastore dX12_reckons_57 rfl (Or.inl ⟨rfl, SHL_lt rfl⟩) b14 ?_
        refine V.nameH (fun g15 eg15 => ?_)
        replace hf := lt_el hf g15 eg15
        have srg15 : SR h0 g15 := by rw [eg15]; exact srh8.L _ _ _
        obtain ⟨x16, ex16⟩ : ∃ y : Int32, y = l3 + 1 := ⟨_, rfl⟩
        replace hf := lt_el hf x16 ex16
        refine V.iinc (v := x16) (ls' := [.ref 113, .int l1, .int l2, .int x16, .null, .null, .null]) dX12_reckons_58 rfl (by decide) ex16.symm rfl ?_
        refine V.goto (tgt := 33) dX12_reckons_61 (by decide) ?_
        exact ih l1 l2 x16 g15 srg15 hf
set_option maxRecDepth 100000 in
theorem th_X12_reckons_11 {h0 : HP} (ly : Lay h0) {rr : Int64} {hh : HP}  : ∀ (n : Nat) (l1 : Int32) (l2 : Int32) (l3 : Int32) (h : HP), SR h0 h → f_X12_reckons_11 n l1 l2 l3 h = some (rr, hh) → V cX12_reckons miX12_reckons (ZJ h0 miX12_reckons rr hh) 130 11 [.ref 113, .int l1, .int l2, .int l3, .null, .null, .null] [] h := by
  intro n
  induction n with
  | zero => intro l1 l2 l3 h srh hf; exact absurd hf (by unfold f_X12_reckons_11; simp)
  | succ n ih =>
    intro l1 l2 l3 h srh hf
    unfold f_X12_reckons_11 at hf
    refine V.iload_n dX12_reckons_11 rfl rfl ?_
    refine V.sipush (v := 1024) dX12_reckons_12 rfl ?_
    refine V.icmp_ge (tgt := 31) dX12_reckons_15 (by decide) (fun c2 => ?_) (fun c2 => ?_)
    · replace hf := ite_p hf c2
      refine V.iconst (v := 0) dX12_reckons_31 rfl ?_
      refine V.istore_n (ls' := [.ref 113, .int l1, .int l2, .int 0, .null, .null, .null]) dX12_reckons_32 rfl (by decide) rfl ?_
      exact th_X12_reckons_33 ly FU l1 l2 0 h srh hf
    · replace hf := ite_n hf c2
      refine V.aload_n dX12_reckons_18 rfl rfl rfl ?_
      refine V.getR (r := 124) dX12_reckons_19 fl_X12_53 rfl (Or.inl ⟨rfl, SHL_lt rfl⟩) rfl (ly_113_27 (srh.ly ly)) ?_
      refine V.iload_n dX12_reckons_22 rfl rfl ?_
      refine V.lconst (v := 0) dX12_reckons_23 rfl ?_
      obtain ⟨b3, hf2⟩ := gdi_el hf
      replace hf := hf2
      clear hf2
      refine V.lastore dX12_reckons_24 rfl (Or.inl ⟨rfl, SHL_lt rfl⟩) b3 ?_
      refine V.nameH (fun g4 eg4 => ?_)
      replace hf := lt_el hf g4 eg4
      have srg4 : SR h0 g4 := by rw [eg4]; exact srh.L _ _ _
      obtain ⟨x5, ex5⟩ : ∃ y : Int32, y = l3 + 1 := ⟨_, rfl⟩
      replace hf := lt_el hf x5 ex5
      refine V.iinc (v := x5) (ls' := [.ref 113, .int l1, .int l2, .int x5, .null, .null, .null]) dX12_reckons_25 rfl (by decide) ex5.symm rfl ?_
      refine V.goto (tgt := 11) dX12_reckons_28 (by decide) ?_
      exact ih l1 l2 x5 g4 srg4 hf
set_option maxRecDepth 100000 in
theorem th_X12_reckons {h : HP} (ly : Lay h) {a1 : Int32} {rr : Int64} {hh : HP} (hf : f_X12_reckons h a1 = some (rr, hh)) : Spec yX12_reckons cX12_reckons miX12_reckons [.ref 113, .int a1] h (pL fun r' h' => (r' = rr ∧ h' = hh) ∧ SR h hh) := by
  refine Spec.of (ls0 := [.ref 113, .int a1, .null, .null, .null, .null, .null]) mo_X12_reckons (Nat.le_of_ble_eq_true rfl) rfl ?_
  rw [ly.1]
  have srh : SR h h := SR.refl h
  unfold f_X12_reckons at hf
  refine V.iconst (v := 1) dX12_reckons_0 rfl ?_
  refine V.aload_n dX12_reckons_1 rfl rfl rfl ?_
  refine V.getR (r := 114) dX12_reckons_2 fl_X12_7 rfl (Or.inl ⟨rfl, SHL_lt rfl⟩) rfl (ly_113_0 (srh.ly ly)) ?_
  refine V.iconst (v := 0) dX12_reckons_5 rfl ?_
  refine V.iaload dX12_reckons_6 rfl (Or.inl ⟨rfl, SHL_lt rfl⟩) (vp_lit (by decide)) ?_
  rw [show Int32.toNatClampNeg 0 = 0 from rfl]
  refine V.ishl dX12_reckons_7 ?_
  refine V.nmi (fun x1 ex1 => ?_)
  replace hf := lt_el hf x1 ex1
  refine V.istore_n (ls' := [.ref 113, .int a1, .int x1, .null, .null, .null, .null]) dX12_reckons_8 rfl (by decide) rfl ?_
  refine V.iconst (v := 0) dX12_reckons_9 rfl ?_
  refine V.istore_n (ls' := [.ref 113, .int a1, .int x1, .int 0, .null, .null, .null]) dX12_reckons_10 rfl (by decide) rfl ?_
  exact th_X12_reckons_11 ly FU a1 x1 0 h srh hf
set_option maxRecDepth 100000 in
theorem th_X12_aboveOf_21 {h0 : HP} (ly : Lay h0) {rr : Int32} {hh : HP} {K3 : Int32 → Int32 → Int32 → Int32 → Int32 → HP → Option (Int32 × HP)} (kok3 : ∀ (l1 : Int32) (l2 : Int32) (l3 : Int32) (l4 : Int32) (l5 : Int32) (g : HP), SR h0 g → K3 l1 l2 l3 l4 l5 g = some (rr, hh) → V cX12_aboveOf miX12_aboveOf (ZI h0 miX12_aboveOf rr hh) 130 3 [.ref 113, .int l1, .int l2, .int l3, .int l4, .int l5] [] g) : ∀ (l1 : Int32) (l2 : Int32) (l3 : Int32) (l4 : Int32) (l5 : Int32) (s0 : Int32) (s1 : Int32) (h : HP), SR h0 h → f_X12_aboveOf_21 K3 l1 l2 l3 l4 l5 s0 s1 h = some (rr, hh) → V cX12_aboveOf miX12_aboveOf (ZI h0 miX12_aboveOf rr hh) 130 21 [.ref 113, .int l1, .int l2, .int l3, .int l4, .int l5] [.int s1, .int s0] h := by
  intro l1 l2 l3 l4 l5 s0 s1 h srh hf
  unfold f_X12_aboveOf_21 at hf
  refine V.icmp_ge (tgt := 69) dX12_aboveOf_21 (by decide) (fun c2 => ?_) (fun c2 => ?_)
  · replace hf := ite_p hf c2
    refine V.iconst (v := (-1)) dX12_aboveOf_69 rfl ?_
    refine V.ireturn dX12_aboveOf_70 rfl rfl ⟨rfl, rfl⟩ ly.1 ?_
    exact ret_I hf srh
  · replace hf := ite_n hf c2
    refine V.aload_n dX12_aboveOf_24 rfl rfl rfl ?_
    refine V.getR (r := 126) dX12_aboveOf_25 fl_X12_59 rfl (Or.inl ⟨rfl, SHL_lt rfl⟩) rfl (ly_113_29 (srh.ly ly)) ?_
    refine V.sipush (v := 1024) dX12_aboveOf_28 rfl ?_
    refine V.iload_n dX12_aboveOf_31 rfl rfl ?_
    refine V.imul dX12_aboveOf_32 ?_
    refine V.bipush (v := 32) dX12_aboveOf_33 rfl ?_
    refine V.iload dX12_aboveOf_35 rfl ?_
    refine V.imul dX12_aboveOf_37 ?_
    refine V.iadd dX12_aboveOf_38 ?_
    refine V.iload_n dX12_aboveOf_39 rfl rfl ?_
    refine V.iadd dX12_aboveOf_40 ?_
    obtain ⟨b3, hf2⟩ := gdi_el hf
    replace hf := hf2
    clear hf2
    refine V.iaload dX12_aboveOf_41 rfl (Or.inl ⟨rfl, SHL_lt rfl⟩) b3 ?_
    refine V.iconst (v := 1) dX12_aboveOf_42 rfl ?_
    refine V.icmp_ne (tgt := 63) dX12_aboveOf_43 (by decide) (fun c4 => ?_) (fun c4 => ?_)
    · replace hf := ite_n hf c4
      obtain ⟨x5, ex5⟩ : ∃ y : Int32, y = l5 + 1 := ⟨_, rfl⟩
      replace hf := lt_el hf x5 ex5
      refine V.iinc (v := x5) (ls' := [.ref 113, .int l1, .int l2, .int l3, .int l4, .int x5]) dX12_aboveOf_63 rfl (by decide) ex5.symm rfl ?_
      refine V.goto (tgt := 3) dX12_aboveOf_66 (by decide) ?_
      exact kok3 l1 l2 l3 l4 x5 h srh hf
    · replace hf := ite_p hf c4
      refine V.aload_n dX12_aboveOf_46 rfl rfl rfl ?_
      refine V.iload dX12_aboveOf_47 rfl ?_
      refine V.iload_n dX12_aboveOf_49 rfl rfl ?_
      refine V.iload_n dX12_aboveOf_50 rfl rfl ?_
      refine V.iload_n dX12_aboveOf_51 rfl rfl ?_
      refine V.iload dX12_aboveOf_52 rfl ?_
      obtain ⟨r8, h7, q6, hf2⟩ := bd2_el hf
      replace hf := hf2
      clear hf2
      refine V.callVI dX12_aboveOf_54 ml_X12_345 mo_X12_isGood mv_X12_isGood rfl (fun q hq => by cases hq; rfl) (by decide) (Or.inl ⟨rfl, SHL_lt rfl⟩) (th_X12_isGood (srh.ly ly) q6) rfl rfl ⟨Nat.le_of_ble_eq_true rfl, Nat.le_of_ble_eq_true rfl, fun _ => ⟨rfl, rfl⟩⟩ (Nat.le_of_ble_eq_true rfl) rfl (post_I (fun sq => ?_))
      have srh7 : SR h0 h7 := srh.trans sq
      clear sq q6
      refine V.if_eq (tgt := 63) dX12_aboveOf_57 (by decide) (fun c9 => ?_) (fun c9 => ?_)
      · replace hf := ite_p hf c9
        obtain ⟨x10, ex10⟩ : ∃ y : Int32, y = l5 + 1 := ⟨_, rfl⟩
        replace hf := lt_el hf x10 ex10
        refine V.iinc (v := x10) (ls' := [.ref 113, .int l1, .int l2, .int l3, .int l4, .int x10]) dX12_aboveOf_63 rfl (by decide) ex10.symm rfl ?_
        refine V.goto (tgt := 3) dX12_aboveOf_66 (by decide) ?_
        exact kok3 l1 l2 l3 l4 x10 h7 srh7 hf
      · replace hf := ite_n hf c9
        refine V.iload dX12_aboveOf_60 rfl ?_
        refine V.ireturn dX12_aboveOf_62 rfl rfl ⟨rfl, rfl⟩ ly.1 ?_
        exact ret_I hf srh7
set_option maxRecDepth 100000 in
theorem th_X12_aboveOf_3 {h0 : HP} (ly : Lay h0) {rr : Int32} {hh : HP}  : ∀ (n : Nat) (l1 : Int32) (l2 : Int32) (l3 : Int32) (l4 : Int32) (l5 : Int32) (h : HP), SR h0 h → f_X12_aboveOf_3 n l1 l2 l3 l4 l5 h = some (rr, hh) → V cX12_aboveOf miX12_aboveOf (ZI h0 miX12_aboveOf rr hh) 130 3 [.ref 113, .int l1, .int l2, .int l3, .int l4, .int l5] [] h := by
  intro n
  induction n with
  | zero => intro l1 l2 l3 l4 l5 h srh hf; exact absurd hf (by unfold f_X12_aboveOf_3; simp)
  | succ n ih =>
    intro l1 l2 l3 l4 l5 h srh hf
    unfold f_X12_aboveOf_3 at hf
    refine V.iload dX12_aboveOf_3 rfl ?_
    refine V.iload_n dX12_aboveOf_5 rfl rfl ?_
    refine V.if_ne (tgt := 13) dX12_aboveOf_6 (by decide) (fun c1 => ?_) (fun c1 => ?_)
    · replace hf := ite_n hf c1
      refine V.iconst (v := 1) dX12_aboveOf_13 rfl ?_
      refine V.aload_n dX12_aboveOf_14 rfl rfl rfl ?_
      refine V.getR (r := 114) dX12_aboveOf_15 fl_X12_7 rfl (Or.inl ⟨rfl, SHL_lt rfl⟩) rfl (ly_113_0 (srh.ly ly)) ?_
      refine V.iconst (v := 0) dX12_aboveOf_18 rfl ?_
      refine V.iaload dX12_aboveOf_19 rfl (Or.inl ⟨rfl, SHL_lt rfl⟩) (vp_lit (by decide)) ?_
      rw [show Int32.toNatClampNeg 0 = 0 from rfl]
      refine V.ishl dX12_aboveOf_20 ?_
      exact th_X12_aboveOf_21 ly ih l1 l2 l3 l4 l5 l5 ((1 : Int32) <<< ((hI h 114 0) &&& 31)) h srh hf
    · replace hf := ite_p hf c1
      refine V.iconst (v := 1) dX12_aboveOf_9 rfl ?_
      refine V.goto (tgt := 21) dX12_aboveOf_10 (by decide) ?_
      exact th_X12_aboveOf_21 ly ih l1 l2 l3 l4 l5 l5 1 h srh hf
set_option maxRecDepth 100000 in
theorem th_X12_aboveOf {h : HP} (ly : Lay h) {a1 : Int32} {a2 : Int32} {a3 : Int32} {a4 : Int32} {rr : Int32} {hh : HP} (hf : f_X12_aboveOf h a1 a2 a3 a4 = some (rr, hh)) : Spec yX12_aboveOf cX12_aboveOf miX12_aboveOf [.ref 113, .int a1, .int a2, .int a3, .int a4] h (pI fun r' h' => (r' = rr ∧ h' = hh) ∧ SR h hh) := by
  refine Spec.of (ls0 := [.ref 113, .int a1, .int a2, .int a3, .int a4, .null]) mo_X12_aboveOf (Nat.le_of_ble_eq_true rfl) rfl ?_
  rw [ly.1]
  have srh : SR h h := SR.refl h
  unfold f_X12_aboveOf at hf
  refine V.iconst (v := 0) dX12_aboveOf_0 rfl ?_
  refine V.istore (ls' := [.ref 113, .int a1, .int a2, .int a3, .int a4, .int 0]) dX12_aboveOf_1 (by decide) rfl ?_
  exact th_X12_aboveOf_3 ly FU a1 a2 a3 a4 0 h srh hf
set_option maxRecDepth 100000 in
theorem th_X12_least_66 {h0 : HP} (ly : Lay h0) {rr : Int64} {hh : HP}  : ∀ (n : Nat) (l1 : Int32) (l2 : Int32) (l4 : Int32) (l5 : Int32) (l6 : Int32) (h : HP), SR h0 h → f_X12_least_66 n l1 l2 l4 l5 l6 h = some (rr, hh) → V cX12_least miX12_least (ZJ h0 miX12_least rr hh) 130 66 [.ref 113, .int l1, .int l2, .null, .int l4, .int l5, .int l6] [] h := by
  intro n
  induction n with
  | zero => intro l1 l2 l4 l5 l6 h srh hf; exact absurd hf (by unfold f_X12_least_66; simp)
  | succ n ih =>
    intro l1 l2 l4 l5 l6 h srh hf
    unfold f_X12_least_66 at hf
    refine V.iload_n dX12_least_66 rfl rfl ?_
    refine V.if_le (tgt := 110) dX12_least_67 (by decide) (fun c10 => ?_) (fun c10 => ?_)
    · replace hf := ite_p hf c10
      refine V.iload dX12_least_110 rfl ?_
      refine V.i2l dX12_least_112 ?_
      refine V.lreturn dX12_least_113 rfl ⟨rfl, rfl⟩ ly.1 ?_
      exact ret_L hf srh
    · replace hf := ite_n hf c10
      obtain ⟨x11, ex11⟩ : ∃ y : Int32, y = l2 + (-1) := ⟨_, rfl⟩
      replace hf := lt_el hf x11 ex11
      refine V.iinc (v := x11) (ls' := [.ref 113, .int l1, .int x11, .null, .int l4, .int l5, .int l6]) dX12_least_70 rfl (by decide) ex11.symm rfl ?_
      refine V.iload dX12_least_73 rfl ?_
      refine V.istore_n (ls' := [.ref 113, .int l1, .int x11, .int l4, .int l4, .int l5, .int l6]) dX12_least_75 rfl (by decide) rfl ?_
      refine V.iload dX12_least_76 rfl ?_
      refine V.istore (ls' := [.ref 113, .int l1, .int x11, .int l4, .int l5, .int l5, .int l6]) dX12_least_78 (by decide) rfl ?_
      refine V.iload dX12_least_80 rfl ?_
      refine V.iload dX12_least_82 rfl ?_
      refine V.aload_n dX12_least_84 rfl rfl rfl ?_
      refine V.getR (r := 114) dX12_least_85 fl_X12_7 rfl (Or.inl ⟨rfl, SHL_lt rfl⟩) rfl (ly_113_0 (srh.ly ly)) ?_
      refine V.iconst (v := 0) dX12_least_88 rfl ?_
      refine V.iaload dX12_least_89 rfl (Or.inl ⟨rfl, SHL_lt rfl⟩) (vp_lit (by decide)) ?_
      rw [show Int32.toNatClampNeg 0 = 0 from rfl]
      refine V.iload_n dX12_least_90 rfl rfl ?_
      refine V.imul dX12_least_91 ?_
      refine V.ishl dX12_least_92 ?_
      refine V.ior dX12_least_93 ?_
      refine V.nmi (fun x12 ex12 => ?_)
      replace hf := lt_el hf x12 ex12
      refine V.istore (ls' := [.ref 113, .int l1, .int x11, .int l4, .int l5, .int l5, .int x12]) dX12_least_94 (by decide) rfl ?_
      refine V.aload_n dX12_least_96 rfl rfl rfl ?_
      refine V.iload dX12_least_97 rfl ?_
      refine V.iload_n dX12_least_99 rfl rfl ?_
      refine V.iload_n dX12_least_100 rfl rfl ?_
      refine V.iload_n dX12_least_101 rfl rfl ?_
      obtain ⟨r15, h14, q13, hf2⟩ := bd2_el hf
      replace hf := hf2
      clear hf2
      refine V.callVI dX12_least_102 ml_X12_349 mo_X12_aboveOf mv_X12_aboveOf rfl (fun q hq => by cases hq; rfl) (by decide) (Or.inl ⟨rfl, SHL_lt rfl⟩) (th_X12_aboveOf (srh.ly ly) q13) rfl rfl ⟨Nat.le_of_ble_eq_true rfl, Nat.le_of_ble_eq_true rfl, fun _ => ⟨rfl, rfl⟩⟩ (Nat.le_of_ble_eq_true rfl) rfl (post_I (fun sq => ?_))
      have srh14 : SR h0 h14 := srh.trans sq
      clear sq q13
      refine V.istore (ls' := [.ref 113, .int l1, .int x11, .int l4, .int l5, .int r15, .int x12]) dX12_least_105 (by decide) rfl ?_
      refine V.goto (tgt := 66) dX12_least_107 (by decide) ?_
      refine V.less (ls' := [.ref 113, .int l1, .int x11, .null, .int l5, .int r15, .int x12]) ⟨Or.inr rfl, Or.inr rfl, Or.inr rfl, Or.inl rfl, Or.inr rfl, Or.inr rfl, Or.inr rfl, trivial⟩ ?_
      exact ih l1 x11 l5 r15 x12 h14 srh14 hf
set_option maxRecDepth 100000 in
theorem th_X12_least_17 {h0 : HP} (ly : Lay h0) {rr : Int64} {hh : HP}  : ∀ (n : Nat) (l1 : Int32) (l2 : Int32) (l3 : Int32) (l4 : Int32) (l5 : Int32) (h : HP), SR h0 h → f_X12_least_17 n l1 l2 l3 l4 l5 h = some (rr, hh) → V cX12_least miX12_least (ZJ h0 miX12_least rr hh) 130 17 [.ref 113, .int l1, .int l2, .int l3, .int l4, .int l5, .null] [] h := by
  intro n
  induction n with
  | zero => intro l1 l2 l3 l4 l5 h srh hf; exact absurd hf (by unfold f_X12_least_17; simp)
  | succ n ih =>
    intro l1 l2 l3 l4 l5 h srh hf
    unfold f_X12_least_17 at hf
    refine V.iload dX12_least_17 rfl ?_
    refine V.iconst (v := (-1)) dX12_least_19 rfl ?_
    refine V.icmp_ne (tgt := 53) dX12_least_20 (by decide) (fun c2 => ?_) (fun c2 => ?_)
    · replace hf := ite_n hf c2
      refine V.iload dX12_least_53 rfl ?_
      refine V.aload_n dX12_least_55 rfl rfl rfl ?_
      refine V.getR (r := 114) dX12_least_56 fl_X12_7 rfl (Or.inl ⟨rfl, SHL_lt rfl⟩) rfl (ly_113_0 (srh.ly ly)) ?_
      refine V.iconst (v := 0) dX12_least_59 rfl ?_
      refine V.iaload dX12_least_60 rfl (Or.inl ⟨rfl, SHL_lt rfl⟩) (vp_lit (by decide)) ?_
      rw [show Int32.toNatClampNeg 0 = 0 from rfl]
      refine V.iload_n dX12_least_61 rfl rfl ?_
      refine V.imul dX12_least_62 ?_
      refine V.ishl dX12_least_63 ?_
      refine V.nmi (fun x3 ex3 => ?_)
      replace hf := lt_el hf x3 ex3
      refine V.istore (ls' := [.ref 113, .int l1, .int l2, .int l3, .int l4, .int l5, .int x3]) dX12_least_64 (by decide) rfl ?_
      refine V.less (ls' := [.ref 113, .int l1, .int l2, .null, .int l4, .int l5, .int x3]) ⟨Or.inr rfl, Or.inr rfl, Or.inr rfl, Or.inl rfl, Or.inr rfl, Or.inr rfl, Or.inr rfl, trivial⟩ ?_
      exact th_X12_least_66 ly FU l1 l2 l4 l5 x3 h srh hf
    · replace hf := ite_p hf c2
      refine V.aload_n dX12_least_23 rfl rfl rfl ?_
      refine V.iload dX12_least_24 rfl ?_
      refine V.iload_n dX12_least_26 rfl rfl ?_
      refine V.iload_n dX12_least_27 rfl rfl ?_
      refine V.iload_n dX12_least_28 rfl rfl ?_
      obtain ⟨r6, h5, q4, hf2⟩ := bd2_el hf
      replace hf := hf2
      clear hf2
      refine V.callVI dX12_least_29 ml_X12_349 mo_X12_aboveOf mv_X12_aboveOf rfl (fun q hq => by cases hq; rfl) (by decide) (Or.inl ⟨rfl, SHL_lt rfl⟩) (th_X12_aboveOf (srh.ly ly) q4) rfl rfl ⟨Nat.le_of_ble_eq_true rfl, Nat.le_of_ble_eq_true rfl, fun _ => ⟨rfl, rfl⟩⟩ (Nat.le_of_ble_eq_true rfl) rfl (post_I (fun sq => ?_))
      have srh5 : SR h0 h5 := srh.trans sq
      clear sq q4
      refine V.istore (ls' := [.ref 113, .int l1, .int l2, .int l3, .int l4, .int r6, .null]) dX12_least_32 (by decide) rfl ?_
      refine V.iload dX12_least_34 rfl ?_
      refine V.iload dX12_least_36 rfl ?_
      refine V.iconst (v := (-1)) dX12_least_38 rfl ?_
      refine V.icmp_ne (tgt := 46) dX12_least_39 (by decide) (fun c7 => ?_) (fun c7 => ?_)
      · replace hf := ite_n hf c7
        refine V.iconst (v := 0) dX12_least_46 rfl ?_
        refine V.iadd dX12_least_47 ?_
        refine V.nmi (fun x8 ex8 => ?_)
        replace hf := lt_el hf x8 ex8
        refine V.istore (ls' := [.ref 113, .int l1, .int l2, .int l3, .int x8, .int r6, .null]) dX12_least_48 (by decide) rfl ?_
        refine V.goto (tgt := 17) dX12_least_50 (by decide) ?_
        exact ih l1 l2 l3 x8 r6 h5 srh5 hf
      · replace hf := ite_p hf c7
        refine V.iconst (v := 1) dX12_least_42 rfl ?_
        refine V.goto (tgt := 47) dX12_least_43 (by decide) ?_
        refine V.iadd dX12_least_47 ?_
        refine V.nmi (fun x9 ex9 => ?_)
        replace hf := lt_el hf x9 ex9
        refine V.istore (ls' := [.ref 113, .int l1, .int l2, .int l3, .int x9, .int r6, .null]) dX12_least_48 (by decide) rfl ?_
        refine V.goto (tgt := 17) dX12_least_50 (by decide) ?_
        exact ih l1 l2 l3 x9 r6 h5 srh5 hf
set_option maxRecDepth 100000 in
theorem th_X12_least {h : HP} (ly : Lay h) {a1 : Int32} {rr : Int64} {hh : HP} (hf : f_X12_least h a1 = some (rr, hh)) : Spec yX12_least cX12_least miX12_least [.ref 113, .int a1] h (pL fun r' h' => (r' = rr ∧ h' = hh) ∧ SR h hh) := by
  refine Spec.of (ls0 := [.ref 113, .int a1, .null, .null, .null, .null, .null]) mo_X12_least (Nat.le_of_ble_eq_true rfl) rfl ?_
  rw [ly.1]
  have srh : SR h h := SR.refl h
  unfold f_X12_least at hf
  refine V.aload_n dX12_least_0 rfl rfl rfl ?_
  refine V.getR (r := 114) dX12_least_1 fl_X12_7 rfl (Or.inl ⟨rfl, SHL_lt rfl⟩) rfl (ly_113_0 (srh.ly ly)) ?_
  refine V.iconst (v := 1) dX12_least_4 rfl ?_
  refine V.iaload dX12_least_5 rfl (Or.inl ⟨rfl, SHL_lt rfl⟩) (vp_lit (by decide)) ?_
  rw [show Int32.toNatClampNeg 1 = 1 from rfl]
  refine V.iconst (v := 1) dX12_least_6 rfl ?_
  refine V.isub dX12_least_7 ?_
  refine V.nmi (fun x1 ex1 => ?_)
  replace hf := lt_el hf x1 ex1
  refine V.istore_n (ls' := [.ref 113, .int a1, .int x1, .null, .null, .null, .null]) dX12_least_8 rfl (by decide) rfl ?_
  refine V.iconst (v := 0) dX12_least_9 rfl ?_
  refine V.istore_n (ls' := [.ref 113, .int a1, .int x1, .int 0, .null, .null, .null]) dX12_least_10 rfl (by decide) rfl ?_
  refine V.iconst (v := 0) dX12_least_11 rfl ?_
  refine V.istore (ls' := [.ref 113, .int a1, .int x1, .int 0, .int 0, .null, .null]) dX12_least_12 (by decide) rfl ?_
  refine V.iconst (v := (-1)) dX12_least_14 rfl ?_
  refine V.istore (ls' := [.ref 113, .int a1, .int x1, .int 0, .int 0, .int ((-1)), .null]) dX12_least_15 (by decide) rfl ?_
  exact th_X12_least_17 ly FU a1 x1 0 0 (-1) h srh hf
set_option maxRecDepth 100000 in
theorem th_X12_ancestors {h : HP} (ly : Lay h)  {rr : Int64} {hh : HP} (hf : f_X12_ancestors h = some (rr, hh)) : Spec yX12_ancestors cX12_ancestors miX12_ancestors [.ref 113] h (pL fun r' h' => (r' = rr ∧ h' = hh) ∧ SR h hh) := by
  refine Spec.of (ls0 := [.ref 113]) mo_X12_ancestors (Nat.le_of_ble_eq_true rfl) rfl ?_
  rw [ly.1]
  have srh : SR h h := SR.refl h
  unfold f_X12_ancestors at hf
  refine V.aload_n dX12_ancestors_0 rfl rfl rfl ?_
  refine V.aload_n dX12_ancestors_1 rfl rfl rfl ?_
  refine V.iconst (v := 0) dX12_ancestors_2 rfl ?_
  obtain ⟨r3, h2, q1, hf2⟩ := bd2_el hf
  replace hf := hf2
  clear hf2
  refine V.callVL dX12_ancestors_3 ml_X12_353 mo_X12_reckons mv_X12_reckons rfl (fun q hq => by cases hq; rfl) (by decide) (Or.inl ⟨rfl, SHL_lt rfl⟩) (th_X12_reckons (srh.ly ly) q1) rfl rfl ⟨Nat.le_of_ble_eq_true rfl, Nat.le_of_ble_eq_true rfl, fun _ => ⟨rfl, rfl⟩⟩ (Nat.le_of_ble_eq_true rfl) rfl (post_L (fun sq => ?_))
  have srh2 : SR h h2 := srh.trans sq
  clear sq q1
  obtain ⟨r6, h5, q4, hf2⟩ := bd2_el hf
  replace hf := hf2
  clear hf2
  refine V.callVL dX12_ancestors_6 ml_X12_280 mo_X12_givesLong mv_X12_givesLong rfl (fun q hq => by cases hq; rfl) (by decide) (Or.inl ⟨rfl, SHL_lt rfl⟩) (th_X12_givesLong (srh2.ly ly) q4) rfl rfl ⟨Nat.le_of_ble_eq_true rfl, Nat.le_of_ble_eq_true rfl, fun _ => ⟨rfl, rfl⟩⟩ (Nat.le_of_ble_eq_true rfl) rfl (post_L (fun sq => ?_))
  have srh5 : SR h h5 := srh2.trans sq
  clear sq q4
  refine V.lreturn dX12_ancestors_9 rfl ⟨rfl, rfl⟩ ly.1 ?_
  exact ret_L hf srh5
set_option maxRecDepth 100000 in
theorem th_X12_ancestor {h : HP} (ly : Lay h)  {rr : Int64} {hh : HP} (hf : f_X12_ancestor h = some (rr, hh)) : Spec yX12_ancestor cX12_ancestor miX12_ancestor [.ref 113] h (pL fun r' h' => (r' = rr ∧ h' = hh) ∧ SR h hh) := by
  refine Spec.of (ls0 := [.ref 113]) mo_X12_ancestor (Nat.le_of_ble_eq_true rfl) rfl ?_
  rw [ly.1]
  have srh : SR h h := SR.refl h
  unfold f_X12_ancestor at hf
  refine V.aload_n dX12_ancestor_0 rfl rfl rfl ?_
  refine V.iconst (v := 0) dX12_ancestor_1 rfl ?_
  obtain ⟨r3, h2, q1, hf2⟩ := bd2_el hf
  replace hf := hf2
  clear hf2
  refine V.callVL dX12_ancestor_2 ml_X12_353 mo_X12_reckons mv_X12_reckons rfl (fun q hq => by cases hq; rfl) (by decide) (Or.inl ⟨rfl, SHL_lt rfl⟩) (th_X12_reckons (srh.ly ly) q1) rfl rfl ⟨Nat.le_of_ble_eq_true rfl, Nat.le_of_ble_eq_true rfl, fun _ => ⟨rfl, rfl⟩⟩ (Nat.le_of_ble_eq_true rfl) rfl (post_L (fun sq => ?_))
  have srh2 : SR h h2 := srh.trans sq
  clear sq q1
  refine V.lconst (v := 0) dX12_ancestor_5 rfl ?_
  refine V.lcmp dX12_ancestor_6 ?_
  refine V.if_ne (tgt := 20) dX12_ancestor_7 (by decide) (fun c4 => ?_) (fun c4 => ?_)
  · replace hf := ite_n hf c4
    refine V.aload_n dX12_ancestor_20 rfl rfl rfl ?_
    refine V.aload_n dX12_ancestor_21 rfl rfl rfl ?_
    refine V.iconst (v := 0) dX12_ancestor_22 rfl ?_
    obtain ⟨r7, h6, q5, hf2⟩ := bd2_el hf
    replace hf := hf2
    clear hf2
    refine V.callVL dX12_ancestor_23 ml_X12_357 mo_X12_least mv_X12_least rfl (fun q hq => by cases hq; rfl) (by decide) (Or.inl ⟨rfl, SHL_lt rfl⟩) (th_X12_least (srh2.ly ly) q5) rfl rfl ⟨Nat.le_of_ble_eq_true rfl, Nat.le_of_ble_eq_true rfl, fun _ => ⟨rfl, rfl⟩⟩ (Nat.le_of_ble_eq_true rfl) rfl (post_L (fun sq => ?_))
    have srh6 : SR h h6 := srh2.trans sq
    clear sq q5
    obtain ⟨r10, h9, q8, hf2⟩ := bd2_el hf
    replace hf := hf2
    clear hf2
    refine V.callVL dX12_ancestor_26 ml_X12_280 mo_X12_givesLong mv_X12_givesLong rfl (fun q hq => by cases hq; rfl) (by decide) (Or.inl ⟨rfl, SHL_lt rfl⟩) (th_X12_givesLong (srh6.ly ly) q8) rfl rfl ⟨Nat.le_of_ble_eq_true rfl, Nat.le_of_ble_eq_true rfl, fun _ => ⟨rfl, rfl⟩⟩ (Nat.le_of_ble_eq_true rfl) rfl (post_L (fun sq => ?_))
    have srh9 : SR h h9 := srh6.trans sq
    clear sq q8
    refine V.lreturn dX12_ancestor_29 rfl ⟨rfl, rfl⟩ ly.1 ?_
    exact ret_L hf srh9
  · replace hf := ite_p hf c4
    refine V.aload_n dX12_ancestor_10 rfl rfl rfl ?_
    refine V.bipush (v := 6) dX12_ancestor_11 rfl ?_
    obtain ⟨r13, h12, q11, hf2⟩ := bd2_el hf
    replace hf := hf2
    clear hf2
    refine V.callVI dX12_ancestor_13 ml_X12_81 mo_X12_refuse mv_X12_refuse rfl (fun q hq => by cases hq; rfl) (by decide) (Or.inl ⟨rfl, SHL_lt rfl⟩) (th_X12_refuse (srh2.ly ly) q11) rfl rfl ⟨Nat.le_of_ble_eq_true rfl, Nat.le_of_ble_eq_true rfl, fun _ => ⟨rfl, rfl⟩⟩ (Nat.le_of_ble_eq_true rfl) rfl (post_I (fun sq => ?_))
    have srh12 : SR h h12 := srh2.trans sq
    clear sq q11
    refine V.i2l dX12_ancestor_16 ?_
    refine V.goto (tgt := 29) dX12_ancestor_17 (by decide) ?_
    refine V.lreturn dX12_ancestor_29 rfl ⟨rfl, rfl⟩ ly.1 ?_
    exact ret_L hf srh12
set_option maxRecDepth 100000 in
theorem th_X12_stills {h : HP} (ly : Lay h)  {rr : Int64} {hh : HP} (hf : f_X12_stills h = some (rr, hh)) : Spec yX12_stills cX12_stills miX12_stills [.ref 113] h (pL fun r' h' => (r' = rr ∧ h' = hh) ∧ SR h hh) := by
  refine Spec.of (ls0 := [.ref 113]) mo_X12_stills (Nat.le_of_ble_eq_true rfl) rfl ?_
  rw [ly.1]
  have srh : SR h h := SR.refl h
  unfold f_X12_stills at hf
  refine V.aload_n dX12_stills_0 rfl rfl rfl ?_
  refine V.aload_n dX12_stills_1 rfl rfl rfl ?_
  refine V.iconst (v := 1) dX12_stills_2 rfl ?_
  obtain ⟨r3, h2, q1, hf2⟩ := bd2_el hf
  replace hf := hf2
  clear hf2
  refine V.callVL dX12_stills_3 ml_X12_353 mo_X12_reckons mv_X12_reckons rfl (fun q hq => by cases hq; rfl) (by decide) (Or.inl ⟨rfl, SHL_lt rfl⟩) (th_X12_reckons (srh.ly ly) q1) rfl rfl ⟨Nat.le_of_ble_eq_true rfl, Nat.le_of_ble_eq_true rfl, fun _ => ⟨rfl, rfl⟩⟩ (Nat.le_of_ble_eq_true rfl) rfl (post_L (fun sq => ?_))
  have srh2 : SR h h2 := srh.trans sq
  clear sq q1
  obtain ⟨r6, h5, q4, hf2⟩ := bd2_el hf
  replace hf := hf2
  clear hf2
  refine V.callVL dX12_stills_6 ml_X12_280 mo_X12_givesLong mv_X12_givesLong rfl (fun q hq => by cases hq; rfl) (by decide) (Or.inl ⟨rfl, SHL_lt rfl⟩) (th_X12_givesLong (srh2.ly ly) q4) rfl rfl ⟨Nat.le_of_ble_eq_true rfl, Nat.le_of_ble_eq_true rfl, fun _ => ⟨rfl, rfl⟩⟩ (Nat.le_of_ble_eq_true rfl) rfl (post_L (fun sq => ?_))
  have srh5 : SR h h5 := srh2.trans sq
  clear sq q4
  refine V.lreturn dX12_stills_9 rfl ⟨rfl, rfl⟩ ly.1 ?_
  exact ret_L hf srh5
set_option maxRecDepth 100000 in
theorem th_X12_firstStill {h : HP} (ly : Lay h)  {rr : Int64} {hh : HP} (hf : f_X12_firstStill h = some (rr, hh)) : Spec yX12_firstStill cX12_firstStill miX12_firstStill [.ref 113] h (pL fun r' h' => (r' = rr ∧ h' = hh) ∧ SR h hh) := by
  refine Spec.of (ls0 := [.ref 113]) mo_X12_firstStill (Nat.le_of_ble_eq_true rfl) rfl ?_
  rw [ly.1]
  have srh : SR h h := SR.refl h
  unfold f_X12_firstStill at hf
  refine V.aload_n dX12_firstStill_0 rfl rfl rfl ?_
  refine V.iconst (v := 1) dX12_firstStill_1 rfl ?_
  obtain ⟨r3, h2, q1, hf2⟩ := bd2_el hf
  replace hf := hf2
  clear hf2
  refine V.callVL dX12_firstStill_2 ml_X12_353 mo_X12_reckons mv_X12_reckons rfl (fun q hq => by cases hq; rfl) (by decide) (Or.inl ⟨rfl, SHL_lt rfl⟩) (th_X12_reckons (srh.ly ly) q1) rfl rfl ⟨Nat.le_of_ble_eq_true rfl, Nat.le_of_ble_eq_true rfl, fun _ => ⟨rfl, rfl⟩⟩ (Nat.le_of_ble_eq_true rfl) rfl (post_L (fun sq => ?_))
  have srh2 : SR h h2 := srh.trans sq
  clear sq q1
  refine V.lconst (v := 0) dX12_firstStill_5 rfl ?_
  refine V.lcmp dX12_firstStill_6 ?_
  refine V.if_ne (tgt := 20) dX12_firstStill_7 (by decide) (fun c4 => ?_) (fun c4 => ?_)
  · replace hf := ite_n hf c4
    refine V.aload_n dX12_firstStill_20 rfl rfl rfl ?_
    refine V.aload_n dX12_firstStill_21 rfl rfl rfl ?_
    refine V.iconst (v := 1) dX12_firstStill_22 rfl ?_
    obtain ⟨r7, h6, q5, hf2⟩ := bd2_el hf
    replace hf := hf2
    clear hf2
    refine V.callVL dX12_firstStill_23 ml_X12_357 mo_X12_least mv_X12_least rfl (fun q hq => by cases hq; rfl) (by decide) (Or.inl ⟨rfl, SHL_lt rfl⟩) (th_X12_least (srh2.ly ly) q5) rfl rfl ⟨Nat.le_of_ble_eq_true rfl, Nat.le_of_ble_eq_true rfl, fun _ => ⟨rfl, rfl⟩⟩ (Nat.le_of_ble_eq_true rfl) rfl (post_L (fun sq => ?_))
    have srh6 : SR h h6 := srh2.trans sq
    clear sq q5
    obtain ⟨r10, h9, q8, hf2⟩ := bd2_el hf
    replace hf := hf2
    clear hf2
    refine V.callVL dX12_firstStill_26 ml_X12_280 mo_X12_givesLong mv_X12_givesLong rfl (fun q hq => by cases hq; rfl) (by decide) (Or.inl ⟨rfl, SHL_lt rfl⟩) (th_X12_givesLong (srh6.ly ly) q8) rfl rfl ⟨Nat.le_of_ble_eq_true rfl, Nat.le_of_ble_eq_true rfl, fun _ => ⟨rfl, rfl⟩⟩ (Nat.le_of_ble_eq_true rfl) rfl (post_L (fun sq => ?_))
    have srh9 : SR h h9 := srh6.trans sq
    clear sq q8
    refine V.lreturn dX12_firstStill_29 rfl ⟨rfl, rfl⟩ ly.1 ?_
    exact ret_L hf srh9
  · replace hf := ite_p hf c4
    refine V.aload_n dX12_firstStill_10 rfl rfl rfl ?_
    refine V.bipush (v := 6) dX12_firstStill_11 rfl ?_
    obtain ⟨r13, h12, q11, hf2⟩ := bd2_el hf
    replace hf := hf2
    clear hf2
    refine V.callVI dX12_firstStill_13 ml_X12_81 mo_X12_refuse mv_X12_refuse rfl (fun q hq => by cases hq; rfl) (by decide) (Or.inl ⟨rfl, SHL_lt rfl⟩) (th_X12_refuse (srh2.ly ly) q11) rfl rfl ⟨Nat.le_of_ble_eq_true rfl, Nat.le_of_ble_eq_true rfl, fun _ => ⟨rfl, rfl⟩⟩ (Nat.le_of_ble_eq_true rfl) rfl (post_I (fun sq => ?_))
    have srh12 : SR h h12 := srh2.trans sq
    clear sq q11
    refine V.i2l dX12_firstStill_16 ?_
    refine V.goto (tgt := 29) dX12_firstStill_17 (by decide) ?_
    refine V.lreturn dX12_firstStill_29 rfl ⟨rfl, rfl⟩ ly.1 ?_
    exact ret_L hf srh12
