/-! ===== makings: the first town, while the world is being made (113 cells) ===== -/
def P0 (h : HP) : Prop := h.1 = 113 ∧ hR h 79 0 = 79 + 1 ∧ hR h 79 1 = 79 + 3 ∧ hR h 79 8 = 79 + 15
theorem isT79 : isT 79 := Or.inr (Or.inr (Or.inr (Or.inl rfl)))
set_option maxRecDepth 100000 in
theorem sq_start {h : HP} (ly : P0 h) (w ring : Int32) : Spec yX1_start cX1_start miX1_start [.ref (79 + 1), .int w, .int ring] h (pV fun h' => h' = rI h (79 + 1) (startF (hI h (79 + 1)) w ring)) := by
  refine Spec.of (ls0 := [.ref (79 + 1), .int w, .int ring]) mo_X1_start (Nat.le_of_ble_eq_true rfl) rfl ?_
  rw [ly.1]
  refine V.aload_n dX1_start_0 rfl rfl (sH0 isT79.H) ?_
  refine V.iload_n dX1_start_1 rfl rfl ?_
  refine V.putI dX1_start_2 fl_X1_7 (sH0 isT79.H) (Or.inl ⟨rfl, by decide⟩) rfl (fun q hq => by cases hq; rfl) ⟨rfl, rfl⟩ ?_
  refine V.aload_n dX1_start_5 rfl rfl (sH0 isT79.H) ?_
  refine V.iload_n dX1_start_6 rfl rfl ?_
  refine V.if_eq (tgt := 19) dX1_start_7 (by decide) (fun c1 => ?_) (fun c1 => ?_)
  · refine V.iconst (v := 0) dX1_start_19 rfl ?_
    refine V.putI dX1_start_20 fl_X1_17 (sH0 isT79.H) (Or.inl ⟨rfl, by decide⟩) rfl (fun q hq => by cases hq; rfl) ⟨rfl, rfl⟩ ?_
    refine V.aload_n dX1_start_23 rfl rfl (sH0 isT79.H) ?_
    refine V.iconst (v := 0) dX1_start_24 rfl ?_
    refine V.putI dX1_start_25 fl_X1_21 (sH0 isT79.H) (Or.inl ⟨rfl, by decide⟩) rfl (fun q hq => by cases hq; rfl) ⟨rfl, rfl⟩ ?_
    refine V.aload_n dX1_start_28 rfl rfl (sH0 isT79.H) ?_
    refine V.iconst (v := 0) dX1_start_29 rfl ?_
    refine V.putI dX1_start_30 fl_X1_24 (sH0 isT79.H) (Or.inl ⟨rfl, by decide⟩) rfl (fun q hq => by cases hq; rfl) ⟨rfl, rfl⟩ ?_
    refine V.aload_n dX1_start_33 rfl rfl (sH0 isT79.H) ?_
    refine V.iconst (v := 0) dX1_start_34 rfl ?_
    refine V.putI dX1_start_35 fl_X1_27 (sH0 isT79.H) (Or.inl ⟨rfl, by decide⟩) rfl (fun q hq => by cases hq; rfl) ⟨rfl, rfl⟩ ?_
    refine V.aload_n dX1_start_38 rfl rfl (sH0 isT79.H) ?_
    refine V.iconst (v := 0) dX1_start_39 rfl ?_
    refine V.putI dX1_start_40 fl_X1_30 (sH0 isT79.H) (Or.inl ⟨rfl, by decide⟩) rfl (fun q hq => by cases hq; rfl) ⟨rfl, rfl⟩ ?_
    refine V.aload_n dX1_start_43 rfl rfl (sH0 isT79.H) ?_
    refine V.iconst (v := 0) dX1_start_44 rfl ?_
    refine V.putI dX1_start_45 fl_X1_33 (sH0 isT79.H) (Or.inl ⟨rfl, by decide⟩) rfl (fun q hq => by cases hq; rfl) ⟨rfl, rfl⟩ ?_
    refine V.aload_n dX1_start_48 rfl rfl (sH0 isT79.H) ?_
    refine V.iconst (v := 0) dX1_start_49 rfl ?_
    refine V.putI dX1_start_50 fl_X1_36 (sH0 isT79.H) (Or.inl ⟨rfl, by decide⟩) rfl (fun q hq => by cases hq; rfl) ⟨rfl, rfl⟩ ?_
    refine V.aload_n dX1_start_53 rfl rfl (sH0 isT79.H) ?_
    refine V.iconst (v := 0) dX1_start_54 rfl ?_
    refine V.putI dX1_start_55 fl_X1_39 (sH0 isT79.H) (Or.inl ⟨rfl, by decide⟩) rfl (fun q hq => by cases hq; rfl) ⟨rfl, rfl⟩ ?_
    refine V.vreturn' dX1_start_58 rfl ly.1 (Or.inl ⟨rfl, rfl⟩) ?_
    simp only [rI_rI, hI_rI_s]
    congr 1
    funext j
    rcases (show j = 0 ∨ j = 1 ∨ j = 2 ∨ j = 3 ∨ j = 4 ∨ j = 5 ∨ j = 6 ∨ j = 7 ∨ j = 8 ∨ 9 ≤ j by omega) with rfl | rfl | rfl | rfl | rfl | rfl | rfl | rfl | rfl | h9
    all_goals first | rfl | (simp_all [upd, startF, Int32.not_le, Int32.not_lt]; done) | simp [upd, startF, show j ≠ 0 by omega, show j ≠ 1 by omega, show j ≠ 2 by omega, show j ≠ 3 by omega, show j ≠ 4 by omega, show j ≠ 5 by omega, show j ≠ 6 by omega, show j ≠ 7 by omega, show j ≠ 8 by omega, show ¬ j < 9 by omega]
  · refine V.iload_n dX1_start_10 rfl rfl ?_
    refine V.iconst (v := 2) dX1_start_11 rfl ?_
    refine V.icmp_le (tgt := 19) dX1_start_12 (by decide) (fun c2 => ?_) (fun c2 => ?_)
    · refine V.iconst (v := 0) dX1_start_19 rfl ?_
      refine V.putI dX1_start_20 fl_X1_17 (sH0 isT79.H) (Or.inl ⟨rfl, by decide⟩) rfl (fun q hq => by cases hq; rfl) ⟨rfl, rfl⟩ ?_
      refine V.aload_n dX1_start_23 rfl rfl (sH0 isT79.H) ?_
      refine V.iconst (v := 0) dX1_start_24 rfl ?_
      refine V.putI dX1_start_25 fl_X1_21 (sH0 isT79.H) (Or.inl ⟨rfl, by decide⟩) rfl (fun q hq => by cases hq; rfl) ⟨rfl, rfl⟩ ?_
      refine V.aload_n dX1_start_28 rfl rfl (sH0 isT79.H) ?_
      refine V.iconst (v := 0) dX1_start_29 rfl ?_
      refine V.putI dX1_start_30 fl_X1_24 (sH0 isT79.H) (Or.inl ⟨rfl, by decide⟩) rfl (fun q hq => by cases hq; rfl) ⟨rfl, rfl⟩ ?_
      refine V.aload_n dX1_start_33 rfl rfl (sH0 isT79.H) ?_
      refine V.iconst (v := 0) dX1_start_34 rfl ?_
      refine V.putI dX1_start_35 fl_X1_27 (sH0 isT79.H) (Or.inl ⟨rfl, by decide⟩) rfl (fun q hq => by cases hq; rfl) ⟨rfl, rfl⟩ ?_
      refine V.aload_n dX1_start_38 rfl rfl (sH0 isT79.H) ?_
      refine V.iconst (v := 0) dX1_start_39 rfl ?_
      refine V.putI dX1_start_40 fl_X1_30 (sH0 isT79.H) (Or.inl ⟨rfl, by decide⟩) rfl (fun q hq => by cases hq; rfl) ⟨rfl, rfl⟩ ?_
      refine V.aload_n dX1_start_43 rfl rfl (sH0 isT79.H) ?_
      refine V.iconst (v := 0) dX1_start_44 rfl ?_
      refine V.putI dX1_start_45 fl_X1_33 (sH0 isT79.H) (Or.inl ⟨rfl, by decide⟩) rfl (fun q hq => by cases hq; rfl) ⟨rfl, rfl⟩ ?_
      refine V.aload_n dX1_start_48 rfl rfl (sH0 isT79.H) ?_
      refine V.iconst (v := 0) dX1_start_49 rfl ?_
      refine V.putI dX1_start_50 fl_X1_36 (sH0 isT79.H) (Or.inl ⟨rfl, by decide⟩) rfl (fun q hq => by cases hq; rfl) ⟨rfl, rfl⟩ ?_
      refine V.aload_n dX1_start_53 rfl rfl (sH0 isT79.H) ?_
      refine V.iconst (v := 0) dX1_start_54 rfl ?_
      refine V.putI dX1_start_55 fl_X1_39 (sH0 isT79.H) (Or.inl ⟨rfl, by decide⟩) rfl (fun q hq => by cases hq; rfl) ⟨rfl, rfl⟩ ?_
      refine V.vreturn' dX1_start_58 rfl ly.1 (Or.inl ⟨rfl, rfl⟩) ?_
      simp only [rI_rI, hI_rI_s]
      congr 1
      funext j
      rcases (show j = 0 ∨ j = 1 ∨ j = 2 ∨ j = 3 ∨ j = 4 ∨ j = 5 ∨ j = 6 ∨ j = 7 ∨ j = 8 ∨ 9 ≤ j by omega) with rfl | rfl | rfl | rfl | rfl | rfl | rfl | rfl | rfl | h9
      all_goals first | rfl | (simp_all [upd, startF, Int32.not_le, Int32.not_lt]; done) | simp [upd, startF, show j ≠ 0 by omega, show j ≠ 1 by omega, show j ≠ 2 by omega, show j ≠ 3 by omega, show j ≠ 4 by omega, show j ≠ 5 by omega, show j ≠ 6 by omega, show j ≠ 7 by omega, show j ≠ 8 by omega, show ¬ j < 9 by omega]
    · refine V.iconst (v := 1) dX1_start_15 rfl ?_
      refine V.goto (tgt := 20) dX1_start_16 (by decide) ?_
      refine V.putI dX1_start_20 fl_X1_17 (sH0 isT79.H) (Or.inl ⟨rfl, by decide⟩) rfl (fun q hq => by cases hq; rfl) ⟨rfl, rfl⟩ ?_
      refine V.aload_n dX1_start_23 rfl rfl (sH0 isT79.H) ?_
      refine V.iconst (v := 0) dX1_start_24 rfl ?_
      refine V.putI dX1_start_25 fl_X1_21 (sH0 isT79.H) (Or.inl ⟨rfl, by decide⟩) rfl (fun q hq => by cases hq; rfl) ⟨rfl, rfl⟩ ?_
      refine V.aload_n dX1_start_28 rfl rfl (sH0 isT79.H) ?_
      refine V.iconst (v := 0) dX1_start_29 rfl ?_
      refine V.putI dX1_start_30 fl_X1_24 (sH0 isT79.H) (Or.inl ⟨rfl, by decide⟩) rfl (fun q hq => by cases hq; rfl) ⟨rfl, rfl⟩ ?_
      refine V.aload_n dX1_start_33 rfl rfl (sH0 isT79.H) ?_
      refine V.iconst (v := 0) dX1_start_34 rfl ?_
      refine V.putI dX1_start_35 fl_X1_27 (sH0 isT79.H) (Or.inl ⟨rfl, by decide⟩) rfl (fun q hq => by cases hq; rfl) ⟨rfl, rfl⟩ ?_
      refine V.aload_n dX1_start_38 rfl rfl (sH0 isT79.H) ?_
      refine V.iconst (v := 0) dX1_start_39 rfl ?_
      refine V.putI dX1_start_40 fl_X1_30 (sH0 isT79.H) (Or.inl ⟨rfl, by decide⟩) rfl (fun q hq => by cases hq; rfl) ⟨rfl, rfl⟩ ?_
      refine V.aload_n dX1_start_43 rfl rfl (sH0 isT79.H) ?_
      refine V.iconst (v := 0) dX1_start_44 rfl ?_
      refine V.putI dX1_start_45 fl_X1_33 (sH0 isT79.H) (Or.inl ⟨rfl, by decide⟩) rfl (fun q hq => by cases hq; rfl) ⟨rfl, rfl⟩ ?_
      refine V.aload_n dX1_start_48 rfl rfl (sH0 isT79.H) ?_
      refine V.iconst (v := 0) dX1_start_49 rfl ?_
      refine V.putI dX1_start_50 fl_X1_36 (sH0 isT79.H) (Or.inl ⟨rfl, by decide⟩) rfl (fun q hq => by cases hq; rfl) ⟨rfl, rfl⟩ ?_
      refine V.aload_n dX1_start_53 rfl rfl (sH0 isT79.H) ?_
      refine V.iconst (v := 0) dX1_start_54 rfl ?_
      refine V.putI dX1_start_55 fl_X1_39 (sH0 isT79.H) (Or.inl ⟨rfl, by decide⟩) rfl (fun q hq => by cases hq; rfl) ⟨rfl, rfl⟩ ?_
      refine V.vreturn' dX1_start_58 rfl ly.1 (Or.inl ⟨rfl, rfl⟩) ?_
      simp only [rI_rI, hI_rI_s]
      congr 1
      funext j
      rcases (show j = 0 ∨ j = 1 ∨ j = 2 ∨ j = 3 ∨ j = 4 ∨ j = 5 ∨ j = 6 ∨ j = 7 ∨ j = 8 ∨ 9 ≤ j by omega) with rfl | rfl | rfl | rfl | rfl | rfl | rfl | rfl | rfl | h9
      all_goals first | rfl | (simp_all [upd, startF, Int32.not_le, Int32.not_lt]; done) | simp [upd, startF, show j ≠ 0 by omega, show j ≠ 1 by omega, show j ≠ 2 by omega, show j ≠ 3 by omega, show j ≠ 4 by omega, show j ≠ 5 by omega, show j ≠ 6 by omega, show j ≠ 7 by omega, show j ≠ 8 by omega, show ¬ j < 9 by omega]
set_option maxRecDepth 100000 in
theorem sq_addRow {h : HP} (ly : P0 h)  : Spec yX1_addRow cX1_addRow miX1_addRow [.ref (79 + 1)] h (pV fun h' => h' = rI h (79 + 1) (addRowF (hI h (79 + 1)))) := by
  refine Spec.of (ls0 := [.ref (79 + 1)]) mo_X1_addRow (Nat.le_of_ble_eq_true rfl) rfl ?_
  rw [ly.1]
  refine V.aload_n dX1_addRow_0 rfl rfl (sH0 isT79.H) ?_
  refine V.dup dX1_addRow_1 rfl ?_
  refine V.getI dX1_addRow_2 fl_X1_36 (sH0 isT79.H) (Or.inl ⟨rfl, by decide⟩) rfl rfl ?_
  refine V.iconst (v := 1) dX1_addRow_5 rfl ?_
  refine V.aload_n dX1_addRow_6 rfl rfl (sH0 isT79.H) ?_
  refine V.getI dX1_addRow_7 fl_X1_21 (sH0 isT79.H) (Or.inl ⟨rfl, by decide⟩) rfl rfl ?_
  refine V.aload_n dX1_addRow_10 rfl rfl (sH0 isT79.H) ?_
  refine V.getI dX1_addRow_11 fl_X1_7 (sH0 isT79.H) (Or.inl ⟨rfl, by decide⟩) rfl rfl ?_
  refine V.imul dX1_addRow_14 ?_
  refine V.ishl dX1_addRow_15 ?_
  refine V.ior dX1_addRow_16 ?_
  refine V.putI dX1_addRow_17 fl_X1_36 (sH0 isT79.H) (Or.inl ⟨rfl, by decide⟩) rfl (fun q hq => by cases hq; rfl) ⟨rfl, rfl⟩ ?_
  refine V.aload_n dX1_addRow_20 rfl rfl (sH0 isT79.H) ?_
  refine V.dup dX1_addRow_21 rfl ?_
  refine V.getI dX1_addRow_22 fl_X1_39 (sH0 isT79.H) (Or.inl ⟨rfl, by decide⟩) rfl rfl ?_
  refine V.iconst (v := 1) dX1_addRow_25 rfl ?_
  refine V.aload_n dX1_addRow_26 rfl rfl (sH0 isT79.H) ?_
  refine V.getI dX1_addRow_27 fl_X1_21 (sH0 isT79.H) (Or.inl ⟨rfl, by decide⟩) rfl rfl ?_
  refine V.aload_n dX1_addRow_30 rfl rfl (sH0 isT79.H) ?_
  refine V.getI dX1_addRow_31 fl_X1_7 (sH0 isT79.H) (Or.inl ⟨rfl, by decide⟩) rfl rfl ?_
  refine V.imul dX1_addRow_34 ?_
  refine V.aload_n dX1_addRow_35 rfl rfl (sH0 isT79.H) ?_
  refine V.getI dX1_addRow_36 fl_X1_7 (sH0 isT79.H) (Or.inl ⟨rfl, by decide⟩) rfl rfl ?_
  refine V.iadd dX1_addRow_39 ?_
  refine V.iconst (v := 1) dX1_addRow_40 rfl ?_
  refine V.isub dX1_addRow_41 ?_
  refine V.ishl dX1_addRow_42 ?_
  refine V.ior dX1_addRow_43 ?_
  refine V.putI dX1_addRow_44 fl_X1_39 (sH0 isT79.H) (Or.inl ⟨rfl, by decide⟩) rfl (fun q hq => by cases hq; rfl) ⟨rfl, rfl⟩ ?_
  refine V.aload_n dX1_addRow_47 rfl rfl (sH0 isT79.H) ?_
  refine V.dup dX1_addRow_48 rfl ?_
  refine V.getI dX1_addRow_49 fl_X1_21 (sH0 isT79.H) (Or.inl ⟨rfl, by decide⟩) rfl rfl ?_
  refine V.iconst (v := 1) dX1_addRow_52 rfl ?_
  refine V.iadd dX1_addRow_53 ?_
  refine V.putI dX1_addRow_54 fl_X1_21 (sH0 isT79.H) (Or.inl ⟨rfl, by decide⟩) rfl (fun q hq => by cases hq; rfl) ⟨rfl, rfl⟩ ?_
  refine V.aload_n dX1_addRow_57 rfl rfl (sH0 isT79.H) ?_
  refine V.iconst (v := 1) dX1_addRow_58 rfl ?_
  refine V.aload_n dX1_addRow_59 rfl rfl (sH0 isT79.H) ?_
  refine V.getI dX1_addRow_60 fl_X1_21 (sH0 isT79.H) (Or.inl ⟨rfl, by decide⟩) rfl rfl ?_
  refine V.aload_n dX1_addRow_63 rfl rfl (sH0 isT79.H) ?_
  refine V.getI dX1_addRow_64 fl_X1_7 (sH0 isT79.H) (Or.inl ⟨rfl, by decide⟩) rfl rfl ?_
  refine V.imul dX1_addRow_67 ?_
  refine V.ishl dX1_addRow_68 ?_
  refine V.iconst (v := 1) dX1_addRow_69 rfl ?_
  refine V.isub dX1_addRow_70 ?_
  refine V.putI dX1_addRow_71 fl_X1_24 (sH0 isT79.H) (Or.inl ⟨rfl, by decide⟩) rfl (fun q hq => by cases hq; rfl) ⟨rfl, rfl⟩ ?_
  refine V.vreturn' dX1_addRow_74 rfl ly.1 (Or.inl ⟨rfl, rfl⟩) ?_
  simp only [rI_rI, hI_rI_s]
  congr 1
  funext j
  rcases (show j = 0 ∨ j = 1 ∨ j = 2 ∨ j = 3 ∨ j = 4 ∨ j = 5 ∨ j = 6 ∨ j = 7 ∨ j = 8 ∨ 9 ≤ j by omega) with rfl | rfl | rfl | rfl | rfl | rfl | rfl | rfl | rfl | h9
  all_goals first | rfl | (simp_all [upd, addRowF, Int32.not_le, Int32.not_lt]; done) | simp [upd, addRowF, show j ≠ 0 by omega, show j ≠ 1 by omega, show j ≠ 2 by omega, show j ≠ 3 by omega, show j ≠ 4 by omega, show j ≠ 5 by omega, show j ≠ 6 by omega, show j ≠ 7 by omega, show j ≠ 8 by omega, show ¬ j < 9 by omega]
set_option maxRecDepth 100000 in
theorem sq_makeNone {h : HP} (ly : P0 h)  : Spec yX9_makeNone cX9_makeNone miX9_makeNone [.ref (79 + 3)] h (pV fun h' => h' = rI h (79 + 3) (upd (upd (upd (hI h (79 + 3)) 5 0) 6 0) 7 0)) := by
  refine Spec.of (ls0 := [.ref (79 + 3)]) mo_X9_makeNone (Nat.le_of_ble_eq_true rfl) rfl ?_
  rw [ly.1]
  refine V.aload_n dX9_makeNone_0 rfl rfl (sY0 isT79.Y) ?_
  refine V.iconst (v := 0) dX9_makeNone_1 rfl ?_
  refine V.putI dX9_makeNone_2 fl_X9_27 (sY0 isT79.Y) (Or.inl ⟨rfl, by decide⟩) rfl (fun q hq => by cases hq; rfl) ⟨rfl, rfl⟩ ?_
  refine V.aload_n dX9_makeNone_5 rfl rfl (sY0 isT79.Y) ?_
  refine V.iconst (v := 0) dX9_makeNone_6 rfl ?_
  refine V.putI dX9_makeNone_7 fl_X9_31 (sY0 isT79.Y) (Or.inl ⟨rfl, by decide⟩) rfl (fun q hq => by cases hq; rfl) ⟨rfl, rfl⟩ ?_
  refine V.aload_n dX9_makeNone_10 rfl rfl (sY0 isT79.Y) ?_
  refine V.iconst (v := 0) dX9_makeNone_11 rfl ?_
  refine V.putI dX9_makeNone_12 fl_X9_35 (sY0 isT79.Y) (Or.inl ⟨rfl, by decide⟩) rfl (fun q hq => by cases hq; rfl) ⟨rfl, rfl⟩ ?_
  refine V.vreturn' dX9_makeNone_15 rfl ly.1 (Or.inl ⟨rfl, rfl⟩) ?_
  simp only [rI_rI, hI_rI_s]
set_option maxRecDepth 100000 in
theorem sq_addHouse {h : HP} (ly : P0 h) (p : Int32) : Spec yX5_addHouse cX5_addHouse miX5_addHouse [.ref 79, .int p, .int 100] h (pV fun h' => h' = addHH h 79 (shl 1 p) 100) := by
  refine Spec.of (ls0 := [.ref 79, .int p, .int 100, .null]) mo_X5_addHouse (Nat.le_of_ble_eq_true rfl) rfl ?_
  rw [ly.1]
  refine V.iconst (v := 1) dX5_addHouse_0 rfl ?_
  refine V.iload_n dX5_addHouse_1 rfl rfl ?_
  refine V.ishl dX5_addHouse_2 ?_
  refine V.nmi (fun x1 ex1 => ?_)
  refine V.istore_n (ls' := [.ref 79, .int p, .int 100, .int x1]) dX5_addHouse_3 rfl (by decide) rfl ?_
  refine V.iload_n dX5_addHouse_4 rfl rfl ?_
  refine V.bipush (v := 110) dX5_addHouse_5 rfl ?_
  refine V.icmp_eq (tgt := 23) dX5_addHouse_7 (by decide) (fun c2 => absurd c2 (by decide)) (fun _ => ?_)
  refine V.aload_n dX5_addHouse_10 rfl rfl (sT0 isT79) ?_
  refine V.getR (r := 79 + 1) dX5_addHouse_11 fl_X5_12 (sT0 isT79) (Or.inl ⟨rfl, by decide⟩) rfl (ly.2.1) ?_
  refine V.dup dX5_addHouse_14 rfl ?_
  refine V.getI dX5_addHouse_15 fl_X5_93 (sH0 isT79.H) (Or.inl ⟨rfl, by decide⟩) rfl rfl ?_
  refine V.iload_n dX5_addHouse_18 rfl rfl ?_
  refine V.ior dX5_addHouse_19 ?_
  refine V.putI dX5_addHouse_20 fl_X5_93 (sH0 isT79.H) (Or.inl ⟨rfl, by decide⟩) rfl (fun q hq => by cases hq; rfl) ⟨rfl, rfl⟩ ?_
  refine V.iload_n dX5_addHouse_23 rfl rfl ?_
  refine V.bipush (v := 100) dX5_addHouse_24 rfl ?_
  refine V.icmp_eq (tgt := 35) dX5_addHouse_26 (by decide) (fun _ => ?_) (fun c3 => absurd c3 (by decide))
  refine V.aload_n dX5_addHouse_35 rfl rfl (sT0 isT79) ?_
  refine V.getR (r := 79 + 1) dX5_addHouse_36 fl_X5_12 (sT0 isT79) (Or.inl ⟨rfl, by decide⟩) rfl (ly.2.1) ?_
  refine V.dup dX5_addHouse_39 rfl ?_
  refine V.getI dX5_addHouse_40 fl_X5_96 (sH0 isT79.H) (Or.inl ⟨rfl, by decide⟩) rfl rfl ?_
  refine V.iload_n dX5_addHouse_43 rfl rfl ?_
  refine V.ior dX5_addHouse_44 ?_
  refine V.putI dX5_addHouse_45 fl_X5_96 (sH0 isT79.H) (Or.inl ⟨rfl, by decide⟩) rfl (fun q hq => by cases hq; rfl) ⟨rfl, rfl⟩ ?_
  refine V.iload_n dX5_addHouse_48 rfl rfl ?_
  refine V.bipush (v := 119) dX5_addHouse_49 rfl ?_
  refine V.icmp_ne (tgt := 67) dX5_addHouse_51 (by decide) (fun _ => ?_) (fun c4 => absurd c4 (by decide))
  refine V.iload_n dX5_addHouse_67 rfl rfl ?_
  refine V.bipush (v := 108) dX5_addHouse_68 rfl ?_
  refine V.icmp_eq (tgt := 79) dX5_addHouse_70 (by decide) (fun c5 => absurd c5 (by decide)) (fun _ => ?_)
  refine V.iload_n dX5_addHouse_73 rfl rfl ?_
  refine V.bipush (v := 119) dX5_addHouse_74 rfl ?_
  refine V.icmp_ne (tgt := 89) dX5_addHouse_76 (by decide) (fun _ => ?_) (fun c6 => absurd c6 (by decide))
  refine V.vreturn' dX5_addHouse_89 rfl ly.1 (Or.inl ⟨rfl, rfl⟩) ?_
  have e0 : x1 = shl 1 p := ex1
  rw [← e0]
  unfold addHH addH1 addH2 addH3 addH4
  rw [if_neg (by decide), if_neg (by decide), if_pos (by decide), if_neg (by decide)]
set_option maxRecDepth 100000 in
theorem lq_fill {h0 h1 : HP} (hn : h0.1 = 113) {a q : Nat} (ha : a < 113) (hs : SHL[a]? = some (1, 0, q)) (hq : q < 2 ^ 31) {v : Int32} {P : HP → Prop} (hP : P (rI h1 a (rowI (hI h1 a) (fun _ => v) 0 q))) : ∀ n k, k ≤ q → q + 1 ≤ k + n → 
    V cJ7_fill_53178 miJ7_fill_53178 (ZM h0 miJ7_fill_53178.2.2.2.1 (pV P)) 113 5 [.ref a, .int v, .int (nI k), .int (nI q)] [] (rI h1 a (rowI (hI h1 a) (fun _ => v) 0 k)) := by
  intro n
  induction n with
  | zero => intro k h1 h2; exact absurd h2 (by omega)
  | succ n ih =>
    intro k hk hkn
    refine V.iload_n dJ7_fill_53178_5 rfl rfl ?_
    refine V.iload_n dJ7_fill_53178_6 rfl rfl ?_
    refine V.icmp_ge (tgt := 20) dJ7_fill_53178_7 (by decide) (fun c1 => ?_) (fun c1 => ?_)
    · have hk2 : k = q := by have h9 := c1; rw [nI_leI (by omega) (by omega)] at h9; omega
      refine V.vreturn' dJ7_fill_53178_20 rfl hn (Or.inl ⟨rfl, rfl⟩) ?_
      subst hk2
      exact hP
    · have hlt : k < q := by have h9 := c1; rw [nI_leI (by omega) (by omega)] at h9; omega
      refine V.aload_n dJ7_fill_53178_10 rfl rfl hs ?_
      refine V.iload_n dJ7_fill_53178_11 rfl rfl ?_
      refine V.iload_n dJ7_fill_53178_12 rfl rfl ?_
      refine V.iastore dJ7_fill_53178_13 hs (Or.inl ⟨rfl, ha⟩) (vp_in_nI hlt hq) ?_
      rw [nI_clamp (show k < 2 ^ 31 by omega)]
      rw [show uI (rI h1 a (rowI (hI h1 a) (fun _ => v) 0 k)) a k v = rI h1 a (rowI (hI h1 a) (fun _ => v) 0 (k + 1)) from (by have q9 := uI_row h1 a (hI h1 a) (fun _ => v) 0 k; rw [Nat.zero_add] at q9; exact q9)]
      obtain ⟨x2, ex2⟩ : ∃ y : Int32, y = nI k + 1 := ⟨_, rfl⟩
      refine V.iinc (v := x2) (ls' := [.ref a, .int v, .int x2, .int (nI q)]) dJ7_fill_53178_14 rfl (by decide) ex2.symm rfl ?_
      refine V.goto (tgt := 5) dJ7_fill_53178_17 (by decide) ?_
      rw [ex2, nI_1]
      exact ih (k + 1) (by omega) (by omega)
set_option maxRecDepth 100000 in
theorem sq_fill {h : HP} (hn : h.1 = 113) {a q : Nat} (ha : a < 113) (hs : SHL[a]? = some (1, 0, q)) (hq : q < 2 ^ 31) (v : Int32) : Spec yJ7_fill_53178 cJ7_fill_53178 miJ7_fill_53178 [.ref a, .int v] h (pV fun h' => h' = rI h a (rowI (hI h a) (fun _ => v) 0 q)) := by
  refine Spec.of (ls0 := [.ref a, .int v, .null, .null]) mo_J7_fill_53178 (Nat.le_of_ble_eq_true rfl) rfl ?_
  rw [hn]
  refine V.iconst (v := 0) dJ7_fill_53178_0 rfl ?_
  refine V.istore_n (ls' := [.ref a, .int v, .int 0, .null]) dJ7_fill_53178_1 rfl (by decide) rfl ?_
  refine V.aload_n dJ7_fill_53178_2 rfl rfl hs ?_
  refine V.arraylength (v := nI q) dJ7_fill_53178_3 hs (by decide) (Or.inl ⟨rfl, ha⟩) rfl ?_
  refine V.istore_n (ls' := [.ref a, .int v, .int 0, .int (nI q)]) dJ7_fill_53178_4 rfl (by decide) rfl ?_
  have key := lq_fill (h0 := h) hn (h1 := h) ha hs hq (P := fun h' => h' = rI h a (rowI (hI h a) (fun _ => v) 0 q)) rfl (q + 1) 0 (by omega) (by omega)
  rw [rowI_0, rI_self] at key
  exact key
set_option maxRecDepth 100000 in
theorem sq_makeEmpty {h : HP} (ly : P0 h) (w ring : Int32) : Spec yX5_makeEmpty cX5_makeEmpty miX5_makeEmpty [.ref 79, .int w, .int ring] h (pV fun h' => h' = emptyT h 79 w ring) := by
  refine Spec.of (ls0 := [.ref 79, .int w, .int ring]) mo_X5_makeEmpty (Nat.le_of_ble_eq_true rfl) rfl ?_
  rw [ly.1]
  refine V.aload_n dX5_makeEmpty_0 rfl rfl (sT0 isT79) ?_
  refine V.getR (r := 79 + 1) dX5_makeEmpty_1 fl_X5_12 (sT0 isT79) (Or.inl ⟨rfl, by decide⟩) rfl (ly.2.1) ?_
  refine V.iload_n dX5_makeEmpty_4 rfl rfl ?_
  refine V.iload_n dX5_makeEmpty_5 rfl rfl ?_
  refine V.callVV dX5_makeEmpty_6 ml_X5_62 mo_X1_start mv_X1_start (sH0 isT79.H) (fun q hq => by cases hq; rfl) (by decide) (Or.inl ⟨rfl, by decide⟩) (sq_start (by exact ly) _ _) rfl rfl ⟨Nat.le_of_ble_eq_true rfl, Nat.le_of_ble_eq_true rfl, fun _ => ⟨rfl, rfl⟩⟩ (Nat.le_of_ble_eq_true rfl) (Or.inl rfl) (fun h1 p2 => ?_)
  have p2 := p2.symm
  subst p2
  refine V.aload_n dX5_makeEmpty_9 rfl rfl (sT0 isT79) ?_
  refine V.getR (r := 79 + 3) dX5_makeEmpty_10 fl_X5_21 (sT0 isT79) (Or.inl ⟨rfl, by decide⟩) rfl (ly.2.2.1) ?_
  refine V.callVV dX5_makeEmpty_13 ml_X5_65 mo_X9_makeNone mv_X9_makeNone (sY0 isT79.Y) (fun q hq => by cases hq; rfl) (by decide) (Or.inl ⟨rfl, by decide⟩) (sq_makeNone (by exact ly)) rfl rfl ⟨Nat.le_of_ble_eq_true rfl, Nat.le_of_ble_eq_true rfl, fun _ => ⟨rfl, rfl⟩⟩ (Nat.le_of_ble_eq_true rfl) (Or.inl rfl) (fun h3 p4 => ?_)
  have p4 := p4.symm
  subst p4
  refine V.aload_n dX5_makeEmpty_16 rfl rfl (sT0 isT79) ?_
  refine V.iconst (v := 0) dX5_makeEmpty_17 rfl ?_
  refine V.putI dX5_makeEmpty_18 fl_X5_68 (sT0 isT79) (Or.inl ⟨rfl, by decide⟩) rfl (fun q hq => by cases hq; rfl) ⟨rfl, rfl⟩ ?_
  refine V.aload_n dX5_makeEmpty_21 rfl rfl (sT0 isT79) ?_
  refine V.iconst (v := 0) dX5_makeEmpty_22 rfl ?_
  refine V.putI dX5_makeEmpty_23 fl_X5_72 (sT0 isT79) (Or.inl ⟨rfl, by decide⟩) rfl (fun q hq => by cases hq; rfl) ⟨rfl, rfl⟩ ?_
  refine V.aload_n dX5_makeEmpty_26 rfl rfl (sT0 isT79) ?_
  refine V.iconst (v := 0) dX5_makeEmpty_27 rfl ?_
  refine V.putI dX5_makeEmpty_28 fl_X5_75 (sT0 isT79) (Or.inl ⟨rfl, by decide⟩) rfl (fun q hq => by cases hq; rfl) ⟨rfl, rfl⟩ ?_
  refine V.aload_n dX5_makeEmpty_31 rfl rfl (sT0 isT79) ?_
  refine V.iconst (v := 0) dX5_makeEmpty_32 rfl ?_
  refine V.putI dX5_makeEmpty_33 fl_X5_78 (sT0 isT79) (Or.inl ⟨rfl, by decide⟩) rfl (fun q hq => by cases hq; rfl) ⟨rfl, rfl⟩ ?_
  refine V.aload_n dX5_makeEmpty_36 rfl rfl (sT0 isT79) ?_
  refine V.iconst (v := 0) dX5_makeEmpty_37 rfl ?_
  refine V.putI dX5_makeEmpty_38 fl_X5_81 (sT0 isT79) (Or.inl ⟨rfl, by decide⟩) rfl (fun q hq => by cases hq; rfl) ⟨rfl, rfl⟩ ?_
  refine V.aload_n dX5_makeEmpty_41 rfl rfl (sT0 isT79) ?_
  refine V.iconst (v := 0) dX5_makeEmpty_42 rfl ?_
  refine V.putI dX5_makeEmpty_43 fl_X5_84 (sT0 isT79) (Or.inl ⟨rfl, by decide⟩) rfl (fun q hq => by cases hq; rfl) ⟨rfl, rfl⟩ ?_
  refine V.aload_n dX5_makeEmpty_46 rfl rfl (sT0 isT79) ?_
  refine V.getR (r := 79 + 15) dX5_makeEmpty_47 fl_X5_45 (sT0 isT79) (Or.inl ⟨rfl, by decide⟩) rfl (ly.2.2.2) ?_
  refine V.iconst (v := 0) dX5_makeEmpty_50 rfl ?_
  refine V.callSV dX5_makeEmpty_51 ml_X5_87 mo_J7_fill_53178 ms_J7_fill_53178 (sq_fill (by exact ly.1) (by decide) (sT15 isT79) (by decide) _) rfl rfl ⟨Nat.le_of_ble_eq_true rfl, Nat.le_of_ble_eq_true rfl, fun _ => ⟨rfl, rfl⟩⟩ (Nat.le_of_ble_eq_true rfl) rfl (fun h5 p6 => ?_)
  have p6 := p6.symm
  subst p6
  refine V.vreturn' dX5_makeEmpty_54 rfl ly.1 (Or.inl ⟨rfl, rfl⟩) ?_
  unfold emptyT
  simp only [uI, rI_rI, hI_rI_s]
  simp [hI_rI]
/-- the town of one dark house -/
def oneD (h : HP) : HP := addHH (rI (emptyT h 79 1 0) (79 + 1) (addRowF (hI (emptyT h 79 1 0) (79 + 1)))) 79 (shl 1 0) 100
theorem P0.e {h : HP} (p : P0 h) (w r : Int32) : P0 (emptyT h 79 w r) := p
set_option maxRecDepth 100000 in
theorem sq_oneDark {h : HP} (ly : P0 h) : Spec yX5_makeOneDarkHouse cX5_makeOneDarkHouse miX5_makeOneDarkHouse [.ref 79] h (pV fun h' => h' = oneD h) := by
  refine Spec.of (ls0 := [.ref 79]) mo_X5_makeOneDarkHouse (Nat.le_of_ble_eq_true rfl) rfl ?_
  rw [ly.1]
  refine V.aload_n dX5_makeOneDarkHouse_0 rfl rfl (sT0 isT79) ?_
  refine V.iconst (v := 1) dX5_makeOneDarkHouse_1 rfl ?_
  refine V.iconst (v := 0) dX5_makeOneDarkHouse_2 rfl ?_
  refine V.callVV dX5_makeOneDarkHouse_3 ml_X5_51 mo_X5_makeEmpty mv_X5_makeEmpty (sT0 isT79) (fun q hq => by cases hq; rfl) (by decide) (Or.inl ⟨rfl, by decide⟩) (sq_makeEmpty ly _ _) rfl rfl ⟨Nat.le_of_ble_eq_true rfl, Nat.le_of_ble_eq_true rfl, fun _ => ⟨rfl, rfl⟩⟩ (Nat.le_of_ble_eq_true rfl) (Or.inl rfl) (fun h1 p1 => ?_)
  have l1 : P0 h1 := by rw [p1]; exact ly.e _ _
  refine V.aload_n dX5_makeOneDarkHouse_6 rfl rfl (sT0 isT79) ?_
  refine V.getR (r := 79 + 1) dX5_makeOneDarkHouse_7 fl_X5_12 (sT0 isT79) (Or.inl ⟨rfl, by decide⟩) rfl l1.2.1 ?_
  refine V.callVV dX5_makeOneDarkHouse_10 ml_X5_55 mo_X1_addRow mv_X1_addRow (sH0 isT79.H) (fun q hq => by cases hq; rfl) (by decide) (Or.inl ⟨rfl, by decide⟩) (sq_addRow l1) rfl rfl ⟨Nat.le_of_ble_eq_true rfl, Nat.le_of_ble_eq_true rfl, fun _ => ⟨rfl, rfl⟩⟩ (Nat.le_of_ble_eq_true rfl) (Or.inl rfl) (fun h2 p2 => ?_)
  have l2 : P0 h2 := by rw [p2]; exact l1
  refine V.aload_n dX5_makeOneDarkHouse_13 rfl rfl (sT0 isT79) ?_
  refine V.iconst (v := 0) dX5_makeOneDarkHouse_14 rfl ?_
  refine V.bipush (v := 100) dX5_makeOneDarkHouse_15 rfl ?_
  refine V.callVV dX5_makeOneDarkHouse_17 ml_X5_58 mo_X5_addHouse mv_X5_addHouse (sT0 isT79) (fun q hq => by cases hq; rfl) (by decide) (Or.inl ⟨rfl, by decide⟩) (sq_addHouse l2 _) rfl rfl ⟨Nat.le_of_ble_eq_true rfl, Nat.le_of_ble_eq_true rfl, fun _ => ⟨rfl, rfl⟩⟩ (Nat.le_of_ble_eq_true rfl) (Or.inl rfl) (fun h3 p3 => ?_)
  refine V.vreturn' dX5_makeOneDarkHouse_20 rfl ly.1 (Or.inl ⟨rfl, rfl⟩) ?_
  rw [p3, p2, p1]
  rfl
