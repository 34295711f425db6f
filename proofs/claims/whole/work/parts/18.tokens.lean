/-! ===== the class's tokens: what is looked at, what is taken ===== -/
theorem n8_n8 (x : Int32) : x.toInt8.toInt32.toInt8.toInt32 = x.toInt8.toInt32 := by simp
theorem n16_n16 (x : Int32) : x.toInt16.toInt32.toInt16.toInt32 = x.toInt16.toInt32 := by simp
theorem n8_16 (x : Int32) : x.toInt8.toInt32.toInt16.toInt32 = x.toInt8.toInt32 := by simp
theorem n16_nI {n : Nat} (h : n < 2 ^ 15) : (nI n).toInt16.toInt32 = nI n := by
  apply Int32.toInt_inj.mp
  rw [Int16.toInt_toInt32, Int32.toInt_toInt16, nI_toInt (by omega), Int.bmod_def]
  split <;> omega
theorem n8_nI {n : Nat} (h : n < 128) : (nI n).toInt8.toInt32 = nI n := by
  apply Int32.toInt_inj.mp
  rw [Int8.toInt_toInt32, Int32.toInt_toInt8, nI_toInt (by omega), Int.bmod_def]
  split <;> omega
set_option maxRecDepth 100000 in
theorem sp_X4_hasRoomFor {h : HP} (ly : Lay h) (b : Int32) : Spec yX4_hasRoomFor cX4_hasRoomFor miX4_hasRoomFor [.ref 5, .int b] h (pI fun r h' => r = bI (decide (hI h 5 7 + b ≤ 900)) ∧ h' = h) := by
  refine Spec.of (ls0 := [.ref 5, .int b]) mo_X4_hasRoomFor (Nat.le_of_ble_eq_true rfl) rfl ?_
  rw [ly.1]
  refine V.aload_n dX4_hasRoomFor_0 rfl rfl rfl ?_
  refine V.getI dX4_hasRoomFor_1 fl_X4_56 rfl (Or.inl ⟨rfl, SHL_lt rfl⟩) rfl rfl ?_
  refine V.iload_n dX4_hasRoomFor_4 rfl rfl ?_
  refine V.iadd dX4_hasRoomFor_5 ?_
  refine V.sipush (v := 900) dX4_hasRoomFor_6 rfl ?_
  refine V.icmp_gt (tgt := 16) dX4_hasRoomFor_9 (by decide) (fun c1 => ?_) (fun c1 => ?_)
  · refine V.iconst (v := 0) dX4_hasRoomFor_16 rfl ?_
    refine V.ireturn dX4_hasRoomFor_17 rfl rfl ⟨rfl, rfl⟩ ly.1 ?_
    refine ⟨?_, rfl⟩
    first | exact bI_t (by first | assumption | exact Int32.not_lt.mp (by assumption)) | exact bI_f (by first | assumption | exact Int32.not_le.mpr (by assumption))
  · refine V.iconst (v := 1) dX4_hasRoomFor_12 rfl ?_
    refine V.goto (tgt := 17) dX4_hasRoomFor_13 (by decide) ?_
    refine V.ireturn dX4_hasRoomFor_17 rfl rfl ⟨rfl, rfl⟩ ly.1 ?_
    refine ⟨?_, rfl⟩
    first | exact bI_t (by first | assumption | exact Int32.not_lt.mp (by assumption)) | exact bI_f (by first | assumption | exact Int32.not_le.mpr (by assumption))
set_option maxRecDepth 100000 in
theorem sp_X4_isEnd {h : HP} (ly : Lay h) {a : Nat} (ha : a ≤ 900) (hat : hI h 5 10 = nI a)  : Spec yX4_isEnd cX4_isEnd miX4_isEnd [.ref 5] h (pI fun r h' => r = bI (decide (hI h 8 a = 1)) ∧ h' = h) := by
  refine Spec.of (ls0 := [.ref 5]) mo_X4_isEnd (Nat.le_of_ble_eq_true rfl) rfl ?_
  rw [ly.1]
  refine V.aload_n dX4_isEnd_0 rfl rfl rfl ?_
  refine V.getR (r := 8) dX4_isEnd_1 fl_X4_19 rfl (Or.inl ⟨rfl, SHL_lt rfl⟩) rfl (ly_5_2 ly) ?_
  refine V.aload_n dX4_isEnd_4 rfl rfl rfl ?_
  refine V.getI dX4_isEnd_5 fl_X4_70 rfl (Or.inl ⟨rfl, SHL_lt rfl⟩) rfl rfl ?_
  rw [hat]
  refine V.baload dX4_isEnd_8 rfl (Or.inl ⟨rfl, SHL_lt rfl⟩) (vp_in_nI (show a < 901 by omega) (by decide)) ?_
  rw [nI_clamp (show a < 2 ^ 31 by omega)]
  refine V.iconst (v := 1) dX4_isEnd_9 rfl ?_
  refine V.icmp_ne (tgt := 17) dX4_isEnd_10 (by decide) (fun c1 => ?_) (fun c1 => ?_)
  · refine V.iconst (v := 0) dX4_isEnd_17 rfl ?_
    refine V.ireturn dX4_isEnd_18 rfl rfl ⟨rfl, rfl⟩ ly.1 ?_
    refine ⟨?_, rfl⟩
    first | exact bI_t (by first | assumption | exact ⟨by assumption, by assumption⟩) | exact bI_f (by first | assumption | exact fun q => absurd q.1 (by assumption) | exact fun q => absurd q.2 (by assumption))
  · refine V.iconst (v := 1) dX4_isEnd_13 rfl ?_
    refine V.goto (tgt := 18) dX4_isEnd_14 (by decide) ?_
    refine V.ireturn dX4_isEnd_18 rfl rfl ⟨rfl, rfl⟩ ly.1 ?_
    refine ⟨?_, rfl⟩
    first | exact bI_t (by first | assumption | exact ⟨by assumption, by assumption⟩) | exact bI_f (by first | assumption | exact fun q => absurd q.1 (by assumption) | exact fun q => absurd q.2 (by assumption))
set_option maxRecDepth 100000 in
theorem sp_X4_isNumber {h : HP} (ly : Lay h) {a : Nat} (ha : a ≤ 900) (hat : hI h 5 10 = nI a)  : Spec yX4_isNumber cX4_isNumber miX4_isNumber [.ref 5] h (pI fun r h' => r = bI (decide (hI h 8 a = 2)) ∧ h' = h) := by
  refine Spec.of (ls0 := [.ref 5]) mo_X4_isNumber (Nat.le_of_ble_eq_true rfl) rfl ?_
  rw [ly.1]
  refine V.aload_n dX4_isNumber_0 rfl rfl rfl ?_
  refine V.getR (r := 8) dX4_isNumber_1 fl_X4_19 rfl (Or.inl ⟨rfl, SHL_lt rfl⟩) rfl (ly_5_2 ly) ?_
  refine V.aload_n dX4_isNumber_4 rfl rfl rfl ?_
  refine V.getI dX4_isNumber_5 fl_X4_70 rfl (Or.inl ⟨rfl, SHL_lt rfl⟩) rfl rfl ?_
  rw [hat]
  refine V.baload dX4_isNumber_8 rfl (Or.inl ⟨rfl, SHL_lt rfl⟩) (vp_in_nI (show a < 901 by omega) (by decide)) ?_
  rw [nI_clamp (show a < 2 ^ 31 by omega)]
  refine V.iconst (v := 2) dX4_isNumber_9 rfl ?_
  refine V.icmp_ne (tgt := 17) dX4_isNumber_10 (by decide) (fun c1 => ?_) (fun c1 => ?_)
  · refine V.iconst (v := 0) dX4_isNumber_17 rfl ?_
    refine V.ireturn dX4_isNumber_18 rfl rfl ⟨rfl, rfl⟩ ly.1 ?_
    refine ⟨?_, rfl⟩
    first | exact bI_t (by first | assumption | exact ⟨by assumption, by assumption⟩) | exact bI_f (by first | assumption | exact fun q => absurd q.1 (by assumption) | exact fun q => absurd q.2 (by assumption))
  · refine V.iconst (v := 1) dX4_isNumber_13 rfl ?_
    refine V.goto (tgt := 18) dX4_isNumber_14 (by decide) ?_
    refine V.ireturn dX4_isNumber_18 rfl rfl ⟨rfl, rfl⟩ ly.1 ?_
    refine ⟨?_, rfl⟩
    first | exact bI_t (by first | assumption | exact ⟨by assumption, by assumption⟩) | exact bI_f (by first | assumption | exact fun q => absurd q.1 (by assumption) | exact fun q => absurd q.2 (by assumption))
set_option maxRecDepth 100000 in
theorem sp_X4_isWord {h : HP} (ly : Lay h) {a : Nat} (ha : a ≤ 900) (hat : hI h 5 10 = nI a) (v : Int32) : Spec yX4_isWord cX4_isWord miX4_isWord [.ref 5, .int v] h (pI fun r h' => r = bI (decide (hI h 8 a = 4 ∧ hI h 11 a = v)) ∧ h' = h) := by
  refine Spec.of (ls0 := [.ref 5, .int v]) mo_X4_isWord (Nat.le_of_ble_eq_true rfl) rfl ?_
  rw [ly.1]
  refine V.aload_n dX4_isWord_0 rfl rfl rfl ?_
  refine V.getR (r := 8) dX4_isWord_1 fl_X4_19 rfl (Or.inl ⟨rfl, SHL_lt rfl⟩) rfl (ly_5_2 ly) ?_
  refine V.aload_n dX4_isWord_4 rfl rfl rfl ?_
  refine V.getI dX4_isWord_5 fl_X4_70 rfl (Or.inl ⟨rfl, SHL_lt rfl⟩) rfl rfl ?_
  rw [hat]
  refine V.baload dX4_isWord_8 rfl (Or.inl ⟨rfl, SHL_lt rfl⟩) (vp_in_nI (show a < 901 by omega) (by decide)) ?_
  rw [nI_clamp (show a < 2 ^ 31 by omega)]
  refine V.iconst (v := 4) dX4_isWord_9 rfl ?_
  refine V.icmp_ne (tgt := 30) dX4_isWord_10 (by decide) (fun c1 => ?_) (fun c1 => ?_)
  · refine V.iconst (v := 0) dX4_isWord_30 rfl ?_
    refine V.ireturn dX4_isWord_31 rfl rfl ⟨rfl, rfl⟩ ly.1 ?_
    refine ⟨?_, rfl⟩
    first | exact bI_t (by first | assumption | exact ⟨by assumption, by assumption⟩) | exact bI_f (by first | assumption | exact fun q => absurd q.1 (by assumption) | exact fun q => absurd q.2 (by assumption))
  · refine V.aload_n dX4_isWord_13 rfl rfl rfl ?_
    refine V.getR (r := 11) dX4_isWord_14 fl_X4_29 rfl (Or.inl ⟨rfl, SHL_lt rfl⟩) rfl (ly_5_5 ly) ?_
    refine V.aload_n dX4_isWord_17 rfl rfl rfl ?_
    refine V.getI dX4_isWord_18 fl_X4_70 rfl (Or.inl ⟨rfl, SHL_lt rfl⟩) rfl rfl ?_
    rw [hat]
    refine V.saload dX4_isWord_21 rfl (Or.inl ⟨rfl, SHL_lt rfl⟩) (vp_in_nI (show a < 901 by omega) (by decide)) ?_
    rw [nI_clamp (show a < 2 ^ 31 by omega)]
    refine V.iload_n dX4_isWord_22 rfl rfl ?_
    refine V.icmp_ne (tgt := 30) dX4_isWord_23 (by decide) (fun c2 => ?_) (fun c2 => ?_)
    · refine V.iconst (v := 0) dX4_isWord_30 rfl ?_
      refine V.ireturn dX4_isWord_31 rfl rfl ⟨rfl, rfl⟩ ly.1 ?_
      refine ⟨?_, rfl⟩
      first | exact bI_t (by first | assumption | exact ⟨by assumption, by assumption⟩) | exact bI_f (by first | assumption | exact fun q => absurd q.1 (by assumption) | exact fun q => absurd q.2 (by assumption))
    · refine V.iconst (v := 1) dX4_isWord_26 rfl ?_
      refine V.goto (tgt := 31) dX4_isWord_27 (by decide) ?_
      refine V.ireturn dX4_isWord_31 rfl rfl ⟨rfl, rfl⟩ ly.1 ?_
      refine ⟨?_, rfl⟩
      first | exact bI_t (by first | assumption | exact ⟨by assumption, by assumption⟩) | exact bI_f (by first | assumption | exact fun q => absurd q.1 (by assumption) | exact fun q => absurd q.2 (by assumption))
set_option maxRecDepth 100000 in
theorem sp_X4_isSign {h : HP} (ly : Lay h) {a : Nat} (ha : a ≤ 900) (hat : hI h 5 10 = nI a) (v : Int32) : Spec yX4_isSign cX4_isSign miX4_isSign [.ref 5, .int v] h (pI fun r h' => r = bI (decide (hI h 8 a = 3 ∧ hI h 11 a = v)) ∧ h' = h) := by
  refine Spec.of (ls0 := [.ref 5, .int v]) mo_X4_isSign (Nat.le_of_ble_eq_true rfl) rfl ?_
  rw [ly.1]
  refine V.aload_n dX4_isSign_0 rfl rfl rfl ?_
  refine V.getR (r := 8) dX4_isSign_1 fl_X4_19 rfl (Or.inl ⟨rfl, SHL_lt rfl⟩) rfl (ly_5_2 ly) ?_
  refine V.aload_n dX4_isSign_4 rfl rfl rfl ?_
  refine V.getI dX4_isSign_5 fl_X4_70 rfl (Or.inl ⟨rfl, SHL_lt rfl⟩) rfl rfl ?_
  rw [hat]
  refine V.baload dX4_isSign_8 rfl (Or.inl ⟨rfl, SHL_lt rfl⟩) (vp_in_nI (show a < 901 by omega) (by decide)) ?_
  rw [nI_clamp (show a < 2 ^ 31 by omega)]
  refine V.iconst (v := 3) dX4_isSign_9 rfl ?_
  refine V.icmp_ne (tgt := 30) dX4_isSign_10 (by decide) (fun c1 => ?_) (fun c1 => ?_)
  · refine V.iconst (v := 0) dX4_isSign_30 rfl ?_
    refine V.ireturn dX4_isSign_31 rfl rfl ⟨rfl, rfl⟩ ly.1 ?_
    refine ⟨?_, rfl⟩
    first | exact bI_t (by first | assumption | exact ⟨by assumption, by assumption⟩) | exact bI_f (by first | assumption | exact fun q => absurd q.1 (by assumption) | exact fun q => absurd q.2 (by assumption))
  · refine V.aload_n dX4_isSign_13 rfl rfl rfl ?_
    refine V.getR (r := 11) dX4_isSign_14 fl_X4_29 rfl (Or.inl ⟨rfl, SHL_lt rfl⟩) rfl (ly_5_5 ly) ?_
    refine V.aload_n dX4_isSign_17 rfl rfl rfl ?_
    refine V.getI dX4_isSign_18 fl_X4_70 rfl (Or.inl ⟨rfl, SHL_lt rfl⟩) rfl rfl ?_
    rw [hat]
    refine V.saload dX4_isSign_21 rfl (Or.inl ⟨rfl, SHL_lt rfl⟩) (vp_in_nI (show a < 901 by omega) (by decide)) ?_
    rw [nI_clamp (show a < 2 ^ 31 by omega)]
    refine V.iload_n dX4_isSign_22 rfl rfl ?_
    refine V.icmp_ne (tgt := 30) dX4_isSign_23 (by decide) (fun c2 => ?_) (fun c2 => ?_)
    · refine V.iconst (v := 0) dX4_isSign_30 rfl ?_
      refine V.ireturn dX4_isSign_31 rfl rfl ⟨rfl, rfl⟩ ly.1 ?_
      refine ⟨?_, rfl⟩
      first | exact bI_t (by first | assumption | exact ⟨by assumption, by assumption⟩) | exact bI_f (by first | assumption | exact fun q => absurd q.1 (by assumption) | exact fun q => absurd q.2 (by assumption))
    · refine V.iconst (v := 1) dX4_isSign_26 rfl ?_
      refine V.goto (tgt := 31) dX4_isSign_27 (by decide) ?_
      refine V.ireturn dX4_isSign_31 rfl rfl ⟨rfl, rfl⟩ ly.1 ?_
      refine ⟨?_, rfl⟩
      first | exact bI_t (by first | assumption | exact ⟨by assumption, by assumption⟩) | exact bI_f (by first | assumption | exact fun q => absurd q.1 (by assumption) | exact fun q => absurd q.2 (by assumption))
set_option maxRecDepth 100000 in
theorem sp_X4_isWordOf {h : HP} (ly : Lay h) {a : Nat} (ha : a ≤ 900) (hat : hI h 5 10 = nI a) (v : Int32) : Spec yX4_isWordOf cX4_isWordOf miX4_isWordOf [.ref 5, .int v] h (pI fun r h' => r = bI (decide (hI h 8 a = 4 ∧ hI h 10 a = v)) ∧ h' = h) := by
  refine Spec.of (ls0 := [.ref 5, .int v]) mo_X4_isWordOf (Nat.le_of_ble_eq_true rfl) rfl ?_
  rw [ly.1]
  refine V.aload_n dX4_isWordOf_0 rfl rfl rfl ?_
  refine V.getR (r := 8) dX4_isWordOf_1 fl_X4_19 rfl (Or.inl ⟨rfl, SHL_lt rfl⟩) rfl (ly_5_2 ly) ?_
  refine V.aload_n dX4_isWordOf_4 rfl rfl rfl ?_
  refine V.getI dX4_isWordOf_5 fl_X4_70 rfl (Or.inl ⟨rfl, SHL_lt rfl⟩) rfl rfl ?_
  rw [hat]
  refine V.baload dX4_isWordOf_8 rfl (Or.inl ⟨rfl, SHL_lt rfl⟩) (vp_in_nI (show a < 901 by omega) (by decide)) ?_
  rw [nI_clamp (show a < 2 ^ 31 by omega)]
  refine V.iconst (v := 4) dX4_isWordOf_9 rfl ?_
  refine V.icmp_ne (tgt := 30) dX4_isWordOf_10 (by decide) (fun c1 => ?_) (fun c1 => ?_)
  · refine V.iconst (v := 0) dX4_isWordOf_30 rfl ?_
    refine V.ireturn dX4_isWordOf_31 rfl rfl ⟨rfl, rfl⟩ ly.1 ?_
    refine ⟨?_, rfl⟩
    first | exact bI_t (by first | assumption | exact ⟨by assumption, by assumption⟩) | exact bI_f (by first | assumption | exact fun q => absurd q.1 (by assumption) | exact fun q => absurd q.2 (by assumption))
  · refine V.aload_n dX4_isWordOf_13 rfl rfl rfl ?_
    refine V.getR (r := 10) dX4_isWordOf_14 fl_X4_26 rfl (Or.inl ⟨rfl, SHL_lt rfl⟩) rfl (ly_5_4 ly) ?_
    refine V.aload_n dX4_isWordOf_17 rfl rfl rfl ?_
    refine V.getI dX4_isWordOf_18 fl_X4_70 rfl (Or.inl ⟨rfl, SHL_lt rfl⟩) rfl rfl ?_
    rw [hat]
    refine V.saload dX4_isWordOf_21 rfl (Or.inl ⟨rfl, SHL_lt rfl⟩) (vp_in_nI (show a < 901 by omega) (by decide)) ?_
    rw [nI_clamp (show a < 2 ^ 31 by omega)]
    refine V.iload_n dX4_isWordOf_22 rfl rfl ?_
    refine V.icmp_ne (tgt := 30) dX4_isWordOf_23 (by decide) (fun c2 => ?_) (fun c2 => ?_)
    · refine V.iconst (v := 0) dX4_isWordOf_30 rfl ?_
      refine V.ireturn dX4_isWordOf_31 rfl rfl ⟨rfl, rfl⟩ ly.1 ?_
      refine ⟨?_, rfl⟩
      first | exact bI_t (by first | assumption | exact ⟨by assumption, by assumption⟩) | exact bI_f (by first | assumption | exact fun q => absurd q.1 (by assumption) | exact fun q => absurd q.2 (by assumption))
    · refine V.iconst (v := 1) dX4_isWordOf_26 rfl ?_
      refine V.goto (tgt := 31) dX4_isWordOf_27 (by decide) ?_
      refine V.ireturn dX4_isWordOf_31 rfl rfl ⟨rfl, rfl⟩ ly.1 ?_
      refine ⟨?_, rfl⟩
      first | exact bI_t (by first | assumption | exact ⟨by assumption, by assumption⟩) | exact bI_f (by first | assumption | exact fun q => absurd q.1 (by assumption) | exact fun q => absurd q.2 (by assumption))
set_option maxRecDepth 100000 in
theorem sp_X4_isName {h : HP} (ly : Lay h) {a : Nat} (ha : a ≤ 900) (hat : hI h 5 10 = nI a)  : Spec yX4_isName cX4_isName miX4_isName [.ref 5] h (pI fun r h' => r = bI (decide (hI h 8 a = 4 ∧ hI h 11 a < 0 ∧ hI h 10 a ≤ 8)) ∧ h' = h) := by
  refine Spec.of (ls0 := [.ref 5]) mo_X4_isName (Nat.le_of_ble_eq_true rfl) rfl ?_
  rw [ly.1]
  refine V.aload_n dX4_isName_0 rfl rfl rfl ?_
  refine V.getR (r := 8) dX4_isName_1 fl_X4_19 rfl (Or.inl ⟨rfl, SHL_lt rfl⟩) rfl (ly_5_2 ly) ?_
  refine V.aload_n dX4_isName_4 rfl rfl rfl ?_
  refine V.getI dX4_isName_5 fl_X4_70 rfl (Or.inl ⟨rfl, SHL_lt rfl⟩) rfl rfl ?_
  rw [hat]
  refine V.baload dX4_isName_8 rfl (Or.inl ⟨rfl, SHL_lt rfl⟩) (vp_in_nI (show a < 901 by omega) (by decide)) ?_
  rw [nI_clamp (show a < 2 ^ 31 by omega)]
  refine V.iconst (v := 4) dX4_isName_9 rfl ?_
  refine V.icmp_ne (tgt := 43) dX4_isName_10 (by decide) (fun c1 => ?_) (fun c1 => ?_)
  · refine V.iconst (v := 0) dX4_isName_43 rfl ?_
    refine V.ireturn dX4_isName_44 rfl rfl ⟨rfl, rfl⟩ ly.1 ?_
    refine ⟨?_, rfl⟩
    simp only [Int32.lt_iff_toInt_lt, Int32.le_iff_toInt_le, Int32.reduceToInt] at *
    first | exact bI_t (by refine ⟨by assumption, ?_, ?_⟩ <;> omega) | exact bI_f (by first | exact fun q => absurd q.1 (by assumption) | (intro q; omega))
  · refine V.aload_n dX4_isName_13 rfl rfl rfl ?_
    refine V.getR (r := 11) dX4_isName_14 fl_X4_29 rfl (Or.inl ⟨rfl, SHL_lt rfl⟩) rfl (ly_5_5 ly) ?_
    refine V.aload_n dX4_isName_17 rfl rfl rfl ?_
    refine V.getI dX4_isName_18 fl_X4_70 rfl (Or.inl ⟨rfl, SHL_lt rfl⟩) rfl rfl ?_
    rw [hat]
    refine V.saload dX4_isName_21 rfl (Or.inl ⟨rfl, SHL_lt rfl⟩) (vp_in_nI (show a < 901 by omega) (by decide)) ?_
    rw [nI_clamp (show a < 2 ^ 31 by omega)]
    refine V.if_ge (tgt := 43) dX4_isName_22 (by decide) (fun c2 => ?_) (fun c2 => ?_)
    · refine V.iconst (v := 0) dX4_isName_43 rfl ?_
      refine V.ireturn dX4_isName_44 rfl rfl ⟨rfl, rfl⟩ ly.1 ?_
      refine ⟨?_, rfl⟩
      simp only [Int32.lt_iff_toInt_lt, Int32.le_iff_toInt_le, Int32.reduceToInt] at *
      first | exact bI_t (by refine ⟨by assumption, ?_, ?_⟩ <;> omega) | exact bI_f (by first | exact fun q => absurd q.1 (by assumption) | (intro q; omega))
    · refine V.aload_n dX4_isName_25 rfl rfl rfl ?_
      refine V.getR (r := 10) dX4_isName_26 fl_X4_26 rfl (Or.inl ⟨rfl, SHL_lt rfl⟩) rfl (ly_5_4 ly) ?_
      refine V.aload_n dX4_isName_29 rfl rfl rfl ?_
      refine V.getI dX4_isName_30 fl_X4_70 rfl (Or.inl ⟨rfl, SHL_lt rfl⟩) rfl rfl ?_
      rw [hat]
      refine V.saload dX4_isName_33 rfl (Or.inl ⟨rfl, SHL_lt rfl⟩) (vp_in_nI (show a < 901 by omega) (by decide)) ?_
      rw [nI_clamp (show a < 2 ^ 31 by omega)]
      refine V.bipush (v := 8) dX4_isName_34 rfl ?_
      refine V.icmp_gt (tgt := 43) dX4_isName_36 (by decide) (fun c3 => ?_) (fun c3 => ?_)
      · refine V.iconst (v := 0) dX4_isName_43 rfl ?_
        refine V.ireturn dX4_isName_44 rfl rfl ⟨rfl, rfl⟩ ly.1 ?_
        refine ⟨?_, rfl⟩
        simp only [Int32.lt_iff_toInt_lt, Int32.le_iff_toInt_le, Int32.reduceToInt] at *
        first | exact bI_t (by refine ⟨by assumption, ?_, ?_⟩ <;> omega) | exact bI_f (by first | exact fun q => absurd q.1 (by assumption) | (intro q; omega))
      · refine V.iconst (v := 1) dX4_isName_39 rfl ?_
        refine V.goto (tgt := 44) dX4_isName_40 (by decide) ?_
        refine V.ireturn dX4_isName_44 rfl rfl ⟨rfl, rfl⟩ ly.1 ?_
        refine ⟨?_, rfl⟩
        simp only [Int32.lt_iff_toInt_lt, Int32.le_iff_toInt_le, Int32.reduceToInt] at *
        first | exact bI_t (by refine ⟨by assumption, ?_, ?_⟩ <;> omega) | exact bI_f (by first | exact fun q => absurd q.1 (by assumption) | (intro q; omega))
set_option maxRecDepth 100000 in
theorem sp_X4_wordNumber {h : HP} (ly : Lay h) {a : Nat} (ha : a ≤ 900) (hat : hI h 5 10 = nI a)  : Spec yX4_wordNumber cX4_wordNumber miX4_wordNumber [.ref 5] h (pI fun r h' => r = (if hI h 8 a = 4 then hI h 11 a else -1) ∧ h' = h) := by
  refine Spec.of (ls0 := [.ref 5]) mo_X4_wordNumber (Nat.le_of_ble_eq_true rfl) rfl ?_
  rw [ly.1]
  refine V.aload_n dX4_wordNumber_0 rfl rfl rfl ?_
  refine V.getR (r := 8) dX4_wordNumber_1 fl_X4_19 rfl (Or.inl ⟨rfl, SHL_lt rfl⟩) rfl (ly_5_2 ly) ?_
  refine V.aload_n dX4_wordNumber_4 rfl rfl rfl ?_
  refine V.getI dX4_wordNumber_5 fl_X4_70 rfl (Or.inl ⟨rfl, SHL_lt rfl⟩) rfl rfl ?_
  rw [hat]
  refine V.baload dX4_wordNumber_8 rfl (Or.inl ⟨rfl, SHL_lt rfl⟩) (vp_in_nI (show a < 901 by omega) (by decide)) ?_
  rw [nI_clamp (show a < 2 ^ 31 by omega)]
  refine V.iconst (v := 4) dX4_wordNumber_9 rfl ?_
  refine V.icmp_ne (tgt := 25) dX4_wordNumber_10 (by decide) (fun c1 => ?_) (fun c1 => ?_)
  · refine V.iconst (v := (-1)) dX4_wordNumber_25 rfl ?_
    refine V.ireturn dX4_wordNumber_26 rfl rfl ⟨rfl, rfl⟩ ly.1 ?_
    refine ⟨?_, rfl⟩
    symm
    first | exact if_pos (by assumption) | exact if_neg (by assumption)
  · refine V.aload_n dX4_wordNumber_13 rfl rfl rfl ?_
    refine V.getR (r := 11) dX4_wordNumber_14 fl_X4_29 rfl (Or.inl ⟨rfl, SHL_lt rfl⟩) rfl (ly_5_5 ly) ?_
    refine V.aload_n dX4_wordNumber_17 rfl rfl rfl ?_
    refine V.getI dX4_wordNumber_18 fl_X4_70 rfl (Or.inl ⟨rfl, SHL_lt rfl⟩) rfl rfl ?_
    rw [hat]
    refine V.saload dX4_wordNumber_21 rfl (Or.inl ⟨rfl, SHL_lt rfl⟩) (vp_in_nI (show a < 901 by omega) (by decide)) ?_
    rw [nI_clamp (show a < 2 ^ 31 by omega)]
    refine V.goto (tgt := 26) dX4_wordNumber_22 (by decide) ?_
    refine V.ireturn dX4_wordNumber_26 rfl rfl ⟨rfl, rfl⟩ ly.1 ?_
    refine ⟨?_, rfl⟩
    symm
    first | exact if_pos (by assumption) | exact if_neg (by assumption)
set_option maxRecDepth 100000 in
theorem sp_X4_value {h : HP} (ly : Lay h) {a : Nat} (ha : a ≤ 900) (hat : hI h 5 10 = nI a)  : Spec yX4_value cX4_value miX4_value [.ref 5] h (pI fun r h' => r = hI h 11 a ∧ h' = h) := by
  refine Spec.of (ls0 := [.ref 5]) mo_X4_value (Nat.le_of_ble_eq_true rfl) rfl ?_
  rw [ly.1]
  refine V.aload_n dX4_value_0 rfl rfl rfl ?_
  refine V.getR (r := 11) dX4_value_1 fl_X4_29 rfl (Or.inl ⟨rfl, SHL_lt rfl⟩) rfl (ly_5_5 ly) ?_
  refine V.aload_n dX4_value_4 rfl rfl rfl ?_
  refine V.getI dX4_value_5 fl_X4_70 rfl (Or.inl ⟨rfl, SHL_lt rfl⟩) rfl rfl ?_
  rw [hat]
  refine V.saload dX4_value_8 rfl (Or.inl ⟨rfl, SHL_lt rfl⟩) (vp_in_nI (show a < 901 by omega) (by decide)) ?_
  rw [nI_clamp (show a < 2 ^ 31 by omega)]
  refine V.ireturn dX4_value_9 rfl rfl ⟨rfl, rfl⟩ ly.1 ?_
  first | exact ⟨rfl, rfl⟩ | exact ⟨by assumption, rfl⟩ | (subst_vars; exact ⟨rfl, rfl⟩)
set_option maxRecDepth 100000 in
theorem sp_X4_name {h : HP} (ly : Lay h) {a : Nat} (ha : a ≤ 900) (hat : hI h 5 10 = nI a)  : Spec yX4_name cX4_name miX4_name [.ref 5] h (pL fun r h' => r = hL h 12 a ∧ h' = h) := by
  refine Spec.of (ls0 := [.ref 5]) mo_X4_name (Nat.le_of_ble_eq_true rfl) rfl ?_
  rw [ly.1]
  refine V.aload_n dX4_name_0 rfl rfl rfl ?_
  refine V.getR (r := 12) dX4_name_1 fl_X4_32 rfl (Or.inl ⟨rfl, SHL_lt rfl⟩) rfl (ly_5_6 ly) ?_
  refine V.aload_n dX4_name_4 rfl rfl rfl ?_
  refine V.getI dX4_name_5 fl_X4_70 rfl (Or.inl ⟨rfl, SHL_lt rfl⟩) rfl rfl ?_
  rw [hat]
  refine V.laload dX4_name_8 rfl (Or.inl ⟨rfl, SHL_lt rfl⟩) (vp_in_nI (show a < 901 by omega) (by decide)) ?_
  rw [nI_clamp (show a < 2 ^ 31 by omega)]
  refine V.lreturn dX4_name_9 rfl ⟨rfl, rfl⟩ ly.1 ?_
  first | exact ⟨rfl, rfl⟩ | exact ⟨by assumption, rfl⟩ | (subst_vars; exact ⟨rfl, rfl⟩)
set_option maxRecDepth 100000 in
theorem sp_X4_letterAt {h : HP} (ly : Lay h) {a : Nat} (ha : a ≤ 900) (hat : hI h 5 10 = nI a) {s l : Nat} (hs : hI h 9 a = nI s) (hl : hI h 10 a = nI l) (hsl : s + l ≤ 900) (i : Int32) : Spec yX4_letterAt cX4_letterAt miX4_letterAt [.ref 5, .int i] h (pI fun r h' => r = (if 0 ≤ i.toInt ∧ i.toInt < l then hI h 6 (s + i.toInt.toNat) else -1) ∧ h' = h) := by
  refine Spec.of (ls0 := [.ref 5, .int i]) mo_X4_letterAt (Nat.le_of_ble_eq_true rfl) rfl ?_
  rw [ly.1]
  refine V.iload_n dX4_letterAt_0 rfl rfl ?_
  refine V.if_lt (tgt := 36) dX4_letterAt_1 (by decide) (fun c1 => ?_) (fun c1 => ?_)
  · simp only [hl, Int32.lt_iff_toInt_lt, Int32.le_iff_toInt_le, Int32.reduceToInt, nI_toInt (show l < 2 ^ 31 by omega)] at *
    refine V.iconst (v := (-1)) dX4_letterAt_36 rfl ?_
    refine V.ireturn dX4_letterAt_37 rfl rfl ⟨rfl, rfl⟩ ly.1 ?_
    refine ⟨?_, rfl⟩
    symm
    first | (rw [if_pos ⟨by omega, by omega⟩]; rfl) | (rw [if_neg (by omega)])
  · refine V.iload_n dX4_letterAt_4 rfl rfl ?_
    refine V.aload_n dX4_letterAt_5 rfl rfl rfl ?_
    refine V.getR (r := 10) dX4_letterAt_6 fl_X4_26 rfl (Or.inl ⟨rfl, SHL_lt rfl⟩) rfl (ly_5_4 ly) ?_
    refine V.aload_n dX4_letterAt_9 rfl rfl rfl ?_
    refine V.getI dX4_letterAt_10 fl_X4_70 rfl (Or.inl ⟨rfl, SHL_lt rfl⟩) rfl rfl ?_
    rw [hat]
    refine V.saload dX4_letterAt_13 rfl (Or.inl ⟨rfl, SHL_lt rfl⟩) (vp_in_nI (show a < 901 by omega) (by decide)) ?_
    rw [nI_clamp (show a < 2 ^ 31 by omega)]
    refine V.icmp_ge (tgt := 36) dX4_letterAt_14 (by decide) (fun c2 => ?_) (fun c2 => ?_)
    · simp only [hl, Int32.lt_iff_toInt_lt, Int32.le_iff_toInt_le, Int32.reduceToInt, nI_toInt (show l < 2 ^ 31 by omega)] at *
      refine V.iconst (v := (-1)) dX4_letterAt_36 rfl ?_
      refine V.ireturn dX4_letterAt_37 rfl rfl ⟨rfl, rfl⟩ ly.1 ?_
      refine ⟨?_, rfl⟩
      symm
      first | (rw [if_pos ⟨by omega, by omega⟩]; rfl) | (rw [if_neg (by omega)])
    · simp only [hl, Int32.lt_iff_toInt_lt, Int32.le_iff_toInt_le, Int32.reduceToInt, nI_toInt (show l < 2 ^ 31 by omega)] at *
      obtain ⟨j, hj, rfl⟩ := nat_of (x := i) (n := l) (by omega) (by omega)
      rw [nI_toInt (show j < 2 ^ 31 by omega)]
      refine V.aload_n dX4_letterAt_17 rfl rfl rfl ?_
      refine V.getR (r := 6) dX4_letterAt_18 fl_X4_11 rfl (Or.inl ⟨rfl, SHL_lt rfl⟩) rfl (ly_5_0 ly) ?_
      refine V.aload_n dX4_letterAt_21 rfl rfl rfl ?_
      refine V.getR (r := 9) dX4_letterAt_22 fl_X4_22 rfl (Or.inl ⟨rfl, SHL_lt rfl⟩) rfl (ly_5_3 ly) ?_
      refine V.aload_n dX4_letterAt_25 rfl rfl rfl ?_
      refine V.getI dX4_letterAt_26 fl_X4_70 rfl (Or.inl ⟨rfl, SHL_lt rfl⟩) rfl rfl ?_
      rw [hat]
      refine V.saload dX4_letterAt_29 rfl (Or.inl ⟨rfl, SHL_lt rfl⟩) (vp_in_nI (show a < 901 by omega) (by decide)) ?_
      rw [nI_clamp (show a < 2 ^ 31 by omega)]
      refine V.iload_n dX4_letterAt_30 rfl rfl ?_
      refine V.iadd dX4_letterAt_31 ?_
      rw [hs, nI_add]
      refine V.baload dX4_letterAt_32 rfl (Or.inl ⟨rfl, SHL_lt rfl⟩) (vp_in_nI (show s + j < 900 by omega) (by decide)) ?_
      rw [nI_clamp (show (s + j) < 2 ^ 31 by omega)]
      refine V.goto (tgt := 37) dX4_letterAt_33 (by decide) ?_
      refine V.ireturn dX4_letterAt_37 rfl rfl ⟨rfl, rfl⟩ ly.1 ?_
      refine ⟨?_, rfl⟩
      symm
      first | (rw [if_pos ⟨by omega, by omega⟩]; rfl) | (rw [if_neg (by omega)])
/-- the next token, where there is one -/
def advH (h : HP) (a n : Nat) : HP := if a + 1 < n then uI h 5 10 (nI (a + 1)) else h
set_option maxRecDepth 100000 in
theorem sp_X4_advance {h : HP} (ly : Lay h) {a : Nat} (ha : a ≤ 900) (hat : hI h 5 10 = nI a) {n : Nat} (hn9 : n ≤ 901) (hct : hI h 5 9 = nI n) (han : a < n)  : Spec yX4_advance cX4_advance miX4_advance [.ref 5] h (pV fun h' => h' = advH h a n) := by
  refine Spec.of (ls0 := [.ref 5]) mo_X4_advance (Nat.le_of_ble_eq_true rfl) rfl ?_
  rw [ly.1]
  refine V.aload_n dX4_advance_0 rfl rfl rfl ?_
  refine V.getI dX4_advance_1 fl_X4_70 rfl (Or.inl ⟨rfl, SHL_lt rfl⟩) rfl rfl ?_
  refine V.aload_n dX4_advance_4 rfl rfl rfl ?_
  refine V.getI dX4_advance_5 fl_X4_67 rfl (Or.inl ⟨rfl, SHL_lt rfl⟩) rfl rfl ?_
  refine V.iconst (v := 1) dX4_advance_8 rfl ?_
  refine V.isub dX4_advance_9 ?_
  rw [hat, hct, show (1 : Int32) = nI 1 from rfl, nI_sub (show 1 ≤ n by omega)]
  refine V.icmp_ge (tgt := 23) dX4_advance_10 (by decide) (fun c1 => ?_) (fun c1 => ?_)
  · have h9 := c1; rw [nI_leI (by omega) (by omega)] at h9
    refine V.vreturn' dX4_advance_23 rfl ly.1 (Or.inl ⟨rfl, rfl⟩) ?_
    unfold advH
    first | (rw [if_pos (by omega), hat, nI_1]; done) | (rw [if_neg (by omega)]; done)
  · have h9 := c1; rw [nI_leI (by omega) (by omega)] at h9
    refine V.aload_n dX4_advance_13 rfl rfl rfl ?_
    refine V.dup dX4_advance_14 rfl ?_
    refine V.getI dX4_advance_15 fl_X4_70 rfl (Or.inl ⟨rfl, SHL_lt rfl⟩) rfl rfl ?_
    refine V.iconst (v := 1) dX4_advance_18 rfl ?_
    refine V.iadd dX4_advance_19 ?_
    refine V.putI dX4_advance_20 fl_X4_70 rfl (Or.inl ⟨rfl, SHL_lt rfl⟩) rfl (fun q hq => by cases hq; rfl) ⟨rfl, rfl⟩ ?_
    refine V.vreturn' dX4_advance_23 rfl ly.1 (Or.inl ⟨rfl, rfl⟩) ?_
    unfold advH
    first | (rw [if_pos (by omega), hat, nI_1]; done) | (rw [if_neg (by omega)]; done)
/-- a fault at this token -/
def failH (h : HP) (a : Nat) (why : Int32) : HP := uI (uI h 5 12 (if hI h 8 a = 0 then 1 else why)) 5 13 (hI h 9 a)
set_option maxRecDepth 100000 in
theorem sp_X4_fail {h : HP} (ly : Lay h) {a : Nat} (ha : a ≤ 900) (hat : hI h 5 10 = nI a) (why : Int32) : Spec yX4_fail cX4_fail miX4_fail [.ref 5, .int why] h (pI fun r h' => r = 0 ∧ h' = failH h a why) := by
  refine Spec.of (ls0 := [.ref 5, .int why]) mo_X4_fail (Nat.le_of_ble_eq_true rfl) rfl ?_
  rw [ly.1]
  refine V.aload_n dX4_fail_0 rfl rfl rfl ?_
  refine V.aload_n dX4_fail_1 rfl rfl rfl ?_
  refine V.getR (r := 8) dX4_fail_2 fl_X4_19 rfl (Or.inl ⟨rfl, SHL_lt rfl⟩) rfl (ly_5_2 ly) ?_
  refine V.aload_n dX4_fail_5 rfl rfl rfl ?_
  refine V.getI dX4_fail_6 fl_X4_70 rfl (Or.inl ⟨rfl, SHL_lt rfl⟩) rfl rfl ?_
  rw [hat]
  refine V.baload dX4_fail_9 rfl (Or.inl ⟨rfl, SHL_lt rfl⟩) (vp_in_nI (show a < 901 by omega) (by decide)) ?_
  rw [nI_clamp (show a < 2 ^ 31 by omega)]
  refine V.if_ne (tgt := 17) dX4_fail_10 (by decide) (fun c1 => ?_) (fun c1 => ?_)
  · refine V.iload_n dX4_fail_17 rfl rfl ?_
    refine V.putI dX4_fail_18 fl_X4_35 rfl (Or.inl ⟨rfl, SHL_lt rfl⟩) rfl (fun q hq => by cases hq; rfl) ⟨rfl, rfl⟩ ?_
    refine V.aload_n dX4_fail_21 rfl rfl rfl ?_
    refine V.aload_n dX4_fail_22 rfl rfl rfl ?_
    refine V.getR (r := 9) dX4_fail_23 fl_X4_22 rfl (Or.inl ⟨rfl, SHL_lt rfl⟩) rfl (ly_5_3 ly) ?_
    refine V.aload_n dX4_fail_26 rfl rfl rfl ?_
    refine V.getI dX4_fail_27 fl_X4_70 rfl (Or.inl ⟨rfl, SHL_lt rfl⟩) rfl rfl ?_
    rw [show ∀ v, hI (uI h 5 12 v) 5 10 = hI h 5 10 from fun _ => rfl, hat]
    refine V.saload dX4_fail_30 rfl (Or.inl ⟨rfl, SHL_lt rfl⟩) (vp_in_nI (show a < 901 by omega) (by decide)) ?_
    rw [nI_clamp (show a < 2 ^ 31 by omega)]
    refine V.putI dX4_fail_31 fl_X4_39 rfl (Or.inl ⟨rfl, SHL_lt rfl⟩) rfl (fun q hq => by cases hq; rfl) ⟨rfl, rfl⟩ ?_
    refine V.iconst (v := 0) dX4_fail_34 rfl ?_
    refine V.ireturn dX4_fail_35 rfl rfl ⟨rfl, rfl⟩ ly.1 ?_
    refine ⟨rfl, ?_⟩
    unfold failH
    first | (rw [if_pos (by assumption)] <;> rfl) | (rw [if_neg (by assumption)] <;> rfl)
  · refine V.iconst (v := 1) dX4_fail_13 rfl ?_
    refine V.goto (tgt := 18) dX4_fail_14 (by decide) ?_
    refine V.putI dX4_fail_18 fl_X4_35 rfl (Or.inl ⟨rfl, SHL_lt rfl⟩) rfl (fun q hq => by cases hq; rfl) ⟨rfl, rfl⟩ ?_
    refine V.aload_n dX4_fail_21 rfl rfl rfl ?_
    refine V.aload_n dX4_fail_22 rfl rfl rfl ?_
    refine V.getR (r := 9) dX4_fail_23 fl_X4_22 rfl (Or.inl ⟨rfl, SHL_lt rfl⟩) rfl (ly_5_3 ly) ?_
    refine V.aload_n dX4_fail_26 rfl rfl rfl ?_
    refine V.getI dX4_fail_27 fl_X4_70 rfl (Or.inl ⟨rfl, SHL_lt rfl⟩) rfl rfl ?_
    rw [show ∀ v, hI (uI h 5 12 v) 5 10 = hI h 5 10 from fun _ => rfl, hat]
    refine V.saload dX4_fail_30 rfl (Or.inl ⟨rfl, SHL_lt rfl⟩) (vp_in_nI (show a < 901 by omega) (by decide)) ?_
    rw [nI_clamp (show a < 2 ^ 31 by omega)]
    refine V.putI dX4_fail_31 fl_X4_39 rfl (Or.inl ⟨rfl, SHL_lt rfl⟩) rfl (fun q hq => by cases hq; rfl) ⟨rfl, rfl⟩ ?_
    refine V.iconst (v := 0) dX4_fail_34 rfl ?_
    refine V.ireturn dX4_fail_35 rfl rfl ⟨rfl, rfl⟩ ly.1 ?_
    refine ⟨rfl, ?_⟩
    unfold failH
    first | (rw [if_pos (by assumption)] <;> rfl) | (rw [if_neg (by assumption)] <;> rfl)
set_option maxRecDepth 100000 in
theorem sp_X4_takeWord {h : HP} (ly : Lay h) {a : Nat} (ha : a ≤ 900) (hat : hI h 5 10 = nI a) {n : Nat} (hn9 : n ≤ 901) (hct : hI h 5 9 = nI n) (han : a < n) (v : Int32) : Spec yX4_takeWord cX4_takeWord miX4_takeWord [.ref 5, .int v] h (pI fun r h' => (¬ (hI h 8 a = 4 ∧ hI h 11 a = v) ∧ r = 0 ∧ h' = failH h a 2) ∨ ((hI h 8 a = 4 ∧ hI h 11 a = v) ∧ r = 1 ∧ h' = advH h a n)) := by
  refine Spec.of (ls0 := [.ref 5, .int v]) mo_X4_takeWord (Nat.le_of_ble_eq_true rfl) rfl ?_
  rw [ly.1]
  refine V.aload_n dX4_takeWord_0 rfl rfl rfl ?_
  refine V.iload_n dX4_takeWord_1 rfl rfl ?_
  refine V.callVI dX4_takeWord_2 ml_X4_92 mo_X4_isWord mv_X4_isWord rfl (fun q hq => by cases hq; rfl) (by decide) (Or.inl ⟨rfl, SHL_lt rfl⟩) (sp_X4_isWord (by exact ly.keep rfl rfl) ha hat _) rfl rfl ⟨Nat.le_of_ble_eq_true rfl, Nat.le_of_ble_eq_true rfl, fun _ => ⟨rfl, rfl⟩⟩ (Nat.le_of_ble_eq_true rfl) rfl (fun r1 h2 p3 => ?_)
  obtain ⟨er1, p3⟩ := p3
  have p3 := p3.symm
  subst p3
  refine V.if_ne (tgt := 14) dX4_takeWord_5 (by decide) (fun c4 => ?_) (fun c4 => ?_)
  · rw [er1, bI_0, Decidable.not_not] at c4
    refine V.aload_n dX4_takeWord_14 rfl rfl rfl ?_
    refine V.callVV dX4_takeWord_15 ml_X4_99 mo_X4_advance mv_X4_advance rfl (fun q hq => by cases hq; rfl) (by decide) (Or.inl ⟨rfl, SHL_lt rfl⟩) (sp_X4_advance (by exact ly.keep rfl rfl) ha (by first | exact hat | (simpa [uI, hI_rI, upd] using hat)) hn9 (by first | exact hct | (simpa [uI, hI_rI, upd] using hct)) han) rfl rfl ⟨Nat.le_of_ble_eq_true rfl, Nat.le_of_ble_eq_true rfl, fun _ => ⟨rfl, rfl⟩⟩ (Nat.le_of_ble_eq_true rfl) (Or.inl rfl) (fun h5 p6 => ?_)
    have p6 := p6.symm
    subst p6
    refine V.iconst (v := 1) dX4_takeWord_18 rfl ?_
    refine V.ireturn dX4_takeWord_19 rfl rfl ⟨rfl, rfl⟩ ly.1 ?_
    subst_vars
    first | exact Or.inl ⟨by assumption, rfl, rfl⟩ | exact Or.inr ⟨by assumption, rfl, rfl⟩
  · rw [er1, bI_0] at c4
    refine V.aload_n dX4_takeWord_8 rfl rfl rfl ?_
    refine V.iconst (v := 2) dX4_takeWord_9 rfl ?_
    refine V.callVI dX4_takeWord_10 ml_X4_96 mo_X4_fail mv_X4_fail rfl (fun q hq => by cases hq; rfl) (by decide) (Or.inl ⟨rfl, SHL_lt rfl⟩) (sp_X4_fail (by exact ly.keep rfl rfl) ha hat _) rfl rfl ⟨Nat.le_of_ble_eq_true rfl, Nat.le_of_ble_eq_true rfl, fun _ => ⟨rfl, rfl⟩⟩ (Nat.le_of_ble_eq_true rfl) rfl (fun r7 h8 p9 => ?_)
    obtain ⟨er7, p9⟩ := p9
    have p9 := p9.symm
    subst p9
    refine V.ireturn dX4_takeWord_13 rfl (by rw [er7]; first | rfl | exact bI_01 _) ⟨rfl, rfl⟩ ly.1 ?_
    subst_vars
    first | exact Or.inl ⟨by assumption, rfl, rfl⟩ | exact Or.inr ⟨by assumption, rfl, rfl⟩
set_option maxRecDepth 100000 in
theorem sp_X4_takeSign {h : HP} (ly : Lay h) {a : Nat} (ha : a ≤ 900) (hat : hI h 5 10 = nI a) {n : Nat} (hn9 : n ≤ 901) (hct : hI h 5 9 = nI n) (han : a < n) (v : Int32) : Spec yX4_takeSign cX4_takeSign miX4_takeSign [.ref 5, .int v] h (pI fun r h' => (¬ (hI h 8 a = 3 ∧ hI h 11 a = v) ∧ r = 0 ∧ h' = failH h a 2) ∨ ((hI h 8 a = 3 ∧ hI h 11 a = v) ∧ r = 1 ∧ h' = advH h a n)) := by
  refine Spec.of (ls0 := [.ref 5, .int v]) mo_X4_takeSign (Nat.le_of_ble_eq_true rfl) rfl ?_
  rw [ly.1]
  refine V.aload_n dX4_takeSign_0 rfl rfl rfl ?_
  refine V.iload_n dX4_takeSign_1 rfl rfl ?_
  refine V.callVI dX4_takeSign_2 ml_X4_102 mo_X4_isSign mv_X4_isSign rfl (fun q hq => by cases hq; rfl) (by decide) (Or.inl ⟨rfl, SHL_lt rfl⟩) (sp_X4_isSign (by exact ly.keep rfl rfl) ha hat _) rfl rfl ⟨Nat.le_of_ble_eq_true rfl, Nat.le_of_ble_eq_true rfl, fun _ => ⟨rfl, rfl⟩⟩ (Nat.le_of_ble_eq_true rfl) rfl (fun r1 h2 p3 => ?_)
  obtain ⟨er1, p3⟩ := p3
  have p3 := p3.symm
  subst p3
  refine V.if_ne (tgt := 14) dX4_takeSign_5 (by decide) (fun c4 => ?_) (fun c4 => ?_)
  · rw [er1, bI_0, Decidable.not_not] at c4
    refine V.aload_n dX4_takeSign_14 rfl rfl rfl ?_
    refine V.callVV dX4_takeSign_15 ml_X4_99 mo_X4_advance mv_X4_advance rfl (fun q hq => by cases hq; rfl) (by decide) (Or.inl ⟨rfl, SHL_lt rfl⟩) (sp_X4_advance (by exact ly.keep rfl rfl) ha (by first | exact hat | (simpa [uI, hI_rI, upd] using hat)) hn9 (by first | exact hct | (simpa [uI, hI_rI, upd] using hct)) han) rfl rfl ⟨Nat.le_of_ble_eq_true rfl, Nat.le_of_ble_eq_true rfl, fun _ => ⟨rfl, rfl⟩⟩ (Nat.le_of_ble_eq_true rfl) (Or.inl rfl) (fun h5 p6 => ?_)
    have p6 := p6.symm
    subst p6
    refine V.iconst (v := 1) dX4_takeSign_18 rfl ?_
    refine V.ireturn dX4_takeSign_19 rfl rfl ⟨rfl, rfl⟩ ly.1 ?_
    subst_vars
    first | exact Or.inl ⟨by assumption, rfl, rfl⟩ | exact Or.inr ⟨by assumption, rfl, rfl⟩
  · rw [er1, bI_0] at c4
    refine V.aload_n dX4_takeSign_8 rfl rfl rfl ?_
    refine V.iconst (v := 2) dX4_takeSign_9 rfl ?_
    refine V.callVI dX4_takeSign_10 ml_X4_96 mo_X4_fail mv_X4_fail rfl (fun q hq => by cases hq; rfl) (by decide) (Or.inl ⟨rfl, SHL_lt rfl⟩) (sp_X4_fail (by exact ly.keep rfl rfl) ha hat _) rfl rfl ⟨Nat.le_of_ble_eq_true rfl, Nat.le_of_ble_eq_true rfl, fun _ => ⟨rfl, rfl⟩⟩ (Nat.le_of_ble_eq_true rfl) rfl (fun r7 h8 p9 => ?_)
    obtain ⟨er7, p9⟩ := p9
    have p9 := p9.symm
    subst p9
    refine V.ireturn dX4_takeSign_13 rfl (by rw [er7]; first | rfl | exact bI_01 _) ⟨rfl, rfl⟩ ly.1 ?_
    subst_vars
    first | exact Or.inl ⟨by assumption, rfl, rfl⟩ | exact Or.inr ⟨by assumption, rfl, rfl⟩
set_option maxRecDepth 100000 in
theorem sp_X4_takeNumber {h : HP} (ly : Lay h) {a : Nat} (ha : a ≤ 900) (hat : hI h 5 10 = nI a) {n : Nat} (hn9 : n ≤ 901) (hct : hI h 5 9 = nI n) (han : a < n) (lo hi : Int32) : Spec yX4_takeNumber cX4_takeNumber miX4_takeNumber [.ref 5, .int lo, .int hi] h (pI fun r h' => (hI h 8 a ≠ 2 ∧ r = 0 ∧ h' = failH h a 2) ∨ (hI h 8 a = 2 ∧ ¬ (lo ≤ hI h 11 a ∧ hI h 11 a ≤ hi) ∧ r = 0 ∧ h' = failH h a 4) ∨ (hI h 8 a = 2 ∧ (lo ≤ hI h 11 a ∧ hI h 11 a ≤ hi) ∧ r = 1 ∧ h' = advH (uI h 5 11 (hI h 11 a)) a n)) := by
  refine Spec.of (ls0 := [.ref 5, .int lo, .int hi]) mo_X4_takeNumber (Nat.le_of_ble_eq_true rfl) rfl ?_
  rw [ly.1]
  refine V.aload_n dX4_takeNumber_0 rfl rfl rfl ?_
  refine V.callVI dX4_takeNumber_1 ml_X4_105 mo_X4_isNumber mv_X4_isNumber rfl (fun q hq => by cases hq; rfl) (by decide) (Or.inl ⟨rfl, SHL_lt rfl⟩) (sp_X4_isNumber (by exact ly.keep rfl rfl) ha hat) rfl rfl ⟨Nat.le_of_ble_eq_true rfl, Nat.le_of_ble_eq_true rfl, fun _ => ⟨rfl, rfl⟩⟩ (Nat.le_of_ble_eq_true rfl) rfl (fun r1 h2 p3 => ?_)
  obtain ⟨er1, p3⟩ := p3
  have p3 := p3.symm
  subst p3
  refine V.if_ne (tgt := 13) dX4_takeNumber_4 (by decide) (fun c4 => ?_) (fun c4 => ?_)
  · rw [er1, bI_0, Decidable.not_not] at c4
    refine V.aload_n dX4_takeNumber_13 rfl rfl rfl ?_
    refine V.callVI dX4_takeNumber_14 ml_X4_109 mo_X4_value mv_X4_value rfl (fun q hq => by cases hq; rfl) (by decide) (Or.inl ⟨rfl, SHL_lt rfl⟩) (sp_X4_value (by exact ly.keep rfl rfl) ha hat) rfl rfl ⟨Nat.le_of_ble_eq_true rfl, Nat.le_of_ble_eq_true rfl, fun _ => ⟨rfl, rfl⟩⟩ (Nat.le_of_ble_eq_true rfl) rfl (fun r5 h6 p7 => ?_)
    obtain ⟨er5, p7⟩ := p7
    have p7 := p7.symm
    subst p7
    refine V.iload_n dX4_takeNumber_17 rfl rfl ?_
    refine V.icmp_lt (tgt := 29) dX4_takeNumber_18 (by decide) (fun c8 => ?_) (fun c8 => ?_)
    · refine V.aload_n dX4_takeNumber_29 rfl rfl rfl ?_
      refine V.iconst (v := 4) dX4_takeNumber_30 rfl ?_
      refine V.callVI dX4_takeNumber_31 ml_X4_96 mo_X4_fail mv_X4_fail rfl (fun q hq => by cases hq; rfl) (by decide) (Or.inl ⟨rfl, SHL_lt rfl⟩) (sp_X4_fail (by exact ly.keep rfl rfl) ha hat _) rfl rfl ⟨Nat.le_of_ble_eq_true rfl, Nat.le_of_ble_eq_true rfl, fun _ => ⟨rfl, rfl⟩⟩ (Nat.le_of_ble_eq_true rfl) rfl (fun r9 h10 p11 => ?_)
      obtain ⟨er9, p11⟩ := p11
      have p11 := p11.symm
      subst p11
      refine V.ireturn dX4_takeNumber_34 rfl (by rw [er9]; first | rfl | exact bI_01 _) ⟨rfl, rfl⟩ ly.1 ?_
      subst_vars
      first | exact Or.inl ⟨by assumption, rfl, rfl⟩ | exact Or.inr (Or.inl ⟨by assumption, fun q => absurd q.1 (Int32.not_le.mpr (by assumption)), rfl, rfl⟩) | exact Or.inr (Or.inl ⟨by assumption, fun q => absurd q.2 (by assumption), rfl, rfl⟩) | exact Or.inr (Or.inr ⟨by assumption, ⟨Int32.not_lt.mp (by assumption), by assumption⟩, rfl, rfl⟩)
    · refine V.aload_n dX4_takeNumber_21 rfl rfl rfl ?_
      refine V.callVI dX4_takeNumber_22 ml_X4_109 mo_X4_value mv_X4_value rfl (fun q hq => by cases hq; rfl) (by decide) (Or.inl ⟨rfl, SHL_lt rfl⟩) (sp_X4_value (by exact ly.keep rfl rfl) ha hat) rfl rfl ⟨Nat.le_of_ble_eq_true rfl, Nat.le_of_ble_eq_true rfl, fun _ => ⟨rfl, rfl⟩⟩ (Nat.le_of_ble_eq_true rfl) rfl (fun r12 h13 p14 => ?_)
      obtain ⟨er12, p14⟩ := p14
      have p14 := p14.symm
      subst p14
      refine V.iload_n dX4_takeNumber_25 rfl rfl ?_
      refine V.icmp_le (tgt := 35) dX4_takeNumber_26 (by decide) (fun c15 => ?_) (fun c15 => ?_)
      · refine V.aload_n dX4_takeNumber_35 rfl rfl rfl ?_
        refine V.aload_n dX4_takeNumber_36 rfl rfl rfl ?_
        refine V.callVI dX4_takeNumber_37 ml_X4_109 mo_X4_value mv_X4_value rfl (fun q hq => by cases hq; rfl) (by decide) (Or.inl ⟨rfl, SHL_lt rfl⟩) (sp_X4_value (by exact ly.keep rfl rfl) ha hat) rfl rfl ⟨Nat.le_of_ble_eq_true rfl, Nat.le_of_ble_eq_true rfl, fun _ => ⟨rfl, rfl⟩⟩ (Nat.le_of_ble_eq_true rfl) rfl (fun r16 h17 p18 => ?_)
        obtain ⟨er16, p18⟩ := p18
        have p18 := p18.symm
        subst p18
        refine V.putI dX4_takeNumber_40 fl_X4_112 rfl (Or.inl ⟨rfl, SHL_lt rfl⟩) rfl (fun q hq => by cases hq; rfl) ⟨rfl, rfl⟩ ?_
        refine V.aload_n dX4_takeNumber_43 rfl rfl rfl ?_
        refine V.callVV dX4_takeNumber_44 ml_X4_99 mo_X4_advance mv_X4_advance rfl (fun q hq => by cases hq; rfl) (by decide) (Or.inl ⟨rfl, SHL_lt rfl⟩) (sp_X4_advance (by exact ly.keep rfl rfl) ha (by first | exact hat | (simpa [uI, hI_rI, upd] using hat)) hn9 (by first | exact hct | (simpa [uI, hI_rI, upd] using hct)) han) rfl rfl ⟨Nat.le_of_ble_eq_true rfl, Nat.le_of_ble_eq_true rfl, fun _ => ⟨rfl, rfl⟩⟩ (Nat.le_of_ble_eq_true rfl) (Or.inl rfl) (fun h19 p20 => ?_)
        have p20 := p20.symm
        subst p20
        refine V.iconst (v := 1) dX4_takeNumber_47 rfl ?_
        refine V.ireturn dX4_takeNumber_48 rfl rfl ⟨rfl, rfl⟩ ly.1 ?_
        subst_vars
        first | exact Or.inl ⟨by assumption, rfl, rfl⟩ | exact Or.inr (Or.inl ⟨by assumption, fun q => absurd q.1 (Int32.not_le.mpr (by assumption)), rfl, rfl⟩) | exact Or.inr (Or.inl ⟨by assumption, fun q => absurd q.2 (by assumption), rfl, rfl⟩) | exact Or.inr (Or.inr ⟨by assumption, ⟨Int32.not_lt.mp (by assumption), by assumption⟩, rfl, rfl⟩)
      · refine V.aload_n dX4_takeNumber_29 rfl rfl rfl ?_
        refine V.iconst (v := 4) dX4_takeNumber_30 rfl ?_
        refine V.callVI dX4_takeNumber_31 ml_X4_96 mo_X4_fail mv_X4_fail rfl (fun q hq => by cases hq; rfl) (by decide) (Or.inl ⟨rfl, SHL_lt rfl⟩) (sp_X4_fail (by exact ly.keep rfl rfl) ha hat _) rfl rfl ⟨Nat.le_of_ble_eq_true rfl, Nat.le_of_ble_eq_true rfl, fun _ => ⟨rfl, rfl⟩⟩ (Nat.le_of_ble_eq_true rfl) rfl (fun r21 h22 p23 => ?_)
        obtain ⟨er21, p23⟩ := p23
        have p23 := p23.symm
        subst p23
        refine V.ireturn dX4_takeNumber_34 rfl (by rw [er21]; first | rfl | exact bI_01 _) ⟨rfl, rfl⟩ ly.1 ?_
        subst_vars
        first | exact Or.inl ⟨by assumption, rfl, rfl⟩ | exact Or.inr (Or.inl ⟨by assumption, fun q => absurd q.1 (Int32.not_le.mpr (by assumption)), rfl, rfl⟩) | exact Or.inr (Or.inl ⟨by assumption, fun q => absurd q.2 (by assumption), rfl, rfl⟩) | exact Or.inr (Or.inr ⟨by assumption, ⟨Int32.not_lt.mp (by assumption), by assumption⟩, rfl, rfl⟩)
  · rw [er1, bI_0] at c4
    refine V.aload_n dX4_takeNumber_7 rfl rfl rfl ?_
    refine V.iconst (v := 2) dX4_takeNumber_8 rfl ?_
    refine V.callVI dX4_takeNumber_9 ml_X4_96 mo_X4_fail mv_X4_fail rfl (fun q hq => by cases hq; rfl) (by decide) (Or.inl ⟨rfl, SHL_lt rfl⟩) (sp_X4_fail (by exact ly.keep rfl rfl) ha hat _) rfl rfl ⟨Nat.le_of_ble_eq_true rfl, Nat.le_of_ble_eq_true rfl, fun _ => ⟨rfl, rfl⟩⟩ (Nat.le_of_ble_eq_true rfl) rfl (fun r24 h25 p26 => ?_)
    obtain ⟨er24, p26⟩ := p26
    have p26 := p26.symm
    subst p26
    refine V.ireturn dX4_takeNumber_12 rfl (by rw [er24]; first | rfl | exact bI_01 _) ⟨rfl, rfl⟩ ly.1 ?_
    subst_vars
    first | exact Or.inl ⟨by assumption, rfl, rfl⟩ | exact Or.inr (Or.inl ⟨by assumption, fun q => absurd q.1 (Int32.not_le.mpr (by assumption)), rfl, rfl⟩) | exact Or.inr (Or.inl ⟨by assumption, fun q => absurd q.2 (by assumption), rfl, rfl⟩) | exact Or.inr (Or.inr ⟨by assumption, ⟨Int32.not_lt.mp (by assumption), by assumption⟩, rfl, rfl⟩)
