/-! ===== the class's trays ===== -/
set_option maxRecDepth 100000 in
theorem sp_X7_isTray (h : HP) (t : Int32) : Spec yX7_isTray cX7_isTray miX7_isTray [.int t] h (pI fun r h' => r = bI (decide (0 ≤ t ∧ t < 4)) ∧ h' = h) := by
  refine Spec.of (ls0 := [.int t]) mo_X7_isTray (Nat.le_of_ble_eq_true rfl) rfl ?_
  refine V.iload_n dX7_isTray_0 rfl rfl ?_
  refine V.if_lt (tgt := 13) dX7_isTray_1 (by decide) (fun c1 => ?_) (fun c1 => ?_)
  · refine V.iconst (v := 0) dX7_isTray_13 rfl ?_
    refine V.ireturn dX7_isTray_14 rfl rfl ⟨rfl, rfl⟩ rfl ?_
    refine ⟨?_, rfl⟩
    first | (refine bI_t ?_; simp only [Int32.lt_iff_toInt_lt, Int32.le_iff_toInt_le, ← Int32.toInt_inj, Int32.reduceToInt] at *; omega) | (refine bI_f ?_; simp only [Int32.lt_iff_toInt_lt, Int32.le_iff_toInt_le, ← Int32.toInt_inj, Int32.reduceToInt] at *; omega)
  · refine V.iload_n dX7_isTray_4 rfl rfl ?_
    refine V.iconst (v := 4) dX7_isTray_5 rfl ?_
    refine V.icmp_ge (tgt := 13) dX7_isTray_6 (by decide) (fun c2 => ?_) (fun c2 => ?_)
    · refine V.iconst (v := 0) dX7_isTray_13 rfl ?_
      refine V.ireturn dX7_isTray_14 rfl rfl ⟨rfl, rfl⟩ rfl ?_
      refine ⟨?_, rfl⟩
      first | (refine bI_t ?_; simp only [Int32.lt_iff_toInt_lt, Int32.le_iff_toInt_le, ← Int32.toInt_inj, Int32.reduceToInt] at *; omega) | (refine bI_f ?_; simp only [Int32.lt_iff_toInt_lt, Int32.le_iff_toInt_le, ← Int32.toInt_inj, Int32.reduceToInt] at *; omega)
    · refine V.iconst (v := 1) dX7_isTray_9 rfl ?_
      refine V.goto (tgt := 14) dX7_isTray_10 (by decide) ?_
      refine V.ireturn dX7_isTray_14 rfl rfl ⟨rfl, rfl⟩ rfl ?_
      refine ⟨?_, rfl⟩
      first | (refine bI_t ?_; simp only [Int32.lt_iff_toInt_lt, Int32.le_iff_toInt_le, ← Int32.toInt_inj, Int32.reduceToInt] at *; omega) | (refine bI_f ?_; simp only [Int32.lt_iff_toInt_lt, Int32.le_iff_toInt_le, ← Int32.toInt_inj, Int32.reduceToInt] at *; omega)
set_option maxRecDepth 100000 in
theorem sp_X7_isMissing {h : HP} (ly : Lay h) {t : Nat} (ht : t < 4) : Spec yX7_isMissing cX7_isMissing miX7_isMissing [.ref 1, .int (nI t)] h (pI fun r h' => r = bI (decide (hI h 4 t < 0)) ∧ h' = h) := by
  refine Spec.of (ls0 := [.ref 1, .int (nI t)]) mo_X7_isMissing (Nat.le_of_ble_eq_true rfl) rfl ?_
  rw [ly.1]
  refine V.aload_n dX7_isMissing_0 rfl rfl rfl ?_
  refine V.getR (r := 4) dX7_isMissing_1 fl_X7_17 rfl (Or.inl ⟨rfl, SHL_lt rfl⟩) rfl (ly_1_2 ly) ?_
  refine V.iload_n dX7_isMissing_4 rfl rfl ?_
  refine V.iaload dX7_isMissing_5 rfl (Or.inl ⟨rfl, SHL_lt rfl⟩) (vp_in_nI ht (by decide)) ?_
  refine V.if_ge (tgt := 13) dX7_isMissing_6 (by decide) (fun c1 => ?_) (fun c1 => ?_)
  · refine V.iconst (v := 0) dX7_isMissing_13 rfl ?_
    refine V.ireturn dX7_isMissing_14 rfl rfl ⟨rfl, rfl⟩ ly.1 ?_
    refine ⟨?_, rfl⟩
    simp only [nI_clamp (show t < 2 ^ 31 by omega)] at *
    first | exact bI_t (by first | assumption | simp only [Int32.lt_iff_toInt_lt, Int32.le_iff_toInt_le, ← Int32.toInt_inj, Int32.reduceToInt] at *; omega) | exact bI_f (by first | assumption | simp only [Int32.lt_iff_toInt_lt, Int32.le_iff_toInt_le, ← Int32.toInt_inj, Int32.reduceToInt] at *; omega)
  · refine V.iconst (v := 1) dX7_isMissing_9 rfl ?_
    refine V.goto (tgt := 14) dX7_isMissing_10 (by decide) ?_
    refine V.ireturn dX7_isMissing_14 rfl rfl ⟨rfl, rfl⟩ ly.1 ?_
    refine ⟨?_, rfl⟩
    simp only [nI_clamp (show t < 2 ^ 31 by omega)] at *
    first | exact bI_t (by first | assumption | simp only [Int32.lt_iff_toInt_lt, Int32.le_iff_toInt_le, ← Int32.toInt_inj, Int32.reduceToInt] at *; omega) | exact bI_f (by first | assumption | simp only [Int32.lt_iff_toInt_lt, Int32.le_iff_toInt_le, ← Int32.toInt_inj, Int32.reduceToInt] at *; omega)
set_option maxRecDepth 100000 in
theorem sp_X7_areOfOneSort {h : HP} (ly : Lay h) {t u : Nat} (ht : t < 4) (hu : u < 4) : Spec yX7_areOfOneSort cX7_areOfOneSort miX7_areOfOneSort [.ref 1, .int (nI t), .int (nI u)] h (pI fun r h' => r = bI (decide (hI h 3 t = hI h 3 u)) ∧ h' = h) := by
  refine Spec.of (ls0 := [.ref 1, .int (nI t), .int (nI u)]) mo_X7_areOfOneSort (Nat.le_of_ble_eq_true rfl) rfl ?_
  rw [ly.1]
  refine V.aload_n dX7_areOfOneSort_0 rfl rfl rfl ?_
  refine V.getR (r := 3) dX7_areOfOneSort_1 fl_X7_13 rfl (Or.inl ⟨rfl, SHL_lt rfl⟩) rfl (ly_1_1 ly) ?_
  refine V.iload_n dX7_areOfOneSort_4 rfl rfl ?_
  refine V.iaload dX7_areOfOneSort_5 rfl (Or.inl ⟨rfl, SHL_lt rfl⟩) (vp_in_nI ht (by decide)) ?_
  refine V.aload_n dX7_areOfOneSort_6 rfl rfl rfl ?_
  refine V.getR (r := 3) dX7_areOfOneSort_7 fl_X7_13 rfl (Or.inl ⟨rfl, SHL_lt rfl⟩) rfl (ly_1_1 ly) ?_
  refine V.iload_n dX7_areOfOneSort_10 rfl rfl ?_
  refine V.iaload dX7_areOfOneSort_11 rfl (Or.inl ⟨rfl, SHL_lt rfl⟩) (vp_in_nI hu (by decide)) ?_
  refine V.icmp_ne (tgt := 19) dX7_areOfOneSort_12 (by decide) (fun c1 => ?_) (fun c1 => ?_)
  · refine V.iconst (v := 0) dX7_areOfOneSort_19 rfl ?_
    refine V.ireturn dX7_areOfOneSort_20 rfl rfl ⟨rfl, rfl⟩ ly.1 ?_
    refine ⟨?_, rfl⟩
    simp only [nI_clamp (show t < 2 ^ 31 by omega), nI_clamp (show u < 2 ^ 31 by omega)] at *
    first | exact bI_t (by first | assumption | simp only [Int32.lt_iff_toInt_lt, Int32.le_iff_toInt_le, ← Int32.toInt_inj, Int32.reduceToInt] at *; omega) | exact bI_f (by first | assumption | simp only [Int32.lt_iff_toInt_lt, Int32.le_iff_toInt_le, ← Int32.toInt_inj, Int32.reduceToInt] at *; omega)
  · refine V.iconst (v := 1) dX7_areOfOneSort_15 rfl ?_
    refine V.goto (tgt := 20) dX7_areOfOneSort_16 (by decide) ?_
    refine V.ireturn dX7_areOfOneSort_20 rfl rfl ⟨rfl, rfl⟩ ly.1 ?_
    refine ⟨?_, rfl⟩
    simp only [nI_clamp (show t < 2 ^ 31 by omega), nI_clamp (show u < 2 ^ 31 by omega)] at *
    first | exact bI_t (by first | assumption | simp only [Int32.lt_iff_toInt_lt, Int32.le_iff_toInt_le, ← Int32.toInt_inj, Int32.reduceToInt] at *; omega) | exact bI_f (by first | assumption | simp only [Int32.lt_iff_toInt_lt, Int32.le_iff_toInt_le, ← Int32.toInt_inj, Int32.reduceToInt] at *; omega)
theorem room_gt {p m z : Int32} : (0 < lg_cmp (p.toInt64 + m.toInt64) z.toInt64) ↔ z.toInt < p.toInt + m.toInt := by
  rw [← Int32.not_le, lg_cmp_le, Int64.le_iff_toInt_le, toInt_addL, toInt64_toInt, toInt64_toInt, toInt64_toInt]
  · omega
  · rw [toInt64_toInt, toInt64_toInt]; have := toInt_lo p; have := toInt_lo m; omega
  · rw [toInt64_toInt, toInt64_toInt]; have := toInt_hi p; have := toInt_hi m; omega
set_option maxRecDepth 100000 in
theorem sp_X7_hasRoom {h : HP} (ly : Lay h) {t : Nat} (ht : t < 4) (p m : Int32) : Spec yX7_hasRoom cX7_hasRoom miX7_hasRoom [.ref 1, .int (nI t), .int p, .int m] h (pI fun r h' => r = bI (decide (0 ≤ p.toInt ∧ p.toInt + m.toInt ≤ (hI h 4 t).toInt)) ∧ h' = h) := by
  refine Spec.of (ls0 := [.ref 1, .int (nI t), .int p, .int m]) mo_X7_hasRoom (Nat.le_of_ble_eq_true rfl) rfl ?_
  rw [ly.1]
  refine V.iload_n dX7_hasRoom_0 rfl rfl ?_
  refine V.if_lt (tgt := 24) dX7_hasRoom_1 (by decide) (fun c1 => ?_) (fun c1 => ?_)
  · refine V.iconst (v := 0) dX7_hasRoom_24 rfl ?_
    refine V.ireturn dX7_hasRoom_25 rfl rfl ⟨rfl, rfl⟩ ly.1 ?_
    refine ⟨?_, rfl⟩
    try simp only [nI_clamp (show t < 2 ^ 31 by omega), room_gt] at *
    simp only [Int32.lt_iff_toInt_lt, Int32.reduceToInt] at *
    first | exact bI_t (by omega) | exact bI_f (by omega)
  · refine V.iload_n dX7_hasRoom_4 rfl rfl ?_
    refine V.i2l dX7_hasRoom_5 ?_
    refine V.iload_n dX7_hasRoom_6 rfl rfl ?_
    refine V.i2l dX7_hasRoom_7 ?_
    refine V.ladd dX7_hasRoom_8 ?_
    refine V.aload_n dX7_hasRoom_9 rfl rfl rfl ?_
    refine V.getR (r := 4) dX7_hasRoom_10 fl_X7_17 rfl (Or.inl ⟨rfl, SHL_lt rfl⟩) rfl (ly_1_2 ly) ?_
    refine V.iload_n dX7_hasRoom_13 rfl rfl ?_
    refine V.iaload dX7_hasRoom_14 rfl (Or.inl ⟨rfl, SHL_lt rfl⟩) (vp_in_nI ht (by decide)) ?_
    refine V.i2l dX7_hasRoom_15 ?_
    refine V.lcmp dX7_hasRoom_16 ?_
    refine V.if_gt (tgt := 24) dX7_hasRoom_17 (by decide) (fun c2 => ?_) (fun c2 => ?_)
    · refine V.iconst (v := 0) dX7_hasRoom_24 rfl ?_
      refine V.ireturn dX7_hasRoom_25 rfl rfl ⟨rfl, rfl⟩ ly.1 ?_
      refine ⟨?_, rfl⟩
      try simp only [nI_clamp (show t < 2 ^ 31 by omega), room_gt] at *
      simp only [Int32.lt_iff_toInt_lt, Int32.reduceToInt] at *
      first | exact bI_t (by omega) | exact bI_f (by omega)
    · refine V.iconst (v := 1) dX7_hasRoom_20 rfl ?_
      refine V.goto (tgt := 25) dX7_hasRoom_21 (by decide) ?_
      refine V.ireturn dX7_hasRoom_25 rfl rfl ⟨rfl, rfl⟩ ly.1 ?_
      refine ⟨?_, rfl⟩
      try simp only [nI_clamp (show t < 2 ^ 31 by omega), room_gt] at *
      simp only [Int32.lt_iff_toInt_lt, Int32.reduceToInt] at *
      first | exact bI_t (by omega) | exact bI_f (by omega)
set_option maxRecDepth 100000 in
theorem lp_X7_make {h0 h1 : HP} (hn : h0.1 = 130) (ly : Lay h1) {t m : Nat} (ht : t < 4) (hm : m ≤ 60) {s : Int32} {P : HP → Prop} (hP : P (rL h1 2 (rowL (hL h1 2) (fun _ => 0) (t * 60) m))) : ∀ n k, k ≤ m → m + 1 ≤ k + n →
    V cX7_make miX7_make (ZM h0 miX7_make.2.2.2.1 (pV P)) 130 17 [.ref 1, .int (nI t), .int s, .int (nI m), .int (nI k)] [] (rL h1 2 (rowL (hL h1 2) (fun _ => 0) (t * 60) k)) := by
  intro n
  induction n with
  | zero => intro k h1 h2; exact absurd h2 (by omega)
  | succ n ih =>
    intro k hk hkn
    refine V.iload dX7_make_17 rfl ?_
    refine V.iload_n dX7_make_19 rfl rfl ?_
    refine V.icmp_ge (tgt := 42) dX7_make_20 (by decide) (fun c1 => ?_) (fun c1 => ?_)
    · refine V.vreturn' dX7_make_42 rfl hn (Or.inl ⟨rfl, rfl⟩) ?_
      have hk2 : k = m := by have := c1; rw [nI_leI (by omega) (by omega)] at this; omega
      rw [hk2]; exact hP
    · have hlt : k < m := by have := c1; rw [nI_leI (by omega) (by omega)] at this; omega
      refine V.aload_n dX7_make_23 rfl rfl rfl ?_
      refine V.getR (r := 2) dX7_make_24 fl_X7_9 rfl (Or.inl ⟨rfl, SHL_lt rfl⟩) rfl (ly_1_0 ly) ?_
      refine V.iload_n dX7_make_27 rfl rfl ?_
      refine V.bipush (v := 60) dX7_make_28 rfl ?_
      refine V.imul dX7_make_30 ?_
      refine V.iload dX7_make_31 rfl ?_
      refine V.iadd dX7_make_33 ?_
      refine V.lconst (v := 0) dX7_make_34 rfl ?_
      refine V.lastore dX7_make_35 rfl (Or.inl ⟨rfl, SHL_lt rfl⟩) (by rw [show (60 : Int32) = nI 60 from rfl, nI_mul, nI_add]; exact vp_in_nI (by omega) (by decide)) ?_
      rw [show (nI t * 60 + nI k).toNatClampNeg = t * 60 + k by rw [show (60 : Int32) = nI 60 from rfl, nI_mul, nI_add]; exact nI_clamp (by omega), uL_row h1 2 (hL h1 2) (fun _ => 0) (t * 60) k]
      obtain ⟨x2, ex2⟩ : ∃ y : Int32, y = nI k + 1 := ⟨_, rfl⟩
      refine V.iinc (v := x2) (ls' := [.ref 1, .int (nI t), .int s, .int (nI m), .int x2]) dX7_make_36 rfl (by decide) ex2.symm rfl ?_
      refine V.goto (tgt := 17) dX7_make_39 (by decide) ?_
      rw [ex2, nI_1]
      exact ih (k + 1) (by omega) (by omega)
set_option maxRecDepth 100000 in
theorem sp_X7_make {h : HP} (ly : Lay h) {t m : Nat} (ht : t < 4) (hm : m ≤ 60) (s : Int32) : Spec yX7_make cX7_make miX7_make [.ref 1, .int (nI t), .int s, .int (nI m)] h (pV fun h' => h' = rL (uI (uI h 3 t s) 4 t (nI m)) 2 (rowL (hL h 2) (fun _ => 0) (t * 60) m)) := by
  refine Spec.of (ls0 := [.ref 1, .int (nI t), .int s, .int (nI m), .null]) mo_X7_make (Nat.le_of_ble_eq_true rfl) rfl ?_
  rw [ly.1]
  refine V.aload_n dX7_make_0 rfl rfl rfl ?_
  refine V.getR (r := 3) dX7_make_1 fl_X7_13 rfl (Or.inl ⟨rfl, SHL_lt rfl⟩) rfl (ly_1_1 ly) ?_
  refine V.iload_n dX7_make_4 rfl rfl ?_
  refine V.iload_n dX7_make_5 rfl rfl ?_
  refine V.iastore dX7_make_6 rfl (Or.inl ⟨rfl, SHL_lt rfl⟩) (vp_in_nI ht (by decide)) ?_
  rw [nI_clamp (show t < 2 ^ 31 by omega)]
  refine V.aload_n dX7_make_7 rfl rfl rfl ?_
  refine V.getR (r := 4) dX7_make_8 fl_X7_17 rfl (Or.inl ⟨rfl, SHL_lt rfl⟩) rfl (ly_1_2 ly) ?_
  refine V.iload_n dX7_make_11 rfl rfl ?_
  refine V.iload_n dX7_make_12 rfl rfl ?_
  refine V.iastore dX7_make_13 rfl (Or.inl ⟨rfl, SHL_lt rfl⟩) (vp_in_nI ht (by decide)) ?_
  try rw [nI_clamp (show t < 2 ^ 31 by omega)]
  refine V.iconst (v := 0) dX7_make_14 rfl ?_
  refine V.istore (ls' := [.ref 1, .int (nI t), .int s, .int (nI m), .int 0]) dX7_make_15 (by decide) rfl ?_
  have key := lp_X7_make (s := s) (h0 := h) (h1 := uI (uI h 3 t s) 4 t (nI m)) ly.1 (ly.keep rfl rfl) ht hm (P := fun h' => h' = rL (uI (uI h 3 t s) 4 t (nI m)) 2 (rowL (hL h 2) (fun _ => 0) (t * 60) m)) rfl (m + 1) 0 (by omega) (by omega)
  rw [rowL_0, rL_self] at key
  exact key
set_option maxRecDepth 100000 in
theorem sp_X7_numberAt {h : HP} (ly : Lay h) {t p : Nat} (ht : t < 4) (hp : p < 60) : Spec yX7_numberAt cX7_numberAt miX7_numberAt [.ref 1, .int (nI t), .int (nI p)] h (pL fun r h' => r = hL h 2 (t * 60 + p) ∧ h' = h) := by
  refine Spec.of (ls0 := [.ref 1, .int (nI t), .int (nI p)]) mo_X7_numberAt (Nat.le_of_ble_eq_true rfl) rfl ?_
  rw [ly.1]
  refine V.aload_n dX7_numberAt_0 rfl rfl rfl ?_
  refine V.getR (r := 2) dX7_numberAt_1 fl_X7_9 rfl (Or.inl ⟨rfl, SHL_lt rfl⟩) rfl (ly_1_0 ly) ?_
  refine V.iload_n dX7_numberAt_4 rfl rfl ?_
  refine V.bipush (v := 60) dX7_numberAt_5 rfl ?_
  refine V.imul dX7_numberAt_7 ?_
  refine V.iload_n dX7_numberAt_8 rfl rfl ?_
  refine V.iadd dX7_numberAt_9 ?_
  refine V.laload dX7_numberAt_10 rfl (Or.inl ⟨rfl, SHL_lt rfl⟩) (by rw [show (60 : Int32) = nI 60 from rfl, nI_mul, nI_add]; exact vp_in_nI (by omega) (by decide)) ?_
  refine V.lreturn dX7_numberAt_11 rfl ⟨rfl, rfl⟩ ly.1 ?_
  exact ⟨by rw [show (nI t * 60 + nI p).toNatClampNeg = t * 60 + p by rw [show (60 : Int32) = nI 60 from rfl, nI_mul, nI_add]; exact nI_clamp (by omega)], rfl⟩
def cutV (s : Int32) (v : Int64) : Int64 := if s = 0 then v.toInt32.toInt8.toInt32.toInt64 else if s = 1 then v.toInt32.toInt16.toInt32.toInt64 else if s = 2 then v.toInt32.toInt64 else v
set_option maxRecDepth 100000 in
theorem sp_X7_cut (h : HP) (s : Int32) (v : Int64) : Spec yX7_cut cX7_cut miX7_cut [.int s, .long v] h (pL fun r h' => r = cutV s v ∧ h' = h) := by
  refine Spec.of (ls0 := [.int s, .long v, .null]) mo_X7_cut (Nat.le_of_ble_eq_true rfl) rfl ?_
  refine V.iload_n dX7_cut_0 rfl rfl ?_
  by_cases c1 : s = 0
  · rw [c1]
    refine V.tableIn (tgt := 28) dX7_cut_1 (by decide) (by decide) rfl (by decide) ?_
    refine V.lload_n dX7_cut_28 rfl rfl ?_
    refine V.l2i dX7_cut_29 ?_
    refine V.i2b dX7_cut_30 ?_
    refine V.i2l dX7_cut_31 ?_
    refine V.lreturn dX7_cut_32 rfl ⟨rfl, rfl⟩ rfl ?_
    refine ⟨?_, rfl⟩
    first | rfl | (unfold cutV; simp_all)
  by_cases c2 : s = 1
  · rw [c2]
    refine V.tableIn (tgt := 33) dX7_cut_1 (by decide) (by decide) rfl (by decide) ?_
    refine V.lload_n dX7_cut_33 rfl rfl ?_
    refine V.l2i dX7_cut_34 ?_
    refine V.i2s dX7_cut_35 ?_
    refine V.i2l dX7_cut_36 ?_
    refine V.lreturn dX7_cut_37 rfl ⟨rfl, rfl⟩ rfl ?_
    refine ⟨?_, rfl⟩
    first | rfl | (unfold cutV; simp_all)
  by_cases c3 : s = 2
  · rw [c3]
    refine V.tableIn (tgt := 38) dX7_cut_1 (by decide) (by decide) rfl (by decide) ?_
    refine V.lload_n dX7_cut_38 rfl rfl ?_
    refine V.l2i dX7_cut_39 ?_
    refine V.i2l dX7_cut_40 ?_
    refine V.lreturn dX7_cut_41 rfl ⟨rfl, rfl⟩ rfl ?_
    refine ⟨?_, rfl⟩
    first | rfl | (unfold cutV; simp_all)
  have nc1 := lv_neT c1 (a := 0) rfl
  have nc2 := lv_neT c2 (a := 1) rfl
  have nc3 := lv_neT c3 (a := 2) rfl
  refine V.tableOut (tgt := 42) dX7_cut_1 (by omega) (by decide) ?_
  refine V.lload_n dX7_cut_42 rfl rfl ?_
  refine V.lreturn dX7_cut_43 rfl ⟨rfl, rfl⟩ rfl ?_
  refine ⟨?_, rfl⟩
  first | rfl | (unfold cutV; simp_all)
set_option maxRecDepth 100000 in
theorem sp_X7_put {h : HP} (ly : Lay h) {t p : Nat} (ht : t < 4) (hp : p < 60) (v : Int64) : Spec yX7_put cX7_put miX7_put [.ref 1, .int (nI t), .int (nI p), .long v] h (pV fun h' => h' = uL h 2 (t * 60 + p) (cutV (hI h 3 t) v)) := by
  refine Spec.of (ls0 := [.ref 1, .int (nI t), .int (nI p), .long v, .null]) mo_X7_put (Nat.le_of_ble_eq_true rfl) rfl ?_
  rw [ly.1]
  refine V.aload_n dX7_put_0 rfl rfl rfl ?_
  refine V.getR (r := 2) dX7_put_1 fl_X7_9 rfl (Or.inl ⟨rfl, SHL_lt rfl⟩) rfl (ly_1_0 ly) ?_
  refine V.iload_n dX7_put_4 rfl rfl ?_
  refine V.bipush (v := 60) dX7_put_5 rfl ?_
  refine V.imul dX7_put_7 ?_
  refine V.iload_n dX7_put_8 rfl rfl ?_
  refine V.iadd dX7_put_9 ?_
  refine V.aload_n dX7_put_10 rfl rfl rfl ?_
  refine V.getR (r := 3) dX7_put_11 fl_X7_13 rfl (Or.inl ⟨rfl, SHL_lt rfl⟩) rfl (ly_1_1 ly) ?_
  refine V.iload_n dX7_put_14 rfl rfl ?_
  refine V.iaload dX7_put_15 rfl (Or.inl ⟨rfl, SHL_lt rfl⟩) (vp_in_nI ht (by decide)) ?_
  refine V.lload_n dX7_put_16 rfl rfl ?_
  refine V.callSL dX7_put_17 ml_X7_20 mo_X7_cut ms_X7_cut (sp_X7_cut _ _ _) rfl rfl ⟨Nat.le_of_ble_eq_true rfl, Nat.le_of_ble_eq_true rfl, fun _ => ⟨rfl, rfl⟩⟩ (Nat.le_of_ble_eq_true rfl) rfl (fun r1 h2 p3 => ?_)
  obtain ⟨er1, p3⟩ := p3
  have p3 := p3.symm
  subst p3
  refine V.lastore dX7_put_20 rfl (Or.inl ⟨rfl, SHL_lt rfl⟩) (by rw [show (60 : Int32) = nI 60 from rfl, nI_mul, nI_add]; exact vp_in_nI (by omega) (by decide)) ?_
  refine V.vreturn' dX7_put_21 rfl ly.1 (Or.inl ⟨rfl, rfl⟩) ?_
  rw [show (nI t * 60 + nI p).toNatClampNeg = t * 60 + p by rw [show (60 : Int32) = nI 60 from rfl, nI_mul, nI_add]; exact nI_clamp (by omega), er1, nI_clamp (show t < 2 ^ 31 by omega)]
theorem idx60 {t p : Nat} (h : t * 60 + p < 2 ^ 31) : (nI t * 60 + nI p).toNatClampNeg = t * 60 + p := by rw [show (60 : Int32) = nI 60 from rfl, nI_mul, nI_add]; exact nI_clamp h
theorem pos60 {t p : Nat} (h : t * 60 + p < 2 ^ 31) : ¬ nI t * 60 + nI p < 0 := by rw [show (60 : Int32) = nI 60 from rfl, nI_mul, nI_add]; exact nI_pos h
set_option maxRecDepth 100000 in
theorem sp_X7_copy {h : HP} (ly : Lay h) {t p u q m : Nat} (ht : t < 4) (hu : u < 4) (hp : p + m ≤ 60) (hq : q + m ≤ 60) : Spec yX7_copy cX7_copy miX7_copy [.ref 1, .int (nI t), .int (nI p), .int (nI u), .int (nI q), .int (nI m)] h (pV fun h' => h' = rL h 2 (va_cpy (hL h 2) (hL h 2) (t * 60 + p) (u * 60 + q) m)) := by
  refine Spec.of (ls0 := [.ref 1, .int (nI t), .int (nI p), .int (nI u), .int (nI q), .int (nI m)]) mo_X7_copy (Nat.le_of_ble_eq_true rfl) rfl ?_
  rw [ly.1]
  refine V.aload_n dX7_copy_0 rfl rfl rfl ?_
  refine V.getR (r := 2) dX7_copy_1 fl_X7_9 rfl (Or.inl ⟨rfl, SHL_lt rfl⟩) rfl (ly_1_0 ly) ?_
  refine V.iload_n dX7_copy_4 rfl rfl ?_
  refine V.bipush (v := 60) dX7_copy_5 rfl ?_
  refine V.imul dX7_copy_7 ?_
  refine V.iload_n dX7_copy_8 rfl rfl ?_
  refine V.iadd dX7_copy_9 ?_
  refine V.aload_n dX7_copy_10 rfl rfl rfl ?_
  refine V.getR (r := 2) dX7_copy_11 fl_X7_9 rfl (Or.inl ⟨rfl, SHL_lt rfl⟩) rfl (ly_1_0 ly) ?_
  refine V.iload_n dX7_copy_14 rfl rfl ?_
  refine V.bipush (v := 60) dX7_copy_15 rfl ?_
  refine V.imul dX7_copy_17 ?_
  refine V.iload dX7_copy_18 rfl ?_
  refine V.iadd dX7_copy_20 ?_
  refine V.iload dX7_copy_21 rfl ?_
  refine V.copyL dX7_copy_23 lk_X7_24 copy_ok rfl rfl (Or.inl ⟨rfl, SHL_lt rfl⟩) (Or.inl ⟨rfl, SHL_lt rfl⟩) (pos60 (by omega)) (pos60 (by omega)) (nI_pos (by omega)) (by rw [idx60 (by omega), nI_clamp (by omega)]; omega) (by rw [idx60 (by omega), nI_clamp (by omega)]; omega) ⟨Nat.le_of_ble_eq_true rfl, Nat.le_of_ble_eq_true rfl⟩ ?_
  refine V.vreturn' dX7_copy_26 rfl ly.1 (Or.inl ⟨rfl, rfl⟩) ?_
  rw [idx60 (by omega), idx60 (by omega), nI_clamp (by omega)]
