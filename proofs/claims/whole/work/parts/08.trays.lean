def bI (b : Bool) : Int32 := if b then 1 else 0
set_option maxRecDepth 100000 in
theorem sp_X7_isTray (h : HP) (t : Int32) : Spec yX7_isTray cX7_isTray miX7_isTray [.int t] h (pI fun r h' => r = bI (decide (0 ≤ t) && decide (t < 4)) ∧ h' = h) := by
  refine Spec.of (ls0 := [.int t]) mo_X7_isTray (by decide) rfl ?_
  refine V.iload_n dX7_isTray_0 rfl rfl ?_
  refine V.if_lt (tgt := 13) dX7_isTray_1 (by decide) (fun c1 => ?_) (fun c1 => ?_)
  · refine V.iconst (v := 0) dX7_isTray_13 rfl ?_
    refine V.ireturn dX7_isTray_14 rfl rfl ⟨rfl, rfl⟩ rfl ?_
    exact ⟨by simp_all [bI], rfl⟩
  · refine V.iload_n dX7_isTray_4 rfl rfl ?_
    refine V.iconst (v := 4) dX7_isTray_5 rfl ?_
    refine V.icmp_ge (tgt := 13) dX7_isTray_6 (by decide) (fun c2 => ?_) (fun c2 => ?_)
    · refine V.iconst (v := 0) dX7_isTray_13 rfl ?_
      refine V.ireturn dX7_isTray_14 rfl rfl ⟨rfl, rfl⟩ rfl ?_
      exact ⟨by simp_all [bI], rfl⟩
    · refine V.iconst (v := 1) dX7_isTray_9 rfl ?_
      refine V.goto (tgt := 14) dX7_isTray_10 (by decide) ?_
      refine V.ireturn dX7_isTray_14 rfl rfl ⟨rfl, rfl⟩ rfl ?_
      exact ⟨by simp_all [bI], rfl⟩
set_option maxRecDepth 100000 in
theorem sp_X7_isMissing {h : HP} (hL : Lay h) {t : Nat} (ht : t < 4) : Spec yX7_isMissing cX7_isMissing miX7_isMissing [.ref 1, .int (nI t)] h (pI fun r h' => r = bI (decide (hI h 4 t < 0)) ∧ h' = h) := by
  refine Spec.of (ls0 := [.ref 1, .int (nI t)]) mo_X7_isMissing (by decide) rfl ?_
  rw [hL.1]
  refine V.aload_n dX7_isMissing_0 rfl rfl rfl ?_
  refine V.getR (r := 4) dX7_isMissing_1 fl_X7_17 rfl (Or.inl ⟨rfl, SHL_lt rfl⟩) rfl (ly_1_2 hL) ?_
  refine V.iload_n dX7_isMissing_4 rfl rfl ?_
  refine V.iaload dX7_isMissing_5 rfl (Or.inl ⟨rfl, SHL_lt rfl⟩) (vp_in_nI ht (by decide)) ?_
  refine V.if_ge (tgt := 13) dX7_isMissing_6 (by decide) (fun c1 => ?_) (fun c1 => ?_)
  · refine V.iconst (v := 0) dX7_isMissing_13 rfl ?_
    refine V.ireturn dX7_isMissing_14 rfl rfl ⟨rfl, rfl⟩ hL.1 ?_
    exact ⟨by simp_all [bI, nI_clamp (show t < 2 ^ 31 by omega)], rfl⟩
  · refine V.iconst (v := 1) dX7_isMissing_9 rfl ?_
    refine V.goto (tgt := 14) dX7_isMissing_10 (by decide) ?_
    refine V.ireturn dX7_isMissing_14 rfl rfl ⟨rfl, rfl⟩ hL.1 ?_
    exact ⟨by simp_all [bI, nI_clamp (show t < 2 ^ 31 by omega)], rfl⟩
set_option maxRecDepth 100000 in
theorem sp_X7_areOfOneSort {h : HP} (hL : Lay h) {t u : Nat} (ht : t < 4) (hu : u < 4) : Spec yX7_areOfOneSort cX7_areOfOneSort miX7_areOfOneSort [.ref 1, .int (nI t), .int (nI u)] h (pI fun r h' => r = bI (decide (hI h 3 t = hI h 3 u)) ∧ h' = h) := by
  refine Spec.of (ls0 := [.ref 1, .int (nI t), .int (nI u)]) mo_X7_areOfOneSort (by decide) rfl ?_
  rw [hL.1]
  refine V.aload_n dX7_areOfOneSort_0 rfl rfl rfl ?_
  refine V.getR (r := 3) dX7_areOfOneSort_1 fl_X7_13 rfl (Or.inl ⟨rfl, SHL_lt rfl⟩) rfl (ly_1_1 hL) ?_
  refine V.iload_n dX7_areOfOneSort_4 rfl rfl ?_
  refine V.iaload dX7_areOfOneSort_5 rfl (Or.inl ⟨rfl, SHL_lt rfl⟩) (vp_in_nI ht (by decide)) ?_
  refine V.aload_n dX7_areOfOneSort_6 rfl rfl rfl ?_
  refine V.getR (r := 3) dX7_areOfOneSort_7 fl_X7_13 rfl (Or.inl ⟨rfl, SHL_lt rfl⟩) rfl (ly_1_1 hL) ?_
  refine V.iload_n dX7_areOfOneSort_10 rfl rfl ?_
  refine V.iaload dX7_areOfOneSort_11 rfl (Or.inl ⟨rfl, SHL_lt rfl⟩) (vp_in_nI hu (by decide)) ?_
  refine V.icmp_ne (tgt := 19) dX7_areOfOneSort_12 (by decide) (fun c1 => ?_) (fun c1 => ?_)
  · refine V.iconst (v := 0) dX7_areOfOneSort_19 rfl ?_
    refine V.ireturn dX7_areOfOneSort_20 rfl rfl ⟨rfl, rfl⟩ hL.1 ?_
    exact ⟨by simp_all [bI, nI_clamp (show t < 2 ^ 31 by omega), nI_clamp (show u < 2 ^ 31 by omega)], rfl⟩
  · refine V.iconst (v := 1) dX7_areOfOneSort_15 rfl ?_
    refine V.goto (tgt := 20) dX7_areOfOneSort_16 (by decide) ?_
    refine V.ireturn dX7_areOfOneSort_20 rfl rfl ⟨rfl, rfl⟩ hL.1 ?_
    exact ⟨by simp_all [bI, nI_clamp (show t < 2 ^ 31 by omega), nI_clamp (show u < 2 ^ 31 by omega)], rfl⟩
