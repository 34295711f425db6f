/-! ===== the class's reader of a year's text ===== -/
theorem isY_ge {y : Nat} (hY : isY y) : 14 ≤ y := by rcases hY with rfl | rfl | rfl | rfl | rfl <;> decide
abbrev isStepW (w : Int32) : Prop := (9 ≤ w ∧ w ≤ 15) ∨ w = 19 ∨ w = 21
def firstF (h : HP) (y e : Nat) (lo hi : Int32) : Int32 × HP :=
  if (takeN h lo hi).1 = 0 then (0, (takeN h lo hi).2) else (1, uI (takeN h lo hi).2 (y + 3) e (hI (takeN h lo hi).2 5 11))
set_option maxRecDepth 100000 in
theorem sp_X10_takeFirst {h : HP} (rkh : RK h) {y : Nat} (hY : isY y) {e : Nat} (he : e < 60) (lo hi : Int32) : Spec yX10_takeFirst cX10_takeFirst miX10_takeFirst [.ref 5, .ref y, .int (nI e), .int lo, .int hi] h (pI fun r h' => r = (firstF h y e lo hi).1 ∧ h' = (firstF h y e lo hi).2) := by
  refine Spec.of (ls0 := [.ref 5, .ref y, .int (nI e), .int lo, .int hi]) mo_X10_takeFirst (Nat.le_of_ble_eq_true rfl) rfl ?_
  rw [rkh.1.1]
  have hy14 := isY_ge hY
  refine V.aload_n dX10_takeFirst_0 rfl rfl rfl ?_
  refine V.iload_n dX10_takeFirst_1 rfl rfl ?_
  refine V.iload dX10_takeFirst_2 rfl ?_
  refine V.callVI dX10_takeFirst_4 ml_X10_88 mo_X4_takeNumber mv_X4_takeNumber rfl (fun q hq => by cases hq; rfl) (by decide) (Or.inl ⟨rfl, SHL_lt rfl⟩) (sp_X4_takeNumber rkh.1 rkh.2.a9 rkh.2.a rkh.2.le rkh.2.n rkh.2.lt _ _) rfl rfl ⟨Nat.le_of_ble_eq_true rfl, Nat.le_of_ble_eq_true rfl, fun _ => ⟨rfl, rfl⟩⟩ (Nat.le_of_ble_eq_true rfl) rfl (fun r1 h2 p3 => ?_)
  replace p3 := takeN_of p3
  obtain ⟨er1, eh2⟩ := p3
  have rkh2 : RK h2 := by rw [eh2]; exact rkh.tN _ _
  refine V.if_ne (tgt := 12) dX10_takeFirst_7 (by decide) (fun c4 => ?_) (fun c4 => ?_)
  · refine V.aload_n dX10_takeFirst_12 rfl rfl (sY0 hY) ?_
    refine V.getR (r := y + 3) dX10_takeFirst_13 fl_X10_92 (sY0 hY) (Or.inl ⟨rfl, SHL_lt (sY0 hY)⟩) rfl (rY_firsts rkh2.1 hY) ?_
    refine V.iload_n dX10_takeFirst_16 rfl rfl ?_
    refine V.aload_n dX10_takeFirst_17 rfl rfl rfl ?_
    refine V.getI dX10_takeFirst_18 fl_X10_95 rfl (Or.inl ⟨rfl, SHL_lt rfl⟩) rfl rfl ?_
    refine V.iastore dX10_takeFirst_21 (sY3 hY) (Or.inl ⟨rfl, SHL_lt (sY3 hY)⟩) (vp_in_nI he (by decide)) ?_
    rw [nI_clamp (show e < 2 ^ 31 by omega)]
    refine V.nameH (fun g5 eg5 => ?_)
    have rkg5 : RK g5 := by rw [eg5]; exact rkh2.uI _ _ (by omega)
    refine V.iconst (v := 1) dX10_takeFirst_22 rfl ?_
    refine V.ireturn dX10_takeFirst_23 rfl rfl ⟨rfl, rfl⟩ rkh.1.1 ?_
    unfold firstF
    try rw [← er1]
    try rw [← eh2]
    try rw [← eg5]
    rw [if_neg c4]
    first | exact ⟨rfl, rfl⟩ | exact ⟨by assumption, by assumption⟩
  · refine V.iconst (v := 0) dX10_takeFirst_10 rfl ?_
    refine V.ireturn dX10_takeFirst_11 rfl rfl ⟨rfl, rfl⟩ rkh.1.1 ?_
    unfold firstF
    try rw [← er1]
    try rw [← eh2]
    rw [if_pos c4]
    first | exact ⟨rfl, rfl⟩ | exact ⟨by assumption, by assumption⟩
