/-! ===== the class's reader of a year's text ===== -/
theorem isY_ge {y : Nat} (hY : isY y) : 14 ≤ y := by rcases hY with rfl | rfl | rfl | rfl | rfl <;> decide
abbrev isStepW (w : Int32) : Prop := (9 ≤ w ∧ w ≤ 15) ∨ w = 19 ∨ w = 21
def firstF (h : HP) (y e : Nat) (lo hi : Int32) : Int32 × HP :=
  if (takeN h lo hi).1 = 0 then (0, (takeN h lo hi).2) else (1, uI (takeN h lo hi).2 (y + 3) e (hI (takeN h lo hi).2 5 11))
set_option maxRecDepth 100000 in
theorem sp_X10_takeFirst {h : HP} (rkh : RK h) {y : Nat} (hY : isY y) {e : Nat} (he : e < 60) (lo hi : Int32) : Spec yX10_takeFirst cX10_takeFirst miX10_takeFirst [.ref 5, .ref y, .int (nI e), .int lo, .int hi] h (pI fun r h' => r = (firstF h y e lo hi).1 ∧ h' = (firstF h y e lo hi).2) := by
  refine Spec.of (ls0 := [.ref 5, .ref y, .int (nI e), .int lo, .int hi]) mo_X10_takeFirst (Nat.le_of_ble_eq_true rfl) rfl ?_
  rw [rkh.1.1]
  have hy14 := isY_ge hY
  refine V.aload_n dX10_takeFirst_0 rfl rfl rfl ?_
  refine V.iload_n dX10_takeFirst_1 rfl rfl ?_
  refine V.iload dX10_takeFirst_2 rfl ?_
  refine V.callVI dX10_takeFirst_4 ml_X10_88 mo_X4_takeNumber mv_X4_takeNumber rfl (fun q hq => by cases hq; rfl) (by decide) (Or.inl ⟨rfl, SHL_lt rfl⟩) (sp_X4_takeNumber rkh.1 rkh.2.a9 rkh.2.a rkh.2.le rkh.2.n rkh.2.lt _ _) rfl rfl ⟨Nat.le_of_ble_eq_true rfl, Nat.le_of_ble_eq_true rfl, fun _ => ⟨rfl, rfl⟩⟩ (Nat.le_of_ble_eq_true rfl) rfl (fun r1 h2 p3 => ?_)
  replace p3 := takeN_of p3
  obtain ⟨er1, eh2⟩ := p3
  have rkh2 : RK h2 := by rw [eh2]; exact rkh.tN _ _
  refine V.if_ne (tgt := 12) dX10_takeFirst_7 (by decide) (fun c4 => ?_) (fun c4 => ?_)
  · refine V.aload_n dX10_takeFirst_12 rfl rfl (sY0 hY) ?_
    refine V.getR (r := y + 3) dX10_takeFirst_13 fl_X10_92 (sY0 hY) (Or.inl ⟨rfl, SHL_lt (sY0 hY)⟩) rfl (rY_firsts rkh2.1 hY) ?_
    refine V.iload_n dX10_takeFirst_16 rfl rfl ?_
    refine V.aload_n dX10_takeFirst_17 rfl rfl rfl ?_
    refine V.getI dX10_takeFirst_18 fl_X10_95 rfl (Or.inl ⟨rfl, SHL_lt rfl⟩) rfl rfl ?_
    refine V.iastore dX10_takeFirst_21 (sY3 hY) (Or.inl ⟨rfl, SHL_lt (sY3 hY)⟩) (vp_in_nI he (by decide)) ?_
    rw [nI_clamp (show e < 2 ^ 31 by omega)]
    refine V.nameH (fun g5 eg5 => ?_)
    have rkg5 : RK g5 := by rw [eg5]; exact rkh2.uI _ _ (by omega)
    refine V.iconst (v := 1) dX10_takeFirst_22 rfl ?_
    refine V.ireturn dX10_takeFirst_23 rfl rfl ⟨rfl, rfl⟩ rkh.1.1 ?_
    unfold firstF
    try rw [← er1]
    try rw [← eh2]
    try rw [← eg5]
    rw [if_neg c4]
    first | exact ⟨rfl, rfl⟩ | exact ⟨by assumption, by assumption⟩
  · refine V.iconst (v := 0) dX10_takeFirst_10 rfl ?_
    refine V.ireturn dX10_takeFirst_11 rfl rfl ⟨rfl, rfl⟩ rkh.1.1 ?_
    unfold firstF
    try rw [← er1]
    try rw [← eh2]
    rw [if_pos c4]
    first | exact ⟨rfl, rfl⟩ | exact ⟨by assumption, by assumption⟩
def placeYF (h : HP) (t y e : Nat) : Int32 × HP :=
  let a := takeN h 0 (hI h (t + 1) 0 - 1)
  if a.1 = 0 then (0, a.2) else
  let b := takeN (uI a.2 (y + 3) e (hI a.2 5 11)) 0 (hI (uI a.2 (y + 3) e (hI a.2 5 11)) (t + 1) 1 - 1)
  if b.1 = 0 then (0, b.2) else (1, uI b.2 (y + 4) e (hI b.2 5 11))
set_option maxRecDepth 100000 in
theorem sp_X10_takePlace {h : HP} (rkh : RK h) {t : Nat} (hT : isT t) {y : Nat} (hY : isY y) {e : Nat} (he : e < 60)  : Spec yX10_takePlace cX10_takePlace miX10_takePlace [.ref 5, .ref t, .ref y, .int (nI e)] h (pI fun r h' => r = (placeYF h t y e).1 ∧ h' = (placeYF h t y e).2) := by
  refine Spec.of (ls0 := [.ref 5, .ref t, .ref y, .int (nI e)]) mo_X10_takePlace (Nat.le_of_ble_eq_true rfl) rfl ?_
  rw [rkh.1.1]
  have hy14 := isY_ge hY
  refine V.aload_n dX10_takePlace_0 rfl rfl rfl ?_
  refine V.iconst (v := 0) dX10_takePlace_1 rfl ?_
  refine V.aload_n dX10_takePlace_2 rfl rfl (sT0 hT) ?_
  refine V.getR (r := t + 1) dX10_takePlace_3 fl_X10_98 (sT0 hT) (Or.inl ⟨rfl, SHL_lt (sT0 hT)⟩) rfl (rT_hill rkh.1 hT) ?_
  refine V.getI dX10_takePlace_6 fl_X10_104 (sH0 hT.H) (Or.inl ⟨rfl, SHL_lt (sH0 hT.H)⟩) rfl rfl ?_
  refine V.iconst (v := 1) dX10_takePlace_9 rfl ?_
  refine V.isub dX10_takePlace_10 ?_
  refine V.callVI dX10_takePlace_11 ml_X10_88 mo_X4_takeNumber mv_X4_takeNumber rfl (fun q hq => by cases hq; rfl) (by decide) (Or.inl ⟨rfl, SHL_lt rfl⟩) (sp_X4_takeNumber rkh.1 rkh.2.a9 rkh.2.a rkh.2.le rkh.2.n rkh.2.lt _ _) rfl rfl ⟨Nat.le_of_ble_eq_true rfl, Nat.le_of_ble_eq_true rfl, fun _ => ⟨rfl, rfl⟩⟩ (Nat.le_of_ble_eq_true rfl) rfl (fun r1 h2 p3 => ?_)
  replace p3 := takeN_of p3
  obtain ⟨er1, eh2⟩ := p3
  have rkh2 : RK h2 := by rw [eh2]; exact rkh.tN _ _
  refine V.if_ne (tgt := 19) dX10_takePlace_14 (by decide) (fun c4 => ?_) (fun c4 => ?_)
  · refine V.aload_n dX10_takePlace_19 rfl rfl (sY0 hY) ?_
    refine V.getR (r := y + 3) dX10_takePlace_20 fl_X10_92 (sY0 hY) (Or.inl ⟨rfl, SHL_lt (sY0 hY)⟩) rfl (rY_firsts rkh2.1 hY) ?_
    refine V.iload_n dX10_takePlace_23 rfl rfl ?_
    refine V.aload_n dX10_takePlace_24 rfl rfl rfl ?_
    refine V.getI dX10_takePlace_25 fl_X10_95 rfl (Or.inl ⟨rfl, SHL_lt rfl⟩) rfl rfl ?_
    refine V.iastore dX10_takePlace_28 (sY3 hY) (Or.inl ⟨rfl, SHL_lt (sY3 hY)⟩) (vp_in_nI he (by decide)) ?_
    rw [nI_clamp (show e < 2 ^ 31 by omega)]
    refine V.nameH (fun g5 eg5 => ?_)
    have rkg5 : RK g5 := by rw [eg5]; exact rkh2.uI _ _ (by omega)
    refine V.aload_n dX10_takePlace_29 rfl rfl rfl ?_
    refine V.iconst (v := 0) dX10_takePlace_30 rfl ?_
    refine V.aload_n dX10_takePlace_31 rfl rfl (sT0 hT) ?_
    refine V.getR (r := t + 1) dX10_takePlace_32 fl_X10_98 (sT0 hT) (Or.inl ⟨rfl, SHL_lt (sT0 hT)⟩) rfl (rT_hill rkg5.1 hT) ?_
    refine V.getI dX10_takePlace_35 fl_X10_109 (sH0 hT.H) (Or.inl ⟨rfl, SHL_lt (sH0 hT.H)⟩) rfl rfl ?_
    refine V.iconst (v := 1) dX10_takePlace_38 rfl ?_
    refine V.isub dX10_takePlace_39 ?_
    refine V.callVI dX10_takePlace_40 ml_X10_88 mo_X4_takeNumber mv_X4_takeNumber rfl (fun q hq => by cases hq; rfl) (by decide) (Or.inl ⟨rfl, SHL_lt rfl⟩) (sp_X4_takeNumber rkg5.1 rkg5.2.a9 rkg5.2.a rkg5.2.le rkg5.2.n rkg5.2.lt _ _) rfl rfl ⟨Nat.le_of_ble_eq_true rfl, Nat.le_of_ble_eq_true rfl, fun _ => ⟨rfl, rfl⟩⟩ (Nat.le_of_ble_eq_true rfl) rfl (fun r6 h7 p8 => ?_)
    replace p8 := takeN_of p8
    obtain ⟨er6, eh7⟩ := p8
    have rkh7 : RK h7 := by rw [eh7]; exact rkg5.tN _ _
    refine V.if_ne (tgt := 48) dX10_takePlace_43 (by decide) (fun c9 => ?_) (fun c9 => ?_)
    · refine V.aload_n dX10_takePlace_48 rfl rfl (sY0 hY) ?_
      refine V.getR (r := y + 4) dX10_takePlace_49 fl_X10_112 (sY0 hY) (Or.inl ⟨rfl, SHL_lt (sY0 hY)⟩) rfl (rY_seconds rkh7.1 hY) ?_
      refine V.iload_n dX10_takePlace_52 rfl rfl ?_
      refine V.aload_n dX10_takePlace_53 rfl rfl rfl ?_
      refine V.getI dX10_takePlace_54 fl_X10_95 rfl (Or.inl ⟨rfl, SHL_lt rfl⟩) rfl rfl ?_
      refine V.iastore dX10_takePlace_57 (sY4 hY) (Or.inl ⟨rfl, SHL_lt (sY4 hY)⟩) (vp_in_nI he (by decide)) ?_
      rw [nI_clamp (show e < 2 ^ 31 by omega)]
      refine V.nameH (fun g10 eg10 => ?_)
      have rkg10 : RK g10 := by rw [eg10]; exact rkh7.uI _ _ (by omega)
      refine V.iconst (v := 1) dX10_takePlace_58 rfl ?_
      refine V.ireturn dX10_takePlace_59 rfl rfl ⟨rfl, rfl⟩ rkh.1.1 ?_
      unfold placeYF
      dsimp only
      try rw [← er1]
      try rw [← eh2]
      try rw [← eg5]
      try rw [← er6]
      try rw [← eh7]
      try rw [← eg10]
      rw [if_neg c4, if_neg c9]
      first | exact ⟨rfl, rfl⟩ | exact ⟨by assumption, by assumption⟩
    · refine V.iconst (v := 0) dX10_takePlace_46 rfl ?_
      refine V.ireturn dX10_takePlace_47 rfl rfl ⟨rfl, rfl⟩ rkh.1.1 ?_
      unfold placeYF
      dsimp only
      try rw [← er1]
      try rw [← eh2]
      try rw [← eg5]
      try rw [← er6]
      try rw [← eh7]
      rw [if_neg c4, if_pos c9]
      first | exact ⟨rfl, rfl⟩ | exact ⟨by assumption, by assumption⟩
  · refine V.iconst (v := 0) dX10_takePlace_17 rfl ?_
    refine V.ireturn dX10_takePlace_18 rfl rfl ⟨rfl, rfl⟩ rkh.1.1 ?_
    unfold placeYF
    dsimp only
    try rw [← er1]
    try rw [← eh2]
    rw [if_pos c4]
    first | exact ⟨rfl, rfl⟩ | exact ⟨by assumption, by assumption⟩
set_option maxRecDepth 100000 in
theorem sp_X10_isStep (h : HP) (hn : h.1 = 130) (w : Int32) : Spec yX10_isStep cX10_isStep miX10_isStep [.int w] h (pI fun r h' => r = bI (decide (isStepW w)) ∧ h' = h) := by
  refine Spec.of (ls0 := [.int w]) mo_X10_isStep (Nat.le_of_ble_eq_true rfl) rfl ?_
  rw [hn]
  refine V.iload_n dX10_isStep_0 rfl rfl ?_
  refine V.bipush (v := 9) dX10_isStep_1 rfl ?_
  refine V.icmp_lt (tgt := 12) dX10_isStep_3 (by decide) (fun c1 => ?_) (fun c1 => ?_)
  · refine V.iload_n dX10_isStep_12 rfl rfl ?_
    refine V.bipush (v := 19) dX10_isStep_13 rfl ?_
    refine V.icmp_eq (tgt := 24) dX10_isStep_15 (by decide) (fun c2 => ?_) (fun c2 => ?_)
    · refine V.iconst (v := 1) dX10_isStep_24 rfl ?_
      refine V.goto (tgt := 29) dX10_isStep_25 (by decide) ?_
      refine V.ireturn dX10_isStep_29 rfl rfl ⟨rfl, rfl⟩ hn ?_
      refine ⟨?_, rfl⟩
      unfold isStepW
      first | exact bI_t (by simp only [Int32.lt_iff_toInt_lt, Int32.le_iff_toInt_le, Int32.reduceToInt, ← Int32.toInt_inj] at *; omega) | exact bI_f (by simp only [Int32.lt_iff_toInt_lt, Int32.le_iff_toInt_le, Int32.reduceToInt, ← Int32.toInt_inj] at *; omega)
    · refine V.iload_n dX10_isStep_18 rfl rfl ?_
      refine V.bipush (v := 21) dX10_isStep_19 rfl ?_
      refine V.icmp_ne (tgt := 28) dX10_isStep_21 (by decide) (fun c3 => ?_) (fun c3 => ?_)
      · refine V.iconst (v := 0) dX10_isStep_28 rfl ?_
        refine V.ireturn dX10_isStep_29 rfl rfl ⟨rfl, rfl⟩ hn ?_
        refine ⟨?_, rfl⟩
        unfold isStepW
        first | exact bI_t (by simp only [Int32.lt_iff_toInt_lt, Int32.le_iff_toInt_le, Int32.reduceToInt, ← Int32.toInt_inj] at *; omega) | exact bI_f (by simp only [Int32.lt_iff_toInt_lt, Int32.le_iff_toInt_le, Int32.reduceToInt, ← Int32.toInt_inj] at *; omega)
      · refine V.iconst (v := 1) dX10_isStep_24 rfl ?_
        refine V.goto (tgt := 29) dX10_isStep_25 (by decide) ?_
        refine V.ireturn dX10_isStep_29 rfl rfl ⟨rfl, rfl⟩ hn ?_
        refine ⟨?_, rfl⟩
        unfold isStepW
        first | exact bI_t (by simp only [Int32.lt_iff_toInt_lt, Int32.le_iff_toInt_le, Int32.reduceToInt, ← Int32.toInt_inj] at *; omega) | exact bI_f (by simp only [Int32.lt_iff_toInt_lt, Int32.le_iff_toInt_le, Int32.reduceToInt, ← Int32.toInt_inj] at *; omega)
  · refine V.iload_n dX10_isStep_6 rfl rfl ?_
    refine V.bipush (v := 15) dX10_isStep_7 rfl ?_
    refine V.icmp_le (tgt := 24) dX10_isStep_9 (by decide) (fun c4 => ?_) (fun c4 => ?_)
    · refine V.iconst (v := 1) dX10_isStep_24 rfl ?_
      refine V.goto (tgt := 29) dX10_isStep_25 (by decide) ?_
      refine V.ireturn dX10_isStep_29 rfl rfl ⟨rfl, rfl⟩ hn ?_
      refine ⟨?_, rfl⟩
      unfold isStepW
      first | exact bI_t (by simp only [Int32.lt_iff_toInt_lt, Int32.le_iff_toInt_le, Int32.reduceToInt, ← Int32.toInt_inj] at *; omega) | exact bI_f (by simp only [Int32.lt_iff_toInt_lt, Int32.le_iff_toInt_le, Int32.reduceToInt, ← Int32.toInt_inj] at *; omega)
    · refine V.iload_n dX10_isStep_12 rfl rfl ?_
      refine V.bipush (v := 19) dX10_isStep_13 rfl ?_
      refine V.icmp_eq (tgt := 24) dX10_isStep_15 (by decide) (fun c5 => ?_) (fun c5 => ?_)
      · refine V.iconst (v := 1) dX10_isStep_24 rfl ?_
        refine V.goto (tgt := 29) dX10_isStep_25 (by decide) ?_
        refine V.ireturn dX10_isStep_29 rfl rfl ⟨rfl, rfl⟩ hn ?_
        refine ⟨?_, rfl⟩
        unfold isStepW
        first | exact bI_t (by simp only [Int32.lt_iff_toInt_lt, Int32.le_iff_toInt_le, Int32.reduceToInt, ← Int32.toInt_inj] at *; omega) | exact bI_f (by simp only [Int32.lt_iff_toInt_lt, Int32.le_iff_toInt_le, Int32.reduceToInt, ← Int32.toInt_inj] at *; omega)
      · refine V.iload_n dX10_isStep_18 rfl rfl ?_
        refine V.bipush (v := 21) dX10_isStep_19 rfl ?_
        refine V.icmp_ne (tgt := 28) dX10_isStep_21 (by decide) (fun c6 => ?_) (fun c6 => ?_)
        · refine V.iconst (v := 0) dX10_isStep_28 rfl ?_
          refine V.ireturn dX10_isStep_29 rfl rfl ⟨rfl, rfl⟩ hn ?_
          refine ⟨?_, rfl⟩
          unfold isStepW
          first | exact bI_t (by simp only [Int32.lt_iff_toInt_lt, Int32.le_iff_toInt_le, Int32.reduceToInt, ← Int32.toInt_inj] at *; omega) | exact bI_f (by simp only [Int32.lt_iff_toInt_lt, Int32.le_iff_toInt_le, Int32.reduceToInt, ← Int32.toInt_inj] at *; omega)
        · refine V.iconst (v := 1) dX10_isStep_24 rfl ?_
          refine V.goto (tgt := 29) dX10_isStep_25 (by decide) ?_
          refine V.ireturn dX10_isStep_29 rfl rfl ⟨rfl, rfl⟩ hn ?_
          refine ⟨?_, rfl⟩
          unfold isStepW
          first | exact bI_t (by simp only [Int32.lt_iff_toInt_lt, Int32.le_iff_toInt_le, Int32.reduceToInt, ← Int32.toInt_inj] at *; omega) | exact bI_f (by simp only [Int32.lt_iff_toInt_lt, Int32.le_iff_toInt_le, Int32.reduceToInt, ← Int32.toInt_inj] at *; omega)
/-- the first of m that is x, from the k-th on -/
def fndN (f : Nat → Int64) (x : Int64) : Nat → Nat → Int32
  | 0, _ => -1
  | n + 1, k => if f k = x then nI k else fndN f x n (k + 1)
theorem fnd_at {f : Nat → Int64} {x : Int64} {k : Nat} (hk : f k = x) : ∀ n i, i ≤ k → k < i + n → (∀ j, j < k → f j ≠ x) → fndN f x n i = nI k
  | 0, i, h1, h2, _ => absurd h2 (by omega)
  | n + 1, i, h1, h2, h3 => by
    unfold fndN
    by_cases q : i = k
    · rw [q, if_pos hk]
    · rw [if_neg (h3 i (by omega))]
      exact fnd_at hk n (i + 1) (by omega) (by omega) h3
theorem fnd_no {f : Nat → Int64} {x : Int64} : ∀ n i, (∀ j, i ≤ j → j < i + n → f j ≠ x) → fndN f x n i = -1
  | 0, _, _ => rfl
  | n + 1, i, h => by
    unfold fndN
    rw [if_neg (h i (by omega) (by omega))]
    exact fnd_no n (i + 1) (fun j h1 h2 => h j (by omega) (by omega))
theorem fnd_of {f : Nat → Int64} {x : Int64} {m : Nat} {r : Int32} (p : (∃ k, k < m ∧ f k = x ∧ (∀ j, j < k → f j ≠ x) ∧ r = nI k) ∨ ((∀ j, j < m → f j ≠ x) ∧ r = -1)) : r = fndN f x m 0 := by
  rcases p with ⟨k, h1, h2, h3, h4⟩ | ⟨h1, h2⟩
  · rw [h4]; exact (fnd_at h2 m 0 (by omega) (by omega) h3).symm
  · rw [h2]; exact (fnd_no m 0 (fun j _ h => h1 j (by omega))).symm
def ruleNameF (h : HP) (t y e : Nat) : Int32 × HP :=
  if isNm h then
    if fndN (hL h (t + 9)) (hL h 12 (tA h)) (tM h t) 0 < 0 then (0, failF h 3) else
    (1, advF (uI h (y + 3) e (fndN (hL h (t + 9)) (hL h 12 (tA h)) (tM h t) 0)))
  else (0, failF h 2)
set_option maxRecDepth 100000 in
theorem sp_X10_takeRuleName {h : HP} (rkh : RK h) {t : Nat} (hT : isT t) (tph : TP h t) {y : Nat} (hY : isY y) {e : Nat} (he : e < 60)  : Spec yX10_takeRuleName cX10_takeRuleName miX10_takeRuleName [.ref 5, .ref t, .ref y, .int (nI e)] h (pI fun r h' => r = (ruleNameF h t y e).1 ∧ h' = (ruleNameF h t y e).2) := by
  refine Spec.of (ls0 := [.ref 5, .ref t, .ref y, .int (nI e), .null]) mo_X10_takeRuleName (Nat.le_of_ble_eq_true rfl) rfl ?_
  rw [rkh.1.1]
  have hy14 := isY_ge hY
  refine V.aload_n dX10_takeRuleName_0 rfl rfl rfl ?_
  refine V.callVI dX10_takeRuleName_1 ml_X10_115 mo_X4_isName mv_X4_isName rfl (fun q hq => by cases hq; rfl) (by decide) (Or.inl ⟨rfl, SHL_lt rfl⟩) (sp_X4_isName rkh.1 rkh.2.a9 rkh.2.a) rfl rfl ⟨Nat.le_of_ble_eq_true rfl, Nat.le_of_ble_eq_true rfl, fun _ => ⟨rfl, rfl⟩⟩ (Nat.le_of_ble_eq_true rfl) rfl (fun r1 h2 p3 => ?_)
  obtain ⟨er1, p3⟩ := p3
  have p3 := p3.symm
  subst p3
  refine V.if_ne (tgt := 13) dX10_takeRuleName_4 (by decide) (fun c4 => ?_) (fun c4 => ?_)
  · rw [er1, bI_0, Decidable.not_not] at c4
    refine V.aload_n dX10_takeRuleName_13 rfl rfl (sT0 hT) ?_
    refine V.aload_n dX10_takeRuleName_14 rfl rfl rfl ?_
    refine V.callVL dX10_takeRuleName_15 ml_X10_118 mo_X4_name mv_X4_name rfl (fun q hq => by cases hq; rfl) (by decide) (Or.inl ⟨rfl, SHL_lt rfl⟩) (sp_X4_name rkh.1 rkh.2.a9 rkh.2.a) rfl rfl ⟨Nat.le_of_ble_eq_true rfl, Nat.le_of_ble_eq_true rfl, fun _ => ⟨rfl, rfl⟩⟩ (Nat.le_of_ble_eq_true rfl) rfl (fun r5 h6 p7 => ?_)
    obtain ⟨er5, p7⟩ := p7
    have p7 := p7.symm
    subst p7
    refine V.callVI dX10_takeRuleName_18 ml_X10_122 mo_X5_ruleNamed mv_X5_ruleNamed (sT0 hT) (fun q hq => by cases hq; rfl) (by decide) (Or.inl ⟨rfl, SHL_lt (sT0 hT)⟩) (sp_X5_ruleNamed rkh.1 hT tph.1.1 tph.1.2 _) rfl rfl ⟨Nat.le_of_ble_eq_true rfl, Nat.le_of_ble_eq_true rfl, fun _ => ⟨rfl, rfl⟩⟩ (Nat.le_of_ble_eq_true rfl) rfl (fun r8 h9 p10 => ?_)
    obtain ⟨qr8, p10⟩ := p10
    have p10 := p10.symm
    subst p10
    have er8 := fnd_of qr8
    refine V.istore (ls' := [.ref 5, .ref t, .ref y, .int (nI e), .int r8]) dX10_takeRuleName_21 (by decide) rfl ?_
    refine V.iload dX10_takeRuleName_23 rfl ?_
    refine V.if_ge (tgt := 34) dX10_takeRuleName_25 (by decide) (fun c11 => ?_) (fun c11 => ?_)
    · refine V.aload_n dX10_takeRuleName_34 rfl rfl (sY0 hY) ?_
      refine V.getR (r := y + 3) dX10_takeRuleName_35 fl_X10_92 (sY0 hY) (Or.inl ⟨rfl, SHL_lt (sY0 hY)⟩) rfl (rY_firsts rkh.1 hY) ?_
      refine V.iload_n dX10_takeRuleName_38 rfl rfl ?_
      refine V.iload dX10_takeRuleName_39 rfl ?_
      refine V.iastore dX10_takeRuleName_41 (sY3 hY) (Or.inl ⟨rfl, SHL_lt (sY3 hY)⟩) (vp_in_nI he (by decide)) ?_
      rw [nI_clamp (show e < 2 ^ 31 by omega)]
      refine V.nameH (fun g12 eg12 => ?_)
      have rkg12 : RK g12 := by rw [eg12]; exact rkh.uI _ _ (by omega)
      refine V.aload_n dX10_takeRuleName_42 rfl rfl rfl ?_
      refine V.callVV dX10_takeRuleName_43 ml_X10_57 mo_X4_advance mv_X4_advance rfl (fun q hq => by cases hq; rfl) (by decide) (Or.inl ⟨rfl, SHL_lt rfl⟩) (sp_X4_advance rkg12.1 rkg12.2.a9 rkg12.2.a rkg12.2.le rkg12.2.n rkg12.2.lt) rfl rfl ⟨Nat.le_of_ble_eq_true rfl, Nat.le_of_ble_eq_true rfl, fun _ => ⟨rfl, rfl⟩⟩ (Nat.le_of_ble_eq_true rfl) (Or.inl rfl) (fun h13 p14 => ?_)
      have eh13 := p14
      replace eh13 : h13 = advF g12 := eh13
      have rkh13 : RK h13 := by rw [eh13]; exact rkg12.adv
      refine V.iconst (v := 1) dX10_takeRuleName_46 rfl ?_
      refine V.ireturn dX10_takeRuleName_47 rfl rfl ⟨rfl, rfl⟩ rkh.1.1 ?_
      unfold ruleNameF
      try rw [← er5]
      try rw [← er8]
      try rw [← eg12]
      try rw [← eh13]
      rw [if_pos c4, if_neg (Int32.not_lt.mpr c11)]
      first | exact ⟨rfl, rfl⟩ | exact ⟨by assumption, rfl⟩ | exact ⟨by assumption, by assumption⟩
    · refine V.aload_n dX10_takeRuleName_28 rfl rfl rfl ?_
      refine V.iconst (v := 3) dX10_takeRuleName_29 rfl ?_
      refine V.callVI dX10_takeRuleName_30 ml_X10_43 mo_X4_fail mv_X4_fail rfl (fun q hq => by cases hq; rfl) (by decide) (Or.inl ⟨rfl, SHL_lt rfl⟩) (sp_X4_fail rkh.1 rkh.2.a9 rkh.2.a _) rfl rfl ⟨Nat.le_of_ble_eq_true rfl, Nat.le_of_ble_eq_true rfl, fun _ => ⟨rfl, rfl⟩⟩ (Nat.le_of_ble_eq_true rfl) rfl (fun r15 h16 p17 => ?_)
      obtain ⟨er15, eh16⟩ := p17
      replace eh16 : h16 = failF h _ := eh16
      have rkh16 : RK h16 := by rw [eh16]; exact rkh.fail _
      refine V.ireturn dX10_takeRuleName_33 rfl (by rw [er15]; first | rfl | exact bI_01 _ | exact takeK_01 _ _ _) ⟨rfl, rfl⟩ rkh.1.1 ?_
      unfold ruleNameF
      try rw [← er5]
      try rw [← er8]
      try rw [← eh16]
      rw [if_pos c4, if_pos (Int32.not_le.mp c11)]
      first | exact ⟨rfl, rfl⟩ | exact ⟨by assumption, rfl⟩ | exact ⟨by assumption, by assumption⟩
  · rw [er1, bI_0] at c4
    refine V.aload_n dX10_takeRuleName_7 rfl rfl rfl ?_
    refine V.iconst (v := 2) dX10_takeRuleName_8 rfl ?_
    refine V.callVI dX10_takeRuleName_9 ml_X10_43 mo_X4_fail mv_X4_fail rfl (fun q hq => by cases hq; rfl) (by decide) (Or.inl ⟨rfl, SHL_lt rfl⟩) (sp_X4_fail rkh.1 rkh.2.a9 rkh.2.a _) rfl rfl ⟨Nat.le_of_ble_eq_true rfl, Nat.le_of_ble_eq_true rfl, fun _ => ⟨rfl, rfl⟩⟩ (Nat.le_of_ble_eq_true rfl) rfl (fun r18 h19 p20 => ?_)
    obtain ⟨er18, eh19⟩ := p20
    replace eh19 : h19 = failF h _ := eh19
    have rkh19 : RK h19 := by rw [eh19]; exact rkh.fail _
    refine V.ireturn dX10_takeRuleName_12 rfl (by rw [er18]; first | rfl | exact bI_01 _ | exact takeK_01 _ _ _) ⟨rfl, rfl⟩ rkh.1.1 ?_
    unfold ruleNameF
    try rw [← eh19]
    rw [if_neg c4]
    first | exact ⟨rfl, rfl⟩ | exact ⟨by assumption, rfl⟩ | exact ⟨by assumption, by assumption⟩
