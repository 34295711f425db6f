/-! ===== the class's town: its rule, one night, many ===== -/
theorem nI_div {a b : Nat} (hb : 0 < b) (ha : a < 2 ^ 31) (hb2 : b < 2 ^ 31) : nI a / nI b = nI (a / b) := by
  apply Int32.toInt_inj.mp
  have h1 : a / b ≤ a := Nat.div_le_self a b
  rw [Int32.toInt_div, nI_toInt ha, nI_toInt hb2, nI_toInt (by omega), ← Int.ofNat_tdiv, Int.bmod_def]
  generalize a / b = q at *
  split <;> omega
theorem nI_rem {a b : Nat} (hb : 0 < b) (ha : a < 2 ^ 31) (hb2 : b < 2 ^ 31) : nI a - nI a / nI b * nI b = nI (a % b) := by
  rw [nI_div hb ha hb2, nI_mul, nI_sub (Nat.div_mul_le_self a b)]
  congr 1
  have := Nat.div_add_mod a b
  rw [Nat.mul_comm] at this
  omega
def itN (F : Int32 → Int32) : Nat → Int32 → Int32
  | 0, x => x
  | n + 1, x => itN F n (F x)
theorem itN_add (F : Int32 → Int32) : ∀ (a b : Nat) (x : Int32), itN F (a + b) x = itN F b (itN F a x)
  | 0, b, x => by rw [Nat.zero_add]; rfl
  | a + 1, b, x => by rw [show a + 1 + b = (a + b) + 1 by omega]; exact itN_add F a b (F x)
theorem itN_last (F : Int32 → Int32) (n : Nat) (x : Int32) : itN F (n + 1) x = F (itN F n x) := itN_add F n 1 x
theorem itN_cyc {F : Int32 → Int32} {p : Nat} {x : Int32} (h : itN F p x = x) : ∀ k, itN F (k * p) x = x
  | 0 => by rw [Nat.zero_mul]; rfl
  | k + 1 => by rw [Nat.succ_mul, itN_add, itN_cyc h k, h]
def bornF (h : HP) (t : Nat) : Int32 := if 0 ≤ (hI h t 12).toInt ∧ (hI h t 12).toInt < (hI h t 10).toInt then hI h (t + 10) (hI h t 12).toNatClampNeg else 0
def staysF (h : HP) (t : Nat) : Int32 := if 0 ≤ (hI h t 12).toInt ∧ (hI h t 12).toInt < (hI h t 10).toInt then hI h (t + 11) (hI h t 12).toNatClampNeg else 0
theorem bornF_sc (h : HP) (t : Nat) (g : Nat → Int32) : bornF (rI h (t + 1 + 1) g) t = bornF h t := by
  unfold bornF; rw [hI_rI_n _ _ (by omega), hI_rI_n _ _ (by omega)]
theorem staysF_sc (h : HP) (t : Nat) (g : Nat → Int32) : staysF (rI h (t + 1 + 1) g) t = staysF h t := by
  unfold staysF; rw [hI_rI_n _ _ (by omega), hI_rI_n _ _ (by omega)]
def nxF (h : HP) (t : Nat) (x : Int32) : Int32 := stepF (hI h (t + 1)) x (bornF h t) (staysF h t)
theorem nxF_sc (h : HP) (t : Nat) (g : Nat → Int32) : nxF (rI h (t + 1 + 1) g) t = nxF h t := by
  funext x; unfold nxF; rw [bornF_sc, staysF_sc, hI_rI_n _ _ (by omega)]
set_option maxRecDepth 100000 in
theorem sp_X5_hasRule {h : HP} (ly : Lay h) {t : Nat} (hT : isT t) (r : Int32) : Spec yX5_hasRule cX5_hasRule miX5_hasRule [.ref t, .int r] h (pI fun r' h' => r' = bI (decide (0 ≤ r.toInt ∧ r.toInt < (hI h t 10).toInt)) ∧ h' = h) := by
  refine Spec.of (ls0 := [.ref t, .int r]) mo_X5_hasRule (Nat.le_of_ble_eq_true rfl) rfl ?_
  rw [ly.1]
  refine V.iload_n dX5_hasRule_0 rfl rfl ?_
  refine V.if_lt (tgt := 16) dX5_hasRule_1 (by decide) (fun c1 => ?_) (fun c1 => ?_)
  · refine V.iconst (v := 0) dX5_hasRule_16 rfl ?_
    refine V.ireturn dX5_hasRule_17 rfl rfl ⟨rfl, rfl⟩ ly.1 ?_
    refine ⟨?_, rfl⟩
    simp only [Int32.lt_iff_toInt_lt, Int32.le_iff_toInt_le, Int32.reduceToInt] at *
    first | exact bI_t (by omega) | exact bI_f (by omega)
  · refine V.iload_n dX5_hasRule_4 rfl rfl ?_
    refine V.aload_n dX5_hasRule_5 rfl rfl (sT0 hT) ?_
    refine V.getI dX5_hasRule_6 fl_X5_68 (sT0 hT) (Or.inl ⟨rfl, SHL_lt (sT0 hT)⟩) rfl rfl ?_
    refine V.icmp_ge (tgt := 16) dX5_hasRule_9 (by decide) (fun c2 => ?_) (fun c2 => ?_)
    · refine V.iconst (v := 0) dX5_hasRule_16 rfl ?_
      refine V.ireturn dX5_hasRule_17 rfl rfl ⟨rfl, rfl⟩ ly.1 ?_
      refine ⟨?_, rfl⟩
      simp only [Int32.lt_iff_toInt_lt, Int32.le_iff_toInt_le, Int32.reduceToInt] at *
      first | exact bI_t (by omega) | exact bI_f (by omega)
    · refine V.iconst (v := 1) dX5_hasRule_12 rfl ?_
      refine V.goto (tgt := 17) dX5_hasRule_13 (by decide) ?_
      refine V.ireturn dX5_hasRule_17 rfl rfl ⟨rfl, rfl⟩ ly.1 ?_
      refine ⟨?_, rfl⟩
      simp only [Int32.lt_iff_toInt_lt, Int32.le_iff_toInt_le, Int32.reduceToInt] at *
      first | exact bI_t (by omega) | exact bI_f (by omega)
set_option maxRecDepth 100000 in
theorem sp_X5_hasCitizen {h : HP} (ly : Lay h) {t : Nat} (hT : isT t) (c : Int32) : Spec yX5_hasCitizen cX5_hasCitizen miX5_hasCitizen [.ref t, .int c] h (pI fun r' h' => r' = bI (decide (0 ≤ c.toInt ∧ c.toInt < (hI h t 11).toInt)) ∧ h' = h) := by
  refine Spec.of (ls0 := [.ref t, .int c]) mo_X5_hasCitizen (Nat.le_of_ble_eq_true rfl) rfl ?_
  rw [ly.1]
  refine V.iload_n dX5_hasCitizen_0 rfl rfl ?_
  refine V.if_lt (tgt := 16) dX5_hasCitizen_1 (by decide) (fun c1 => ?_) (fun c1 => ?_)
  · refine V.iconst (v := 0) dX5_hasCitizen_16 rfl ?_
    refine V.ireturn dX5_hasCitizen_17 rfl rfl ⟨rfl, rfl⟩ ly.1 ?_
    refine ⟨?_, rfl⟩
    simp only [Int32.lt_iff_toInt_lt, Int32.le_iff_toInt_le, Int32.reduceToInt] at *
    first | exact bI_t (by omega) | exact bI_f (by omega)
  · refine V.iload_n dX5_hasCitizen_4 rfl rfl ?_
    refine V.aload_n dX5_hasCitizen_5 rfl rfl (sT0 hT) ?_
    refine V.getI dX5_hasCitizen_6 fl_X5_72 (sT0 hT) (Or.inl ⟨rfl, SHL_lt (sT0 hT)⟩) rfl rfl ?_
    refine V.icmp_ge (tgt := 16) dX5_hasCitizen_9 (by decide) (fun c2 => ?_) (fun c2 => ?_)
    · refine V.iconst (v := 0) dX5_hasCitizen_16 rfl ?_
      refine V.ireturn dX5_hasCitizen_17 rfl rfl ⟨rfl, rfl⟩ ly.1 ?_
      refine ⟨?_, rfl⟩
      simp only [Int32.lt_iff_toInt_lt, Int32.le_iff_toInt_le, Int32.reduceToInt] at *
      first | exact bI_t (by omega) | exact bI_f (by omega)
    · refine V.iconst (v := 1) dX5_hasCitizen_12 rfl ?_
      refine V.goto (tgt := 17) dX5_hasCitizen_13 (by decide) ?_
      refine V.ireturn dX5_hasCitizen_17 rfl rfl ⟨rfl, rfl⟩ ly.1 ?_
      refine ⟨?_, rfl⟩
      simp only [Int32.lt_iff_toInt_lt, Int32.le_iff_toInt_le, Int32.reduceToInt] at *
      first | exact bI_t (by omega) | exact bI_f (by omega)
set_option maxRecDepth 100000 in
theorem sp_X5_bornNow {h : HP} (ly : Lay h) {t : Nat} (hT : isT t) (hr : (hI h t 10).toInt ≤ 4) : Spec yX5_bornNow cX5_bornNow miX5_bornNow [.ref t] h (pI fun r h' => r = bornF h t ∧ h' = h) := by
  refine Spec.of (ls0 := [.ref t]) mo_X5_bornNow (Nat.le_of_ble_eq_true rfl) rfl ?_
  rw [ly.1]
  refine V.aload_n dX5_bornNow_0 rfl rfl (sT0 hT) ?_
  refine V.getI dX5_bornNow_1 fl_X5_75 (sT0 hT) (Or.inl ⟨rfl, SHL_lt (sT0 hT)⟩) rfl rfl ?_
  refine V.if_lt (tgt := 30) dX5_bornNow_4 (by decide) (fun c1 => ?_) (fun c1 => ?_)
  · refine V.iconst (v := 0) dX5_bornNow_30 rfl ?_
    refine V.ireturn dX5_bornNow_31 rfl rfl ⟨rfl, rfl⟩ ly.1 ?_
    refine ⟨?_, rfl⟩
    unfold bornF
    simp only [Int32.lt_iff_toInt_lt, Int32.le_iff_toInt_le, Int32.reduceToInt] at *
    first | (rw [if_pos (by omega)]; done) | (rw [if_neg (by omega)]; done)
  · refine V.aload_n dX5_bornNow_7 rfl rfl (sT0 hT) ?_
    refine V.getI dX5_bornNow_8 fl_X5_75 (sT0 hT) (Or.inl ⟨rfl, SHL_lt (sT0 hT)⟩) rfl rfl ?_
    refine V.aload_n dX5_bornNow_11 rfl rfl (sT0 hT) ?_
    refine V.getI dX5_bornNow_12 fl_X5_68 (sT0 hT) (Or.inl ⟨rfl, SHL_lt (sT0 hT)⟩) rfl rfl ?_
    refine V.icmp_ge (tgt := 30) dX5_bornNow_15 (by decide) (fun c2 => ?_) (fun c2 => ?_)
    · refine V.iconst (v := 0) dX5_bornNow_30 rfl ?_
      refine V.ireturn dX5_bornNow_31 rfl rfl ⟨rfl, rfl⟩ ly.1 ?_
      refine ⟨?_, rfl⟩
      unfold bornF
      simp only [Int32.lt_iff_toInt_lt, Int32.le_iff_toInt_le, Int32.reduceToInt] at *
      first | (rw [if_pos (by omega)]; done) | (rw [if_neg (by omega)]; done)
    · refine V.aload_n dX5_bornNow_18 rfl rfl (sT0 hT) ?_
      refine V.getR (r := t + 10) dX5_bornNow_19 fl_X5_29 (sT0 hT) (Or.inl ⟨rfl, SHL_lt (sT0 hT)⟩) rfl (rT_bornBy ly hT) ?_
      refine V.aload_n dX5_bornNow_22 rfl rfl (sT0 hT) ?_
      refine V.getI dX5_bornNow_23 fl_X5_75 (sT0 hT) (Or.inl ⟨rfl, SHL_lt (sT0 hT)⟩) rfl rfl ?_
      refine V.iaload dX5_bornNow_26 (sT10 hT) (Or.inl ⟨rfl, SHL_lt (sT10 hT)⟩) (by simp only [Int32.lt_iff_toInt_lt, Int32.le_iff_toInt_le, Int32.reduceToInt] at *; exact vp_in_iff.mpr (by omega)) ?_
      refine V.goto (tgt := 31) dX5_bornNow_27 (by decide) ?_
      refine V.ireturn dX5_bornNow_31 rfl rfl ⟨rfl, rfl⟩ ly.1 ?_
      refine ⟨?_, rfl⟩
      unfold bornF
      simp only [Int32.lt_iff_toInt_lt, Int32.le_iff_toInt_le, Int32.reduceToInt] at *
      first | (rw [if_pos (by omega)]; done) | (rw [if_neg (by omega)]; done)
set_option maxRecDepth 100000 in
theorem sp_X5_staysNow {h : HP} (ly : Lay h) {t : Nat} (hT : isT t) (hr : (hI h t 10).toInt ≤ 4) : Spec yX5_staysNow cX5_staysNow miX5_staysNow [.ref t] h (pI fun r h' => r = staysF h t ∧ h' = h) := by
  refine Spec.of (ls0 := [.ref t]) mo_X5_staysNow (Nat.le_of_ble_eq_true rfl) rfl ?_
  rw [ly.1]
  refine V.aload_n dX5_staysNow_0 rfl rfl (sT0 hT) ?_
  refine V.getI dX5_staysNow_1 fl_X5_75 (sT0 hT) (Or.inl ⟨rfl, SHL_lt (sT0 hT)⟩) rfl rfl ?_
  refine V.if_lt (tgt := 30) dX5_staysNow_4 (by decide) (fun c1 => ?_) (fun c1 => ?_)
  · refine V.iconst (v := 0) dX5_staysNow_30 rfl ?_
    refine V.ireturn dX5_staysNow_31 rfl rfl ⟨rfl, rfl⟩ ly.1 ?_
    refine ⟨?_, rfl⟩
    unfold staysF
    simp only [Int32.lt_iff_toInt_lt, Int32.le_iff_toInt_le, Int32.reduceToInt] at *
    first | (rw [if_pos (by omega)]; done) | (rw [if_neg (by omega)]; done)
  · refine V.aload_n dX5_staysNow_7 rfl rfl (sT0 hT) ?_
    refine V.getI dX5_staysNow_8 fl_X5_75 (sT0 hT) (Or.inl ⟨rfl, SHL_lt (sT0 hT)⟩) rfl rfl ?_
    refine V.aload_n dX5_staysNow_11 rfl rfl (sT0 hT) ?_
    refine V.getI dX5_staysNow_12 fl_X5_68 (sT0 hT) (Or.inl ⟨rfl, SHL_lt (sT0 hT)⟩) rfl rfl ?_
    refine V.icmp_ge (tgt := 30) dX5_staysNow_15 (by decide) (fun c2 => ?_) (fun c2 => ?_)
    · refine V.iconst (v := 0) dX5_staysNow_30 rfl ?_
      refine V.ireturn dX5_staysNow_31 rfl rfl ⟨rfl, rfl⟩ ly.1 ?_
      refine ⟨?_, rfl⟩
      unfold staysF
      simp only [Int32.lt_iff_toInt_lt, Int32.le_iff_toInt_le, Int32.reduceToInt] at *
      first | (rw [if_pos (by omega)]; done) | (rw [if_neg (by omega)]; done)
    · refine V.aload_n dX5_staysNow_18 rfl rfl (sT0 hT) ?_
      refine V.getR (r := t + 11) dX5_staysNow_19 fl_X5_33 (sT0 hT) (Or.inl ⟨rfl, SHL_lt (sT0 hT)⟩) rfl (rT_staysBy ly hT) ?_
      refine V.aload_n dX5_staysNow_22 rfl rfl (sT0 hT) ?_
      refine V.getI dX5_staysNow_23 fl_X5_75 (sT0 hT) (Or.inl ⟨rfl, SHL_lt (sT0 hT)⟩) rfl rfl ?_
      refine V.iaload dX5_staysNow_26 (sT11 hT) (Or.inl ⟨rfl, SHL_lt (sT11 hT)⟩) (by simp only [Int32.lt_iff_toInt_lt, Int32.le_iff_toInt_le, Int32.reduceToInt] at *; exact vp_in_iff.mpr (by omega)) ?_
      refine V.goto (tgt := 31) dX5_staysNow_27 (by decide) ?_
      refine V.ireturn dX5_staysNow_31 rfl rfl ⟨rfl, rfl⟩ ly.1 ?_
      refine ⟨?_, rfl⟩
      unfold staysF
      simp only [Int32.lt_iff_toInt_lt, Int32.le_iff_toInt_le, Int32.reduceToInt] at *
      first | (rw [if_pos (by omega)]; done) | (rw [if_neg (by omega)]; done)
set_option maxRecDepth 100000 in
theorem sp_X5_nextOf {h : HP} (ly : Lay h) {t : Nat} (hT : isT t) (hr : (hI h t 10).toInt ≤ 4) (x : Int32) : Spec yX5_nextOf cX5_nextOf miX5_nextOf [.ref t, .int x] h (pI fun r h' => r = nxF h t x ∧ h' = litH h (t + 1) x) := by
  refine Spec.of (ls0 := [.ref t, .int x]) mo_X5_nextOf (Nat.le_of_ble_eq_true rfl) rfl ?_
  rw [ly.1]
  refine V.aload_n dX5_nextOf_0 rfl rfl (sT0 hT) ?_
  refine V.getR (r := t + 1) dX5_nextOf_1 fl_X5_12 (sT0 hT) (Or.inl ⟨rfl, SHL_lt (sT0 hT)⟩) rfl (rT_hill ly hT) ?_
  refine V.iload_n dX5_nextOf_4 rfl rfl ?_
  refine V.aload_n dX5_nextOf_5 rfl rfl (sT0 hT) ?_
  refine V.callVI dX5_nextOf_6 ml_X5_119 mo_X5_bornNow mv_X5_bornNow (sT0 hT) (fun q hq => by cases hq; rfl) (by decide) (Or.inl ⟨rfl, SHL_lt (sT0 hT)⟩) (sp_X5_bornNow (by exact ly.keep rfl rfl) hT (by first | exact hr | (rw [hI_rI_n _ _ (by omega)]; exact hr))) rfl rfl ⟨Nat.le_of_ble_eq_true rfl, Nat.le_of_ble_eq_true rfl, fun _ => ⟨rfl, rfl⟩⟩ (Nat.le_of_ble_eq_true rfl) rfl (fun r1 h2 p3 => ?_)
  obtain ⟨er1, p3⟩ := p3
  have p3 := p3.symm
  subst p3
  refine V.aload_n dX5_nextOf_9 rfl rfl (sT0 hT) ?_
  refine V.callVI dX5_nextOf_10 ml_X5_123 mo_X5_staysNow mv_X5_staysNow (sT0 hT) (fun q hq => by cases hq; rfl) (by decide) (Or.inl ⟨rfl, SHL_lt (sT0 hT)⟩) (sp_X5_staysNow (by exact ly.keep rfl rfl) hT (by first | exact hr | (rw [hI_rI_n _ _ (by omega)]; exact hr))) rfl rfl ⟨Nat.le_of_ble_eq_true rfl, Nat.le_of_ble_eq_true rfl, fun _ => ⟨rfl, rfl⟩⟩ (Nat.le_of_ble_eq_true rfl) rfl (fun r4 h5 p6 => ?_)
  obtain ⟨er4, p6⟩ := p6
  have p6 := p6.symm
  subst p6
  refine V.callVI dX5_nextOf_13 ml_X5_126 mo_X1_step mv_X1_step (sH0 hT.H) (fun q hq => by cases hq; rfl) (by decide) (Or.inl ⟨rfl, SHL_lt (sH0 hT.H)⟩) (sp_X1_step (by exact ly.keep rfl rfl) hT.H _ _ _) rfl rfl ⟨Nat.le_of_ble_eq_true rfl, Nat.le_of_ble_eq_true rfl, fun _ => ⟨rfl, rfl⟩⟩ (Nat.le_of_ble_eq_true rfl) rfl (fun r7 h8 p9 => ?_)
  obtain ⟨er7, p9⟩ := p9
  have p9 := p9.symm
  subst p9
  refine V.ireturn dX5_nextOf_16 rfl rfl ⟨rfl, rfl⟩ ly.1 ?_
  exact ⟨by subst_vars; rfl, rfl⟩
set_option maxRecDepth 100000 in
theorem sp_X5_isStill {h : HP} (ly : Lay h) {t : Nat} (hT : isT t) (hr : (hI h t 10).toInt ≤ 4) : Spec yX5_isStill cX5_isStill miX5_isStill [.ref t] h (pI fun r h' => r = bI (decide (nxF h t (hI h t 13) = hI h t 13)) ∧ h' = litH h (t + 1) (hI h t 13)) := by
  refine Spec.of (ls0 := [.ref t]) mo_X5_isStill (Nat.le_of_ble_eq_true rfl) rfl ?_
  rw [ly.1]
  refine V.aload_n dX5_isStill_0 rfl rfl (sT0 hT) ?_
  refine V.getR (r := t + 1) dX5_isStill_1 fl_X5_12 (sT0 hT) (Or.inl ⟨rfl, SHL_lt (sT0 hT)⟩) rfl (rT_hill ly hT) ?_
  refine V.aload_n dX5_isStill_4 rfl rfl (sT0 hT) ?_
  refine V.getI dX5_isStill_5 fl_X5_78 (sT0 hT) (Or.inl ⟨rfl, SHL_lt (sT0 hT)⟩) rfl rfl ?_
  refine V.aload_n dX5_isStill_8 rfl rfl (sT0 hT) ?_
  refine V.callVI dX5_isStill_9 ml_X5_119 mo_X5_bornNow mv_X5_bornNow (sT0 hT) (fun q hq => by cases hq; rfl) (by decide) (Or.inl ⟨rfl, SHL_lt (sT0 hT)⟩) (sp_X5_bornNow (by exact ly.keep rfl rfl) hT (by first | exact hr | (rw [hI_rI_n _ _ (by omega)]; exact hr))) rfl rfl ⟨Nat.le_of_ble_eq_true rfl, Nat.le_of_ble_eq_true rfl, fun _ => ⟨rfl, rfl⟩⟩ (Nat.le_of_ble_eq_true rfl) rfl (fun r1 h2 p3 => ?_)
  obtain ⟨er1, p3⟩ := p3
  have p3 := p3.symm
  subst p3
  refine V.aload_n dX5_isStill_12 rfl rfl (sT0 hT) ?_
  refine V.callVI dX5_isStill_13 ml_X5_123 mo_X5_staysNow mv_X5_staysNow (sT0 hT) (fun q hq => by cases hq; rfl) (by decide) (Or.inl ⟨rfl, SHL_lt (sT0 hT)⟩) (sp_X5_staysNow (by exact ly.keep rfl rfl) hT (by first | exact hr | (rw [hI_rI_n _ _ (by omega)]; exact hr))) rfl rfl ⟨Nat.le_of_ble_eq_true rfl, Nat.le_of_ble_eq_true rfl, fun _ => ⟨rfl, rfl⟩⟩ (Nat.le_of_ble_eq_true rfl) rfl (fun r4 h5 p6 => ?_)
  obtain ⟨er4, p6⟩ := p6
  have p6 := p6.symm
  subst p6
  refine V.callVI dX5_isStill_16 ml_X5_126 mo_X1_step mv_X1_step (sH0 hT.H) (fun q hq => by cases hq; rfl) (by decide) (Or.inl ⟨rfl, SHL_lt (sH0 hT.H)⟩) (sp_X1_step (by exact ly.keep rfl rfl) hT.H _ _ _) rfl rfl ⟨Nat.le_of_ble_eq_true rfl, Nat.le_of_ble_eq_true rfl, fun _ => ⟨rfl, rfl⟩⟩ (Nat.le_of_ble_eq_true rfl) rfl (fun r7 h8 p9 => ?_)
  obtain ⟨er7, p9⟩ := p9
  have p9 := p9.symm
  subst p9
  refine V.aload_n dX5_isStill_19 rfl rfl (sT0 hT) ?_
  refine V.getI dX5_isStill_20 fl_X5_78 (sT0 hT) (Or.inl ⟨rfl, SHL_lt (sT0 hT)⟩) rfl rfl ?_
  refine V.icmp_ne (tgt := 30) dX5_isStill_23 (by decide) (fun c10 => ?_) (fun c10 => ?_)
  · refine V.iconst (v := 0) dX5_isStill_30 rfl ?_
    refine V.ireturn dX5_isStill_31 rfl rfl ⟨rfl, rfl⟩ ly.1 ?_
    refine ⟨?_, rfl⟩
    subst_vars
    simp only [hI_rI_n (a := t + 1 + 1) (b := t) _ _ (by omega)] at *
    first | exact bI_t (by first | assumption | (symm; assumption)) | exact bI_f (by first | assumption | (intro q; exact absurd q.symm (by assumption)))
  · refine V.iconst (v := 1) dX5_isStill_26 rfl ?_
    refine V.goto (tgt := 31) dX5_isStill_27 (by decide) ?_
    refine V.ireturn dX5_isStill_31 rfl rfl ⟨rfl, rfl⟩ ly.1 ?_
    refine ⟨?_, rfl⟩
    subst_vars
    simp only [hI_rI_n (a := t + 1 + 1) (b := t) _ _ (by omega)] at *
    first | exact bI_t (by first | assumption | (symm; assumption)) | exact bI_f (by first | assumption | (intro q; exact absurd q.symm (by assumption)))
set_option maxRecDepth 100000 in
theorem sp_X5_repaint {h : HP} (ly : Lay h) {t : Nat} (hT : isT t) (x : Int32) : Spec yX5_repaint cX5_repaint miX5_repaint [.ref t, .int x] h (pI fun r h' => r = nI (pc (hI h' t 13)) ∧ h' = uI h t 13 ((hI h t 13 &&& (hI h (t + 1) 5 ^^^ -1)) ||| (x &&& hI h (t + 1) 5))) := by
  refine Spec.of (ls0 := [.ref t, .int x]) mo_X5_repaint (Nat.le_of_ble_eq_true rfl) rfl ?_
  rw [ly.1]
  refine V.aload_n dX5_repaint_0 rfl rfl (sT0 hT) ?_
  refine V.aload_n dX5_repaint_1 rfl rfl (sT0 hT) ?_
  refine V.getI dX5_repaint_2 fl_X5_78 (sT0 hT) (Or.inl ⟨rfl, SHL_lt (sT0 hT)⟩) rfl rfl ?_
  refine V.aload_n dX5_repaint_5 rfl rfl (sT0 hT) ?_
  refine V.getR (r := t + 1) dX5_repaint_6 fl_X5_12 (sT0 hT) (Or.inl ⟨rfl, SHL_lt (sT0 hT)⟩) rfl (rT_hill ly hT) ?_
  refine V.getI dX5_repaint_9 fl_X5_96 (sH0 hT.H) (Or.inl ⟨rfl, SHL_lt (sH0 hT.H)⟩) rfl rfl ?_
  refine V.iconst (v := (-1)) dX5_repaint_12 rfl ?_
  refine V.ixor dX5_repaint_13 ?_
  refine V.iand dX5_repaint_14 ?_
  refine V.iload_n dX5_repaint_15 rfl rfl ?_
  refine V.aload_n dX5_repaint_16 rfl rfl (sT0 hT) ?_
  refine V.getR (r := t + 1) dX5_repaint_17 fl_X5_12 (sT0 hT) (Or.inl ⟨rfl, SHL_lt (sT0 hT)⟩) rfl (rT_hill ly hT) ?_
  refine V.getI dX5_repaint_20 fl_X5_96 (sH0 hT.H) (Or.inl ⟨rfl, SHL_lt (sH0 hT.H)⟩) rfl rfl ?_
  refine V.iand dX5_repaint_23 ?_
  refine V.ior dX5_repaint_24 ?_
  refine V.putI dX5_repaint_25 fl_X5_78 (sT0 hT) (Or.inl ⟨rfl, SHL_lt (sT0 hT)⟩) rfl (fun q hq => by cases hq; rfl) ⟨rfl, rfl⟩ ?_
  refine V.aload_n dX5_repaint_28 rfl rfl (sT0 hT) ?_
  refine V.getI dX5_repaint_29 fl_X5_78 (sT0 hT) (Or.inl ⟨rfl, SHL_lt (sT0 hT)⟩) rfl rfl ?_
  refine V.callSI dX5_repaint_32 ml_X5_130 mo_J6_bitCount_0f7a4 ms_J6_bitCount_0f7a4 (sp_J6_bitCount_0f7a4 _ _) rfl rfl ⟨Nat.le_of_ble_eq_true rfl, Nat.le_of_ble_eq_true rfl, fun _ => ⟨rfl, rfl⟩⟩ (Nat.le_of_ble_eq_true rfl) rfl (fun r1 h2 p3 => ?_)
  obtain ⟨er1, p3⟩ := p3
  have p3 := p3.symm
  subst p3
  refine V.ireturn dX5_repaint_35 rfl rfl ⟨rfl, rfl⟩ ly.1 ?_
  exact ⟨by assumption, rfl⟩
set_option maxRecDepth 100000 in
theorem lp_X5_after {h0 h1 : HP} (hn : h0.1 = 130) (ly : Lay h1) {t : Nat} (hT : isT t) {m : Nat} (hm : m < 2 ^ 20) {from_ target : Int32} {P : Int32 → HP → Prop} (hP : ∀ g, P target (rI h1 (t + 1 + 1) g)) :
    ∀ n j an (x anc span : Int32) (g : Nat → Int32), m + 2 ≤ j + n → 1 ≤ j → j ≤ m + 1 → an < j → itN (nxF h1 t) (m + 1 - j) x = target → itN (nxF h1 t) (j - 1 - an) anc = x →
    V cX5_after miX5_after (ZM h0 miX5_after.2.2.2.1 (pI P)) 130 26 [.ref t, .int from_, .int (nI m), .int (bornF h1 t), .int (staysF h1 t), .int x, .int anc, .int (nI an), .int span, .int (nI j), .null] [] (rI h1 (t + 1 + 1) g) := by
  intro n
  induction n with
  | zero => intro j an x anc span g h1 h2 h3; exact absurd h1 (by omega)
  | succ n ih =>
    intro j an x anc span g hf hj1 hj2 han htg hcy
    refine V.iload dX5_after_26 rfl ?_
    refine V.iload_n dX5_after_28 rfl rfl ?_
    refine V.icmp_gt (tgt := 110) dX5_after_29 (by decide) (fun c1 => ?_) (fun c1 => ?_)
    · have hk2 : j = m + 1 := by have h9 := c1; rw [nI_ltI (by omega) (by omega)] at h9; omega
      refine V.iload dX5_after_110 rfl ?_
      refine V.ireturn dX5_after_112 rfl rfl ⟨rfl, rfl⟩ hn ?_
      have e0 : x = target := by rw [← htg, hk2, Nat.sub_self]; rfl
      rw [e0]; exact hP g
    · have hlt : j ≤ m := by have h9 := c1; rw [nI_ltI (by omega) (by omega)] at h9; omega
      refine V.aload_n dX5_after_32 rfl rfl (sT0 hT) ?_
      refine V.getR (r := t + 1) dX5_after_33 fl_X5_12 (sT0 hT) (Or.inl ⟨rfl, SHL_lt (sT0 hT)⟩) rfl (rT_hill ly hT) ?_
      refine V.iload dX5_after_36 rfl ?_
      refine V.iload_n dX5_after_38 rfl rfl ?_
      refine V.iload dX5_after_39 rfl ?_
      refine V.callVI dX5_after_41 ml_X5_126 mo_X1_step mv_X1_step (sH0 hT.H) (fun q hq => by cases hq; rfl) (by decide) (Or.inl ⟨rfl, SHL_lt (sH0 hT.H)⟩) (sp_X1_step (by exact ly.keep rfl rfl) hT.H _ _ _) rfl rfl ⟨Nat.le_of_ble_eq_true rfl, Nat.le_of_ble_eq_true rfl, fun _ => ⟨rfl, rfl⟩⟩ (Nat.le_of_ble_eq_true rfl) rfl (fun r2 h3 p4 => ?_)
      obtain ⟨er2, p4⟩ := p4
      have p4 := p4.symm
      subst p4
      have es : r2 = nxF h1 t x := by rw [er2, hI_rI_n _ _ (by omega)]; rfl
      rw [show litH (rI h1 (t + 1 + 1) g) (t + 1) x = rI h1 (t + 1 + 1) (litRow (hI (rI h1 (t + 1 + 1) g) (t + 1 + 1)) (hI (rI h1 (t + 1 + 1) g) (t + 1)) x) from rI_rI _ _ _ _]
      generalize (litRow (hI (rI h1 (t + 1 + 1) g) (t + 1 + 1)) (hI (rI h1 (t + 1 + 1) g) (t + 1)) x) = g2
      have h1a : itN (nxF h1 t) (m - j) r2 = target := by rw [es, ← htg, show m + 1 - j = (m - j) + 1 by omega]; rfl
      have h2a : itN (nxF h1 t) (j - an) anc = r2 := by rw [es, ← hcy, show j - an = (j - 1 - an) + 1 by omega, itN_last]
      refine V.istore (ls' := [.ref t, .int from_, .int (nI m), .int (bornF h1 t), .int (staysF h1 t), .int r2, .int anc, .int (nI an), .int span, .int (nI j), .null]) dX5_after_44 (by decide) rfl ?_
      refine V.iload dX5_after_46 rfl ?_
      refine V.iload dX5_after_48 rfl ?_
      refine V.isub dX5_after_50 ?_
      refine V.nmi (fun x5 ex5 => ?_)
      refine V.istore (ls' := [.ref t, .int from_, .int (nI m), .int (bornF h1 t), .int (staysF h1 t), .int r2, .int anc, .int (nI an), .int span, .int (nI j), .int x5]) dX5_after_51 (by decide) rfl ?_
      have erd : x5 = nI (j - an) := by rw [ex5, nI_sub (by omega)]
      refine V.iload dX5_after_53 rfl ?_
      refine V.iload dX5_after_55 rfl ?_
      refine V.icmp_ne (tgt := 83) dX5_after_57 (by decide) (fun c6 => ?_) (fun c6 => ?_)
      · refine V.iload dX5_after_83 rfl ?_
        refine V.iload dX5_after_85 rfl ?_
        refine V.icmp_ne (tgt := 104) dX5_after_87 (by decide) (fun c7 => ?_) (fun c7 => ?_)
        · obtain ⟨x8, ex8⟩ : ∃ y : Int32, y = nI j + 1 := ⟨_, rfl⟩
          refine V.iinc (v := x8) (ls' := [.ref t, .int from_, .int (nI m), .int (bornF h1 t), .int (staysF h1 t), .int r2, .int anc, .int (nI an), .int span, .int x8, .int x5]) dX5_after_104 rfl (by decide) ex8.symm rfl ?_
          refine V.goto (tgt := 26) dX5_after_107 (by decide) ?_
          rw [ex8, nI_1]
          exact V.less (ls' := [.ref t, .int from_, .int (nI m), .int (bornF h1 t), .int (staysF h1 t), .int r2, .int anc, .int (nI (an)), .int span, .int (nI (j + 1)), .null]) ⟨Or.inr rfl, Or.inr rfl, Or.inr rfl, Or.inr rfl, Or.inr rfl, Or.inr rfl, Or.inr rfl, Or.inr rfl, Or.inr rfl, Or.inr rfl, Or.inl rfl, trivial⟩ (ih (j + 1) an r2 anc span g2 (by omega) (by omega) (by omega) (by omega) (by rw [← h1a]; congr 1; omega) (by rw [← h2a]; congr 1))
        · refine V.iload dX5_after_90 rfl ?_
          refine V.istore (ls' := [.ref t, .int from_, .int (nI m), .int (bornF h1 t), .int (staysF h1 t), .int r2, .int r2, .int (nI an), .int span, .int (nI j), .int x5]) dX5_after_92 (by decide) rfl ?_
          refine V.iload dX5_after_94 rfl ?_
          refine V.istore (ls' := [.ref t, .int from_, .int (nI m), .int (bornF h1 t), .int (staysF h1 t), .int r2, .int r2, .int (nI j), .int span, .int (nI j), .int x5]) dX5_after_96 (by decide) rfl ?_
          refine V.iload dX5_after_98 rfl ?_
          refine V.iconst (v := 2) dX5_after_100 rfl ?_
          refine V.imul dX5_after_101 ?_
          refine V.nmi (fun x9 ex9 => ?_)
          refine V.istore (ls' := [.ref t, .int from_, .int (nI m), .int (bornF h1 t), .int (staysF h1 t), .int r2, .int r2, .int (nI j), .int x9, .int (nI j), .int x5]) dX5_after_102 (by decide) rfl ?_
          obtain ⟨x10, ex10⟩ : ∃ y : Int32, y = nI j + 1 := ⟨_, rfl⟩
          refine V.iinc (v := x10) (ls' := [.ref t, .int from_, .int (nI m), .int (bornF h1 t), .int (staysF h1 t), .int r2, .int r2, .int (nI j), .int x9, .int x10, .int x5]) dX5_after_104 rfl (by decide) ex10.symm rfl ?_
          refine V.goto (tgt := 26) dX5_after_107 (by decide) ?_
          rw [ex10, nI_1]
          exact V.less (ls' := [.ref t, .int from_, .int (nI m), .int (bornF h1 t), .int (staysF h1 t), .int r2, .int r2, .int (nI (j)), .int x9, .int (nI (j + 1)), .null]) ⟨Or.inr rfl, Or.inr rfl, Or.inr rfl, Or.inr rfl, Or.inr rfl, Or.inr rfl, Or.inr rfl, Or.inr rfl, Or.inr rfl, Or.inr rfl, Or.inl rfl, trivial⟩ (ih (j + 1) j r2 r2 x9 g2 (by omega) (by omega) (by omega) (by omega) (by rw [← h1a]; congr 1; omega) (by rw [show j + 1 - 1 - j = 0 by omega]; rfl))
      · have hq9 := c6
        refine V.iload dX5_after_60 rfl ?_
        refine V.if_le (tgt := 83) dX5_after_62 (by decide) (fun c11 => ?_) (fun c11 => ?_)
        · refine V.iload dX5_after_83 rfl ?_
          refine V.iload dX5_after_85 rfl ?_
          refine V.icmp_ne (tgt := 104) dX5_after_87 (by decide) (fun c12 => ?_) (fun c12 => ?_)
          · obtain ⟨x13, ex13⟩ : ∃ y : Int32, y = nI j + 1 := ⟨_, rfl⟩
            refine V.iinc (v := x13) (ls' := [.ref t, .int from_, .int (nI m), .int (bornF h1 t), .int (staysF h1 t), .int r2, .int anc, .int (nI an), .int span, .int x13, .int x5]) dX5_after_104 rfl (by decide) ex13.symm rfl ?_
            refine V.goto (tgt := 26) dX5_after_107 (by decide) ?_
            rw [ex13, nI_1]
            exact V.less (ls' := [.ref t, .int from_, .int (nI m), .int (bornF h1 t), .int (staysF h1 t), .int r2, .int anc, .int (nI (an)), .int span, .int (nI (j + 1)), .null]) ⟨Or.inr rfl, Or.inr rfl, Or.inr rfl, Or.inr rfl, Or.inr rfl, Or.inr rfl, Or.inr rfl, Or.inr rfl, Or.inr rfl, Or.inr rfl, Or.inl rfl, trivial⟩ (ih (j + 1) an r2 anc span g2 (by omega) (by omega) (by omega) (by omega) (by rw [← h1a]; congr 1; omega) (by rw [← h2a]; congr 1))
          · refine V.iload dX5_after_90 rfl ?_
            refine V.istore (ls' := [.ref t, .int from_, .int (nI m), .int (bornF h1 t), .int (staysF h1 t), .int r2, .int r2, .int (nI an), .int span, .int (nI j), .int x5]) dX5_after_92 (by decide) rfl ?_
            refine V.iload dX5_after_94 rfl ?_
            refine V.istore (ls' := [.ref t, .int from_, .int (nI m), .int (bornF h1 t), .int (staysF h1 t), .int r2, .int r2, .int (nI j), .int span, .int (nI j), .int x5]) dX5_after_96 (by decide) rfl ?_
            refine V.iload dX5_after_98 rfl ?_
            refine V.iconst (v := 2) dX5_after_100 rfl ?_
            refine V.imul dX5_after_101 ?_
            refine V.nmi (fun x14 ex14 => ?_)
            refine V.istore (ls' := [.ref t, .int from_, .int (nI m), .int (bornF h1 t), .int (staysF h1 t), .int r2, .int r2, .int (nI j), .int x14, .int (nI j), .int x5]) dX5_after_102 (by decide) rfl ?_
            obtain ⟨x15, ex15⟩ : ∃ y : Int32, y = nI j + 1 := ⟨_, rfl⟩
            refine V.iinc (v := x15) (ls' := [.ref t, .int from_, .int (nI m), .int (bornF h1 t), .int (staysF h1 t), .int r2, .int r2, .int (nI j), .int x14, .int x15, .int x5]) dX5_after_104 rfl (by decide) ex15.symm rfl ?_
            refine V.goto (tgt := 26) dX5_after_107 (by decide) ?_
            rw [ex15, nI_1]
            exact V.less (ls' := [.ref t, .int from_, .int (nI m), .int (bornF h1 t), .int (staysF h1 t), .int r2, .int r2, .int (nI (j)), .int x14, .int (nI (j + 1)), .null]) ⟨Or.inr rfl, Or.inr rfl, Or.inr rfl, Or.inr rfl, Or.inr rfl, Or.inr rfl, Or.inr rfl, Or.inr rfl, Or.inr rfl, Or.inr rfl, Or.inl rfl, trivial⟩ (ih (j + 1) j r2 r2 x14 g2 (by omega) (by omega) (by omega) (by omega) (by rw [← h1a]; congr 1; omega) (by rw [show j + 1 - 1 - j = 0 by omega]; rfl))
        · rw [erd]
          refine V.iload dX5_after_65 rfl ?_
          refine V.iload_n dX5_after_67 rfl rfl ?_
          refine V.iload dX5_after_68 rfl ?_
          refine V.isub dX5_after_70 ?_
          refine V.iload dX5_after_71 rfl ?_
          refine V.idiv dX5_after_73 (nI_ne0 (by omega) (by omega)) ?_
          refine V.iload dX5_after_74 rfl ?_
          refine V.imul dX5_after_76 ?_
          refine V.iadd dX5_after_77 ?_
          refine V.nmi (fun x16 ex16 => ?_)
          refine V.istore (ls' := [.ref t, .int from_, .int (nI m), .int (bornF h1 t), .int (staysF h1 t), .int r2, .int anc, .int (nI an), .int span, .int x16, .int (nI (j - an))]) dX5_after_78 (by decide) rfl ?_
          have hnx : x16 = nI j + (nI m - nI j) / nI (j - an) * nI (j - an) := ex16
          refine V.goto (tgt := 104) dX5_after_80 (by decide) ?_
          obtain ⟨x17, ex17⟩ : ∃ y : Int32, y = x16 + 1 := ⟨_, rfl⟩
          refine V.iinc (v := x17) (ls' := [.ref t, .int from_, .int (nI m), .int (bornF h1 t), .int (staysF h1 t), .int r2, .int anc, .int (nI an), .int span, .int x17, .int (nI (j - an))]) dX5_after_104 rfl (by decide) ex17.symm rfl ?_
          refine V.goto (tgt := 26) dX5_after_107 (by decide) ?_
          have hrp : 0 < j - an := by omega
          generalize hp : j - an = pp at *
          have e1 : nI j + (nI m - nI j) / nI pp * nI pp = nI (j + (m - j) / pp * pp) := by rw [nI_sub hlt, nI_div hrp (by omega) (by omega), nI_mul, nI_add]
          have hle : (m - j) / pp * pp ≤ m - j := Nat.div_mul_le_self _ _
          have hcc : itN (nxF h1 t) pp r2 = r2 := by have h9 := h2a; rw [← hq9] at h9; exact h9
          have hsc : itN (nxF h1 t) ((m - j) / pp * pp) r2 = r2 := itN_cyc hcc _
          rw [ex17, hnx, e1, nI_1]
          clear hnx ex17 e1
          generalize (m - j) / pp * pp = sk at *
          exact V.less (ls' := [.ref t, .int from_, .int (nI m), .int (bornF h1 t), .int (staysF h1 t), .int r2, .int anc, .int (nI (an)), .int span, .int (nI (j + sk + 1)), .null]) ⟨Or.inr rfl, Or.inr rfl, Or.inr rfl, Or.inr rfl, Or.inr rfl, Or.inr rfl, Or.inr rfl, Or.inr rfl, Or.inr rfl, Or.inr rfl, Or.inl rfl, trivial⟩ (ih _ an r2 anc span g2 (by omega) (by omega) (by omega) (by omega) (by rw [← h1a, show m - j = sk + (m + 1 - (j + sk + 1)) by omega, itN_add, hsc]) (by rw [show j + sk + 1 - 1 - an = pp + sk by omega, itN_add, h2a, hsc]))
set_option maxRecDepth 100000 in
theorem sp_X5_after {h : HP} (ly : Lay h) {t : Nat} (hT : isT t) (hr : (hI h t 10).toInt ≤ 4) {m : Nat} (hm : m < 2 ^ 20) (x : Int32) : Spec yX5_after cX5_after miX5_after [.ref t, .int x, .int (nI m)] h (pI fun r h' => r = itN (nxF h t) m x ∧ ∃ g, h' = rI h (t + 1 + 1) g) := by
  refine Spec.of (ls0 := [.ref t, .int x, .int (nI m), .null, .null, .null, .null, .null, .null, .null, .null]) mo_X5_after (Nat.le_of_ble_eq_true rfl) rfl ?_
  rw [ly.1]
  refine V.aload_n dX5_after_0 rfl rfl (sT0 hT) ?_
  refine V.callVI dX5_after_1 ml_X5_119 mo_X5_bornNow mv_X5_bornNow (sT0 hT) (fun q hq => by cases hq; rfl) (by decide) (Or.inl ⟨rfl, SHL_lt (sT0 hT)⟩) (sp_X5_bornNow (by exact ly.keep rfl rfl) hT (by first | exact hr | (rw [hI_rI_n _ _ (by omega)]; exact hr))) rfl rfl ⟨Nat.le_of_ble_eq_true rfl, Nat.le_of_ble_eq_true rfl, fun _ => ⟨rfl, rfl⟩⟩ (Nat.le_of_ble_eq_true rfl) rfl (fun r1 h2 p3 => ?_)
  obtain ⟨er1, p3⟩ := p3
  have p3 := p3.symm
  subst p3
  refine V.istore_n (ls' := [.ref t, .int x, .int (nI m), .int r1, .null, .null, .null, .null, .null, .null, .null]) dX5_after_4 rfl (by decide) rfl ?_
  refine V.aload_n dX5_after_5 rfl rfl (sT0 hT) ?_
  refine V.callVI dX5_after_6 ml_X5_123 mo_X5_staysNow mv_X5_staysNow (sT0 hT) (fun q hq => by cases hq; rfl) (by decide) (Or.inl ⟨rfl, SHL_lt (sT0 hT)⟩) (sp_X5_staysNow (by exact ly.keep rfl rfl) hT (by first | exact hr | (rw [hI_rI_n _ _ (by omega)]; exact hr))) rfl rfl ⟨Nat.le_of_ble_eq_true rfl, Nat.le_of_ble_eq_true rfl, fun _ => ⟨rfl, rfl⟩⟩ (Nat.le_of_ble_eq_true rfl) rfl (fun r4 h5 p6 => ?_)
  obtain ⟨er4, p6⟩ := p6
  have p6 := p6.symm
  subst p6
  refine V.istore (ls' := [.ref t, .int x, .int (nI m), .int r1, .int r4, .null, .null, .null, .null, .null, .null]) dX5_after_9 (by decide) rfl ?_
  refine V.iload_n dX5_after_11 rfl rfl ?_
  refine V.istore (ls' := [.ref t, .int x, .int (nI m), .int r1, .int r4, .int x, .null, .null, .null, .null, .null]) dX5_after_12 (by decide) rfl ?_
  refine V.iload_n dX5_after_14 rfl rfl ?_
  refine V.istore (ls' := [.ref t, .int x, .int (nI m), .int r1, .int r4, .int x, .int x, .null, .null, .null, .null]) dX5_after_15 (by decide) rfl ?_
  refine V.iconst (v := 0) dX5_after_17 rfl ?_
  refine V.istore (ls' := [.ref t, .int x, .int (nI m), .int r1, .int r4, .int x, .int x, .int 0, .null, .null, .null]) dX5_after_18 (by decide) rfl ?_
  refine V.iconst (v := 1) dX5_after_20 rfl ?_
  refine V.istore (ls' := [.ref t, .int x, .int (nI m), .int r1, .int r4, .int x, .int x, .int 0, .int 1, .null, .null]) dX5_after_21 (by decide) rfl ?_
  refine V.iconst (v := 1) dX5_after_23 rfl ?_
  refine V.istore (ls' := [.ref t, .int x, .int (nI m), .int r1, .int r4, .int x, .int x, .int 0, .int 1, .int 1, .null]) dX5_after_24 (by decide) rfl ?_
  rw [er1, er4]
  have key := lp_X5_after (h0 := h) ly.1 ly hT hm (from_ := x) (target := itN (nxF h t) m x) (P := fun r h' => r = itN (nxF h t) m x ∧ ∃ g, h' = rI h (t + 1 + 1) g) (fun g => ⟨rfl, g, rfl⟩) (m + 1) 1 0 x x 1 (hI h (t + 1 + 1)) (by omega) (by omega) (by omega) (by omega) (by rw [show m + 1 - 1 = m by omega]) rfl
  rw [rI_self] at key
  exact key
theorem V.heapEq {cc : ByteArray} {mi : Mi} {Z : Zt} {n0 pc : Nat} {ls st : List Value} {h h' : HP} (e : h = h') (k : V cc mi Z n0 pc ls st h') : V cc mi Z n0 pc ls st h := e ▸ k
/-- what a night shows: of dark lamps (j < 5), of lit ones -/
def uF (f : Nat → Int32) (x born stays : Int32) (j : Nat) : Int32 :=
  if j < 5 then (if (litF f x j &&& f 5) &&& (x ^^^ -1) = 0 then 0 else shl 1 (shr born (nI j) &&& 1))
  else if j < 10 then (if (litF f x (j - 5) &&& f 5) &&& x = 0 then 0 else shl 1 (shr stays (nI (j - 5)) &&& 1)) else 0
def seenP (s u : Nat → Int32) (k : Nat) : Nat → Int32 := fun j => if j < k ∨ (5 ≤ j ∧ j < 5 + k) then s j ||| u j else s j
theorem seenP_0 (s u : Nat → Int32) : seenP s u 0 = s := by
  funext j; unfold seenP; rw [if_neg (by omega)]
theorem seenP_succ {s u r : Nat → Int32} {k : Nat} (hk : k < 5) (h1 : r k = s k ||| u k) (h2 : r (5 + k) = s (5 + k) ||| u (5 + k)) (h3 : ∀ j, j ≠ k → j ≠ 5 + k → r j = seenP s u k j) : r = seenP s u (k + 1) := by
  funext j
  by_cases e1 : j = k
  · subst e1; rw [h1]; unfold seenP; rw [if_pos (by omega)]
  · by_cases e2 : j = 5 + k
    · subst e2; rw [h2]; unfold seenP; rw [if_pos (by omega)]
    · rw [h3 j e1 e2]; unfold seenP
      by_cases h : j < k ∨ (5 ≤ j ∧ j < 5 + k)
      · rw [if_pos h, if_pos (by omega)]
      · rw [if_neg h, if_neg (by omega)]
theorem seenP_at {s u : Nat → Int32} {k : Nat} (hk : k < 5) : seenP s u k k = s k ∧ seenP s u k (5 + k) = s (5 + k) := by
  unfold seenP; exact ⟨if_neg (by omega), if_neg (by omega)⟩
theorem seenP_5 {s u : Nat → Int32} (hu : ∀ j, 10 ≤ j → u j = 0) : seenP s u 5 = fun j => s j ||| u j := by
  funext j; unfold seenP
  by_cases h : j < 10
  · rw [if_pos (by omega)]
  · rw [if_neg (by omega), hu j (by omega), Int32.or_zero]
/-- a town whose picture, oil, what was seen are others (and what was counted latest) -/
def TH (h : HP) (t : Nat) (x o : Int32) (s g : Nat → Int32) : HP := rI (rI (rI h (t + 1 + 1) g) (t + 15) s) t (upd (upd (hI h t) 15 o) 13 x)
theorem uF_lo {f : Nat → Int32} {x b s : Int32} {k : Nat} (hk : k < 5) : uF f x b s k = if (litF f x k &&& f 5) &&& (x ^^^ -1) = 0 then 0 else shl 1 (shr b (nI k) &&& 1) := by unfold uF; rw [if_pos hk]
theorem uF_hi {f : Nat → Int32} {x b s : Int32} {k : Nat} (hk : k < 5) : uF f x b s (5 + k) = if (litF f x k &&& f 5) &&& x = 0 then 0 else shl 1 (shr s (nI k) &&& 1) := by
  unfold uF; rw [if_neg (by omega), if_pos (by omega), Nat.add_sub_cancel_left]
theorem uF_10 (f : Nat → Int32) (x b s : Int32) : ∀ j, 10 ≤ j → uF f x b s j = 0 := by
  intro j hj; unfold uF; rw [if_neg (by omega), if_neg (by omega)]
set_option maxRecDepth 100000 in
theorem lp_X5_passNight {h0 h2 : HP} (hn : h0.1 = 130) (ly : Lay h2) {t : Nat} (hT : isT t) {x born stays th : Int32} {f s : Nat → Int32} (f1 : ∀ j, j < 5 → hI h2 (t + 1 + 1) j = litF f x j) (f2 : hI h2 (t + 1) 5 = f 5) (f3 : hI h2 t 13 = x) {P : HP → Prop}
    (kk : V cX5_passNight miX5_passNight (ZM h0 miX5_passNight.2.2.2.1 (pV P)) 130 119 [.ref t, .int born, .int stays, .int th, .null, .null] [] (rI h2 (t + 15) (seenP s (uF f x born stays) 5))) : ∀ n k, k ≤ 5 → 5 + 1 ≤ k + n → 
    V cX5_passNight miX5_passNight (ZM h0 miX5_passNight.2.2.2.1 (pV P)) 130 27 [.ref t, .int born, .int stays, .int th, .int (nI k), .null] [] (rI h2 (t + 15) (seenP s (uF f x born stays) k)) := by
  intro n
  induction n with
  | zero => intro k h1 h2; exact absurd h2 (by omega)
  | succ n ih =>
    intro k hk hkn
    refine V.iload dX5_passNight_27 rfl ?_
    refine V.iconst (v := 5) dX5_passNight_29 rfl ?_
    refine V.icmp_ge (tgt := 119) dX5_passNight_30 (by decide) (fun c1 => ?_) (fun c1 => ?_)
    · have hk2 : k = 5 := by have h9 := c1; rw [show (5 : Int32) = nI 5 from rfl, nI_leI (by omega) (by omega)] at h9; omega
      subst hk2
      exact V.less (ls' := [.ref t, .int born, .int stays, .int th, .null, .null]) ⟨Or.inr rfl, Or.inr rfl, Or.inr rfl, Or.inr rfl, Or.inl rfl, Or.inl rfl, trivial⟩ kk
    · have hlt : k < 5 := by have h9 := c1; rw [show (5 : Int32) = nI 5 from rfl, nI_leI (by omega) (by omega)] at h9; omega
      refine V.aload_n dX5_passNight_33 rfl rfl (sT0 hT) ?_
      refine V.getR (r := t + 1) dX5_passNight_34 fl_X5_12 (sT0 hT) (Or.inl ⟨rfl, SHL_lt (sT0 hT)⟩) rfl (rT_hill ly hT) ?_
      refine V.getR (r := t + 1 + 1) dX5_passNight_37 fl_X5_139 (sH0 hT.H) (Or.inl ⟨rfl, SHL_lt (sH0 hT.H)⟩) rfl (rH_withLit ly hT.H) ?_
      refine V.iload dX5_passNight_40 rfl ?_
      refine V.iaload dX5_passNight_42 (sH1 hT.H) (Or.inl ⟨rfl, SHL_lt (sH1 hT.H)⟩) (vp_in_nI hlt (by decide)) ?_
      rw [nI_clamp (show k < 2 ^ 31 by omega)]
      refine V.aload_n dX5_passNight_43 rfl rfl (sT0 hT) ?_
      refine V.getR (r := t + 1) dX5_passNight_44 fl_X5_12 (sT0 hT) (Or.inl ⟨rfl, SHL_lt (sT0 hT)⟩) rfl (rT_hill ly hT) ?_
      refine V.getI dX5_passNight_47 fl_X5_96 (sH0 hT.H) (Or.inl ⟨rfl, SHL_lt (sH0 hT.H)⟩) rfl rfl ?_
      refine V.iand dX5_passNight_50 ?_
      refine V.nmi (fun x2 ex2 => ?_)
      refine V.istore (ls' := [.ref t, .int born, .int stays, .int th, .int (nI k), .int x2]) dX5_passNight_51 (by decide) rfl ?_
      rw [hI_rI_n _ _ (show t + 1 + 1 ≠ t + 15 by omega), hI_rI_n _ _ (show t + 1 ≠ t + 15 by omega), f1 k hlt, f2] at ex2
      refine V.iload dX5_passNight_53 rfl ?_
      refine V.aload_n dX5_passNight_55 rfl rfl (sT0 hT) ?_
      refine V.getI dX5_passNight_56 fl_X5_78 (sT0 hT) (Or.inl ⟨rfl, SHL_lt (sT0 hT)⟩) rfl rfl ?_
      refine V.iconst (v := (-1)) dX5_passNight_59 rfl ?_
      refine V.ixor dX5_passNight_60 ?_
      refine V.iand dX5_passNight_61 ?_
      refine V.if_eq (tgt := 83) dX5_passNight_62 (by decide) (fun c3 => ?_) (fun c3 => ?_)
      · simp only [hI_rI_n _ _ (show t ≠ t + 15 by omega), f3] at c3
        rw [ex2] at c3
        refine V.iload dX5_passNight_83 rfl ?_
        refine V.aload_n dX5_passNight_85 rfl rfl (sT0 hT) ?_
        refine V.getI dX5_passNight_86 fl_X5_78 (sT0 hT) (Or.inl ⟨rfl, SHL_lt (sT0 hT)⟩) rfl rfl ?_
        refine V.iand dX5_passNight_89 ?_
        refine V.if_eq (tgt := 113) dX5_passNight_90 (by decide) (fun c4 => ?_) (fun c4 => ?_)
        · simp only [hI_rI_n _ _ (show t ≠ t + 15 by omega), f3] at c4
          rw [ex2] at c4
          obtain ⟨x5, ex5⟩ : ∃ y : Int32, y = nI k + 1 := ⟨_, rfl⟩
          refine V.iinc (v := x5) (ls' := [.ref t, .int born, .int stays, .int th, .int x5, .int x2]) dX5_passNight_113 rfl (by decide) ex5.symm rfl ?_
          refine V.goto (tgt := 27) dX5_passNight_116 (by decide) ?_
          rw [ex5, nI_1]
          refine V.less (ls' := [.ref t, .int born, .int stays, .int th, .int (nI (k + 1)), .null]) ⟨Or.inr rfl, Or.inr rfl, Or.inr rfl, Or.inr rfl, Or.inr rfl, Or.inl rfl, trivial⟩ (V.heapEq ?_ (ih (k + 1) (by omega) (by omega)))
          try simp only [rI_rI, hI_rI_s]
          refine congrArg (rI h2 (t + 15)) ?_
          obtain ⟨q1, q2⟩ := seenP_at (s := s) (u := uF f x born stays) hlt
          have n1 : k ≠ 5 + k := by omega
          have n2 : 5 + k ≠ k := by omega
          refine seenP_succ hlt ?_ ?_ (fun j e1 e2 => ?_)
          · rw [uF_lo hlt, if_pos c3, Int32.or_zero]; simp only [upd, if_neg n1, if_neg n2, if_pos, q1, q2]
          · rw [uF_hi hlt, if_pos c4, Int32.or_zero]; simp only [upd, if_neg n1, if_neg n2, if_pos, q1, q2]
          · simp only [upd, if_neg e1, if_neg e2]
        · simp only [hI_rI_n _ _ (show t ≠ t + 15 by omega), f3] at c4
          rw [ex2] at c4
          refine V.aload_n dX5_passNight_93 rfl rfl (sT0 hT) ?_
          refine V.getR (r := t + 15) dX5_passNight_94 fl_X5_45 (sT0 hT) (Or.inl ⟨rfl, SHL_lt (sT0 hT)⟩) rfl (rT_seen ly hT) ?_
          refine V.iconst (v := 5) dX5_passNight_97 rfl ?_
          refine V.iload dX5_passNight_98 rfl ?_
          refine V.iadd dX5_passNight_100 ?_
          refine V.dup2 dX5_passNight_101 rfl rfl ?_
          refine V.iaload dX5_passNight_102 (sT15 hT) (Or.inl ⟨rfl, SHL_lt (sT15 hT)⟩) (by rw [show (5 : Int32) = nI 5 from rfl, nI_add]; exact vp_in_nI (by omega) (by decide)) ?_
          refine V.iconst (v := 1) dX5_passNight_103 rfl ?_
          refine V.iload_n dX5_passNight_104 rfl rfl ?_
          refine V.iload dX5_passNight_105 rfl ?_
          refine V.ishr dX5_passNight_107 ?_
          refine V.iconst (v := 1) dX5_passNight_108 rfl ?_
          refine V.iand dX5_passNight_109 ?_
          refine V.ishl dX5_passNight_110 ?_
          refine V.ior dX5_passNight_111 ?_
          refine V.iastore dX5_passNight_112 (sT15 hT) (Or.inl ⟨rfl, SHL_lt (sT15 hT)⟩) (by rw [show (5 : Int32) = nI 5 from rfl, nI_add]; exact vp_in_nI (by omega) (by decide)) ?_
          rw [show (5 + nI k).toNatClampNeg = 5 + k by rw [show (5 : Int32) = nI 5 from rfl, nI_add]; exact nI_clamp (by omega)]
          obtain ⟨x6, ex6⟩ : ∃ y : Int32, y = nI k + 1 := ⟨_, rfl⟩
          refine V.iinc (v := x6) (ls' := [.ref t, .int born, .int stays, .int th, .int x6, .int x2]) dX5_passNight_113 rfl (by decide) ex6.symm rfl ?_
          refine V.goto (tgt := 27) dX5_passNight_116 (by decide) ?_
          rw [ex6, nI_1]
          refine V.less (ls' := [.ref t, .int born, .int stays, .int th, .int (nI (k + 1)), .null]) ⟨Or.inr rfl, Or.inr rfl, Or.inr rfl, Or.inr rfl, Or.inr rfl, Or.inl rfl, trivial⟩ (V.heapEq ?_ (ih (k + 1) (by omega) (by omega)))
          try simp only [rI_rI, hI_rI_s]
          refine congrArg (rI h2 (t + 15)) ?_
          obtain ⟨q1, q2⟩ := seenP_at (s := s) (u := uF f x born stays) hlt
          have n1 : k ≠ 5 + k := by omega
          have n2 : 5 + k ≠ k := by omega
          refine seenP_succ hlt ?_ ?_ (fun j e1 e2 => ?_)
          · rw [uF_lo hlt, if_pos c3, Int32.or_zero]; simp only [upd, if_neg n1, if_neg n2, if_pos, q1, q2]
          · rw [uF_hi hlt, if_neg c4]; simp only [upd, if_neg n1, if_neg n2, if_pos, q1, q2]
          · simp only [upd, if_neg e1, if_neg e2]
      · simp only [hI_rI_n _ _ (show t ≠ t + 15 by omega), f3] at c3
        rw [ex2] at c3
        refine V.aload_n dX5_passNight_65 rfl rfl (sT0 hT) ?_
        refine V.getR (r := t + 15) dX5_passNight_66 fl_X5_45 (sT0 hT) (Or.inl ⟨rfl, SHL_lt (sT0 hT)⟩) rfl (rT_seen ly hT) ?_
        refine V.iload dX5_passNight_69 rfl ?_
        refine V.dup2 dX5_passNight_71 rfl rfl ?_
        refine V.iaload dX5_passNight_72 (sT15 hT) (Or.inl ⟨rfl, SHL_lt (sT15 hT)⟩) (vp_in_nI (show k < 10 by omega) (by decide)) ?_
        rw [nI_clamp (show k < 2 ^ 31 by omega)]
        refine V.iconst (v := 1) dX5_passNight_73 rfl ?_
        refine V.iload_n dX5_passNight_74 rfl rfl ?_
        refine V.iload dX5_passNight_75 rfl ?_
        refine V.ishr dX5_passNight_77 ?_
        refine V.iconst (v := 1) dX5_passNight_78 rfl ?_
        refine V.iand dX5_passNight_79 ?_
        refine V.ishl dX5_passNight_80 ?_
        refine V.ior dX5_passNight_81 ?_
        refine V.iastore dX5_passNight_82 (sT15 hT) (Or.inl ⟨rfl, SHL_lt (sT15 hT)⟩) (vp_in_nI (show k < 10 by omega) (by decide)) ?_
        rw [nI_clamp (show k < 2 ^ 31 by omega)]
        refine V.iload dX5_passNight_83 rfl ?_
        refine V.aload_n dX5_passNight_85 rfl rfl (sT0 hT) ?_
        refine V.getI dX5_passNight_86 fl_X5_78 (sT0 hT) (Or.inl ⟨rfl, SHL_lt (sT0 hT)⟩) rfl rfl ?_
        refine V.iand dX5_passNight_89 ?_
        refine V.if_eq (tgt := 113) dX5_passNight_90 (by decide) (fun c7 => ?_) (fun c7 => ?_)
        · simp only [hI_rI_n _ _ (show t ≠ t + 15 by omega), f3] at c7
          rw [ex2] at c7
          obtain ⟨x8, ex8⟩ : ∃ y : Int32, y = nI k + 1 := ⟨_, rfl⟩
          refine V.iinc (v := x8) (ls' := [.ref t, .int born, .int stays, .int th, .int x8, .int x2]) dX5_passNight_113 rfl (by decide) ex8.symm rfl ?_
          refine V.goto (tgt := 27) dX5_passNight_116 (by decide) ?_
          rw [ex8, nI_1]
          refine V.less (ls' := [.ref t, .int born, .int stays, .int th, .int (nI (k + 1)), .null]) ⟨Or.inr rfl, Or.inr rfl, Or.inr rfl, Or.inr rfl, Or.inr rfl, Or.inl rfl, trivial⟩ (V.heapEq ?_ (ih (k + 1) (by omega) (by omega)))
          try simp only [rI_rI, hI_rI_s]
          refine congrArg (rI h2 (t + 15)) ?_
          obtain ⟨q1, q2⟩ := seenP_at (s := s) (u := uF f x born stays) hlt
          have n1 : k ≠ 5 + k := by omega
          have n2 : 5 + k ≠ k := by omega
          refine seenP_succ hlt ?_ ?_ (fun j e1 e2 => ?_)
          · rw [uF_lo hlt, if_neg c3]; simp only [upd, if_neg n1, if_neg n2, if_pos, q1, q2]
          · rw [uF_hi hlt, if_pos c7, Int32.or_zero]; simp only [upd, if_neg n1, if_neg n2, if_pos, q1, q2]
          · simp only [upd, if_neg e1, if_neg e2]
        · simp only [hI_rI_n _ _ (show t ≠ t + 15 by omega), f3] at c7
          rw [ex2] at c7
          refine V.aload_n dX5_passNight_93 rfl rfl (sT0 hT) ?_
          refine V.getR (r := t + 15) dX5_passNight_94 fl_X5_45 (sT0 hT) (Or.inl ⟨rfl, SHL_lt (sT0 hT)⟩) rfl (rT_seen ly hT) ?_
          refine V.iconst (v := 5) dX5_passNight_97 rfl ?_
          refine V.iload dX5_passNight_98 rfl ?_
          refine V.iadd dX5_passNight_100 ?_
          refine V.dup2 dX5_passNight_101 rfl rfl ?_
          refine V.iaload dX5_passNight_102 (sT15 hT) (Or.inl ⟨rfl, SHL_lt (sT15 hT)⟩) (by rw [show (5 : Int32) = nI 5 from rfl, nI_add]; exact vp_in_nI (by omega) (by decide)) ?_
          refine V.iconst (v := 1) dX5_passNight_103 rfl ?_
          refine V.iload_n dX5_passNight_104 rfl rfl ?_
          refine V.iload dX5_passNight_105 rfl ?_
          refine V.ishr dX5_passNight_107 ?_
          refine V.iconst (v := 1) dX5_passNight_108 rfl ?_
          refine V.iand dX5_passNight_109 ?_
          refine V.ishl dX5_passNight_110 ?_
          refine V.ior dX5_passNight_111 ?_
          refine V.iastore dX5_passNight_112 (sT15 hT) (Or.inl ⟨rfl, SHL_lt (sT15 hT)⟩) (by rw [show (5 : Int32) = nI 5 from rfl, nI_add]; exact vp_in_nI (by omega) (by decide)) ?_
          rw [show (5 + nI k).toNatClampNeg = 5 + k by rw [show (5 : Int32) = nI 5 from rfl, nI_add]; exact nI_clamp (by omega)]
          obtain ⟨x9, ex9⟩ : ∃ y : Int32, y = nI k + 1 := ⟨_, rfl⟩
          refine V.iinc (v := x9) (ls' := [.ref t, .int born, .int stays, .int th, .int x9, .int x2]) dX5_passNight_113 rfl (by decide) ex9.symm rfl ?_
          refine V.goto (tgt := 27) dX5_passNight_116 (by decide) ?_
          rw [ex9, nI_1]
          refine V.less (ls' := [.ref t, .int born, .int stays, .int th, .int (nI (k + 1)), .null]) ⟨Or.inr rfl, Or.inr rfl, Or.inr rfl, Or.inr rfl, Or.inr rfl, Or.inl rfl, trivial⟩ (V.heapEq ?_ (ih (k + 1) (by omega) (by omega)))
          try simp only [rI_rI, hI_rI_s]
          refine congrArg (rI h2 (t + 15)) ?_
          obtain ⟨q1, q2⟩ := seenP_at (s := s) (u := uF f x born stays) hlt
          have n1 : k ≠ 5 + k := by omega
          have n2 : 5 + k ≠ k := by omega
          refine seenP_succ hlt ?_ ?_ (fun j e1 e2 => ?_)
          · rw [uF_lo hlt, if_neg c3]; simp only [upd, if_neg n1, if_neg n2, if_pos, q1, q2]
          · rw [uF_hi hlt, if_neg c7]; simp only [upd, if_neg n1, if_neg n2, if_pos, q1, q2]
          · simp only [upd, if_neg e1, if_neg e2]
set_option maxRecDepth 100000 in
theorem sp_X5_passNight {h : HP} (ly : Lay h) {t : Nat} (hT : isT t) (hr : (hI h t 10).toInt ≤ 4) : Spec yX5_passNight cX5_passNight miX5_passNight [.ref t] h (pV fun h' => ∃ g, h' = TH h t (nxF h t (hI h t 13)) (hI h t 15 + nI (pc (hI h t 13))) (fun j => hI h (t + 15) j ||| uF (hI h (t + 1)) (hI h t 13) (bornF h t) (staysF h t) j) g) := by
  refine Spec.of (ls0 := [.ref t, .null, .null, .null, .null, .null]) mo_X5_passNight (Nat.le_of_ble_eq_true rfl) rfl ?_
  rw [ly.1]
  refine V.aload_n dX5_passNight_0 rfl rfl (sT0 hT) ?_
  refine V.callVI dX5_passNight_1 ml_X5_119 mo_X5_bornNow mv_X5_bornNow (sT0 hT) (fun q hq => by cases hq; rfl) (by decide) (Or.inl ⟨rfl, SHL_lt (sT0 hT)⟩) (sp_X5_bornNow (by exact ly.keep rfl rfl) hT (by first | exact hr | (rw [hI_rI_n _ _ (by omega)]; exact hr))) rfl rfl ⟨Nat.le_of_ble_eq_true rfl, Nat.le_of_ble_eq_true rfl, fun _ => ⟨rfl, rfl⟩⟩ (Nat.le_of_ble_eq_true rfl) rfl (fun r1 h2 p3 => ?_)
  obtain ⟨er1, p3⟩ := p3
  have p3 := p3.symm
  subst p3
  refine V.istore_n (ls' := [.ref t, .int r1, .null, .null, .null, .null]) dX5_passNight_4 rfl (by decide) rfl ?_
  refine V.aload_n dX5_passNight_5 rfl rfl (sT0 hT) ?_
  refine V.callVI dX5_passNight_6 ml_X5_123 mo_X5_staysNow mv_X5_staysNow (sT0 hT) (fun q hq => by cases hq; rfl) (by decide) (Or.inl ⟨rfl, SHL_lt (sT0 hT)⟩) (sp_X5_staysNow (by exact ly.keep rfl rfl) hT (by first | exact hr | (rw [hI_rI_n _ _ (by omega)]; exact hr))) rfl rfl ⟨Nat.le_of_ble_eq_true rfl, Nat.le_of_ble_eq_true rfl, fun _ => ⟨rfl, rfl⟩⟩ (Nat.le_of_ble_eq_true rfl) rfl (fun r4 h5 p6 => ?_)
  obtain ⟨er4, p6⟩ := p6
  have p6 := p6.symm
  subst p6
  refine V.istore_n (ls' := [.ref t, .int r1, .int r4, .null, .null, .null]) dX5_passNight_9 rfl (by decide) rfl ?_
  refine V.aload_n dX5_passNight_10 rfl rfl (sT0 hT) ?_
  refine V.getR (r := t + 1) dX5_passNight_11 fl_X5_12 (sT0 hT) (Or.inl ⟨rfl, SHL_lt (sT0 hT)⟩) rfl (rT_hill ly hT) ?_
  refine V.aload_n dX5_passNight_14 rfl rfl (sT0 hT) ?_
  refine V.getI dX5_passNight_15 fl_X5_78 (sT0 hT) (Or.inl ⟨rfl, SHL_lt (sT0 hT)⟩) rfl rfl ?_
  refine V.iload_n dX5_passNight_18 rfl rfl ?_
  refine V.iload_n dX5_passNight_19 rfl rfl ?_
  refine V.callVI dX5_passNight_20 ml_X5_126 mo_X1_step mv_X1_step (sH0 hT.H) (fun q hq => by cases hq; rfl) (by decide) (Or.inl ⟨rfl, SHL_lt (sH0 hT.H)⟩) (sp_X1_step (by exact ly.keep rfl rfl) hT.H _ _ _) rfl rfl ⟨Nat.le_of_ble_eq_true rfl, Nat.le_of_ble_eq_true rfl, fun _ => ⟨rfl, rfl⟩⟩ (Nat.le_of_ble_eq_true rfl) rfl (fun r7 h8 p9 => ?_)
  obtain ⟨er7, p9⟩ := p9
  have p9 := p9.symm
  subst p9
  refine V.istore_n (ls' := [.ref t, .int r1, .int r4, .int r7, .null, .null]) dX5_passNight_23 rfl (by decide) rfl ?_
  refine V.iconst (v := 0) dX5_passNight_24 rfl ?_
  refine V.istore (ls' := [.ref t, .int r1, .int r4, .int r7, .int 0, .null]) dX5_passNight_25 (by decide) rfl ?_
  have f1 : ∀ j, j < 5 → hI (litH h (t + 1) (hI h t 13)) (t + 1 + 1) j = litF (hI h (t + 1)) (hI h t 13) j := fun j hj => by rw [hI_rI_s]; exact if_pos hj
  refine V.heapEq (h' := rI (litH h (t + 1) (hI h t 13)) (t + 15) (seenP (hI (litH h (t + 1) (hI h t 13)) (t + 15)) (uF (hI h (t + 1)) (hI h t 13) r1 r4) 0)) (by rw [seenP_0, rI_self]) ?_
  refine lp_X5_passNight (h0 := h) (h2 := (litH h (t + 1) (hI h t 13))) ly.1 (ly.keep rfl rfl) hT f1 (by rw [hI_rI_n _ _ (show t + 1 ≠ t + 1 + 1 by omega)]) (by rw [hI_rI_n _ _ (show t ≠ t + 1 + 1 by omega)]) ?_ 6 0 (by omega) (by omega)
  refine V.aload_n dX5_passNight_119 rfl rfl (sT0 hT) ?_
  refine V.dup dX5_passNight_120 rfl ?_
  refine V.getI dX5_passNight_121 fl_X5_84 (sT0 hT) (Or.inl ⟨rfl, SHL_lt (sT0 hT)⟩) rfl rfl ?_
  refine V.aload_n dX5_passNight_124 rfl rfl (sT0 hT) ?_
  refine V.getI dX5_passNight_125 fl_X5_78 (sT0 hT) (Or.inl ⟨rfl, SHL_lt (sT0 hT)⟩) rfl rfl ?_
  refine V.callSI dX5_passNight_128 ml_X5_130 mo_J6_bitCount_0f7a4 ms_J6_bitCount_0f7a4 (sp_J6_bitCount_0f7a4 _ _) rfl rfl ⟨Nat.le_of_ble_eq_true rfl, Nat.le_of_ble_eq_true rfl, fun _ => ⟨rfl, rfl⟩⟩ (Nat.le_of_ble_eq_true rfl) rfl (fun r10 h11 p12 => ?_)
  obtain ⟨er10, p12⟩ := p12
  have p12 := p12.symm
  subst p12
  refine V.iadd dX5_passNight_131 ?_
  refine V.putI dX5_passNight_132 fl_X5_84 (sT0 hT) (Or.inl ⟨rfl, SHL_lt (sT0 hT)⟩) rfl (fun q hq => by cases hq; rfl) ⟨rfl, rfl⟩ ?_
  refine V.aload_n dX5_passNight_135 rfl rfl (sT0 hT) ?_
  refine V.iload_n dX5_passNight_136 rfl rfl ?_
  refine V.putI dX5_passNight_137 fl_X5_78 (sT0 hT) (Or.inl ⟨rfl, SHL_lt (sT0 hT)⟩) rfl (fun q hq => by cases hq; rfl) ⟨rfl, rfl⟩ ?_
  refine V.vreturn' dX5_passNight_140 rfl ly.1 (Or.inl ⟨rfl, rfl⟩) ?_
  refine ⟨litRow (hI h (t + 1 + 1)) (hI h (t + 1)) (hI h t 13), ?_⟩
  subst_vars
  unfold TH
  rw [seenP_5 (uF_10 _ _ _ _)]
  simp only [rI_rI, hI_rI_s, hI_rI_n _ _ (show t ≠ t + 15 by omega), hI_rI_n _ _ (show t ≠ t + 1 + 1 by omega), hI_rI_n _ _ (show t + 15 ≠ t + 1 + 1 by omega), hI_rI_n _ _ (show t + 1 ≠ t + 1 + 1 by omega)]
  rfl
def oilN (F : Int32 → Int32) : Nat → Int32 → Int32
  | 0, _ => 0
  | n + 1, x => nI (pc x) + oilN F n (F x)
def seenN (F : Int32 → Int32) (u : Int32 → Nat → Int32) : Nat → Int32 → Nat → Int32
  | 0, _, _ => 0
  | n + 1, x, j => u x j ||| seenN F u n (F x) j
theorem oilN_add (F : Int32 → Int32) : ∀ (a b : Nat) (x : Int32), oilN F (a + b) x = oilN F a x + oilN F b (itN F a x)
  | 0, b, x => by rw [Nat.zero_add]; exact (Int32.zero_add _).symm
  | a + 1, b, x => by
    rw [show a + 1 + b = (a + b) + 1 by omega]
    show nI (pc x) + oilN F (a + b) (F x) = nI (pc x) + oilN F a (F x) + oilN F b (itN F a (F x))
    rw [oilN_add F a b (F x), Int32.add_assoc]
theorem seenN_add (F : Int32 → Int32) (u : Int32 → Nat → Int32) : ∀ (a b : Nat) (x : Int32) (j : Nat), seenN F u (a + b) x j = seenN F u a x j ||| seenN F u b (itN F a x) j
  | 0, b, x, j => by rw [Nat.zero_add]; exact (Int32.zero_or).symm
  | a + 1, b, x, j => by
    rw [show a + 1 + b = (a + b) + 1 by omega]
    show u x j ||| seenN F u (a + b) (F x) j = (u x j ||| seenN F u a (F x) j) ||| seenN F u b (itN F a (F x)) j
    rw [seenN_add F u a b (F x) j, Int32.or_assoc]
theorem oilN_cyc {F : Int32 → Int32} {p : Nat} {x : Int32} (h : itN F p x = x) : ∀ k, oilN F (k * p) x = nI k * oilN F p x
  | 0 => by rw [Nat.zero_mul]; show (0 : Int32) = nI 0 * _; rw [nI_0, Int32.zero_mul]
  | k + 1 => by rw [Nat.succ_mul, oilN_add, itN_cyc h k, oilN_cyc h k, nI_succ, Int32.add_mul, Int32.one_mul]
theorem seenN_cyc {F : Int32 → Int32} {u : Int32 → Nat → Int32} {p : Nat} {x s : Int32} {j : Nat} (h : itN F p x = x) (hs : s ||| seenN F u p x j = s) : ∀ k, s ||| seenN F u (k * p) x j = s
  | 0 => by rw [Nat.zero_mul]; exact Int32.or_zero
  | k + 1 => by rw [Nat.succ_mul, seenN_add, itN_cyc h k, ← Int32.or_assoc, seenN_cyc h hs k, hs]
theorem TH_TH (h : HP) (t : Nat) (x o x' o' : Int32) (s g s' g' : Nat → Int32) : TH (TH h t x o s g) t x' o' s' g' = TH h t x' o' s' g' := by
  refine HP_ext rfl (funext fun b => ?_) rfl rfl
  unfold TH
  simp only [hI_rI]
  by_cases h1 : b = t
  · subst h1
    simp only [if_pos]
    funext j; simp only [upd]; split <;> (try split) <;> rfl
  · rw [if_neg h1, if_neg h1]
    by_cases h2 : b = t + 15
    · simp [h2]
    · by_cases h3 : b = t + 1 + 1
      · simp [h3, show ¬ t + 1 + 1 = t by omega]
      · simp [h1, h2, h3]
theorem TH_o {h : HP} {t b : Nat} (x o : Int32) (s g : Nat → Int32) (h1 : b ≠ t) (h2 : b ≠ t + 15) (h3 : b ≠ t + 1 + 1) : hI (TH h t x o s g) b = hI h b := by
  unfold TH; rw [hI_rI_n _ _ h1, hI_rI_n _ _ h2, hI_rI_n _ _ h3]
theorem TH_t (h : HP) (t : Nat) (x o : Int32) (s g : Nat → Int32) : hI (TH h t x o s g) t = upd (upd (hI h t) 15 o) 13 x := hI_rI_s _ _ _
theorem TH_s (h : HP) (t : Nat) (x o : Int32) (s g : Nat → Int32) : hI (TH h t x o s g) (t + 15) = s := by
  unfold TH; rw [hI_rI_n _ _ (by omega), hI_rI_s]
theorem TH_born (h : HP) (t : Nat) (x o : Int32) (s g : Nat → Int32) : bornF (TH h t x o s g) t = bornF h t ∧ staysF (TH h t x o s g) t = staysF h t := by
  unfold bornF staysF
  rw [TH_o x o s g (show t + 10 ≠ t by omega) (by omega) (by omega), TH_o x o s g (show t + 11 ≠ t by omega) (by omega) (by omega), TH_t]
  exact ⟨rfl, rfl⟩
theorem TH_nx (h : HP) (t : Nat) (x o : Int32) (s g : Nat → Int32) : nxF (TH h t x o s g) t = nxF h t := by
  funext y
  unfold nxF
  rw [(TH_born h t x o s g).1, (TH_born h t x o s g).2, TH_o x o s g (by omega) (by omega) (by omega)]
theorem TH_self (h : HP) (t : Nat) : TH h t (hI h t 13) (hI h t 15) (hI h (t + 15)) (hI h (t + 1 + 1)) = h := by
  refine HP_ext rfl (funext fun b => ?_) rfl rfl
  unfold TH
  simp only [hI_rI]
  by_cases h1 : b = t
  · subst h1
    rw [if_pos rfl]
    funext j; simp only [upd]; split
    · next e => rw [e]
    · split
      · next e => rw [e]
      · rfl
  · rw [if_neg h1]
    split
    · next e => rw [e]
    · split
      · next e => rw [e]
      · rfl
abbrev uT (h : HP) (t : Nat) (x : Int32) (j : Nat) : Int32 := uF (hI h (t + 1)) x (bornF h t) (staysF h t) j
set_option maxRecDepth 100000 in
theorem lp_X5_passNights {h0 h1 : HP} (hn : h0.1 = 130) (ly : Lay h1) {t : Nat} (hT : isT t) (hr : (hI h1 t 10).toInt ≤ 4) {m : Nat} (hm : m < 2 ^ 20) {X O : Int32} {S : Nat → Int32} {P : HP → Prop} (hP : ∀ g, P (uI (TH h1 t X O S g) t 14 (hI h1 t 14 + nI m))) :
    ∀ n j an (x anc o anco span : Int32) (s g : Nat → Int32), m + 2 ≤ j + n → 1 ≤ j → j ≤ m + 1 → an < j → itN (nxF h1 t) (m + 1 - j) x = X → o + oilN (nxF h1 t) (m + 1 - j) x = O → (∀ i, s i ||| seenN (nxF h1 t) (uT h1 t) (m + 1 - j) x i = S i) →
      itN (nxF h1 t) (j - 1 - an) anc = x → o = anco + oilN (nxF h1 t) (j - 1 - an) anc → (∀ i, s i ||| seenN (nxF h1 t) (uT h1 t) (j - 1 - an) anc i = s i) →
    V cX5_passNights miX5_passNights (ZM h0 miX5_passNights.2.2.2.1 (pV P)) 130 19 [.ref t, .int (nI m), .int anc, .int (nI an), .int anco, .int span, .int (nI j), .null, .null] [] (TH h1 t x o s g) := by
  intro n
  induction n with
  | zero => intro j an x anc o anco span s g h1 h2 h3; exact absurd h1 (by omega)
  | succ n ih =>
    intro j an x anc o anco span s g hf hj1 hj2 han htg hto hts hcy hco hcs
    refine V.iload dX5_passNights_19 rfl ?_
    refine V.iload_n dX5_passNights_21 rfl rfl ?_
    refine V.icmp_gt (tgt := 122) dX5_passNights_22 (by decide) (fun c1 => ?_) (fun c1 => ?_)
    · have hk2 : j = m + 1 := by have h9 := c1; rw [nI_ltI (by omega) (by omega)] at h9; omega
      refine V.aload_n dX5_passNights_122 rfl rfl (sT0 hT) ?_
      refine V.dup dX5_passNights_123 rfl ?_
      refine V.getI dX5_passNights_124 fl_X5_81 (sT0 hT) (Or.inl ⟨rfl, SHL_lt (sT0 hT)⟩) rfl rfl ?_
      refine V.iload_n dX5_passNights_127 rfl rfl ?_
      refine V.iadd dX5_passNights_128 ?_
      refine V.putI dX5_passNights_129 fl_X5_81 (sT0 hT) (Or.inl ⟨rfl, SHL_lt (sT0 hT)⟩) rfl (fun q hq => by cases hq; rfl) ⟨rfl, rfl⟩ ?_
      refine V.vreturn' dX5_passNights_132 rfl hn (Or.inl ⟨rfl, rfl⟩) ?_
      have e0 : x = X := by rw [← htg, hk2, Nat.sub_self]; rfl
      have e1 : o = O := by rw [← hto, hk2, Nat.sub_self]; exact (Int32.add_zero _).symm
      have e2 : s = S := by funext i; rw [← hts i, hk2, Nat.sub_self]; exact (Int32.or_zero).symm
      subst e0 e1 e2
      rw [TH_t, show upd (upd (hI h1 t) 15 o) 13 x 14 = hI h1 t 14 from rfl]
      have h9 := hP g
      exact h9
    · have hlt : j ≤ m := by have h9 := c1; rw [nI_ltI (by omega) (by omega)] at h9; omega
      refine V.aload_n dX5_passNights_25 rfl rfl (sT0 hT) ?_
      refine V.callVV dX5_passNights_26 ml_X5_136 mo_X5_passNight mv_X5_passNight (sT0 hT) (fun q hq => by cases hq; rfl) (by decide) (Or.inl ⟨rfl, SHL_lt (sT0 hT)⟩) (sp_X5_passNight (by exact ly.keep rfl rfl) hT (by rw [TH_t]; exact hr)) rfl rfl ⟨Nat.le_of_ble_eq_true rfl, Nat.le_of_ble_eq_true rfl, fun _ => ⟨rfl, rfl⟩⟩ (Nat.le_of_ble_eq_true rfl) (Or.inl rfl) (fun h2 p3 => ?_)
      obtain ⟨g2, p3⟩ := p3
      have p3 := p3.symm
      subst p3
      rw [TH_TH, TH_nx, TH_t, TH_s, (TH_born h1 t x o s g).1, (TH_born h1 t x o s g).2, TH_o x o s g (show t + 1 ≠ t by omega) (by omega) (by omega), show upd (upd (hI h1 t) 15 o) 13 x 13 = x from rfl, show upd (upd (hI h1 t) 15 o) 13 x 15 = o from rfl]
      have h1a : itN (nxF h1 t) (m - j) (nxF h1 t x) = X := by rw [← htg, show m + 1 - j = (m - j) + 1 by omega]; rfl
      have h1b : o + nI (pc x) + oilN (nxF h1 t) (m - j) (nxF h1 t x) = O := by rw [← hto, show m + 1 - j = (m - j) + 1 by omega, Int32.add_assoc]; rfl
      have h1c : ∀ i, (s i ||| uT h1 t x i) ||| seenN (nxF h1 t) (uT h1 t) (m - j) (nxF h1 t x) i = S i := fun i => by rw [← hts i, show m + 1 - j = (m - j) + 1 by omega, Int32.or_assoc]; rfl
      have h2a : itN (nxF h1 t) (j - an) anc = nxF h1 t x := by rw [← hcy, show j - an = (j - 1 - an) + 1 by omega, itN_last]
      have h2b : o + nI (pc x) = anco + oilN (nxF h1 t) (j - an) anc := by
        rw [show j - an = (j - 1 - an) + 1 by omega, oilN_add, hcy, hco, Int32.add_assoc]
        show _ = anco + (_ + (nI (pc x) + 0))
        rw [Int32.add_zero]
      have h2c : ∀ i, (s i ||| uT h1 t x i) ||| seenN (nxF h1 t) (uT h1 t) (j - an) anc i = s i ||| uT h1 t x i := fun i => by
        rw [show j - an = (j - 1 - an) + 1 by omega, seenN_add, hcy]
        show (s i ||| uT h1 t x i) ||| (_ ||| (uT h1 t x i ||| 0)) = _
        rw [Int32.or_zero, Int32.or_assoc, ← Int32.or_assoc (uT h1 t x i), Int32.or_comm (uT h1 t x i), Int32.or_assoc, Int32.or_self, ← Int32.or_assoc, hcs i]
      generalize hx' : nxF h1 t x = x' at *
      generalize ho' : o + nI (pc x) = o' at *
      generalize hs' : (fun j => s j ||| uF (hI h1 (t + 1)) x (bornF h1 t) (staysF h1 t) j) = s' at *
      have hs9 : ∀ i, s i ||| uT h1 t x i = s' i := fun i => by rw [← hs']
      simp only [hs9] at h1c h2c
      refine V.iload dX5_passNights_29 rfl ?_
      refine V.iload_n dX5_passNights_31 rfl rfl ?_
      refine V.isub dX5_passNights_32 ?_
      refine V.nmi (fun x4 ex4 => ?_)
      refine V.istore (ls' := [.ref t, .int (nI m), .int anc, .int (nI an), .int anco, .int span, .int (nI j), .int x4, .null]) dX5_passNights_33 (by decide) rfl ?_
      have erd : x4 = nI (j - an) := by rw [ex4, nI_sub (by omega)]
      refine V.aload_n dX5_passNights_35 rfl rfl (sT0 hT) ?_
      refine V.getI dX5_passNights_36 fl_X5_78 (sT0 hT) (Or.inl ⟨rfl, SHL_lt (sT0 hT)⟩) rfl rfl ?_
      refine V.iload_n dX5_passNights_39 rfl rfl ?_
      refine V.icmp_ne (tgt := 89) dX5_passNights_40 (by decide) (fun c5 => ?_) (fun c5 => ?_)
      · refine V.iload dX5_passNights_89 rfl ?_
        refine V.iload dX5_passNights_91 rfl ?_
        refine V.icmp_ne (tgt := 116) dX5_passNights_93 (by decide) (fun c6 => ?_) (fun c6 => ?_)
        · obtain ⟨x7, ex7⟩ : ∃ y : Int32, y = nI j + 1 := ⟨_, rfl⟩
          refine V.iinc (v := x7) (ls' := [.ref t, .int (nI m), .int anc, .int (nI an), .int anco, .int span, .int x7, .int x4, .null]) dX5_passNights_116 rfl (by decide) ex7.symm rfl ?_
          refine V.goto (tgt := 19) dX5_passNights_119 (by decide) ?_
          rw [ex7, nI_1]
          exact V.less (ls' := [.ref t, .int (nI m), .int anc, .int (nI (an)), .int anco, .int span, .int (nI (j + 1)), .null, .null]) ⟨Or.inr rfl, Or.inr rfl, Or.inr rfl, Or.inr rfl, Or.inr rfl, Or.inr rfl, Or.inr rfl, Or.inl rfl, Or.inl rfl, trivial⟩ (ih (j + 1) an x' anc o' anco span s' g2 (by omega) (by omega) (by omega) (by omega) (by rw [← h1a]; congr 1; omega) (by rw [← h1b]; congr 2; omega) (fun i => by rw [← h1c i]; congr 2; omega) (by rw [← h2a]; congr 1) (by rw [h2b]; congr 2) (fun i => by have h9 := h2c i; exact h9))
        · refine V.aload_n dX5_passNights_96 rfl rfl (sT0 hT) ?_
          refine V.getI dX5_passNights_97 fl_X5_78 (sT0 hT) (Or.inl ⟨rfl, SHL_lt (sT0 hT)⟩) rfl rfl ?_
          refine V.nmi (fun x8 ex8 => ?_)
          refine V.istore_n (ls' := [.ref t, .int (nI m), .int x8, .int (nI an), .int anco, .int span, .int (nI j), .int x4, .null]) dX5_passNights_100 rfl (by decide) rfl ?_
          refine V.iload dX5_passNights_101 rfl ?_
          refine V.istore_n (ls' := [.ref t, .int (nI m), .int x8, .int (nI j), .int anco, .int span, .int (nI j), .int x4, .null]) dX5_passNights_103 rfl (by decide) rfl ?_
          refine V.aload_n dX5_passNights_104 rfl rfl (sT0 hT) ?_
          refine V.getI dX5_passNights_105 fl_X5_84 (sT0 hT) (Or.inl ⟨rfl, SHL_lt (sT0 hT)⟩) rfl rfl ?_
          refine V.nmi (fun x9 ex9 => ?_)
          refine V.istore (ls' := [.ref t, .int (nI m), .int x8, .int (nI j), .int x9, .int span, .int (nI j), .int x4, .null]) dX5_passNights_108 (by decide) rfl ?_
          refine V.iload dX5_passNights_110 rfl ?_
          refine V.iconst (v := 2) dX5_passNights_112 rfl ?_
          refine V.imul dX5_passNights_113 ?_
          refine V.nmi (fun x10 ex10 => ?_)
          refine V.istore (ls' := [.ref t, .int (nI m), .int x8, .int (nI j), .int x9, .int x10, .int (nI j), .int x4, .null]) dX5_passNights_114 (by decide) rfl ?_
          obtain ⟨x11, ex11⟩ : ∃ y : Int32, y = nI j + 1 := ⟨_, rfl⟩
          refine V.iinc (v := x11) (ls' := [.ref t, .int (nI m), .int x8, .int (nI j), .int x9, .int x10, .int x11, .int x4, .null]) dX5_passNights_116 rfl (by decide) ex11.symm rfl ?_
          refine V.goto (tgt := 19) dX5_passNights_119 (by decide) ?_
          have q1 : x8 = x' := by rw [ex8, TH_t]; rfl
          have q2 : x9 = o' := by rw [ex9, TH_t]; rfl
          rw [ex11, nI_1, q1, q2]
          exact V.less (ls' := [.ref t, .int (nI m), .int x', .int (nI j), .int o', .int x10, .int (nI (j + 1)), .null, .null]) ⟨Or.inr rfl, Or.inr rfl, Or.inr rfl, Or.inr rfl, Or.inr rfl, Or.inr rfl, Or.inr rfl, Or.inl rfl, Or.inl rfl, trivial⟩ (ih (j + 1) j x' x' o' o' x10 s' g2 (by omega) (by omega) (by omega) (by omega) (by rw [← h1a]; congr 1; omega) (by rw [← h1b]; congr 2; omega) (fun i => by rw [← h1c i]; congr 2; omega) (by rw [show j + 1 - 1 - j = 0 by omega]; rfl) (by rw [show j + 1 - 1 - j = 0 by omega]; exact (Int32.add_zero _).symm) (fun i => by rw [show j + 1 - 1 - j = 0 by omega]; exact Int32.or_zero))
      · have hq9 := c5
        rw [TH_t, show upd (upd (hI h1 t) 15 o') 13 x' 13 = x' from rfl] at hq9
        refine V.iload dX5_passNights_43 rfl ?_
        refine V.if_le (tgt := 89) dX5_passNights_45 (by decide) (fun c12 => ?_) (fun c12 => ?_)
        · refine V.iload dX5_passNights_89 rfl ?_
          refine V.iload dX5_passNights_91 rfl ?_
          refine V.icmp_ne (tgt := 116) dX5_passNights_93 (by decide) (fun c13 => ?_) (fun c13 => ?_)
          · obtain ⟨x14, ex14⟩ : ∃ y : Int32, y = nI j + 1 := ⟨_, rfl⟩
            refine V.iinc (v := x14) (ls' := [.ref t, .int (nI m), .int anc, .int (nI an), .int anco, .int span, .int x14, .int x4, .null]) dX5_passNights_116 rfl (by decide) ex14.symm rfl ?_
            refine V.goto (tgt := 19) dX5_passNights_119 (by decide) ?_
            rw [ex14, nI_1]
            exact V.less (ls' := [.ref t, .int (nI m), .int anc, .int (nI (an)), .int anco, .int span, .int (nI (j + 1)), .null, .null]) ⟨Or.inr rfl, Or.inr rfl, Or.inr rfl, Or.inr rfl, Or.inr rfl, Or.inr rfl, Or.inr rfl, Or.inl rfl, Or.inl rfl, trivial⟩ (ih (j + 1) an x' anc o' anco span s' g2 (by omega) (by omega) (by omega) (by omega) (by rw [← h1a]; congr 1; omega) (by rw [← h1b]; congr 2; omega) (fun i => by rw [← h1c i]; congr 2; omega) (by rw [← h2a]; congr 1) (by rw [h2b]; congr 2) (fun i => by have h9 := h2c i; exact h9))
          · refine V.aload_n dX5_passNights_96 rfl rfl (sT0 hT) ?_
            refine V.getI dX5_passNights_97 fl_X5_78 (sT0 hT) (Or.inl ⟨rfl, SHL_lt (sT0 hT)⟩) rfl rfl ?_
            refine V.nmi (fun x15 ex15 => ?_)
            refine V.istore_n (ls' := [.ref t, .int (nI m), .int x15, .int (nI an), .int anco, .int span, .int (nI j), .int x4, .null]) dX5_passNights_100 rfl (by decide) rfl ?_
            refine V.iload dX5_passNights_101 rfl ?_
            refine V.istore_n (ls' := [.ref t, .int (nI m), .int x15, .int (nI j), .int anco, .int span, .int (nI j), .int x4, .null]) dX5_passNights_103 rfl (by decide) rfl ?_
            refine V.aload_n dX5_passNights_104 rfl rfl (sT0 hT) ?_
            refine V.getI dX5_passNights_105 fl_X5_84 (sT0 hT) (Or.inl ⟨rfl, SHL_lt (sT0 hT)⟩) rfl rfl ?_
            refine V.nmi (fun x16 ex16 => ?_)
            refine V.istore (ls' := [.ref t, .int (nI m), .int x15, .int (nI j), .int x16, .int span, .int (nI j), .int x4, .null]) dX5_passNights_108 (by decide) rfl ?_
            refine V.iload dX5_passNights_110 rfl ?_
            refine V.iconst (v := 2) dX5_passNights_112 rfl ?_
            refine V.imul dX5_passNights_113 ?_
            refine V.nmi (fun x17 ex17 => ?_)
            refine V.istore (ls' := [.ref t, .int (nI m), .int x15, .int (nI j), .int x16, .int x17, .int (nI j), .int x4, .null]) dX5_passNights_114 (by decide) rfl ?_
            obtain ⟨x18, ex18⟩ : ∃ y : Int32, y = nI j + 1 := ⟨_, rfl⟩
            refine V.iinc (v := x18) (ls' := [.ref t, .int (nI m), .int x15, .int (nI j), .int x16, .int x17, .int x18, .int x4, .null]) dX5_passNights_116 rfl (by decide) ex18.symm rfl ?_
            refine V.goto (tgt := 19) dX5_passNights_119 (by decide) ?_
            have q1 : x15 = x' := by rw [ex15, TH_t]; rfl
            have q2 : x16 = o' := by rw [ex16, TH_t]; rfl
            rw [ex18, nI_1, q1, q2]
            exact V.less (ls' := [.ref t, .int (nI m), .int x', .int (nI j), .int o', .int x17, .int (nI (j + 1)), .null, .null]) ⟨Or.inr rfl, Or.inr rfl, Or.inr rfl, Or.inr rfl, Or.inr rfl, Or.inr rfl, Or.inr rfl, Or.inl rfl, Or.inl rfl, trivial⟩ (ih (j + 1) j x' x' o' o' x17 s' g2 (by omega) (by omega) (by omega) (by omega) (by rw [← h1a]; congr 1; omega) (by rw [← h1b]; congr 2; omega) (fun i => by rw [← h1c i]; congr 2; omega) (by rw [show j + 1 - 1 - j = 0 by omega]; rfl) (by rw [show j + 1 - 1 - j = 0 by omega]; exact (Int32.add_zero _).symm) (fun i => by rw [show j + 1 - 1 - j = 0 by omega]; exact Int32.or_zero))
        · rw [erd]
          refine V.iload_n dX5_passNights_48 rfl rfl ?_
          refine V.iload dX5_passNights_49 rfl ?_
          refine V.isub dX5_passNights_51 ?_
          refine V.iload dX5_passNights_52 rfl ?_
          refine V.idiv dX5_passNights_54 (nI_ne0 (by omega) (by omega)) ?_
          refine V.nmi (fun x19 ex19 => ?_)
          refine V.istore (ls' := [.ref t, .int (nI m), .int anc, .int (nI an), .int anco, .int span, .int (nI j), .int (nI (j - an)), .int x19]) dX5_passNights_55 (by decide) rfl ?_
          refine V.aload_n dX5_passNights_57 rfl rfl (sT0 hT) ?_
          refine V.dup dX5_passNights_58 rfl ?_
          refine V.getI dX5_passNights_59 fl_X5_84 (sT0 hT) (Or.inl ⟨rfl, SHL_lt (sT0 hT)⟩) rfl rfl ?_
          refine V.iload dX5_passNights_62 rfl ?_
          refine V.aload_n dX5_passNights_64 rfl rfl (sT0 hT) ?_
          refine V.getI dX5_passNights_65 fl_X5_84 (sT0 hT) (Or.inl ⟨rfl, SHL_lt (sT0 hT)⟩) rfl rfl ?_
          refine V.iload dX5_passNights_68 rfl ?_
          refine V.isub dX5_passNights_70 ?_
          refine V.imul dX5_passNights_71 ?_
          refine V.iadd dX5_passNights_72 ?_
          refine V.putI dX5_passNights_73 fl_X5_84 (sT0 hT) (Or.inl ⟨rfl, SHL_lt (sT0 hT)⟩) rfl (fun q hq => by cases hq; rfl) ⟨rfl, rfl⟩ ?_
          have hcc : itN (nxF h1 t) (j - an) x' = x' := by have h9 := h2a; rw [← hq9] at h9; exact h9
          have erds : x19 = nI ((m - j) / (j - an)) := by rw [ex19, nI_sub hlt, nI_div (by omega) (by omega) (by omega)]
          refine V.heapEq (h' := TH h1 t x' (o' + oilN (nxF h1 t) ((m - j) / (j - an) * (j - an)) x') s' g2) ?_ ?_
          · rw [oilN_cyc hcc, erds, TH_t, show upd (upd (hI h1 t) 15 o') 13 x' 15 = o' from rfl, show o' - anco = oilN (nxF h1 t) (j - an) x' by rw [h2b, ← hq9, Int32.add_comm anco, Int32.add_sub_cancel]]
            show rI _ t (upd (hI (TH h1 t x' o' s' g2) t) 15 _) = _
            rw [TH_t]; unfold TH; rw [rI_rI]
            refine congrArg (rI _ t) ?_
            funext q; simp only [upd]; split
            · next e => subst e; rfl
            · rfl
          rw [erds]
          refine V.iload dX5_passNights_76 rfl ?_
          refine V.iload dX5_passNights_78 rfl ?_
          refine V.iload dX5_passNights_80 rfl ?_
          refine V.imul dX5_passNights_82 ?_
          refine V.iadd dX5_passNights_83 ?_
          refine V.nmi (fun x20 ex20 => ?_)
          refine V.istore (ls' := [.ref t, .int (nI m), .int anc, .int (nI an), .int anco, .int span, .int x20, .int (nI (j - an)), .int (nI ((m - j) / (j - an)))]) dX5_passNights_84 (by decide) rfl ?_
          refine V.goto (tgt := 116) dX5_passNights_86 (by decide) ?_
          obtain ⟨x21, ex21⟩ : ∃ y : Int32, y = x20 + 1 := ⟨_, rfl⟩
          refine V.iinc (v := x21) (ls' := [.ref t, .int (nI m), .int anc, .int (nI an), .int anco, .int span, .int x21, .int (nI (j - an)), .int (nI ((m - j) / (j - an)))]) dX5_passNights_116 rfl (by decide) ex21.symm rfl ?_
          refine V.goto (tgt := 19) dX5_passNights_119 (by decide) ?_
          have hrp : 0 < j - an := by omega
          generalize hp : j - an = pp at *
          have hle : (m - j) / pp * pp ≤ m - j := Nat.div_mul_le_self _ _
          have hsc : itN (nxF h1 t) ((m - j) / pp * pp) x' = x' := itN_cyc hcc _
          have hss : ∀ i, s' i ||| seenN (nxF h1 t) (uT h1 t) ((m - j) / pp * pp) x' i = s' i := fun i => seenN_cyc hcc (by have h9 := h2c i; rw [← hq9] at h9; exact h9) _
          rw [ex21, ex20, nI_mul, nI_add, nI_1]
          generalize (m - j) / pp * pp = sk at *
          subst hq9
          exact V.less (ls' := [.ref t, .int (nI m), .int x', .int (nI (an)), .int anco, .int span, .int (nI (j + sk + 1)), .null, .null]) ⟨Or.inr rfl, Or.inr rfl, Or.inr rfl, Or.inr rfl, Or.inr rfl, Or.inr rfl, Or.inr rfl, Or.inl rfl, Or.inl rfl, trivial⟩ (ih _ an x' x' _ anco span s' g2 (by omega) (by omega) (by omega) (by omega)
            (by rw [← h1a, show m - j = sk + (m + 1 - (j + sk + 1)) by omega, itN_add, hsc])
            (by rw [← h1b, show m - j = sk + (m + 1 - (j + sk + 1)) by omega, oilN_add, hsc, Int32.add_assoc])
            (fun i => by rw [← h1c i, show m - j = sk + (m + 1 - (j + sk + 1)) by omega, seenN_add, hsc, ← Int32.or_assoc, hss i])
            (by rw [show j + sk + 1 - 1 - an = pp + sk by omega, itN_add, hcc, hsc])
            (by rw [show j + sk + 1 - 1 - an = pp + sk by omega, oilN_add, hcc, ← Int32.add_assoc, ← h2b])
            (fun i => by rw [show j + sk + 1 - 1 - an = pp + sk by omega, seenN_add, hcc, ← Int32.or_assoc, h2c i, hss i]))
