/-! ===== status, what calls answer; trays, by the class and by the reference ===== -/
set_option maxRecDepth 100000 in
theorem sp_X11_answer {h : HP} (ly : Lay h) (v : Int32) : Spec yX11_answer cX11_answer miX11_answer [.ref 0, .int v] h (pI fun r h' => r = v ∧ h' = uI h 0 11 0) := by
  refine Spec.of (ls0 := [.ref 0, .int v]) mo_X11_answer (Nat.le_of_ble_eq_true rfl) rfl ?_
  rw [ly.1]
  refine V.aload_n dX11_answer_0 rfl rfl rfl ?_
  refine V.iconst (v := 0) dX11_answer_1 rfl ?_
  refine V.putI dX11_answer_2 fl_X11_75 rfl (Or.inl ⟨rfl, SHL_lt rfl⟩) rfl (fun q hq => by cases hq; rfl) ⟨rfl, rfl⟩ ?_
  refine V.iload_n dX11_answer_5 rfl rfl ?_
  refine V.ireturn dX11_answer_6 rfl rfl ⟨rfl, rfl⟩ ly.1 ?_
  exact ⟨rfl, rfl⟩
set_option maxRecDepth 100000 in
theorem sp_X11_refuse {h : HP} (ly : Lay h) (v : Int32) : Spec yX11_refuse cX11_refuse miX11_refuse [.ref 0, .int v] h (pI fun r h' => r = -1 ∧ h' = uI h 0 11 v) := by
  refine Spec.of (ls0 := [.ref 0, .int v]) mo_X11_refuse (Nat.le_of_ble_eq_true rfl) rfl ?_
  rw [ly.1]
  refine V.aload_n dX11_refuse_0 rfl rfl rfl ?_
  refine V.iload_n dX11_refuse_1 rfl rfl ?_
  refine V.putI dX11_refuse_2 fl_X11_75 rfl (Or.inl ⟨rfl, SHL_lt rfl⟩) rfl (fun q hq => by cases hq; rfl) ⟨rfl, rfl⟩ ?_
  refine V.iconst (v := (-1)) dX11_refuse_5 rfl ?_
  refine V.ireturn dX11_refuse_6 rfl rfl ⟨rfl, rfl⟩ ly.1 ?_
  exact ⟨rfl, rfl⟩
set_option maxRecDepth 100000 in
theorem sp_X11_allow {h : HP} (ly : Lay h) : Spec yX11_allow cX11_allow miX11_allow [.ref 0] h (pI fun r h' => r = 1 ∧ h' = uI h 0 11 0) := by
  refine Spec.of (ls0 := [.ref 0]) mo_X11_allow (Nat.le_of_ble_eq_true rfl) rfl ?_
  rw [ly.1]
  refine V.aload_n dX11_allow_0 rfl rfl rfl ?_
  refine V.iconst (v := 0) dX11_allow_1 rfl ?_
  refine V.putI dX11_allow_2 fl_X11_75 rfl (Or.inl ⟨rfl, SHL_lt rfl⟩) rfl (fun q hq => by cases hq; rfl) ⟨rfl, rfl⟩ ?_
  refine V.iconst (v := 1) dX11_allow_5 rfl ?_
  refine V.ireturn dX11_allow_6 rfl rfl ⟨rfl, rfl⟩ ly.1 ?_
  exact ⟨rfl, rfl⟩
set_option maxRecDepth 100000 in
theorem sp_X11_deny {h : HP} (ly : Lay h) (v : Int32) : Spec yX11_deny cX11_deny miX11_deny [.ref 0, .int v] h (pI fun r h' => r = 0 ∧ h' = uI h 0 11 v) := by
  refine Spec.of (ls0 := [.ref 0, .int v]) mo_X11_deny (Nat.le_of_ble_eq_true rfl) rfl ?_
  rw [ly.1]
  refine V.aload_n dX11_deny_0 rfl rfl rfl ?_
  refine V.iload_n dX11_deny_1 rfl rfl ?_
  refine V.putI dX11_deny_2 fl_X11_75 rfl (Or.inl ⟨rfl, SHL_lt rfl⟩) rfl (fun q hq => by cases hq; rfl) ⟨rfl, rfl⟩ ?_
  refine V.iconst (v := 0) dX11_deny_5 rfl ?_
  refine V.ireturn dX11_deny_6 rfl rfl ⟨rfl, rfl⟩ ly.1 ?_
  exact ⟨rfl, rfl⟩
set_option maxRecDepth 100000 in
theorem sp_X12_is {h : HP} (ly : Lay h) (v : Int32) : Spec yX12_is cX12_is miX12_is [.ref 113, .int v] h (pI fun r h' => r = bI (decide (v = 0)) ∧ h' = uI h 113 2 v) := by
  refine Spec.of (ls0 := [.ref 113, .int v]) mo_X12_is (Nat.le_of_ble_eq_true rfl) rfl ?_
  rw [ly.1]
  refine V.aload_n dX12_is_0 rfl rfl rfl ?_
  refine V.iload_n dX12_is_1 rfl rfl ?_
  refine V.putI dX12_is_2 fl_X12_75 rfl (Or.inl ⟨rfl, SHL_lt rfl⟩) rfl (fun q hq => by cases hq; rfl) ⟨rfl, rfl⟩ ?_
  refine V.iload_n dX12_is_5 rfl rfl ?_
  refine V.if_ne (tgt := 13) dX12_is_6 (by decide) (fun c1 => ?_) (fun c1 => ?_)
  · refine V.iconst (v := 0) dX12_is_13 rfl ?_
    refine V.ireturn dX12_is_14 rfl rfl ⟨rfl, rfl⟩ ly.1 ?_
    exact ⟨by first | exact bI_t (by assumption) | exact bI_f (by assumption), rfl⟩
  · refine V.iconst (v := 1) dX12_is_9 rfl ?_
    refine V.goto (tgt := 14) dX12_is_10 (by decide) ?_
    refine V.ireturn dX12_is_14 rfl rfl ⟨rfl, rfl⟩ ly.1 ?_
    exact ⟨by first | exact bI_t (by assumption) | exact bI_f (by assumption), rfl⟩
set_option maxRecDepth 100000 in
theorem sp_X12_refuse {h : HP} (ly : Lay h) (v : Int32) : Spec yX12_refuse cX12_refuse miX12_refuse [.ref 113, .int v] h (pI fun r h' => r = -1 ∧ h' = uI h 113 2 v) := by
  refine Spec.of (ls0 := [.ref 113, .int v]) mo_X12_refuse (Nat.le_of_ble_eq_true rfl) rfl ?_
  rw [ly.1]
  refine V.aload_n dX12_refuse_0 rfl rfl rfl ?_
  refine V.iload_n dX12_refuse_1 rfl rfl ?_
  refine V.putI dX12_refuse_2 fl_X12_75 rfl (Or.inl ⟨rfl, SHL_lt rfl⟩) rfl (fun q hq => by cases hq; rfl) ⟨rfl, rfl⟩ ?_
  refine V.iconst (v := (-1)) dX12_refuse_5 rfl ?_
  refine V.ireturn dX12_refuse_6 rfl rfl ⟨rfl, rfl⟩ ly.1 ?_
  exact ⟨rfl, rfl⟩
set_option maxRecDepth 100000 in
theorem sp_X12_gives {h : HP} (ly : Lay h) (v : Int32) : Spec yX12_gives cX12_gives miX12_gives [.ref 113, .int v] h (pI fun r h' => r = v ∧ h' = uI h 113 2 0) := by
  refine Spec.of (ls0 := [.ref 113, .int v]) mo_X12_gives (Nat.le_of_ble_eq_true rfl) rfl ?_
  rw [ly.1]
  refine V.aload_n dX12_gives_0 rfl rfl rfl ?_
  refine V.iconst (v := 0) dX12_gives_1 rfl ?_
  refine V.putI dX12_gives_2 fl_X12_75 rfl (Or.inl ⟨rfl, SHL_lt rfl⟩) rfl (fun q hq => by cases hq; rfl) ⟨rfl, rfl⟩ ?_
  refine V.iload_n dX12_gives_5 rfl rfl ?_
  refine V.ireturn dX12_gives_6 rfl rfl ⟨rfl, rfl⟩ ly.1 ?_
  exact ⟨rfl, rfl⟩
set_option maxRecDepth 100000 in
theorem sp_X12_givesLong {h : HP} (ly : Lay h) (v : Int64) : Spec yX12_givesLong cX12_givesLong miX12_givesLong [.ref 113, .long v] h (pL fun r h' => r = v ∧ h' = uI h 113 2 0) := by
  refine Spec.of (ls0 := [.ref 113, .long v, .null]) mo_X12_givesLong (Nat.le_of_ble_eq_true rfl) rfl ?_
  rw [ly.1]
  refine V.aload_n dX12_givesLong_0 rfl rfl rfl ?_
  refine V.iconst (v := 0) dX12_givesLong_1 rfl ?_
  refine V.putI dX12_givesLong_2 fl_X12_75 rfl (Or.inl ⟨rfl, SHL_lt rfl⟩) rfl (fun q hq => by cases hq; rfl) ⟨rfl, rfl⟩ ?_
  refine V.lload_n dX12_givesLong_5 rfl rfl ?_
  refine V.lreturn dX12_givesLong_6 rfl ⟨rfl, rfl⟩ ly.1 ?_
  exact ⟨rfl, rfl⟩
set_option maxRecDepth 100000 in
theorem sp_X12_orNone {h : HP} (ly : Lay h) (v : Int32) : Spec yX12_orNone cX12_orNone miX12_orNone [.ref 113, .int v] h (pI fun r h' => (v = -1 ∧ r = -1 ∧ h' = uI h 113 2 6) ∨ (v ≠ -1 ∧ r = v ∧ h' = uI h 113 2 0)) := by
  refine Spec.of (ls0 := [.ref 113, .int v]) mo_X12_orNone (Nat.le_of_ble_eq_true rfl) rfl ?_
  rw [ly.1]
  refine V.iload_n dX12_orNone_0 rfl rfl ?_
  refine V.iconst (v := (-1)) dX12_orNone_1 rfl ?_
  refine V.icmp_ne (tgt := 14) dX12_orNone_2 (by decide) (fun c1 => ?_) (fun c1 => ?_)
  · refine V.aload_n dX12_orNone_14 rfl rfl rfl ?_
    refine V.iload_n dX12_orNone_15 rfl rfl ?_
    refine V.callVI dX12_orNone_16 ml_X12_85 mo_X12_gives mv_X12_gives rfl (fun q hq => by cases hq; rfl) (by decide) (Or.inl ⟨rfl, SHL_lt rfl⟩) (sp_X12_gives (by exact ly.keep rfl rfl) _) rfl rfl ⟨Nat.le_of_ble_eq_true rfl, Nat.le_of_ble_eq_true rfl, fun _ => ⟨rfl, rfl⟩⟩ (Nat.le_of_ble_eq_true rfl) rfl (fun r2 h3 p4 => ?_)
    obtain ⟨er2, p4⟩ := p4
    have p4 := p4.symm
    subst p4
    refine V.ireturn dX12_orNone_19 rfl rfl ⟨rfl, rfl⟩ ly.1 ?_
    first | exact Or.inl ⟨by assumption, by assumption, rfl⟩ | exact Or.inr ⟨by assumption, by assumption, rfl⟩
  · refine V.aload_n dX12_orNone_5 rfl rfl rfl ?_
    refine V.bipush (v := 6) dX12_orNone_6 rfl ?_
    refine V.callVI dX12_orNone_8 ml_X12_81 mo_X12_refuse mv_X12_refuse rfl (fun q hq => by cases hq; rfl) (by decide) (Or.inl ⟨rfl, SHL_lt rfl⟩) (sp_X12_refuse (by exact ly.keep rfl rfl) _) rfl rfl ⟨Nat.le_of_ble_eq_true rfl, Nat.le_of_ble_eq_true rfl, fun _ => ⟨rfl, rfl⟩⟩ (Nat.le_of_ble_eq_true rfl) rfl (fun r5 h6 p7 => ?_)
    obtain ⟨er5, p7⟩ := p7
    have p7 := p7.symm
    subst p7
    refine V.goto (tgt := 19) dX12_orNone_11 (by decide) ?_
    refine V.ireturn dX12_orNone_19 rfl rfl ⟨rfl, rfl⟩ ly.1 ?_
    first | exact Or.inl ⟨by assumption, by assumption, rfl⟩ | exact Or.inr ⟨by assumption, by assumption, rfl⟩
set_option maxRecDepth 100000 in
theorem sp_X11_status {h : HP} (ly : Lay h) : Spec yX11_status cX11_status miX11_status [.ref 0] h (pI fun r h' => r = hI h 0 11 ∧ h' = h) := by
  refine Spec.of (ls0 := [.ref 0]) mo_X11_status (Nat.le_of_ble_eq_true rfl) rfl ?_
  rw [ly.1]
  refine V.aload_n dX11_status_0 rfl rfl rfl ?_
  refine V.getI dX11_status_1 fl_X11_75 rfl (Or.inl ⟨rfl, SHL_lt rfl⟩) rfl rfl ?_
  refine V.ireturn dX11_status_4 rfl rfl ⟨rfl, rfl⟩ ly.1 ?_
  exact ⟨rfl, rfl⟩
set_option maxRecDepth 100000 in
theorem sp_X11_top {h : HP} (ly : Lay h) : Spec yX11_top cX11_top miX11_top [.ref 0] h (pL fun r h' => r = hL h 0 12 ∧ h' = h) := by
  refine Spec.of (ls0 := [.ref 0]) mo_X11_top (Nat.le_of_ble_eq_true rfl) rfl ?_
  rw [ly.1]
  refine V.aload_n dX11_top_0 rfl rfl rfl ?_
  refine V.getL dX11_top_1 fl_X11_79 rfl (Or.inl ⟨rfl, SHL_lt rfl⟩) rfl rfl ?_
  refine V.lreturn dX11_top_4 rfl ⟨rfl, rfl⟩ ly.1 ?_
  exact ⟨rfl, rfl⟩
set_option maxRecDepth 100000 in
theorem sp_X11_bottom {h : HP} (ly : Lay h) : Spec yX11_bottom cX11_bottom miX11_bottom [.ref 0] h (pL fun r h' => r = hL h 0 13 ∧ h' = h) := by
  refine Spec.of (ls0 := [.ref 0]) mo_X11_bottom (Nat.le_of_ble_eq_true rfl) rfl ?_
  rw [ly.1]
  refine V.aload_n dX11_bottom_0 rfl rfl rfl ?_
  refine V.getL dX11_bottom_1 fl_X11_68 rfl (Or.inl ⟨rfl, SHL_lt rfl⟩) rfl rfl ?_
  refine V.lreturn dX11_bottom_4 rfl ⟨rfl, rfl⟩ ly.1 ?_
  exact ⟨rfl, rfl⟩
set_option maxRecDepth 100000 in
theorem sp_X12_status {h : HP} (ly : Lay h) : Spec yX12_status cX12_status miX12_status [.ref 113] h (pI fun r h' => r = hI h 113 2 ∧ h' = h) := by
  refine Spec.of (ls0 := [.ref 113]) mo_X12_status (Nat.le_of_ble_eq_true rfl) rfl ?_
  rw [ly.1]
  refine V.aload_n dX12_status_0 rfl rfl rfl ?_
  refine V.getI dX12_status_1 fl_X12_75 rfl (Or.inl ⟨rfl, SHL_lt rfl⟩) rfl rfl ?_
  refine V.ireturn dX12_status_4 rfl rfl ⟨rfl, rfl⟩ ly.1 ?_
  exact ⟨rfl, rfl⟩
set_option maxRecDepth 100000 in
theorem sp_X12_top {h : HP} (ly : Lay h) : Spec yX12_top cX12_top miX12_top [.ref 113] h (pL fun r h' => r = hL h 113 3 ∧ h' = h) := by
  refine Spec.of (ls0 := [.ref 113]) mo_X12_top (Nat.le_of_ble_eq_true rfl) rfl ?_
  rw [ly.1]
  refine V.aload_n dX12_top_0 rfl rfl rfl ?_
  refine V.getL dX12_top_1 fl_X12_78 rfl (Or.inl ⟨rfl, SHL_lt rfl⟩) rfl rfl ?_
  refine V.lreturn dX12_top_4 rfl ⟨rfl, rfl⟩ ly.1 ?_
  exact ⟨rfl, rfl⟩
set_option maxRecDepth 100000 in
theorem sp_X12_bottom {h : HP} (ly : Lay h) : Spec yX12_bottom cX12_bottom miX12_bottom [.ref 113] h (pL fun r h' => r = hL h 113 4 ∧ h' = h) := by
  refine Spec.of (ls0 := [.ref 113]) mo_X12_bottom (Nat.le_of_ble_eq_true rfl) rfl ?_
  rw [ly.1]
  refine V.aload_n dX12_bottom_0 rfl rfl rfl ?_
  refine V.getL dX12_bottom_1 fl_X12_17 rfl (Or.inl ⟨rfl, SHL_lt rfl⟩) rfl rfl ?_
  refine V.lreturn dX12_bottom_4 rfl ⟨rfl, rfl⟩ ly.1 ?_
  exact ⟨rfl, rfl⟩
def okTray (t s m : Int32) : Prop := 0 ≤ t.toInt ∧ t.toInt < 4 ∧ 0 ≤ s.toInt ∧ s.toInt ≤ 3 ∧ 0 ≤ m.toInt ∧ m.toInt ≤ 60
theorem nat_of {x : Int32} {n : Nat} (h0 : 0 ≤ x.toInt) (h1 : x.toInt < (n : Int)) : ∃ j, j < n ∧ x = nI j := ⟨x.toInt.toNat, by omega, nI_toNat h0⟩
def trayE (h : HP) (A B C : Nat) (t s m : Int32) : HP := rL (uI (uI h A t.toNatClampNeg s) B t.toNatClampNeg m) C (rowL (hL h C) (fun _ => 0) (t.toNatClampNeg * 60) m.toNatClampNeg)
theorem trayE_nI (h : HP) (A B C : Nat) {t m : Nat} (s : Int32) (ht : t < 4) (hm : m ≤ 60) : trayE h A B C (nI t) s (nI m) = rL (uI (uI h A t s) B t (nI m)) C (rowL (hL h C) (fun _ => 0) (t * 60) m) := by
  unfold trayE; rw [nI_clamp (by omega), nI_clamp (by omega)]
set_option maxRecDepth 100000 in
theorem sp_X11_tray {h : HP} (ly : Lay h) (t s m : Int32) : Spec yX11_tray cX11_tray miX11_tray [.ref 0, .int t, .int s, .int m] h (pI fun r h' => (okTray t s m ∧ r = 1 ∧ h' = uI (trayE h 3 4 2 t s m) 0 11 0) ∨ (¬ okTray t s m ∧ r = 0 ∧ h' = uI h 0 11 1)) := by
  refine Spec.of (ls0 := [.ref 0, .int t, .int s, .int m]) mo_X11_tray (Nat.le_of_ble_eq_true rfl) rfl ?_
  rw [ly.1]
  refine V.iload_n dX11_tray_0 rfl rfl ?_
  refine V.callSI dX11_tray_1 ml_X11_82 mo_X7_isTray ms_X7_isTray (sp_X7_isTray _ _) rfl rfl ⟨Nat.le_of_ble_eq_true rfl, Nat.le_of_ble_eq_true rfl, fun _ => ⟨rfl, rfl⟩⟩ (Nat.le_of_ble_eq_true rfl) rfl (fun r1 h2 p3 => ?_)
  obtain ⟨er1, p3⟩ := p3
  have p3 := p3.symm
  subst p3
  refine V.if_eq (tgt := 26) dX11_tray_4 (by decide) (fun c4 => ?_) (fun c4 => ?_)
  · rw [er1, bI_0] at c4
    refine V.aload_n dX11_tray_26 rfl rfl rfl ?_
    refine V.iconst (v := 1) dX11_tray_27 rfl ?_
    refine V.callVI dX11_tray_28 ml_X11_86 mo_X11_deny mv_X11_deny rfl (fun q hq => by cases hq; rfl) (by decide) (Or.inl ⟨rfl, SHL_lt rfl⟩) (sp_X11_deny (by exact ly.keep rfl rfl) _) rfl rfl ⟨Nat.le_of_ble_eq_true rfl, Nat.le_of_ble_eq_true rfl, fun _ => ⟨rfl, rfl⟩⟩ (Nat.le_of_ble_eq_true rfl) rfl (fun r5 h6 p7 => ?_)
    obtain ⟨er5, p7⟩ := p7
    have p7 := p7.symm
    subst p7
    refine V.ireturn dX11_tray_31 rfl (by rw [er5]; first | rfl | exact bI_01 _) ⟨rfl, rfl⟩ ly.1 ?_
    exact Or.inr ⟨by unfold okTray; simp only [Int32.lt_iff_toInt_lt, Int32.le_iff_toInt_le, Int32.reduceToInt] at *; omega, by assumption, rfl⟩
  · rw [er1, bI_0, Decidable.not_not] at c4
    refine V.iload_n dX11_tray_7 rfl rfl ?_
    refine V.if_lt (tgt := 26) dX11_tray_8 (by decide) (fun c8 => ?_) (fun c8 => ?_)
    · refine V.aload_n dX11_tray_26 rfl rfl rfl ?_
      refine V.iconst (v := 1) dX11_tray_27 rfl ?_
      refine V.callVI dX11_tray_28 ml_X11_86 mo_X11_deny mv_X11_deny rfl (fun q hq => by cases hq; rfl) (by decide) (Or.inl ⟨rfl, SHL_lt rfl⟩) (sp_X11_deny (by exact ly.keep rfl rfl) _) rfl rfl ⟨Nat.le_of_ble_eq_true rfl, Nat.le_of_ble_eq_true rfl, fun _ => ⟨rfl, rfl⟩⟩ (Nat.le_of_ble_eq_true rfl) rfl (fun r9 h10 p11 => ?_)
      obtain ⟨er9, p11⟩ := p11
      have p11 := p11.symm
      subst p11
      refine V.ireturn dX11_tray_31 rfl (by rw [er9]; first | rfl | exact bI_01 _) ⟨rfl, rfl⟩ ly.1 ?_
      exact Or.inr ⟨by unfold okTray; simp only [Int32.lt_iff_toInt_lt, Int32.le_iff_toInt_le, Int32.reduceToInt] at *; omega, by assumption, rfl⟩
    · refine V.iload_n dX11_tray_11 rfl rfl ?_
      refine V.iconst (v := 3) dX11_tray_12 rfl ?_
      refine V.icmp_gt (tgt := 26) dX11_tray_13 (by decide) (fun c12 => ?_) (fun c12 => ?_)
      · refine V.aload_n dX11_tray_26 rfl rfl rfl ?_
        refine V.iconst (v := 1) dX11_tray_27 rfl ?_
        refine V.callVI dX11_tray_28 ml_X11_86 mo_X11_deny mv_X11_deny rfl (fun q hq => by cases hq; rfl) (by decide) (Or.inl ⟨rfl, SHL_lt rfl⟩) (sp_X11_deny (by exact ly.keep rfl rfl) _) rfl rfl ⟨Nat.le_of_ble_eq_true rfl, Nat.le_of_ble_eq_true rfl, fun _ => ⟨rfl, rfl⟩⟩ (Nat.le_of_ble_eq_true rfl) rfl (fun r13 h14 p15 => ?_)
        obtain ⟨er13, p15⟩ := p15
        have p15 := p15.symm
        subst p15
        refine V.ireturn dX11_tray_31 rfl (by rw [er13]; first | rfl | exact bI_01 _) ⟨rfl, rfl⟩ ly.1 ?_
        exact Or.inr ⟨by unfold okTray; simp only [Int32.lt_iff_toInt_lt, Int32.le_iff_toInt_le, Int32.reduceToInt] at *; omega, by assumption, rfl⟩
      · refine V.iload_n dX11_tray_16 rfl rfl ?_
        refine V.if_lt (tgt := 26) dX11_tray_17 (by decide) (fun c16 => ?_) (fun c16 => ?_)
        · refine V.aload_n dX11_tray_26 rfl rfl rfl ?_
          refine V.iconst (v := 1) dX11_tray_27 rfl ?_
          refine V.callVI dX11_tray_28 ml_X11_86 mo_X11_deny mv_X11_deny rfl (fun q hq => by cases hq; rfl) (by decide) (Or.inl ⟨rfl, SHL_lt rfl⟩) (sp_X11_deny (by exact ly.keep rfl rfl) _) rfl rfl ⟨Nat.le_of_ble_eq_true rfl, Nat.le_of_ble_eq_true rfl, fun _ => ⟨rfl, rfl⟩⟩ (Nat.le_of_ble_eq_true rfl) rfl (fun r17 h18 p19 => ?_)
          obtain ⟨er17, p19⟩ := p19
          have p19 := p19.symm
          subst p19
          refine V.ireturn dX11_tray_31 rfl (by rw [er17]; first | rfl | exact bI_01 _) ⟨rfl, rfl⟩ ly.1 ?_
          exact Or.inr ⟨by unfold okTray; simp only [Int32.lt_iff_toInt_lt, Int32.le_iff_toInt_le, Int32.reduceToInt] at *; omega, by assumption, rfl⟩
        · refine V.iload_n dX11_tray_20 rfl rfl ?_
          refine V.bipush (v := 60) dX11_tray_21 rfl ?_
          refine V.icmp_le (tgt := 32) dX11_tray_23 (by decide) (fun c20 => ?_) (fun c20 => ?_)
          · simp only [Int32.lt_iff_toInt_lt, Int32.le_iff_toInt_le, Int32.reduceToInt] at *
            have hok : okTray t s m := by unfold okTray; omega
            obtain ⟨t0, ht4, rfl⟩ := nat_of (n := 4) hok.1 hok.2.1
            obtain ⟨m0, hm61, rfl⟩ := nat_of (n := 61) hok.2.2.2.2.1 (by have := hok.2.2.2.2.2; omega)
            have hm60 : m0 ≤ 60 := by omega
            refine V.aload_n dX11_tray_32 rfl rfl rfl ?_
            refine V.getR (r := 1) dX11_tray_33 fl_X11_10 rfl (Or.inl ⟨rfl, SHL_lt rfl⟩) rfl (ly_0_0 ly) ?_
            refine V.iload_n dX11_tray_36 rfl rfl ?_
            refine V.iload_n dX11_tray_37 rfl rfl ?_
            refine V.iload_n dX11_tray_38 rfl rfl ?_
            refine V.callVV dX11_tray_39 ml_X11_89 mo_X7_make mv_X7_make rfl (fun q hq => by cases hq; rfl) (by decide) (Or.inl ⟨rfl, SHL_lt rfl⟩) (sp_X7_make (by exact ly.keep rfl rfl) ht4 hm60 _) rfl rfl ⟨Nat.le_of_ble_eq_true rfl, Nat.le_of_ble_eq_true rfl, fun _ => ⟨rfl, rfl⟩⟩ (Nat.le_of_ble_eq_true rfl) (Or.inl rfl) (fun h21 p22 => ?_)
            have p22 := p22.symm
            subst p22
            refine V.aload_n dX11_tray_42 rfl rfl rfl ?_
            refine V.callVI dX11_tray_43 ml_X11_93 mo_X11_allow mv_X11_allow rfl (fun q hq => by cases hq; rfl) (by decide) (Or.inl ⟨rfl, SHL_lt rfl⟩) (sp_X11_allow (by exact ly.keep rfl rfl)) rfl rfl ⟨Nat.le_of_ble_eq_true rfl, Nat.le_of_ble_eq_true rfl, fun _ => ⟨rfl, rfl⟩⟩ (Nat.le_of_ble_eq_true rfl) rfl (fun r23 h24 p25 => ?_)
            obtain ⟨er23, p25⟩ := p25
            have p25 := p25.symm
            subst p25
            refine V.ireturn dX11_tray_46 rfl (by rw [er23]; first | rfl | exact bI_01 _) ⟨rfl, rfl⟩ ly.1 ?_
            exact Or.inl ⟨hok, by assumption, by rw [trayE_nI _ _ _ _ _ ht4 hm60]⟩
          · refine V.aload_n dX11_tray_26 rfl rfl rfl ?_
            refine V.iconst (v := 1) dX11_tray_27 rfl ?_
            refine V.callVI dX11_tray_28 ml_X11_86 mo_X11_deny mv_X11_deny rfl (fun q hq => by cases hq; rfl) (by decide) (Or.inl ⟨rfl, SHL_lt rfl⟩) (sp_X11_deny (by exact ly.keep rfl rfl) _) rfl rfl ⟨Nat.le_of_ble_eq_true rfl, Nat.le_of_ble_eq_true rfl, fun _ => ⟨rfl, rfl⟩⟩ (Nat.le_of_ble_eq_true rfl) rfl (fun r26 h27 p28 => ?_)
            obtain ⟨er26, p28⟩ := p28
            have p28 := p28.symm
            subst p28
            refine V.ireturn dX11_tray_31 rfl (by rw [er26]; first | rfl | exact bI_01 _) ⟨rfl, rfl⟩ ly.1 ?_
            exact Or.inr ⟨by unfold okTray; simp only [Int32.lt_iff_toInt_lt, Int32.le_iff_toInt_le, Int32.reduceToInt] at *; omega, by assumption, rfl⟩
set_option maxRecDepth 100000 in
theorem sp_X12_isTray (h : HP) (t : Int32) : Spec yX12_isTray cX12_isTray miX12_isTray [.int t] h (pI fun r h' => r = bI (decide (0 ≤ t ∧ t < 4)) ∧ h' = h) := by
  refine Spec.of (ls0 := [.int t]) mo_X12_isTray (Nat.le_of_ble_eq_true rfl) rfl ?_
  refine V.iload_n dX12_isTray_0 rfl rfl ?_
  refine V.if_lt (tgt := 13) dX12_isTray_1 (by decide) (fun c1 => ?_) (fun c1 => ?_)
  · refine V.iconst (v := 0) dX12_isTray_13 rfl ?_
    refine V.ireturn dX12_isTray_14 rfl rfl ⟨rfl, rfl⟩ rfl ?_
    refine ⟨?_, rfl⟩
    first | (refine bI_t ?_; simp only [Int32.lt_iff_toInt_lt, Int32.le_iff_toInt_le, ← Int32.toInt_inj, Int32.reduceToInt] at *; omega) | (refine bI_f ?_; simp only [Int32.lt_iff_toInt_lt, Int32.le_iff_toInt_le, ← Int32.toInt_inj, Int32.reduceToInt] at *; omega)
  · refine V.iload_n dX12_isTray_4 rfl rfl ?_
    refine V.iconst (v := 4) dX12_isTray_5 rfl ?_
    refine V.icmp_ge (tgt := 13) dX12_isTray_6 (by decide) (fun c2 => ?_) (fun c2 => ?_)
    · refine V.iconst (v := 0) dX12_isTray_13 rfl ?_
      refine V.ireturn dX12_isTray_14 rfl rfl ⟨rfl, rfl⟩ rfl ?_
      refine ⟨?_, rfl⟩
      first | (refine bI_t ?_; simp only [Int32.lt_iff_toInt_lt, Int32.le_iff_toInt_le, ← Int32.toInt_inj, Int32.reduceToInt] at *; omega) | (refine bI_f ?_; simp only [Int32.lt_iff_toInt_lt, Int32.le_iff_toInt_le, ← Int32.toInt_inj, Int32.reduceToInt] at *; omega)
    · refine V.iconst (v := 1) dX12_isTray_9 rfl ?_
      refine V.goto (tgt := 14) dX12_isTray_10 (by decide) ?_
      refine V.ireturn dX12_isTray_14 rfl rfl ⟨rfl, rfl⟩ rfl ?_
      refine ⟨?_, rfl⟩
      first | (refine bI_t ?_; simp only [Int32.lt_iff_toInt_lt, Int32.le_iff_toInt_le, ← Int32.toInt_inj, Int32.reduceToInt] at *; omega) | (refine bI_f ?_; simp only [Int32.lt_iff_toInt_lt, Int32.le_iff_toInt_le, ← Int32.toInt_inj, Int32.reduceToInt] at *; omega)
set_option maxRecDepth 100000 in
theorem lp_X12_tray {h0 h1 : HP} (hn : h0.1 = 130) (ly : Lay h1) {t m : Nat} (ht : t < 4) (hm : m ≤ 60) {s : Int32} {P : Int32 → HP → Prop} (hP : P 1 (uI (rL h1 118 (rowL (hL h1 118) (fun _ => 0) (t * 60) m)) 113 2 0)) : ∀ n k, k ≤ m → m + 1 ≤ k + n →
    V cX12_tray miX12_tray (ZM h0 miX12_tray.2.2.2.1 (pI P)) 130 49 [.ref 113, .int (nI t), .int s, .int (nI m), .int (nI k)] [] (rL h1 118 (rowL (hL h1 118) (fun _ => 0) (t * 60) k)) := by
  intro n
  induction n with
  | zero => intro k h1 h2; exact absurd h2 (by omega)
  | succ n ih =>
    intro k hk hkn
    refine V.iload dX12_tray_49 rfl ?_
    refine V.iload_n dX12_tray_51 rfl rfl ?_
    refine V.icmp_ge (tgt := 74) dX12_tray_52 (by decide) (fun c1 => ?_) (fun c1 => ?_)
    · have hk2 : k = m := by have := c1; rw [nI_leI (by omega) (by omega)] at this; omega
      subst hk2
      refine V.aload_n dX12_tray_74 rfl rfl rfl ?_
      refine V.iconst (v := 0) dX12_tray_75 rfl ?_
      refine V.callVI dX12_tray_76 ml_X12_88 mo_X12_is mv_X12_is rfl (fun q hq => by cases hq; rfl) (by decide) (Or.inl ⟨rfl, SHL_lt rfl⟩) (sp_X12_is (by exact ly.keep rfl rfl) _) rfl rfl ⟨Nat.le_of_ble_eq_true rfl, Nat.le_of_ble_eq_true rfl, fun _ => ⟨rfl, rfl⟩⟩ (Nat.le_of_ble_eq_true rfl) rfl (fun r2 h3 p4 => ?_)
      obtain ⟨er2, p4⟩ := p4
      have p4 := p4.symm
      subst p4
      refine V.ireturn dX12_tray_79 rfl (by rw [er2]; first | rfl | exact bI_01 _) ⟨rfl, rfl⟩ hn ?_
      rw [er2]; exact hP
    · have hlt : k < m := by have := c1; rw [nI_leI (by omega) (by omega)] at this; omega
      refine V.aload_n dX12_tray_55 rfl rfl rfl ?_
      refine V.getR (r := 118) dX12_tray_56 fl_X12_27 rfl (Or.inl ⟨rfl, SHL_lt rfl⟩) rfl (ly_113_7 ly) ?_
      refine V.bipush (v := 60) dX12_tray_59 rfl ?_
      refine V.iload_n dX12_tray_61 rfl rfl ?_
      refine V.imul dX12_tray_62 ?_
      refine V.iload dX12_tray_63 rfl ?_
      refine V.iadd dX12_tray_65 ?_
      refine V.lconst (v := 0) dX12_tray_66 rfl ?_
      refine V.lastore dX12_tray_67 rfl (Or.inl ⟨rfl, SHL_lt rfl⟩) (by rw [show (60 : Int32) = nI 60 from rfl, nI_mul, nI_add]; exact vp_in_nI (by omega) (by decide)) ?_
      rw [show (60 * nI t + nI k).toNatClampNeg = t * 60 + k by rw [show (60 : Int32) = nI 60 from rfl, nI_mul, nI_add, Nat.mul_comm]; exact nI_clamp (by omega), uL_row h1 118 (hL h1 118) (fun _ => 0) (t * 60) k]
      obtain ⟨x5, ex5⟩ : ∃ y : Int32, y = nI k + 1 := ⟨_, rfl⟩
      refine V.iinc (v := x5) (ls' := [.ref 113, .int (nI t), .int s, .int (nI m), .int x5]) dX12_tray_68 rfl (by decide) ex5.symm rfl ?_
      refine V.goto (tgt := 49) dX12_tray_71 (by decide) ?_
      rw [ex5, nI_1]
      exact ih (k + 1) (by omega) (by omega)
set_option maxRecDepth 100000 in
theorem sp_X12_tray {h : HP} (ly : Lay h) (t s m : Int32) : Spec yX12_tray cX12_tray miX12_tray [.ref 113, .int t, .int s, .int m] h (pI fun r h' => (okTray t s m ∧ r = 1 ∧ h' = uI (trayE h 116 117 118 t s m) 113 2 0) ∨ (¬ okTray t s m ∧ r = 0 ∧ h' = uI h 113 2 1)) := by
  refine Spec.of (ls0 := [.ref 113, .int t, .int s, .int m, .null]) mo_X12_tray (Nat.le_of_ble_eq_true rfl) rfl ?_
  rw [ly.1]
  refine V.iload_n dX12_tray_0 rfl rfl ?_
  refine V.callSI dX12_tray_1 ml_X12_92 mo_X12_isTray ms_X12_isTray (sp_X12_isTray _ _) rfl rfl ⟨Nat.le_of_ble_eq_true rfl, Nat.le_of_ble_eq_true rfl, fun _ => ⟨rfl, rfl⟩⟩ (Nat.le_of_ble_eq_true rfl) rfl (fun r1 h2 p3 => ?_)
  obtain ⟨er1, p3⟩ := p3
  have p3 := p3.symm
  subst p3
  refine V.if_eq (tgt := 26) dX12_tray_4 (by decide) (fun c4 => ?_) (fun c4 => ?_)
  · rw [er1, bI_0] at c4
    refine V.aload_n dX12_tray_26 rfl rfl rfl ?_
    refine V.iconst (v := 1) dX12_tray_27 rfl ?_
    refine V.callVI dX12_tray_28 ml_X12_88 mo_X12_is mv_X12_is rfl (fun q hq => by cases hq; rfl) (by decide) (Or.inl ⟨rfl, SHL_lt rfl⟩) (sp_X12_is (by exact ly.keep rfl rfl) _) rfl rfl ⟨Nat.le_of_ble_eq_true rfl, Nat.le_of_ble_eq_true rfl, fun _ => ⟨rfl, rfl⟩⟩ (Nat.le_of_ble_eq_true rfl) rfl (fun r5 h6 p7 => ?_)
    obtain ⟨er5, p7⟩ := p7
    have p7 := p7.symm
    subst p7
    refine V.ireturn dX12_tray_31 rfl (by rw [er5]; first | rfl | exact bI_01 _) ⟨rfl, rfl⟩ ly.1 ?_
    exact Or.inr ⟨by unfold okTray; simp only [Int32.lt_iff_toInt_lt, Int32.le_iff_toInt_le, Int32.reduceToInt] at *; omega, by rw [er5]; rfl, rfl⟩
  · rw [er1, bI_0, Decidable.not_not] at c4
    refine V.iload_n dX12_tray_7 rfl rfl ?_
    refine V.if_lt (tgt := 26) dX12_tray_8 (by decide) (fun c8 => ?_) (fun c8 => ?_)
    · refine V.aload_n dX12_tray_26 rfl rfl rfl ?_
      refine V.iconst (v := 1) dX12_tray_27 rfl ?_
      refine V.callVI dX12_tray_28 ml_X12_88 mo_X12_is mv_X12_is rfl (fun q hq => by cases hq; rfl) (by decide) (Or.inl ⟨rfl, SHL_lt rfl⟩) (sp_X12_is (by exact ly.keep rfl rfl) _) rfl rfl ⟨Nat.le_of_ble_eq_true rfl, Nat.le_of_ble_eq_true rfl, fun _ => ⟨rfl, rfl⟩⟩ (Nat.le_of_ble_eq_true rfl) rfl (fun r9 h10 p11 => ?_)
      obtain ⟨er9, p11⟩ := p11
      have p11 := p11.symm
      subst p11
      refine V.ireturn dX12_tray_31 rfl (by rw [er9]; first | rfl | exact bI_01 _) ⟨rfl, rfl⟩ ly.1 ?_
      exact Or.inr ⟨by unfold okTray; simp only [Int32.lt_iff_toInt_lt, Int32.le_iff_toInt_le, Int32.reduceToInt] at *; omega, by rw [er9]; rfl, rfl⟩
    · refine V.iload_n dX12_tray_11 rfl rfl ?_
      refine V.iconst (v := 3) dX12_tray_12 rfl ?_
      refine V.icmp_gt (tgt := 26) dX12_tray_13 (by decide) (fun c12 => ?_) (fun c12 => ?_)
      · refine V.aload_n dX12_tray_26 rfl rfl rfl ?_
        refine V.iconst (v := 1) dX12_tray_27 rfl ?_
        refine V.callVI dX12_tray_28 ml_X12_88 mo_X12_is mv_X12_is rfl (fun q hq => by cases hq; rfl) (by decide) (Or.inl ⟨rfl, SHL_lt rfl⟩) (sp_X12_is (by exact ly.keep rfl rfl) _) rfl rfl ⟨Nat.le_of_ble_eq_true rfl, Nat.le_of_ble_eq_true rfl, fun _ => ⟨rfl, rfl⟩⟩ (Nat.le_of_ble_eq_true rfl) rfl (fun r13 h14 p15 => ?_)
        obtain ⟨er13, p15⟩ := p15
        have p15 := p15.symm
        subst p15
        refine V.ireturn dX12_tray_31 rfl (by rw [er13]; first | rfl | exact bI_01 _) ⟨rfl, rfl⟩ ly.1 ?_
        exact Or.inr ⟨by unfold okTray; simp only [Int32.lt_iff_toInt_lt, Int32.le_iff_toInt_le, Int32.reduceToInt] at *; omega, by rw [er13]; rfl, rfl⟩
      · refine V.iload_n dX12_tray_16 rfl rfl ?_
        refine V.if_lt (tgt := 26) dX12_tray_17 (by decide) (fun c16 => ?_) (fun c16 => ?_)
        · refine V.aload_n dX12_tray_26 rfl rfl rfl ?_
          refine V.iconst (v := 1) dX12_tray_27 rfl ?_
          refine V.callVI dX12_tray_28 ml_X12_88 mo_X12_is mv_X12_is rfl (fun q hq => by cases hq; rfl) (by decide) (Or.inl ⟨rfl, SHL_lt rfl⟩) (sp_X12_is (by exact ly.keep rfl rfl) _) rfl rfl ⟨Nat.le_of_ble_eq_true rfl, Nat.le_of_ble_eq_true rfl, fun _ => ⟨rfl, rfl⟩⟩ (Nat.le_of_ble_eq_true rfl) rfl (fun r17 h18 p19 => ?_)
          obtain ⟨er17, p19⟩ := p19
          have p19 := p19.symm
          subst p19
          refine V.ireturn dX12_tray_31 rfl (by rw [er17]; first | rfl | exact bI_01 _) ⟨rfl, rfl⟩ ly.1 ?_
          exact Or.inr ⟨by unfold okTray; simp only [Int32.lt_iff_toInt_lt, Int32.le_iff_toInt_le, Int32.reduceToInt] at *; omega, by rw [er17]; rfl, rfl⟩
        · refine V.iload_n dX12_tray_20 rfl rfl ?_
          refine V.bipush (v := 60) dX12_tray_21 rfl ?_
          refine V.icmp_le (tgt := 32) dX12_tray_23 (by decide) (fun c20 => ?_) (fun c20 => ?_)
          · simp only [Int32.lt_iff_toInt_lt, Int32.le_iff_toInt_le, Int32.reduceToInt] at *
            have hok : okTray t s m := by unfold okTray; omega
            obtain ⟨t0, ht4, rfl⟩ := nat_of (n := 4) hok.1 hok.2.1
            obtain ⟨m0, hm61, rfl⟩ := nat_of (n := 61) hok.2.2.2.2.1 (by have := hok.2.2.2.2.2; omega)
            have hm60 : m0 ≤ 60 := by omega
            refine V.aload_n dX12_tray_32 rfl rfl rfl ?_
            refine V.getR (r := 116) dX12_tray_33 fl_X12_21 rfl (Or.inl ⟨rfl, SHL_lt rfl⟩) rfl (ly_113_5 ly) ?_
            refine V.iload_n dX12_tray_36 rfl rfl ?_
            refine V.iload_n dX12_tray_37 rfl rfl ?_
            refine V.iastore dX12_tray_38 rfl (Or.inl ⟨rfl, SHL_lt rfl⟩) (vp_in_nI ht4 (by decide)) ?_
            try rw [nI_clamp (show t0 < 2 ^ 31 by omega)]
            refine V.aload_n dX12_tray_39 rfl rfl rfl ?_
            refine V.getR (r := 117) dX12_tray_40 fl_X12_24 rfl (Or.inl ⟨rfl, SHL_lt rfl⟩) rfl (ly_113_6 ly) ?_
            refine V.iload_n dX12_tray_43 rfl rfl ?_
            refine V.iload_n dX12_tray_44 rfl rfl ?_
            refine V.iastore dX12_tray_45 rfl (Or.inl ⟨rfl, SHL_lt rfl⟩) (vp_in_nI ht4 (by decide)) ?_
            try rw [nI_clamp (show t0 < 2 ^ 31 by omega)]
            refine V.iconst (v := 0) dX12_tray_46 rfl ?_
            refine V.istore (ls' := [.ref 113, .int (nI t0), .int s, .int (nI m0), .int 0]) dX12_tray_47 (by decide) rfl ?_
            have key := lp_X12_tray (s := s) (h0 := h) (h1 := uI (uI h 116 t0 s) 117 t0 (nI m0)) ly.1 (ly.keep rfl rfl) ht4 hm60 (P := fun r h' => (okTray (nI t0) s (nI m0) ∧ r = 1 ∧ h' = uI (trayE h 116 117 118 (nI t0) s (nI m0)) 113 2 0) ∨ (¬ okTray (nI t0) s (nI m0) ∧ r = 0 ∧ h' = uI h 113 2 1)) (Or.inl ⟨hok, rfl, by rw [trayE_nI _ _ _ _ _ ht4 hm60]; rfl⟩) (m0 + 1) 0 (by omega) (by omega)
            rw [rowL_0, rL_self] at key
            exact key
          · refine V.aload_n dX12_tray_26 rfl rfl rfl ?_
            refine V.iconst (v := 1) dX12_tray_27 rfl ?_
            refine V.callVI dX12_tray_28 ml_X12_88 mo_X12_is mv_X12_is rfl (fun q hq => by cases hq; rfl) (by decide) (Or.inl ⟨rfl, SHL_lt rfl⟩) (sp_X12_is (by exact ly.keep rfl rfl) _) rfl rfl ⟨Nat.le_of_ble_eq_true rfl, Nat.le_of_ble_eq_true rfl, fun _ => ⟨rfl, rfl⟩⟩ (Nat.le_of_ble_eq_true rfl) rfl (fun r21 h22 p23 => ?_)
            obtain ⟨er21, p23⟩ := p23
            have p23 := p23.symm
            subst p23
            refine V.ireturn dX12_tray_31 rfl (by rw [er21]; first | rfl | exact bI_01 _) ⟨rfl, rfl⟩ ly.1 ?_
            exact Or.inr ⟨by unfold okTray; simp only [Int32.lt_iff_toInt_lt, Int32.le_iff_toInt_le, Int32.reduceToInt] at *; omega, by rw [er21]; rfl, rfl⟩
