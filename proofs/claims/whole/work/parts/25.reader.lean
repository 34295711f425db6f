/-! ===== the class's reader: rows, a whole town ===== -/
theorem RK.row {h : HP} (rk : RK h) {t : Nat} (hT : isT t) (f : Nat → Int32) : RK (rI h (t + 1) f) := by
  have := isT_ge hT
  exact rk.keep rfl rfl (hI_rI_n _ _ (by omega)) (hI_rI_n _ _ (by omega)) (hI_rI_n _ _ (by omega))
set_option maxRecDepth 100000 in
theorem sp_X6_takeLetters {h : HP} (rkh : RK h) {t : Nat} (hT : isT t) (wph : WP h t) : Spec yX6_takeLetters cX6_takeLetters miX6_takeLetters [.ref 5, .ref t] h (pI fun r h' => r = (lettersF h t).1 ∧ h' = (lettersF h t).2) := by
  refine Spec.of (ls0 := [.ref 5, .ref t, .null, .null, .null, .null]) mo_X6_takeLetters (Nat.le_of_ble_eq_true rfl) rfl ?_
  rw [rkh.1.1]
  refine V.aload_n dX6_takeLetters_0 rfl rfl (sT0 hT) ?_
  refine V.getR (r := t + 1) dX6_takeLetters_1 fl_X6_58 (sT0 hT) (Or.inl ⟨rfl, SHL_lt (sT0 hT)⟩) rfl (rT_hill rkh.1 hT) ?_
  refine V.getI dX6_takeLetters_4 fl_X6_65 (sH0 hT.H) (Or.inl ⟨rfl, SHL_lt (sH0 hT.H)⟩) rfl rfl ?_
  obtain ⟨w, ew⟩ : ∃ w, w = wA h t := ⟨_, rfl⟩
  have hr := wph.2
  have hw5 := wph.1
  rw [← ew] at hr hw5
  rw [hr]
  refine V.istore_n (ls' := [.ref 5, .ref t, .int (nI w), .null, .null, .null]) dX6_takeLetters_7 rfl (by decide) rfl ?_
  refine V.aload_n dX6_takeLetters_8 rfl rfl rfl ?_
  refine V.iload_n dX6_takeLetters_9 rfl rfl ?_
  refine V.callVI dX6_takeLetters_10 ml_X6_68 mo_X4_isWordOf mv_X4_isWordOf rfl (fun q hq => by cases hq; rfl) (by decide) (Or.inl ⟨rfl, SHL_lt rfl⟩) (sp_X4_isWordOf rkh.1 rkh.2.a9 rkh.2.a _) rfl rfl ⟨Nat.le_of_ble_eq_true rfl, Nat.le_of_ble_eq_true rfl, fun _ => ⟨rfl, rfl⟩⟩ (Nat.le_of_ble_eq_true rfl) rfl (fun r1 h2 p3 => ?_)
  obtain ⟨er1, p3⟩ := p3
  have p3 := p3.symm
  subst p3
  refine V.if_ne (tgt := 22) dX6_takeLetters_13 (by decide) (fun c4 => ?_) (fun c4 => ?_)
  · rw [er1, bI_0, Decidable.not_not] at c4
    refine V.aload_n dX6_takeLetters_22 rfl rfl (sT0 hT) ?_
    refine V.getR (r := t + 1) dX6_takeLetters_23 fl_X6_58 (sT0 hT) (Or.inl ⟨rfl, SHL_lt (sT0 hT)⟩) rfl (rT_hill rkh.1 hT) ?_
    refine V.getI dX6_takeLetters_26 fl_X6_62 (sH0 hT.H) (Or.inl ⟨rfl, SHL_lt (sH0 hT.H)⟩) rfl rfl ?_
    refine V.iload_n dX6_takeLetters_29 rfl rfl ?_
    refine V.imul dX6_takeLetters_30 ?_
    refine V.nmi (fun x5 ex5 => ?_)
    refine V.istore_n (ls' := [.ref 5, .ref t, .int (nI w), .int x5, .null, .null]) dX6_takeLetters_31 rfl (by decide) rfl ?_
    refine V.iconst (v := 0) dX6_takeLetters_32 rfl ?_
    refine V.istore (ls' := [.ref 5, .ref t, .int (nI w), .int x5, .int 0, .null]) dX6_takeLetters_33 (by decide) rfl ?_
    refine lp_X6_takeLetters (h0 := h) rkh.1.1 hT (w := w) hw5 (a := x5) ?_ ?_ w 0 (by omega) h rkh rfl
    · intro g rkg q1 q2
      refine V.aload_n dX6_takeLetters_106 rfl rfl (sT0 hT) ?_
      refine V.getR (r := t + 1) dX6_takeLetters_107 fl_X6_58 (sT0 hT) (Or.inl ⟨rfl, SHL_lt (sT0 hT)⟩) rfl (rT_hill rkg.1 hT) ?_
      refine V.callVV dX6_takeLetters_110 ml_X6_79 mo_X1_addRow mv_X1_addRow (sH0 hT.H) (fun q hq => by cases hq; rfl) (by decide) (Or.inl ⟨rfl, SHL_lt (sH0 hT.H)⟩) (sp_X1_addRow rkg.1 hT.H) rfl rfl ⟨Nat.le_of_ble_eq_true rfl, Nat.le_of_ble_eq_true rfl, fun _ => ⟨rfl, rfl⟩⟩ (Nat.le_of_ble_eq_true rfl) (Or.inl rfl) (fun h6 p7 => ?_)
      have eh6 := p7
      have rkh6 : RK h6 := by rw [eh6]; exact rkg.row hT _
      refine V.aload_n dX6_takeLetters_113 rfl rfl rfl ?_
      refine V.callVV dX6_takeLetters_114 ml_X6_40 mo_X4_advance mv_X4_advance rfl (fun q hq => by cases hq; rfl) (by decide) (Or.inl ⟨rfl, SHL_lt rfl⟩) (sp_X4_advance rkh6.1 rkh6.2.a9 rkh6.2.a rkh6.2.le rkh6.2.n rkh6.2.lt) rfl rfl ⟨Nat.le_of_ble_eq_true rfl, Nat.le_of_ble_eq_true rfl, fun _ => ⟨rfl, rfl⟩⟩ (Nat.le_of_ble_eq_true rfl) (Or.inl rfl) (fun h8 p9 => ?_)
      have eh8 := p9
      replace eh8 : h8 = advF h6 := eh8
      have rkh8 : RK h8 := by rw [eh8]; exact rkh6.adv
      refine V.iconst (v := 1) dX6_takeLetters_117 rfl ?_
      refine V.ireturn dX6_takeLetters_118 rfl rfl ⟨rfl, rfl⟩ rkh.1.1 ?_
      have key : lettersF h t = (1, h8) := by unfold lettersF; dsimp only; rw [hr, if_pos c4, ← ew, ← ex5, if_neg (by rw [q1]; decide), ← q2, ← eh6, ← eh8]
      rw [key]; exact ⟨rfl, rfl⟩
    · intro g q1 q2
      have key : lettersF h t = (0, g) := by unfold lettersF; dsimp only; rw [hr, if_pos c4, ← ew, ← ex5, if_pos q1, ← q2]
      rw [key]; exact ⟨rfl, rfl⟩
  · rw [er1, bI_0] at c4
    refine V.aload_n dX6_takeLetters_16 rfl rfl rfl ?_
    refine V.iconst (v := 2) dX6_takeLetters_17 rfl ?_
    refine V.callVI dX6_takeLetters_18 ml_X6_52 mo_X4_fail mv_X4_fail rfl (fun q hq => by cases hq; rfl) (by decide) (Or.inl ⟨rfl, SHL_lt rfl⟩) (sp_X4_fail rkh.1 rkh.2.a9 rkh.2.a _) rfl rfl ⟨Nat.le_of_ble_eq_true rfl, Nat.le_of_ble_eq_true rfl, fun _ => ⟨rfl, rfl⟩⟩ (Nat.le_of_ble_eq_true rfl) rfl (fun r10 h11 p12 => ?_)
    obtain ⟨er10, eh11⟩ := p12
    replace eh11 : h11 = failF h _ := eh11
    have rkh11 : RK h11 := by rw [eh11]; exact rkh.fail _
    refine V.ireturn dX6_takeLetters_21 rfl (by rw [er10]; first | rfl | exact bI_01 _ | exact takeK_01 _ _ _) ⟨rfl, rfl⟩ rkh.1.1 ?_
    have key : lettersF h t = (0, h11) := by unfold lettersF; dsimp only; rw [hr, if_neg c4, ← eh11]
    rw [key]; exact ⟨er10, rfl⟩
