/-! ===== the class's reader: rows, a whole town ===== -/
theorem RK.row {h : HP} (rk : RK h) {t : Nat} (hT : isT t) (f : Nat → Int32) : RK (rI h (t + 1) f) := by
  have := isT_ge hT
  exact rk.keep rfl rfl (hI_rI_n _ _ (by omega)) (hI_rI_n _ _ (by omega)) (hI_rI_n _ _ (by omega))
set_option maxRecDepth 100000 in
theorem sp_X6_takeLetters {h : HP} (rkh : RK h) {t : Nat} (hT : isT t) (wph : WP h t) : Spec yX6_takeLetters cX6_takeLetters miX6_takeLetters [.ref 5, .ref t] h (pI fun r h' => r = (lettersF h t).1 ∧ h' = (lettersF h t).2) := by
  refine Spec.of (ls0 := [.ref 5, .ref t, .null, .null, .null, .null]) mo_X6_takeLetters (Nat.le_of_ble_eq_true rfl) rfl ?_
  rw [rkh.1.1]
  refine V.aload_n dX6_takeLetters_0 rfl rfl (sT0 hT) ?_
  refine V.getR (r := t + 1) dX6_takeLetters_1 fl_X6_58 (sT0 hT) (Or.inl ⟨rfl, SHL_lt (sT0 hT)⟩) rfl (rT_hill rkh.1 hT) ?_
  refine V.getI dX6_takeLetters_4 fl_X6_65 (sH0 hT.H) (Or.inl ⟨rfl, SHL_lt (sH0 hT.H)⟩) rfl rfl ?_
  obtain ⟨w, ew⟩ : ∃ w, w = wA h t := ⟨_, rfl⟩
  have hr := wph.2
  have hw5 := wph.1
  rw [← ew] at hr hw5
  rw [hr]
  refine V.istore_n (ls' := [.ref 5, .ref t, .int (nI w), .null, .null, .null]) dX6_takeLetters_7 rfl (by decide) rfl ?_
  refine V.aload_n dX6_takeLetters_8 rfl rfl rfl ?_
  refine V.iload_n dX6_takeLetters_9 rfl rfl ?_
  refine V.callVI dX6_takeLetters_10 ml_X6_68 mo_X4_isWordOf mv_X4_isWordOf rfl (fun q hq => by cases hq; rfl) (by decide) (Or.inl ⟨rfl, SHL_lt rfl⟩) (sp_X4_isWordOf rkh.1 rkh.2.a9 rkh.2.a _) rfl rfl ⟨Nat.le_of_ble_eq_true rfl, Nat.le_of_ble_eq_true rfl, fun _ => ⟨rfl, rfl⟩⟩ (Nat.le_of_ble_eq_true rfl) rfl (fun r1 h2 p3 => ?_)
  obtain ⟨er1, p3⟩ := p3
  have p3 := p3.symm
  subst p3
  refine V.if_ne (tgt := 22) dX6_takeLetters_13 (by decide) (fun c4 => ?_) (fun c4 => ?_)
  · rw [er1, bI_0, Decidable.not_not] at c4
    refine V.aload_n dX6_takeLetters_22 rfl rfl (sT0 hT) ?_
    refine V.getR (r := t + 1) dX6_takeLetters_23 fl_X6_58 (sT0 hT) (Or.inl ⟨rfl, SHL_lt (sT0 hT)⟩) rfl (rT_hill rkh.1 hT) ?_
    refine V.getI dX6_takeLetters_26 fl_X6_62 (sH0 hT.H) (Or.inl ⟨rfl, SHL_lt (sH0 hT.H)⟩) rfl rfl ?_
    refine V.iload_n dX6_takeLetters_29 rfl rfl ?_
    refine V.imul dX6_takeLetters_30 ?_
    refine V.nmi (fun x5 ex5 => ?_)
    refine V.istore_n (ls' := [.ref 5, .ref t, .int (nI w), .int x5, .null, .null]) dX6_takeLetters_31 rfl (by decide) rfl ?_
    refine V.iconst (v := 0) dX6_takeLetters_32 rfl ?_
    refine V.istore (ls' := [.ref 5, .ref t, .int (nI w), .int x5, .int 0, .null]) dX6_takeLetters_33 (by decide) rfl ?_
    refine lp_X6_takeLetters (h0 := h) rkh.1.1 hT (w := w) hw5 (a := x5) ?_ ?_ w 0 (by omega) h rkh rfl
    · intro g rkg q1 q2
      refine V.aload_n dX6_takeLetters_106 rfl rfl (sT0 hT) ?_
      refine V.getR (r := t + 1) dX6_takeLetters_107 fl_X6_58 (sT0 hT) (Or.inl ⟨rfl, SHL_lt (sT0 hT)⟩) rfl (rT_hill rkg.1 hT) ?_
      refine V.callVV dX6_takeLetters_110 ml_X6_79 mo_X1_addRow mv_X1_addRow (sH0 hT.H) (fun q hq => by cases hq; rfl) (by decide) (Or.inl ⟨rfl, SHL_lt (sH0 hT.H)⟩) (sp_X1_addRow rkg.1 hT.H) rfl rfl ⟨Nat.le_of_ble_eq_true rfl, Nat.le_of_ble_eq_true rfl, fun _ => ⟨rfl, rfl⟩⟩ (Nat.le_of_ble_eq_true rfl) (Or.inl rfl) (fun h6 p7 => ?_)
      have eh6 := p7
      have rkh6 : RK h6 := by rw [eh6]; exact rkg.row hT _
      refine V.aload_n dX6_takeLetters_113 rfl rfl rfl ?_
      refine V.callVV dX6_takeLetters_114 ml_X6_40 mo_X4_advance mv_X4_advance rfl (fun q hq => by cases hq; rfl) (by decide) (Or.inl ⟨rfl, SHL_lt rfl⟩) (sp_X4_advance rkh6.1 rkh6.2.a9 rkh6.2.a rkh6.2.le rkh6.2.n rkh6.2.lt) rfl rfl ⟨Nat.le_of_ble_eq_true rfl, Nat.le_of_ble_eq_true rfl, fun _ => ⟨rfl, rfl⟩⟩ (Nat.le_of_ble_eq_true rfl) (Or.inl rfl) (fun h8 p9 => ?_)
      have eh8 := p9
      replace eh8 : h8 = advF h6 := eh8
      have rkh8 : RK h8 := by rw [eh8]; exact rkh6.adv
      refine V.iconst (v := 1) dX6_takeLetters_117 rfl ?_
      refine V.ireturn dX6_takeLetters_118 rfl rfl ⟨rfl, rfl⟩ rkh.1.1 ?_
      have key : lettersF h t = (1, h8) := by unfold lettersF; dsimp only; rw [hr, if_pos c4, ← ew, ← ex5, if_neg (by rw [q1]; decide), ← q2, ← eh6, ← eh8]
      rw [key]; exact ⟨rfl, rfl⟩
    · intro g q1 q2
      have key : lettersF h t = (0, g) := by unfold lettersF; dsimp only; rw [hr, if_pos c4, ← ew, ← ex5, if_pos q1, ← q2]
      rw [key]; exact ⟨rfl, rfl⟩
  · rw [er1, bI_0] at c4
    refine V.aload_n dX6_takeLetters_16 rfl rfl rfl ?_
    refine V.iconst (v := 2) dX6_takeLetters_17 rfl ?_
    refine V.callVI dX6_takeLetters_18 ml_X6_52 mo_X4_fail mv_X4_fail rfl (fun q hq => by cases hq; rfl) (by decide) (Or.inl ⟨rfl, SHL_lt rfl⟩) (sp_X4_fail rkh.1 rkh.2.a9 rkh.2.a _) rfl rfl ⟨Nat.le_of_ble_eq_true rfl, Nat.le_of_ble_eq_true rfl, fun _ => ⟨rfl, rfl⟩⟩ (Nat.le_of_ble_eq_true rfl) rfl (fun r10 h11 p12 => ?_)
    obtain ⟨er10, eh11⟩ := p12
    replace eh11 : h11 = failF h _ := eh11
    have rkh11 : RK h11 := by rw [eh11]; exact rkh.fail _
    refine V.ireturn dX6_takeLetters_21 rfl (by rw [er10]; first | rfl | exact bI_01 _ | exact takeK_01 _ _ _) ⟨rfl, rfl⟩ rkh.1.1 ?_
    have key : lettersF h t = (0, h11) := by unfold lettersF; dsimp only; rw [hr, if_neg c4, ← eh11]
    rw [key]; exact ⟨er10, rfl⟩
/-- what the reader keeps of a town while it reads rows -/
def KW' (h h' : HP) (t : Nat) : Prop := hI h' (t + 1) 0 = hI h (t + 1) 0 ∧ ∀ j, j < 13 → hI h' t j = hI h t j
theorem KW'.refl (h : HP) (t : Nat) : KW' h h t := ⟨rfl, fun _ _ => rfl⟩
theorem KW'.trans {h h1 h2 : HP} {t : Nat} (a : KW' h h1 t) (b : KW' h1 h2 t) : KW' h h2 t := ⟨b.1.trans a.1, fun j hj => (b.2 j hj).trans (a.2 j hj)⟩
theorem KW'.fr {h h' : HP} {t : Nat} (hT : isT t) (f : TkFr h h') : KW' h h' t := by
  have := isT_ge hT
  exact ⟨by rw [f.I (by omega)], fun j _ => by rw [f.I (by omega)]⟩
theorem KW'.wp {h h' : HP} {t : Nat} (a : KW' h h' t) (wp : WP h t) : WP h' t := by
  unfold WP wA at *; rw [a.1]; exact wp
theorem KW'.tp {h h' : HP} {t : Nat} (a : KW' h h' t) (tp : TP h t) : TP h' t := by
  unfold TP tM tC at *; rw [a.2 10 (by decide), a.2 11 (by decide)]; exact tp
theorem letG_ok {t : Nat} (hT : isT t) (a : Int32) : ∀ f k h, RK h → RK (letG f k h t a).2 ∧ KW' h (letG f k h t a).2 t
  | 0, _, h, rk => ⟨rk, KW'.refl h t⟩
  | f + 1, k, h, rk => by
    unfold letG; split
    · have h1 := letG_ok hT a f (k + 1) _ (rk.house hT (shl 1 (a + nI k)) (letAt h k))
      exact ⟨h1.1, KW'.trans ⟨addH_0 _ _ (by decide), fun j hj => addH_t _ _ hj⟩ h1.2⟩
    · exact ⟨rk.fail 2, KW'.fr hT (failF_fr h 2)⟩
theorem lettersF_ok {h : HP} {t : Nat} (hT : isT t) (rk : RK h) : RK (lettersF h t).2 ∧ KW' h (lettersF h t).2 t := by
  unfold lettersF; dsimp only
  split
  · have h1 := letG_ok hT (hI h (t + 1) 1 * hI h (t + 1) 0) (wA h t) 0 h rk
    generalize letG (wA h t) 0 h t (hI h (t + 1) 1 * hI h (t + 1) 0) = x at *
    split
    · exact h1
    · refine ⟨(h1.1.row hT _).adv, h1.2.trans (KW'.trans ⟨?_, fun j hj => ?_⟩ (KW'.fr hT (advF_fr _)))⟩
      · rw [hI_rI_s]; rfl
      · rw [hI_rI_n _ _ (by omega)]
  · exact ⟨rk.fail 2, KW'.fr hT (failF_fr h 2)⟩
def endRows (h : HP) (t : Nat) : Int32 × HP := if 0 < hI h (t + 1) 1 then (1, h) else (0, failF h 2)
def rowsG : Nat → Nat → HP → Nat → Int32 × HP
  | 0, _, h, t => endRows h t
  | f + 1, k, h, t =>
    if kA h = 4 ∧ vA h = 2 then
      if k = 6 then (0, failF h 6) else
      if (lettersF (advF h) t).1 = 0 then (0, (lettersF (advF h) t).2) else
      if (takeK 3 (lettersF (advF h) t).2 59).1 = 0 then (0, (takeK 3 (lettersF (advF h) t).2 59).2) else
      rowsG f (k + 1) (takeK 3 (lettersF (advF h) t).2 59).2 t
    else endRows h t
set_option maxRecDepth 100000 in
theorem lp_X6_takeRows {h0 : HP} (hn : h0.1 = 130) {t : Nat} (hT : isT t) {P : Int32 → HP → Prop} : ∀ f k, f + k = 7 → k ≤ 6 → ∀ h1, RK h1 → WP h1 t → P (rowsG f k h1 t).1 (rowsG f k h1 t).2 →
    V cX6_takeRows miX6_takeRows (ZM h0 miX6_takeRows.2.2.2.1 (pI P)) 130 2 [.ref 5, .ref t, .int (nI k)] [] h1 := by
  intro f
  induction f with
  | zero => intro k h1 h2; exact absurd h1 (by omega)
  | succ f ih =>
    intro k hfk hk6 h1 rkh1 wph1 hP
    refine V.iload_n dX6_takeRows_2 rfl rfl ?_
    refine V.bipush (v := 6) dX6_takeRows_3 rfl ?_
    refine V.icmp_gt (tgt := 58) dX6_takeRows_5 (by decide) (fun c1 => ?_) (fun c1 => ?_)
    · exact absurd c1 (by rw [show (6 : Int32) = nI 6 from rfl, nI_ltI (by omega) (by omega)]; omega)
    · refine V.aload_n dX6_takeRows_8 rfl rfl rfl ?_
      refine V.iconst (v := 2) dX6_takeRows_9 rfl ?_
      refine V.callVI dX6_takeRows_10 ml_X6_37 mo_X4_isWord mv_X4_isWord rfl (fun q hq => by cases hq; rfl) (by decide) (Or.inl ⟨rfl, SHL_lt rfl⟩) (sp_X4_isWord rkh1.1 rkh1.2.a9 rkh1.2.a _) rfl rfl ⟨Nat.le_of_ble_eq_true rfl, Nat.le_of_ble_eq_true rfl, fun _ => ⟨rfl, rfl⟩⟩ (Nat.le_of_ble_eq_true rfl) rfl (fun r2 h3 p4 => ?_)
      obtain ⟨er2, p4⟩ := p4
      have p4 := p4.symm
      subst p4
      refine V.if_eq (tgt := 58) dX6_takeRows_13 (by decide) (fun c5 => ?_) (fun c5 => ?_)
      · rw [er2, bI_0] at c5
        refine V.aload_n dX6_takeRows_58 rfl rfl (sT0 hT) ?_
        refine V.getR (r := t + 1) dX6_takeRows_59 fl_X6_58 (sT0 hT) (Or.inl ⟨rfl, SHL_lt (sT0 hT)⟩) rfl (rT_hill rkh1.1 hT) ?_
        refine V.getI dX6_takeRows_62 fl_X6_62 (sH0 hT.H) (Or.inl ⟨rfl, SHL_lt (sH0 hT.H)⟩) rfl rfl ?_
        refine V.if_gt (tgt := 76) dX6_takeRows_65 (by decide) (fun c6 => ?_) (fun c6 => ?_)
        · refine V.iconst (v := 1) dX6_takeRows_76 rfl ?_
          refine V.goto (tgt := 81) dX6_takeRows_77 (by decide) ?_
          refine V.ireturn dX6_takeRows_81 rfl rfl ⟨rfl, rfl⟩ hn ?_
          rw [rowsG, if_neg c5] at hP
          unfold endRows at hP
          rw [if_pos c6] at hP
          exact hP
        · refine V.aload_n dX6_takeRows_68 rfl rfl rfl ?_
          refine V.iconst (v := 2) dX6_takeRows_69 rfl ?_
          refine V.callVI dX6_takeRows_70 ml_X6_52 mo_X4_fail mv_X4_fail rfl (fun q hq => by cases hq; rfl) (by decide) (Or.inl ⟨rfl, SHL_lt rfl⟩) (sp_X4_fail rkh1.1 rkh1.2.a9 rkh1.2.a _) rfl rfl ⟨Nat.le_of_ble_eq_true rfl, Nat.le_of_ble_eq_true rfl, fun _ => ⟨rfl, rfl⟩⟩ (Nat.le_of_ble_eq_true rfl) rfl (fun r7 h8 p9 => ?_)
          obtain ⟨er7, eh8⟩ := p9
          replace eh8 : h8 = failF h1 _ := eh8
          have rkh8 : RK h8 := by rw [eh8]; exact rkh1.fail _
          refine V.if_eq (tgt := 80) dX6_takeRows_73 (by decide) (fun c10 => ?_) (fun c10 => ?_)
          · refine V.iconst (v := 0) dX6_takeRows_80 rfl ?_
            refine V.ireturn dX6_takeRows_81 rfl rfl ⟨rfl, rfl⟩ hn ?_
            rw [rowsG, if_neg c5] at hP
            unfold endRows at hP
            rw [if_neg c6] at hP
            rw [eh8]
            exact hP
          · refine V.iconst (v := 1) dX6_takeRows_76 rfl ?_
            refine V.goto (tgt := 81) dX6_takeRows_77 (by decide) ?_
            refine V.ireturn dX6_takeRows_81 rfl rfl ⟨rfl, rfl⟩ hn ?_
            exact absurd er7 c10
      · rw [er2, bI_0, Decidable.not_not] at c5
        refine V.iload_n dX6_takeRows_16 rfl rfl ?_
        refine V.bipush (v := 6) dX6_takeRows_17 rfl ?_
        refine V.icmp_ne (tgt := 29) dX6_takeRows_19 (by decide) (fun c11 => ?_) (fun c11 => ?_)
        · refine V.aload_n dX6_takeRows_29 rfl rfl rfl ?_
          refine V.callVV dX6_takeRows_30 ml_X6_40 mo_X4_advance mv_X4_advance rfl (fun q hq => by cases hq; rfl) (by decide) (Or.inl ⟨rfl, SHL_lt rfl⟩) (sp_X4_advance rkh1.1 rkh1.2.a9 rkh1.2.a rkh1.2.le rkh1.2.n rkh1.2.lt) rfl rfl ⟨Nat.le_of_ble_eq_true rfl, Nat.le_of_ble_eq_true rfl, fun _ => ⟨rfl, rfl⟩⟩ (Nat.le_of_ble_eq_true rfl) (Or.inl rfl) (fun h12 p13 => ?_)
          have eh12 := p13
          replace eh12 : h12 = advF h1 := eh12
          have rkh12 : RK h12 := by rw [eh12]; exact rkh1.adv
          have kwh12 : KW' h1 h12 t := by rw [eh12]; exact KW'.fr hT (advF_fr _)
          have wph12 : WP h12 t := kwh12.wp wph1
          refine V.aload_n dX6_takeRows_33 rfl rfl rfl ?_
          refine V.aload_n dX6_takeRows_34 rfl rfl (sT0 hT) ?_
          refine V.callSI dX6_takeRows_35 ml_X6_55 mo_X6_takeLetters ms_X6_takeLetters (sp_X6_takeLetters rkh12 hT wph12) rfl rfl ⟨Nat.le_of_ble_eq_true rfl, Nat.le_of_ble_eq_true rfl, fun _ => ⟨rfl, rfl⟩⟩ (Nat.le_of_ble_eq_true rfl) rfl (fun r14 h15 p16 => ?_)
          obtain ⟨er14, eh15⟩ := p16
          have rkh15 : RK h15 := by rw [eh15]; exact (lettersF_ok hT rkh12).1
          have kwh15 : KW' h12 h15 t := by rw [eh15]; exact (lettersF_ok hT rkh12).2
          have wph15 : WP h15 t := kwh15.wp wph12
          refine V.if_eq (tgt := 50) dX6_takeRows_38 (by decide) (fun c17 => ?_) (fun c17 => ?_)
          · refine V.iconst (v := 0) dX6_takeRows_50 rfl ?_
            refine V.ireturn dX6_takeRows_51 rfl rfl ⟨rfl, rfl⟩ hn ?_
            have hk9 : ¬ k = 6 := fun q => absurd (show nI k = 6 by rw [q]; rfl) c11
            rw [rowsG, if_pos c5, if_neg hk9] at hP
            try rw [← eh12] at hP
            try rw [← er14] at hP
            try rw [← eh15] at hP
            rw [if_pos c17] at hP
            exact hP
          · refine V.aload_n dX6_takeRows_41 rfl rfl rfl ?_
            refine V.bipush (v := 59) dX6_takeRows_42 rfl ?_
            refine V.callVI dX6_takeRows_44 ml_X6_49 mo_X4_takeSign mv_X4_takeSign rfl (fun q hq => by cases hq; rfl) (by decide) (Or.inl ⟨rfl, SHL_lt rfl⟩) (sp_X4_takeSign rkh15.1 rkh15.2.a9 rkh15.2.a rkh15.2.le rkh15.2.n rkh15.2.lt _) rfl rfl ⟨Nat.le_of_ble_eq_true rfl, Nat.le_of_ble_eq_true rfl, fun _ => ⟨rfl, rfl⟩⟩ (Nat.le_of_ble_eq_true rfl) rfl (fun r18 h19 p20 => ?_)
            replace p20 := takeK_of p20
            obtain ⟨er18, eh19⟩ := p20
            have rkh19 : RK h19 := by rw [eh19]; exact rkh15.tK _ _
            have kwh19 : KW' h15 h19 t := by rw [eh19]; exact KW'.fr hT (takeK_fr _ _ _)
            have wph19 : WP h19 t := kwh19.wp wph15
            refine V.if_ne (tgt := 52) dX6_takeRows_47 (by decide) (fun c21 => ?_) (fun c21 => ?_)
            · obtain ⟨x22, ex22⟩ : ∃ y : Int32, y = nI k + 1 := ⟨_, rfl⟩
              refine V.iinc (v := x22) (ls' := [.ref 5, .ref t, .int x22]) dX6_takeRows_52 rfl (by decide) ex22.symm rfl ?_
              refine V.goto (tgt := 2) dX6_takeRows_55 (by decide) ?_
              have hk9 : ¬ k = 6 := fun q => absurd (show nI k = 6 by rw [q]; rfl) c11
              rw [rowsG, if_pos c5, if_neg hk9] at hP
              try rw [← eh12] at hP
              try rw [← er14] at hP
              try rw [← eh15] at hP
              try rw [← er18] at hP
              try rw [← eh19] at hP
              rw [if_neg c17, if_neg c21] at hP
              rw [ex22, nI_1]
              exact ih (k + 1) (by omega) (by omega) h19 rkh19 wph19 hP
            · refine V.iconst (v := 0) dX6_takeRows_50 rfl ?_
              refine V.ireturn dX6_takeRows_51 rfl rfl ⟨rfl, rfl⟩ hn ?_
              have hk9 : ¬ k = 6 := fun q => absurd (show nI k = 6 by rw [q]; rfl) c11
              rw [rowsG, if_pos c5, if_neg hk9] at hP
              try rw [← eh12] at hP
              try rw [← er14] at hP
              try rw [← eh15] at hP
              try rw [← er18] at hP
              try rw [← eh19] at hP
              rw [if_neg c17, if_pos c21] at hP
              exact hP
        · refine V.aload_n dX6_takeRows_22 rfl rfl rfl ?_
          refine V.bipush (v := 6) dX6_takeRows_23 rfl ?_
          refine V.callVI dX6_takeRows_25 ml_X6_52 mo_X4_fail mv_X4_fail rfl (fun q hq => by cases hq; rfl) (by decide) (Or.inl ⟨rfl, SHL_lt rfl⟩) (sp_X4_fail rkh1.1 rkh1.2.a9 rkh1.2.a _) rfl rfl ⟨Nat.le_of_ble_eq_true rfl, Nat.le_of_ble_eq_true rfl, fun _ => ⟨rfl, rfl⟩⟩ (Nat.le_of_ble_eq_true rfl) rfl (fun r23 h24 p25 => ?_)
          obtain ⟨er23, eh24⟩ := p25
          replace eh24 : h24 = failF h1 _ := eh24
          have rkh24 : RK h24 := by rw [eh24]; exact rkh1.fail _
          refine V.ireturn dX6_takeRows_28 rfl (by rw [er23]; first | rfl | exact bI_01 _ | exact takeK_01 _ _ _) ⟨rfl, rfl⟩ hn ?_
          have hk9 : k = 6 := nI_inj (by omega) (by omega) (c11.trans (show (6 : Int32) = nI 6 from rfl))
          rw [rowsG, if_pos c5, if_pos hk9] at hP
          rw [eh24, er23]
          exact hP
set_option maxRecDepth 100000 in
theorem sp_X6_takeRows {h : HP} (rkh : RK h) {t : Nat} (hT : isT t) (wph : WP h t) : Spec yX6_takeRows cX6_takeRows miX6_takeRows [.ref 5, .ref t] h (pI fun r h' => r = (rowsG 7 0 h t).1 ∧ h' = (rowsG 7 0 h t).2) := by
  refine Spec.of (ls0 := [.ref 5, .ref t, .null]) mo_X6_takeRows (Nat.le_of_ble_eq_true rfl) rfl ?_
  rw [rkh.1.1]
  refine V.iconst (v := 0) dX6_takeRows_0 rfl ?_
  refine V.istore_n (ls' := [.ref 5, .ref t, .int 0]) dX6_takeRows_1 rfl (by decide) rfl ?_
  exact lp_X6_takeRows (h0 := h) rkh.1.1 hT (P := fun r h' => r = (rowsG 7 0 h t).1 ∧ h' = (rowsG 7 0 h t).2) 7 0 rfl (by decide) h rkh wph ⟨rfl, rfl⟩
theorem endRows_ok {h : HP} {t : Nat} (hT : isT t) (rk : RK h) : RK (endRows h t).2 ∧ KW' h (endRows h t).2 t := by
  unfold endRows; split
  · exact ⟨rk, KW'.refl h t⟩
  · exact ⟨rk.fail 2, KW'.fr hT (failF_fr h 2)⟩
theorem rowsG_ok {t : Nat} (hT : isT t) : ∀ f k h, RK h → RK (rowsG f k h t).2 ∧ KW' h (rowsG f k h t).2 t
  | 0, _, h, rk => endRows_ok hT rk
  | f + 1, k, h, rk => by
    unfold rowsG; split
    · have l := lettersF_ok hT rk.adv
      have l2 := (KW'.fr hT (advF_fr h)).trans l.2
      split
      · exact ⟨rk.fail 6, KW'.fr hT (failF_fr h 6)⟩
      · split
        · exact ⟨l.1, l2⟩
        · split
          · exact ⟨l.1.tK 3 59, l2.trans (KW'.fr hT (takeK_fr _ _ _))⟩
          · have q := rowsG_ok hT f (k + 1) _ (l.1.tK 3 59)
            exact ⟨q.1, (l2.trans (KW'.fr hT (takeK_fr _ _ _))).trans q.2⟩
    · exact endRows_ok hT rk
theorem emptyT_tp (h : HP) (t : Nat) (w ring : Int32) : hI (emptyT h t w ring) t 10 = 0 ∧ hI (emptyT h t w ring) t 11 = 0 ∧ hI (emptyT h t w ring) (t + 1) 0 = w := by
  unfold emptyT
  refine ⟨?_, ?_, ?_⟩
  · rw [hI_rI_n _ _ (by omega), hI_rI_s]; rfl
  · rw [hI_rI_n _ _ (by omega), hI_rI_s]; rfl
  · rw [hI_rI_n _ _ (by omega), hI_rI_n _ _ (by omega), hI_rI_n _ _ (by omega), hI_rI_s]; rfl
