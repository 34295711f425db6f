/-! ===== the class's reader: rules and citizens, one after another ===== -/
theorem TP.rule {h g : HP} {t : Nat} (tp : TP h t) (hlt : hI h t 10 < 4) (e : hI g t = hI h t) : TP (uI g t 10 (hI h t 10 + 1)) t := by
  have h1 := tp.1.2
  have hm : tM h t < 4 := by have h9 := hlt; rw [h1, show (4 : Int32) = nI 4 from rfl, nI_ltI (by have := tp.1.1; omega) (by omega)] at h9; exact h9
  have e10 : hI (uI g t 10 (hI h t 10 + 1)) t 10 = nI (tM h t + 1) := by
    show hI (rI g t (upd (hI g t) 10 (hI h t 10 + 1))) t 10 = _
    rw [hI_rI_s, h1]; exact nI_1 _
  have e11 : hI (uI g t 10 (hI h t 10 + 1)) t 11 = hI h t 11 := by
    show hI (rI g t (upd (hI g t) 10 (hI h t 10 + 1))) t 11 = _
    rw [hI_rI_s, e]; rfl
  have q : tM (uI g t 10 (hI h t 10 + 1)) t = tM h t + 1 := by show (hI (uI g t 10 (hI h t 10 + 1)) t 10).toNatClampNeg = _; rw [e10]; exact nI_clamp (by omega)
  have q2 : tC (uI g t 10 (hI h t 10 + 1)) t = tC h t := by unfold tC; rw [e11]
  exact ⟨⟨by rw [q]; omega, by rw [q]; exact e10⟩, by rw [q2]; exact tp.2.1, by rw [q2, e11]; exact tp.2.2⟩
theorem TP.cit {h g : HP} {t : Nat} (tp : TP h t) (hlt : hI h t 11 < 6) (e : hI g t = hI h t) : TP (uI g t 11 (hI h t 11 + 1)) t := by
  have h1 := tp.2.2
  have hm : tC h t < 6 := by have h9 := hlt; rw [h1, show (6 : Int32) = nI 6 from rfl, nI_ltI (by have := tp.2.1; omega) (by omega)] at h9; exact h9
  have e10 : hI (uI g t 11 (hI h t 11 + 1)) t 11 = nI (tC h t + 1) := by
    show hI (rI g t (upd (hI g t) 11 (hI h t 11 + 1))) t 11 = _
    rw [hI_rI_s, h1]; exact nI_1 _
  have e11 : hI (uI g t 11 (hI h t 11 + 1)) t 10 = hI h t 10 := by
    show hI (rI g t (upd (hI g t) 11 (hI h t 11 + 1))) t 10 = _
    rw [hI_rI_s, e]; rfl
  have q : tC (uI g t 11 (hI h t 11 + 1)) t = tC h t + 1 := by show (hI (uI g t 11 (hI h t 11 + 1)) t 11).toNatClampNeg = _; rw [e10]; exact nI_clamp (by omega)
  have q2 : tM (uI g t 11 (hI h t 11 + 1)) t = tM h t := by unfold tM; rw [e11]
  exact ⟨⟨by rw [q2]; exact tp.1.1, by rw [q2, e11]; exact tp.1.2⟩, by rw [q]; omega, by rw [q]; exact e10⟩
theorem ruleF_ok {h : HP} {t : Nat} (hT : isT t) (rk : RK h) (tp : TP h t) : RK (ruleF h t).2 ∧ TP (ruleF h t).2 t := by
  have ht := isT_ge hT
  have h5 : t ≠ 5 := by omega
  have f1 := (advF_fr h).trans (newNameF_fr (advF h) t)
  have r1 := rk.adv.nn t
  unfold ruleF; dsimp only
  generalize newNameF (advF h) t = n at *
  split
  · next hlt =>
    split
    · exact ⟨r1, tp.fr hT f1⟩
    · generalize hL n.2 12 (tA n.2) = nm
      have r2 := (r1.uL (t + 9) (tM h t) nm).adv.set 4
      have e2 : hI (setF (advF (uL n.2 (t + 9) (tM h t) nm)) 4).2 t = hI h t := (((advF_fr _).trans (setF_fr _ _)).I h5).trans (f1.I h5)
      generalize setF (advF (uL n.2 (t + 9) (tM h t) nm)) 4 = b at *
      split
      · exact ⟨r2, tp.same e2⟩
      · have r3 := r2.set 5
        have e3 := ((setF_fr b.2 5).I h5).trans e2
        generalize setF b.2 5 = c at *
        split
        · exact ⟨r3, tp.same e3⟩
        · have r4 := r3.tK 3 59
          have e4 := ((takeK_fr 3 c.2 59).I h5).trans e3
          generalize takeK 3 c.2 59 = d at *
          split
          · exact ⟨r4, tp.same e4⟩
          · exact ⟨((r4.uI _ _ (by omega)).uI _ _ (by omega)).uI _ _ ht, tp.rule hlt (((hI_rI_n _ _ (by omega)).trans (hI_rI_n _ _ (by omega))).trans e4)⟩
  · exact ⟨rk.fail 6, tp.fr hT (failF_fr h 6)⟩
theorem citF_ok {h : HP} {t : Nat} (hT : isT t) (rk : RK h) (tp : TP h t) : RK (citF h t).2 ∧ TP (citF h t).2 t := by
  have ht := isT_ge hT
  have h5 : t ≠ 5 := by omega
  have f1 := (advF_fr h).trans (newNameF_fr (advF h) t)
  have r1 := rk.adv.nn t
  unfold citF; dsimp only
  generalize newNameF (advF h) t = n at *
  split
  · next hlt =>
    split
    · exact ⟨r1, tp.fr hT f1⟩
    · generalize hL n.2 12 (tA n.2) = nm
      have r2 := (r1.uL (t + 12) (tC h t) nm).adv.tK 4 7
      have e2 : hI (takeK 4 (advF (uL n.2 (t + 12) (tC h t) nm)) 7).2 t = hI h t := (((advF_fr _).trans (takeK_fr _ _ _)).I h5).trans (f1.I h5)
      generalize takeK 4 (advF (uL n.2 (t + 12) (tC h t) nm)) 7 = a at *
      split
      · exact ⟨r2, tp.same e2⟩
      · have r3 := r2.tN 0 30
        have e3 := ((takeN_fr a.2 0 30).I h5).trans e2
        generalize takeN a.2 0 30 = b at *
        split
        · exact ⟨r3, tp.same e3⟩
        · have r4 := r3.tK 4 8
          have e4 := ((takeK_fr 4 b.2 8).I h5).trans e3
          generalize takeK 4 b.2 8 = c at *
          split
          · exact ⟨r4, tp.same e4⟩
          · have r5 := r4.tN (hI b.2 5 11) 30
            have e5 := ((takeN_fr c.2 (hI b.2 5 11) 30).I h5).trans e4
            generalize takeN c.2 (hI b.2 5 11) 30 = d at *
            split
            · exact ⟨r5, tp.same e5⟩
            · refine ⟨RK.tK (((r5.uI _ _ (by omega)).uI _ _ (by omega)).uI _ _ ht) _ _, TP.fr (tp.cit hlt (((hI_rI_n _ _ (by omega)).trans (hI_rI_n _ _ (by omega))).trans e5)) hT (takeK_fr _ _ _)⟩
  · exact ⟨rk.fail 6, tp.fr hT (failF_fr h 6)⟩
/-- a rule, a citizen or a fault -/
def partF (h : HP) (t : Nat) : Int32 × HP := if kA h = 4 ∧ vA h = 3 then ruleF h t else if kA h = 4 ∧ vA h = 6 then citF h t else (0, failF h 2)
def partsG : Nat → HP → Nat → Int32 × HP
  | 0, h, _ => (1, h)
  | f + 1, h, t => if kA h = 1 then (1, h) else if (partF h t).1 = 0 then (0, (partF h t).2) else partsG f (partF h t).2 t
theorem partF_ok {h : HP} {t : Nat} (hT : isT t) (rk : RK h) (tp : TP h t) : RK (partF h t).2 ∧ TP (partF h t).2 t := by
  unfold partF; split
  · exact ruleF_ok hT rk tp
  · split
    · exact citF_ok hT rk tp
    · exact ⟨rk.fail 2, tp.fr hT (failF_fr h 2)⟩
set_option maxRecDepth 100000 in
theorem lp_X6_takeParts {h0 : HP} (hn : h0.1 = 130) {t : Nat} (hT : isT t) {P : Int32 → HP → Prop} : ∀ f k, f + k = 11 → ∀ h1, RK h1 → TP h1 t → P (partsG f h1 t).1 (partsG f h1 t).2 →
    V cX6_takeParts miX6_takeParts (ZM h0 miX6_takeParts.2.2.2.1 (pI P)) 130 2 [.ref 5, .ref t, .int (nI k), .null] [] h1 := by
  intro f
  induction f with
  | zero =>
    intro k hk h1 rkh1 tph1 hP
    refine V.iload_n dX6_takeParts_2 rfl rfl ?_
    refine V.bipush (v := 10) dX6_takeParts_3 rfl ?_
    refine V.icmp_gt (tgt := 68) dX6_takeParts_5 (by decide) (fun c => ?_) (fun c => absurd (by rw [show (10 : Int32) = nI 10 from rfl, nI_ltI (by omega) (by omega)]; omega) c)
    refine V.iconst (v := 1) dX6_takeParts_68 rfl ?_
    refine V.ireturn dX6_takeParts_69 rfl rfl ⟨rfl, rfl⟩ hn ?_
    exact hP
  | succ f ih =>
    intro k hfk h1 rkh1 tph1 hP
    refine V.iload_n dX6_takeParts_2 rfl rfl ?_
    refine V.bipush (v := 10) dX6_takeParts_3 rfl ?_
    refine V.icmp_gt (tgt := 68) dX6_takeParts_5 (by decide) (fun c1 => ?_) (fun c1 => ?_)
    · exact absurd c1 (by rw [show (10 : Int32) = nI 10 from rfl, nI_ltI (by omega) (by omega)]; omega)
    · refine V.aload_n dX6_takeParts_8 rfl rfl rfl ?_
      refine V.callVI dX6_takeParts_9 ml_X6_82 mo_X4_isEnd mv_X4_isEnd rfl (fun q hq => by cases hq; rfl) (by decide) (Or.inl ⟨rfl, SHL_lt rfl⟩) (sp_X4_isEnd rkh1.1 rkh1.2.a9 rkh1.2.a) rfl rfl ⟨Nat.le_of_ble_eq_true rfl, Nat.le_of_ble_eq_true rfl, fun _ => ⟨rfl, rfl⟩⟩ (Nat.le_of_ble_eq_true rfl) rfl (fun r2 h3 p4 => ?_)
      obtain ⟨er2, p4⟩ := p4
      have p4 := p4.symm
      subst p4
      refine V.if_ne (tgt := 68) dX6_takeParts_12 (by decide) (fun c5 => ?_) (fun c5 => ?_)
      · rw [er2, bI_0, Decidable.not_not] at c5
        refine V.iconst (v := 1) dX6_takeParts_68 rfl ?_
        refine V.ireturn dX6_takeParts_69 rfl rfl ⟨rfl, rfl⟩ hn ?_
        rw [partsG, if_pos c5] at hP
        exact hP
      · rw [er2, bI_0] at c5
        refine V.aload_n dX6_takeParts_15 rfl rfl rfl ?_
        refine V.iconst (v := 3) dX6_takeParts_16 rfl ?_
        refine V.callVI dX6_takeParts_17 ml_X6_37 mo_X4_isWord mv_X4_isWord rfl (fun q hq => by cases hq; rfl) (by decide) (Or.inl ⟨rfl, SHL_lt rfl⟩) (sp_X4_isWord rkh1.1 rkh1.2.a9 rkh1.2.a _) rfl rfl ⟨Nat.le_of_ble_eq_true rfl, Nat.le_of_ble_eq_true rfl, fun _ => ⟨rfl, rfl⟩⟩ (Nat.le_of_ble_eq_true rfl) rfl (fun r6 h7 p8 => ?_)
        obtain ⟨er6, p8⟩ := p8
        have p8 := p8.symm
        subst p8
        refine V.if_eq (tgt := 32) dX6_takeParts_20 (by decide) (fun c9 => ?_) (fun c9 => ?_)
        · rw [er6, bI_0] at c9
          refine V.aload_n dX6_takeParts_32 rfl rfl rfl ?_
          refine V.bipush (v := 6) dX6_takeParts_33 rfl ?_
          refine V.callVI dX6_takeParts_35 ml_X6_37 mo_X4_isWord mv_X4_isWord rfl (fun q hq => by cases hq; rfl) (by decide) (Or.inl ⟨rfl, SHL_lt rfl⟩) (sp_X4_isWord rkh1.1 rkh1.2.a9 rkh1.2.a _) rfl rfl ⟨Nat.le_of_ble_eq_true rfl, Nat.le_of_ble_eq_true rfl, fun _ => ⟨rfl, rfl⟩⟩ (Nat.le_of_ble_eq_true rfl) rfl (fun r10 h11 p12 => ?_)
          obtain ⟨er10, p12⟩ := p12
          have p12 := p12.symm
          subst p12
          refine V.if_eq (tgt := 50) dX6_takeParts_38 (by decide) (fun c13 => ?_) (fun c13 => ?_)
          · rw [er10, bI_0] at c13
            refine V.aload_n dX6_takeParts_50 rfl rfl rfl ?_
            refine V.iconst (v := 2) dX6_takeParts_51 rfl ?_
            refine V.callVI dX6_takeParts_52 ml_X6_52 mo_X4_fail mv_X4_fail rfl (fun q hq => by cases hq; rfl) (by decide) (Or.inl ⟨rfl, SHL_lt rfl⟩) (sp_X4_fail rkh1.1 rkh1.2.a9 rkh1.2.a _) rfl rfl ⟨Nat.le_of_ble_eq_true rfl, Nat.le_of_ble_eq_true rfl, fun _ => ⟨rfl, rfl⟩⟩ (Nat.le_of_ble_eq_true rfl) rfl (fun r14 h15 p16 => ?_)
            obtain ⟨er14, eh15⟩ := p16
            replace eh15 : h15 = failF h1 _ := eh15
            have rkh15 : RK h15 := by rw [eh15]; exact rkh1.fail _
            have tph15 : TP h15 t := by rw [eh15]; exact tph1.fr hT (failF_fr _ _)
            refine V.istore_n (ls' := [.ref 5, .ref t, .int (nI k), .int r14]) dX6_takeParts_55 rfl (by decide) rfl ?_
            refine V.iload_n dX6_takeParts_56 rfl rfl ?_
            refine V.if_ne (tgt := 62) dX6_takeParts_57 (by decide) (fun c17 => ?_) (fun c17 => ?_)
            · obtain ⟨x18, ex18⟩ : ∃ y : Int32, y = nI k + 1 := ⟨_, rfl⟩
              refine V.iinc (v := x18) (ls' := [.ref 5, .ref t, .int x18, .int r14]) dX6_takeParts_62 rfl (by decide) ex18.symm rfl ?_
              refine V.goto (tgt := 2) dX6_takeParts_65 (by decide) ?_
              have ep1 : r14 = (partF h1 t).1 := by unfold partF; rw [if_neg c9, if_neg c13]; exact er14
              have ep2 : h15 = (partF h1 t).2 := by unfold partF; rw [if_neg c9, if_neg c13]; exact eh15
              rw [ep1] at c17
              rw [partsG, if_neg c5, if_neg c17] at hP
              rw [ex18, nI_1]
              exact V.less (ls' := [.ref 5, .ref t, .int (nI (k + 1)), .null]) ⟨Or.inr rfl, Or.inr rfl, Or.inr rfl, Or.inl rfl, trivial⟩ (ih (k + 1) (by omega) h15 rkh15 tph15 (by rw [ep2]; exact hP))
            · refine V.iconst (v := 0) dX6_takeParts_60 rfl ?_
              refine V.ireturn dX6_takeParts_61 rfl rfl ⟨rfl, rfl⟩ hn ?_
              have ep1 : r14 = (partF h1 t).1 := by unfold partF; rw [if_neg c9, if_neg c13]; exact er14
              have ep2 : h15 = (partF h1 t).2 := by unfold partF; rw [if_neg c9, if_neg c13]; exact eh15
              rw [ep1] at c17
              rw [partsG, if_neg c5, if_pos c17] at hP
              rw [ep2]
              exact hP
          · rw [er10, bI_0, Decidable.not_not] at c13
            refine V.aload_n dX6_takeParts_41 rfl rfl rfl ?_
            refine V.aload_n dX6_takeParts_42 rfl rfl (sT0 hT) ?_
            refine V.callSI dX6_takeParts_43 ml_X6_89 mo_X6_takeCitizen ms_X6_takeCitizen (sp_X6_takeCitizen rkh1 hT tph1) rfl rfl ⟨Nat.le_of_ble_eq_true rfl, Nat.le_of_ble_eq_true rfl, fun _ => ⟨rfl, rfl⟩⟩ (Nat.le_of_ble_eq_true rfl) rfl (fun r19 h20 p21 => ?_)
            obtain ⟨er19, eh20⟩ := p21
            obtain ⟨rkh20, tph20⟩ : RK h20 ∧ TP h20 t := by rw [eh20]; exact citF_ok hT rkh1 tph1
            refine V.istore_n (ls' := [.ref 5, .ref t, .int (nI k), .int r19]) dX6_takeParts_46 rfl (by decide) rfl ?_
            refine V.goto (tgt := 56) dX6_takeParts_47 (by decide) ?_
            refine V.iload_n dX6_takeParts_56 rfl rfl ?_
            refine V.if_ne (tgt := 62) dX6_takeParts_57 (by decide) (fun c22 => ?_) (fun c22 => ?_)
            · obtain ⟨x23, ex23⟩ : ∃ y : Int32, y = nI k + 1 := ⟨_, rfl⟩
              refine V.iinc (v := x23) (ls' := [.ref 5, .ref t, .int x23, .int r19]) dX6_takeParts_62 rfl (by decide) ex23.symm rfl ?_
              refine V.goto (tgt := 2) dX6_takeParts_65 (by decide) ?_
              have ep1 : r19 = (partF h1 t).1 := by unfold partF; rw [if_neg c9, if_pos c13]; exact er19
              have ep2 : h20 = (partF h1 t).2 := by unfold partF; rw [if_neg c9, if_pos c13]; exact eh20
              rw [ep1] at c22
              rw [partsG, if_neg c5, if_neg c22] at hP
              rw [ex23, nI_1]
              exact V.less (ls' := [.ref 5, .ref t, .int (nI (k + 1)), .null]) ⟨Or.inr rfl, Or.inr rfl, Or.inr rfl, Or.inl rfl, trivial⟩ (ih (k + 1) (by omega) h20 rkh20 tph20 (by rw [ep2]; exact hP))
            · refine V.iconst (v := 0) dX6_takeParts_60 rfl ?_
              refine V.ireturn dX6_takeParts_61 rfl rfl ⟨rfl, rfl⟩ hn ?_
              have ep1 : r19 = (partF h1 t).1 := by unfold partF; rw [if_neg c9, if_pos c13]; exact er19
              have ep2 : h20 = (partF h1 t).2 := by unfold partF; rw [if_neg c9, if_pos c13]; exact eh20
              rw [ep1] at c22
              rw [partsG, if_neg c5, if_pos c22] at hP
              rw [ep2]
              exact hP
        · rw [er6, bI_0, Decidable.not_not] at c9
          refine V.aload_n dX6_takeParts_23 rfl rfl rfl ?_
          refine V.aload_n dX6_takeParts_24 rfl rfl (sT0 hT) ?_
          refine V.callSI dX6_takeParts_25 ml_X6_86 mo_X6_takeRule ms_X6_takeRule (sp_X6_takeRule rkh1 hT tph1) rfl rfl ⟨Nat.le_of_ble_eq_true rfl, Nat.le_of_ble_eq_true rfl, fun _ => ⟨rfl, rfl⟩⟩ (Nat.le_of_ble_eq_true rfl) rfl (fun r24 h25 p26 => ?_)
          obtain ⟨er24, eh25⟩ := p26
          obtain ⟨rkh25, tph25⟩ : RK h25 ∧ TP h25 t := by rw [eh25]; exact ruleF_ok hT rkh1 tph1
          refine V.istore_n (ls' := [.ref 5, .ref t, .int (nI k), .int r24]) dX6_takeParts_28 rfl (by decide) rfl ?_
          refine V.goto (tgt := 56) dX6_takeParts_29 (by decide) ?_
          refine V.iload_n dX6_takeParts_56 rfl rfl ?_
          refine V.if_ne (tgt := 62) dX6_takeParts_57 (by decide) (fun c27 => ?_) (fun c27 => ?_)
          · obtain ⟨x28, ex28⟩ : ∃ y : Int32, y = nI k + 1 := ⟨_, rfl⟩
            refine V.iinc (v := x28) (ls' := [.ref 5, .ref t, .int x28, .int r24]) dX6_takeParts_62 rfl (by decide) ex28.symm rfl ?_
            refine V.goto (tgt := 2) dX6_takeParts_65 (by decide) ?_
            have ep1 : r24 = (partF h1 t).1 := by unfold partF; rw [if_pos c9]; exact er24
            have ep2 : h25 = (partF h1 t).2 := by unfold partF; rw [if_pos c9]; exact eh25
            rw [ep1] at c27
            rw [partsG, if_neg c5, if_neg c27] at hP
            rw [ex28, nI_1]
            exact V.less (ls' := [.ref 5, .ref t, .int (nI (k + 1)), .null]) ⟨Or.inr rfl, Or.inr rfl, Or.inr rfl, Or.inl rfl, trivial⟩ (ih (k + 1) (by omega) h25 rkh25 tph25 (by rw [ep2]; exact hP))
          · refine V.iconst (v := 0) dX6_takeParts_60 rfl ?_
            refine V.ireturn dX6_takeParts_61 rfl rfl ⟨rfl, rfl⟩ hn ?_
            have ep1 : r24 = (partF h1 t).1 := by unfold partF; rw [if_pos c9]; exact er24
            have ep2 : h25 = (partF h1 t).2 := by unfold partF; rw [if_pos c9]; exact eh25
            rw [ep1] at c27
            rw [partsG, if_neg c5, if_pos c27] at hP
            rw [ep2]
            exact hP
