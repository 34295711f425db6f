/-! ===== the class's reader of a year: tests ===== -/
theorem firstF_01 (h : HP) (y e : Nat) (lo hi : Int32) : narrow .boolean (.int (firstF h y e lo hi).1) = .int (firstF h y e lo hi).1 := by
  unfold firstF; split
  · exact (rfl : narrow .boolean (.int 0) = .int 0)
  · exact (rfl : narrow .boolean (.int 1) = .int 1)
theorem placeYF_01 (h : HP) (t y e : Nat) : narrow .boolean (.int (placeYF h t y e).1) = .int (placeYF h t y e).1 := by
  unfold placeYF; dsimp only; split
  · exact (rfl : narrow .boolean (.int 0) = .int 0)
  · split
    · exact (rfl : narrow .boolean (.int 0) = .int 0)
    · exact (rfl : narrow .boolean (.int 1) = .int 1)
def litTestF (h : HP) (y e : Nat) : Int32 × HP := firstF (advF (uI h (y + 2) e (hI h 11 (tA h)))) y e 0 30
def testF (h : HP) (t y e : Nat) : Int32 × HP :=
  if kA h = 4 ∧ vA h = 18 then (1, advF (uI h (y + 2) e 18)) else
  if kA h = 4 ∧ vA h = 17 then placeYF (advF (uI h (y + 2) e 17)) t y e else
  if (takeK 4 h 16).1 = 0 then (0, (takeK 4 h 16).2) else
  if kA (takeK 4 h 16).2 = 3 ∧ vA (takeK 4 h 16).2 = 60 then litTestF (takeK 4 h 16).2 y e else
  if kA (takeK 4 h 16).2 = 3 ∧ vA (takeK 4 h 16).2 = 62 then litTestF (takeK 4 h 16).2 y e else
  if kA (takeK 4 h 16).2 = 3 ∧ vA (takeK 4 h 16).2 = 61 then litTestF (takeK 4 h 16).2 y e else
  (0, failF (takeK 4 h 16).2 2)
set_option maxRecDepth 100000 in
theorem sp_X10_takeTest {h : HP} (rkh : RK h) {t : Nat} (hT : isT t) {y : Nat} (hY : isY y) {e : Nat} (he : e < 60)  : Spec yX10_takeTest cX10_takeTest miX10_takeTest [.ref 5, .ref t, .ref y, .int (nI e)] h (pI fun r h' => r = (testF h t y e).1 ∧ h' = (testF h t y e).2) := by
  refine Spec.of (ls0 := [.ref 5, .ref t, .ref y, .int (nI e)]) mo_X10_takeTest (Nat.le_of_ble_eq_true rfl) rfl ?_
  rw [rkh.1.1]
  have hy14 := isY_ge hY
  refine V.aload_n dX10_takeTest_0 rfl rfl rfl ?_
  refine V.bipush (v := 18) dX10_takeTest_1 rfl ?_
  refine V.callVI dX10_takeTest_3 ml_X10_19 mo_X4_isWord mv_X4_isWord rfl (fun q hq => by cases hq; rfl) (by decide) (Or.inl ⟨rfl, SHL_lt rfl⟩) (sp_X4_isWord rkh.1 rkh.2.a9 rkh.2.a _) rfl rfl ⟨Nat.le_of_ble_eq_true rfl, Nat.le_of_ble_eq_true rfl, fun _ => ⟨rfl, rfl⟩⟩ (Nat.le_of_ble_eq_true rfl) rfl (fun r1 h2 p3 => ?_)
  obtain ⟨er1, p3⟩ := p3
  have p3 := p3.symm
  subst p3
  refine V.if_eq (tgt := 23) dX10_takeTest_6 (by decide) (fun c4 => ?_) (fun c4 => ?_)
  · rw [er1, bI_0] at c4
    refine V.aload_n dX10_takeTest_23 rfl rfl rfl ?_
    refine V.bipush (v := 17) dX10_takeTest_24 rfl ?_
    refine V.callVI dX10_takeTest_26 ml_X10_19 mo_X4_isWord mv_X4_isWord rfl (fun q hq => by cases hq; rfl) (by decide) (Or.inl ⟨rfl, SHL_lt rfl⟩) (sp_X4_isWord rkh.1 rkh.2.a9 rkh.2.a _) rfl rfl ⟨Nat.le_of_ble_eq_true rfl, Nat.le_of_ble_eq_true rfl, fun _ => ⟨rfl, rfl⟩⟩ (Nat.le_of_ble_eq_true rfl) rfl (fun r5 h6 p7 => ?_)
    obtain ⟨er5, p7⟩ := p7
    have p7 := p7.symm
    subst p7
    refine V.if_eq (tgt := 52) dX10_takeTest_29 (by decide) (fun c8 => ?_) (fun c8 => ?_)
    · rw [er5, bI_0] at c8
      refine V.aload_n dX10_takeTest_52 rfl rfl rfl ?_
      refine V.bipush (v := 16) dX10_takeTest_53 rfl ?_
      refine V.callVI dX10_takeTest_55 ml_X10_129 mo_X4_takeWord mv_X4_takeWord rfl (fun q hq => by cases hq; rfl) (by decide) (Or.inl ⟨rfl, SHL_lt rfl⟩) (sp_X4_takeWord rkh.1 rkh.2.a9 rkh.2.a rkh.2.le rkh.2.n rkh.2.lt _) rfl rfl ⟨Nat.le_of_ble_eq_true rfl, Nat.le_of_ble_eq_true rfl, fun _ => ⟨rfl, rfl⟩⟩ (Nat.le_of_ble_eq_true rfl) rfl (fun r9 h10 p11 => ?_)
      replace p11 := takeK_of p11
      obtain ⟨er9, eh10⟩ := p11
      have rkh10 : RK h10 := by rw [eh10]; exact rkh.tK _ _
      refine V.if_ne (tgt := 63) dX10_takeTest_58 (by decide) (fun c12 => ?_) (fun c12 => ?_)
      · refine V.aload_n dX10_takeTest_63 rfl rfl rfl ?_
        refine V.bipush (v := 60) dX10_takeTest_64 rfl ?_
        refine V.callVI dX10_takeTest_66 ml_X10_132 mo_X4_isSign mv_X4_isSign rfl (fun q hq => by cases hq; rfl) (by decide) (Or.inl ⟨rfl, SHL_lt rfl⟩) (sp_X4_isSign rkh10.1 rkh10.2.a9 rkh10.2.a _) rfl rfl ⟨Nat.le_of_ble_eq_true rfl, Nat.le_of_ble_eq_true rfl, fun _ => ⟨rfl, rfl⟩⟩ (Nat.le_of_ble_eq_true rfl) rfl (fun r13 h14 p15 => ?_)
        obtain ⟨er13, p15⟩ := p15
        have p15 := p15.symm
        subst p15
        refine V.if_ne (tgt := 96) dX10_takeTest_69 (by decide) (fun c16 => ?_) (fun c16 => ?_)
        · rw [er13, bI_0, Decidable.not_not] at c16
          refine V.aload_n dX10_takeTest_96 rfl rfl (sY0 hY) ?_
          refine V.getR (r := y + 2) dX10_takeTest_97 fl_X10_126 (sY0 hY) (Or.inl ⟨rfl, SHL_lt (sY0 hY)⟩) rfl (rY_tests rkh10.1 hY) ?_
          refine V.iload_n dX10_takeTest_100 rfl rfl ?_
          refine V.aload_n dX10_takeTest_101 rfl rfl rfl ?_
          refine V.callVI dX10_takeTest_102 ml_X10_135 mo_X4_value mv_X4_value rfl (fun q hq => by cases hq; rfl) (by decide) (Or.inl ⟨rfl, SHL_lt rfl⟩) (sp_X4_value rkh10.1 rkh10.2.a9 rkh10.2.a) rfl rfl ⟨Nat.le_of_ble_eq_true rfl, Nat.le_of_ble_eq_true rfl, fun _ => ⟨rfl, rfl⟩⟩ (Nat.le_of_ble_eq_true rfl) rfl (fun r17 h18 p19 => ?_)
          obtain ⟨er17, p19⟩ := p19
          have p19 := p19.symm
          subst p19
          refine V.iastore dX10_takeTest_105 (sY2 hY) (Or.inl ⟨rfl, SHL_lt (sY2 hY)⟩) (vp_in_nI he (by decide)) ?_
          rw [nI_clamp (show e < 2 ^ 31 by omega)]
          refine V.nameH (fun g20 eg20 => ?_)
          have rkg20 : RK g20 := by rw [eg20]; exact rkh10.uI _ _ (by omega)
          refine V.aload_n dX10_takeTest_106 rfl rfl rfl ?_
          refine V.callVV dX10_takeTest_107 ml_X10_57 mo_X4_advance mv_X4_advance rfl (fun q hq => by cases hq; rfl) (by decide) (Or.inl ⟨rfl, SHL_lt rfl⟩) (sp_X4_advance rkg20.1 rkg20.2.a9 rkg20.2.a rkg20.2.le rkg20.2.n rkg20.2.lt) rfl rfl ⟨Nat.le_of_ble_eq_true rfl, Nat.le_of_ble_eq_true rfl, fun _ => ⟨rfl, rfl⟩⟩ (Nat.le_of_ble_eq_true rfl) (Or.inl rfl) (fun h21 p22 => ?_)
          have eh21 := p22
          replace eh21 : h21 = advF g20 := eh21
          have rkh21 : RK h21 := by rw [eh21]; exact rkg20.adv
          refine V.aload_n dX10_takeTest_110 rfl rfl rfl ?_
          refine V.aload_n dX10_takeTest_111 rfl rfl (sY0 hY) ?_
          refine V.iload_n dX10_takeTest_112 rfl rfl ?_
          refine V.iconst (v := 0) dX10_takeTest_113 rfl ?_
          refine V.bipush (v := 30) dX10_takeTest_114 rfl ?_
          refine V.callSI dX10_takeTest_116 ml_X10_75 mo_X10_takeFirst ms_X10_takeFirst (sp_X10_takeFirst rkh21 hY he _ _) rfl rfl ⟨Nat.le_of_ble_eq_true rfl, Nat.le_of_ble_eq_true rfl, fun _ => ⟨rfl, rfl⟩⟩ (Nat.le_of_ble_eq_true rfl) rfl (fun r23 h24 p25 => ?_)
          obtain ⟨er23, eh24⟩ := p25
          refine V.ireturn dX10_takeTest_119 rfl (by rw [er23]; exact firstF_01 _ _ _ _ _) ⟨rfl, rfl⟩ rkh.1.1 ?_
          unfold testF litTestF
          try rw [← er9]
          try rw [← eh10]
          try rw [← er17]
          try rw [← eg20]
          try rw [← eh21]
          rw [if_neg c4, if_neg c8, if_neg c12, if_pos c16]
          first | exact ⟨by with_reducible rfl, by with_reducible rfl⟩ | exact ⟨by assumption, by with_reducible rfl⟩ | exact ⟨by assumption, by assumption⟩
        · rw [er13, bI_0] at c16
          refine V.aload_n dX10_takeTest_72 rfl rfl rfl ?_
          refine V.bipush (v := 62) dX10_takeTest_73 rfl ?_
          refine V.callVI dX10_takeTest_75 ml_X10_132 mo_X4_isSign mv_X4_isSign rfl (fun q hq => by cases hq; rfl) (by decide) (Or.inl ⟨rfl, SHL_lt rfl⟩) (sp_X4_isSign rkh10.1 rkh10.2.a9 rkh10.2.a _) rfl rfl ⟨Nat.le_of_ble_eq_true rfl, Nat.le_of_ble_eq_true rfl, fun _ => ⟨rfl, rfl⟩⟩ (Nat.le_of_ble_eq_true rfl) rfl (fun r26 h27 p28 => ?_)
          obtain ⟨er26, p28⟩ := p28
          have p28 := p28.symm
          subst p28
          refine V.if_ne (tgt := 96) dX10_takeTest_78 (by decide) (fun c29 => ?_) (fun c29 => ?_)
          · rw [er26, bI_0, Decidable.not_not] at c29
            refine V.aload_n dX10_takeTest_96 rfl rfl (sY0 hY) ?_
            refine V.getR (r := y + 2) dX10_takeTest_97 fl_X10_126 (sY0 hY) (Or.inl ⟨rfl, SHL_lt (sY0 hY)⟩) rfl (rY_tests rkh10.1 hY) ?_
            refine V.iload_n dX10_takeTest_100 rfl rfl ?_
            refine V.aload_n dX10_takeTest_101 rfl rfl rfl ?_
            refine V.callVI dX10_takeTest_102 ml_X10_135 mo_X4_value mv_X4_value rfl (fun q hq => by cases hq; rfl) (by decide) (Or.inl ⟨rfl, SHL_lt rfl⟩) (sp_X4_value rkh10.1 rkh10.2.a9 rkh10.2.a) rfl rfl ⟨Nat.le_of_ble_eq_true rfl, Nat.le_of_ble_eq_true rfl, fun _ => ⟨rfl, rfl⟩⟩ (Nat.le_of_ble_eq_true rfl) rfl (fun r30 h31 p32 => ?_)
            obtain ⟨er30, p32⟩ := p32
            have p32 := p32.symm
            subst p32
            refine V.iastore dX10_takeTest_105 (sY2 hY) (Or.inl ⟨rfl, SHL_lt (sY2 hY)⟩) (vp_in_nI he (by decide)) ?_
            rw [nI_clamp (show e < 2 ^ 31 by omega)]
            refine V.nameH (fun g33 eg33 => ?_)
            have rkg33 : RK g33 := by rw [eg33]; exact rkh10.uI _ _ (by omega)
            refine V.aload_n dX10_takeTest_106 rfl rfl rfl ?_
            refine V.callVV dX10_takeTest_107 ml_X10_57 mo_X4_advance mv_X4_advance rfl (fun q hq => by cases hq; rfl) (by decide) (Or.inl ⟨rfl, SHL_lt rfl⟩) (sp_X4_advance rkg33.1 rkg33.2.a9 rkg33.2.a rkg33.2.le rkg33.2.n rkg33.2.lt) rfl rfl ⟨Nat.le_of_ble_eq_true rfl, Nat.le_of_ble_eq_true rfl, fun _ => ⟨rfl, rfl⟩⟩ (Nat.le_of_ble_eq_true rfl) (Or.inl rfl) (fun h34 p35 => ?_)
            have eh34 := p35
            replace eh34 : h34 = advF g33 := eh34
            have rkh34 : RK h34 := by rw [eh34]; exact rkg33.adv
            refine V.aload_n dX10_takeTest_110 rfl rfl rfl ?_
            refine V.aload_n dX10_takeTest_111 rfl rfl (sY0 hY) ?_
            refine V.iload_n dX10_takeTest_112 rfl rfl ?_
            refine V.iconst (v := 0) dX10_takeTest_113 rfl ?_
            refine V.bipush (v := 30) dX10_takeTest_114 rfl ?_
            refine V.callSI dX10_takeTest_116 ml_X10_75 mo_X10_takeFirst ms_X10_takeFirst (sp_X10_takeFirst rkh34 hY he _ _) rfl rfl ⟨Nat.le_of_ble_eq_true rfl, Nat.le_of_ble_eq_true rfl, fun _ => ⟨rfl, rfl⟩⟩ (Nat.le_of_ble_eq_true rfl) rfl (fun r36 h37 p38 => ?_)
            obtain ⟨er36, eh37⟩ := p38
            refine V.ireturn dX10_takeTest_119 rfl (by rw [er36]; exact firstF_01 _ _ _ _ _) ⟨rfl, rfl⟩ rkh.1.1 ?_
            unfold testF litTestF
            try rw [← er9]
            try rw [← eh10]
            try rw [← er30]
            try rw [← eg33]
            try rw [← eh34]
            rw [if_neg c4, if_neg c8, if_neg c12, if_neg c16, if_pos c29]
            first | exact ⟨by with_reducible rfl, by with_reducible rfl⟩ | exact ⟨by assumption, by with_reducible rfl⟩ | exact ⟨by assumption, by assumption⟩
          · rw [er26, bI_0] at c29
            refine V.aload_n dX10_takeTest_81 rfl rfl rfl ?_
            refine V.bipush (v := 61) dX10_takeTest_82 rfl ?_
            refine V.callVI dX10_takeTest_84 ml_X10_132 mo_X4_isSign mv_X4_isSign rfl (fun q hq => by cases hq; rfl) (by decide) (Or.inl ⟨rfl, SHL_lt rfl⟩) (sp_X4_isSign rkh10.1 rkh10.2.a9 rkh10.2.a _) rfl rfl ⟨Nat.le_of_ble_eq_true rfl, Nat.le_of_ble_eq_true rfl, fun _ => ⟨rfl, rfl⟩⟩ (Nat.le_of_ble_eq_true rfl) rfl (fun r39 h40 p41 => ?_)
            obtain ⟨er39, p41⟩ := p41
            have p41 := p41.symm
            subst p41
            refine V.if_ne (tgt := 96) dX10_takeTest_87 (by decide) (fun c42 => ?_) (fun c42 => ?_)
            · rw [er39, bI_0, Decidable.not_not] at c42
              refine V.aload_n dX10_takeTest_96 rfl rfl (sY0 hY) ?_
              refine V.getR (r := y + 2) dX10_takeTest_97 fl_X10_126 (sY0 hY) (Or.inl ⟨rfl, SHL_lt (sY0 hY)⟩) rfl (rY_tests rkh10.1 hY) ?_
              refine V.iload_n dX10_takeTest_100 rfl rfl ?_
              refine V.aload_n dX10_takeTest_101 rfl rfl rfl ?_
              refine V.callVI dX10_takeTest_102 ml_X10_135 mo_X4_value mv_X4_value rfl (fun q hq => by cases hq; rfl) (by decide) (Or.inl ⟨rfl, SHL_lt rfl⟩) (sp_X4_value rkh10.1 rkh10.2.a9 rkh10.2.a) rfl rfl ⟨Nat.le_of_ble_eq_true rfl, Nat.le_of_ble_eq_true rfl, fun _ => ⟨rfl, rfl⟩⟩ (Nat.le_of_ble_eq_true rfl) rfl (fun r43 h44 p45 => ?_)
              obtain ⟨er43, p45⟩ := p45
              have p45 := p45.symm
              subst p45
              refine V.iastore dX10_takeTest_105 (sY2 hY) (Or.inl ⟨rfl, SHL_lt (sY2 hY)⟩) (vp_in_nI he (by decide)) ?_
              rw [nI_clamp (show e < 2 ^ 31 by omega)]
              refine V.nameH (fun g46 eg46 => ?_)
              have rkg46 : RK g46 := by rw [eg46]; exact rkh10.uI _ _ (by omega)
              refine V.aload_n dX10_takeTest_106 rfl rfl rfl ?_
              refine V.callVV dX10_takeTest_107 ml_X10_57 mo_X4_advance mv_X4_advance rfl (fun q hq => by cases hq; rfl) (by decide) (Or.inl ⟨rfl, SHL_lt rfl⟩) (sp_X4_advance rkg46.1 rkg46.2.a9 rkg46.2.a rkg46.2.le rkg46.2.n rkg46.2.lt) rfl rfl ⟨Nat.le_of_ble_eq_true rfl, Nat.le_of_ble_eq_true rfl, fun _ => ⟨rfl, rfl⟩⟩ (Nat.le_of_ble_eq_true rfl) (Or.inl rfl) (fun h47 p48 => ?_)
              have eh47 := p48
              replace eh47 : h47 = advF g46 := eh47
              have rkh47 : RK h47 := by rw [eh47]; exact rkg46.adv
              refine V.aload_n dX10_takeTest_110 rfl rfl rfl ?_
              refine V.aload_n dX10_takeTest_111 rfl rfl (sY0 hY) ?_
              refine V.iload_n dX10_takeTest_112 rfl rfl ?_
              refine V.iconst (v := 0) dX10_takeTest_113 rfl ?_
              refine V.bipush (v := 30) dX10_takeTest_114 rfl ?_
              refine V.callSI dX10_takeTest_116 ml_X10_75 mo_X10_takeFirst ms_X10_takeFirst (sp_X10_takeFirst rkh47 hY he _ _) rfl rfl ⟨Nat.le_of_ble_eq_true rfl, Nat.le_of_ble_eq_true rfl, fun _ => ⟨rfl, rfl⟩⟩ (Nat.le_of_ble_eq_true rfl) rfl (fun r49 h50 p51 => ?_)
              obtain ⟨er49, eh50⟩ := p51
              refine V.ireturn dX10_takeTest_119 rfl (by rw [er49]; exact firstF_01 _ _ _ _ _) ⟨rfl, rfl⟩ rkh.1.1 ?_
              unfold testF litTestF
              try rw [← er9]
              try rw [← eh10]
              try rw [← er43]
              try rw [← eg46]
              try rw [← eh47]
              rw [if_neg c4, if_neg c8, if_neg c12, if_neg c16, if_neg c29, if_pos c42]
              first | exact ⟨by with_reducible rfl, by with_reducible rfl⟩ | exact ⟨by assumption, by with_reducible rfl⟩ | exact ⟨by assumption, by assumption⟩
            · rw [er39, bI_0] at c42
              refine V.aload_n dX10_takeTest_90 rfl rfl rfl ?_
              refine V.iconst (v := 2) dX10_takeTest_91 rfl ?_
              refine V.callVI dX10_takeTest_92 ml_X10_43 mo_X4_fail mv_X4_fail rfl (fun q hq => by cases hq; rfl) (by decide) (Or.inl ⟨rfl, SHL_lt rfl⟩) (sp_X4_fail rkh10.1 rkh10.2.a9 rkh10.2.a _) rfl rfl ⟨Nat.le_of_ble_eq_true rfl, Nat.le_of_ble_eq_true rfl, fun _ => ⟨rfl, rfl⟩⟩ (Nat.le_of_ble_eq_true rfl) rfl (fun r52 h53 p54 => ?_)
              obtain ⟨er52, eh53⟩ := p54
              replace eh53 : h53 = failF h10 _ := eh53
              have rkh53 : RK h53 := by rw [eh53]; exact rkh10.fail _
              refine V.ireturn dX10_takeTest_95 rfl (by rw [er52]; first | rfl | exact bI_01 _ | exact takeK_01 _ _ _ | exact firstF_01 _ _ _ _ _ | exact placeYF_01 _ _ _ _) ⟨rfl, rfl⟩ rkh.1.1 ?_
              unfold testF litTestF
              try rw [← er9]
              try rw [← eh10]
              try rw [← eh53]
              rw [if_neg c4, if_neg c8, if_neg c12, if_neg c16, if_neg c29, if_neg c42]
              first | exact ⟨by with_reducible rfl, by with_reducible rfl⟩ | exact ⟨by assumption, by with_reducible rfl⟩ | exact ⟨by assumption, by assumption⟩
      · refine V.iconst (v := 0) dX10_takeTest_61 rfl ?_
        refine V.ireturn dX10_takeTest_62 rfl rfl ⟨rfl, rfl⟩ rkh.1.1 ?_
        unfold testF litTestF
        try rw [← er9]
        try rw [← eh10]
        rw [if_neg c4, if_neg c8, if_pos c12]
        first | exact ⟨by with_reducible rfl, by with_reducible rfl⟩ | exact ⟨by assumption, by with_reducible rfl⟩ | exact ⟨by assumption, by assumption⟩
    · rw [er5, bI_0, Decidable.not_not] at c8
      refine V.aload_n dX10_takeTest_32 rfl rfl (sY0 hY) ?_
      refine V.getR (r := y + 2) dX10_takeTest_33 fl_X10_126 (sY0 hY) (Or.inl ⟨rfl, SHL_lt (sY0 hY)⟩) rfl (rY_tests rkh.1 hY) ?_
      refine V.iload_n dX10_takeTest_36 rfl rfl ?_
      refine V.bipush (v := 17) dX10_takeTest_37 rfl ?_
      refine V.iastore dX10_takeTest_39 (sY2 hY) (Or.inl ⟨rfl, SHL_lt (sY2 hY)⟩) (vp_in_nI he (by decide)) ?_
      rw [nI_clamp (show e < 2 ^ 31 by omega)]
      refine V.nameH (fun g55 eg55 => ?_)
      have rkg55 : RK g55 := by rw [eg55]; exact rkh.uI _ _ (by omega)
      refine V.aload_n dX10_takeTest_40 rfl rfl rfl ?_
      refine V.callVV dX10_takeTest_41 ml_X10_57 mo_X4_advance mv_X4_advance rfl (fun q hq => by cases hq; rfl) (by decide) (Or.inl ⟨rfl, SHL_lt rfl⟩) (sp_X4_advance rkg55.1 rkg55.2.a9 rkg55.2.a rkg55.2.le rkg55.2.n rkg55.2.lt) rfl rfl ⟨Nat.le_of_ble_eq_true rfl, Nat.le_of_ble_eq_true rfl, fun _ => ⟨rfl, rfl⟩⟩ (Nat.le_of_ble_eq_true rfl) (Or.inl rfl) (fun h56 p57 => ?_)
      have eh56 := p57
      replace eh56 : h56 = advF g55 := eh56
      have rkh56 : RK h56 := by rw [eh56]; exact rkg55.adv
      refine V.aload_n dX10_takeTest_44 rfl rfl rfl ?_
      refine V.aload_n dX10_takeTest_45 rfl rfl (sT0 hT) ?_
      refine V.aload_n dX10_takeTest_46 rfl rfl (sY0 hY) ?_
      refine V.iload_n dX10_takeTest_47 rfl rfl ?_
      refine V.callSI dX10_takeTest_48 ml_X10_79 mo_X10_takePlace ms_X10_takePlace (sp_X10_takePlace rkh56 hT hY he) rfl rfl ⟨Nat.le_of_ble_eq_true rfl, Nat.le_of_ble_eq_true rfl, fun _ => ⟨rfl, rfl⟩⟩ (Nat.le_of_ble_eq_true rfl) rfl (fun r58 h59 p60 => ?_)
      obtain ⟨er58, eh59⟩ := p60
      refine V.ireturn dX10_takeTest_51 rfl (by rw [er58]; exact placeYF_01 _ _ _ _) ⟨rfl, rfl⟩ rkh.1.1 ?_
      unfold testF litTestF
      try rw [← eg55]
      try rw [← eh56]
      rw [if_neg c4, if_pos c8]
      first | exact ⟨by with_reducible rfl, by with_reducible rfl⟩ | exact ⟨by assumption, by with_reducible rfl⟩ | exact ⟨by assumption, by assumption⟩
  · rw [er1, bI_0, Decidable.not_not] at c4
    refine V.aload_n dX10_takeTest_9 rfl rfl (sY0 hY) ?_
    refine V.getR (r := y + 2) dX10_takeTest_10 fl_X10_126 (sY0 hY) (Or.inl ⟨rfl, SHL_lt (sY0 hY)⟩) rfl (rY_tests rkh.1 hY) ?_
    refine V.iload_n dX10_takeTest_13 rfl rfl ?_
    refine V.bipush (v := 18) dX10_takeTest_14 rfl ?_
    refine V.iastore dX10_takeTest_16 (sY2 hY) (Or.inl ⟨rfl, SHL_lt (sY2 hY)⟩) (vp_in_nI he (by decide)) ?_
    rw [nI_clamp (show e < 2 ^ 31 by omega)]
    refine V.nameH (fun g61 eg61 => ?_)
    have rkg61 : RK g61 := by rw [eg61]; exact rkh.uI _ _ (by omega)
    refine V.aload_n dX10_takeTest_17 rfl rfl rfl ?_
    refine V.callVV dX10_takeTest_18 ml_X10_57 mo_X4_advance mv_X4_advance rfl (fun q hq => by cases hq; rfl) (by decide) (Or.inl ⟨rfl, SHL_lt rfl⟩) (sp_X4_advance rkg61.1 rkg61.2.a9 rkg61.2.a rkg61.2.le rkg61.2.n rkg61.2.lt) rfl rfl ⟨Nat.le_of_ble_eq_true rfl, Nat.le_of_ble_eq_true rfl, fun _ => ⟨rfl, rfl⟩⟩ (Nat.le_of_ble_eq_true rfl) (Or.inl rfl) (fun h62 p63 => ?_)
    have eh62 := p63
    replace eh62 : h62 = advF g61 := eh62
    have rkh62 : RK h62 := by rw [eh62]; exact rkg61.adv
    refine V.iconst (v := 1) dX10_takeTest_21 rfl ?_
    refine V.ireturn dX10_takeTest_22 rfl rfl ⟨rfl, rfl⟩ rkh.1.1 ?_
    unfold testF litTestF
    try rw [← eg61]
    try rw [← eh62]
    rw [if_pos c4]
    first | exact ⟨by with_reducible rfl, by with_reducible rfl⟩ | exact ⟨by assumption, by with_reducible rfl⟩ | exact ⟨by assumption, by assumption⟩
