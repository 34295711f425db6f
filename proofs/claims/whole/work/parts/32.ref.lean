set_option maxRecDepth 100000 in
theorem th_X12_plain_2 {h0 : HP} (ly : Lay h0) {hh : HP}  : ∀ (n : Nat) (l1 : Int32) (l2 : Int32) (h : HP), SR h0 h → f_X12_plain_2 n l1 l2 h = some hh → V cX12_plain miX12_plain (ZV h0 miX12_plain hh) 130 2 [.ref 113, .int l1, .int l2] [] h := by
  intro n
  induction n with
  | zero => intro l1 l2 h srh hf; exact absurd hf (by unfold f_X12_plain_2; simp)
  | succ n ih =>
    intro l1 l2 h srh hf
    unfold f_X12_plain_2 at hf
    refine V.iload_n dX12_plain_2 rfl rfl ?_
    refine V.sipush (v := 410) dX12_plain_3 rfl ?_
    refine V.icmp_ge (tgt := 24) dX12_plain_6 (by decide) (fun c1 => ?_) (fun c1 => ?_)
    · replace hf := ite_p hf c1
      refine V.aload_n dX12_plain_24 rfl rfl rfl ?_
      refine V.getR (r := 114) dX12_plain_25 fl_X12_7 rfl (Or.inl ⟨rfl, SHL_lt rfl⟩) rfl (ly_113_0 (srh.ly ly)) ?_
      refine V.iload_n dX12_plain_28 rfl rfl ?_
      refine V.bipush (v := 10) dX12_plain_29 rfl ?_
      refine V.iadd dX12_plain_31 ?_
      refine V.iconst (v := (-1)) dX12_plain_32 rfl ?_
      obtain ⟨b2, hf2⟩ := gdi_el hf
      replace hf := hf2
      clear hf2
      refine V.iastore dX12_plain_33 rfl (Or.inl ⟨rfl, SHL_lt rfl⟩) b2 ?_
      refine V.nameH (fun g3 eg3 => ?_)
      replace hf := lt_el hf g3 eg3
      have srg3 : SR h0 g3 := by rw [eg3]; exact srh.I _ _ _
      refine V.aload_n dX12_plain_34 rfl rfl rfl ?_
      refine V.getR (r := 114) dX12_plain_35 fl_X12_7 rfl (Or.inl ⟨rfl, SHL_lt rfl⟩) rfl (ly_113_0 (srg3.ly ly)) ?_
      refine V.iload_n dX12_plain_38 rfl rfl ?_
      refine V.bipush (v := 11) dX12_plain_39 rfl ?_
      refine V.iadd dX12_plain_41 ?_
      refine V.iconst (v := (-1)) dX12_plain_42 rfl ?_
      obtain ⟨b4, hf2⟩ := gdi_el hf
      replace hf := hf2
      clear hf2
      refine V.iastore dX12_plain_43 rfl (Or.inl ⟨rfl, SHL_lt rfl⟩) b4 ?_
      refine V.nameH (fun g5 eg5 => ?_)
      replace hf := lt_el hf g5 eg5
      have srg5 : SR h0 g5 := by rw [eg5]; exact srg3.I _ _ _
      refine V.vreturn' dX12_plain_44 rfl ly.1 (Or.inl ⟨rfl, rfl⟩) ?_
      exact ret_V hf srg5
    · replace hf := ite_n hf c1
      refine V.aload_n dX12_plain_9 rfl rfl rfl ?_
      refine V.getR (r := 114) dX12_plain_10 fl_X12_7 rfl (Or.inl ⟨rfl, SHL_lt rfl⟩) rfl (ly_113_0 (srh.ly ly)) ?_
      refine V.iload_n dX12_plain_13 rfl rfl ?_
      refine V.iload_n dX12_plain_14 rfl rfl ?_
      refine V.iadd dX12_plain_15 ?_
      refine V.iconst (v := 0) dX12_plain_16 rfl ?_
      obtain ⟨b6, hf2⟩ := gdi_el hf
      replace hf := hf2
      clear hf2
      refine V.iastore dX12_plain_17 rfl (Or.inl ⟨rfl, SHL_lt rfl⟩) b6 ?_
      refine V.nameH (fun g7 eg7 => ?_)
      replace hf := lt_el hf g7 eg7
      have srg7 : SR h0 g7 := by rw [eg7]; exact srh.I _ _ _
      obtain ⟨x8, ex8⟩ : ∃ y : Int32, y = l2 + 1 := ⟨_, rfl⟩
      replace hf := lt_el hf x8 ex8
      refine V.iinc (v := x8) (ls' := [.ref 113, .int l1, .int x8]) dX12_plain_18 rfl (by decide) ex8.symm rfl ?_
      refine V.goto (tgt := 2) dX12_plain_21 (by decide) ?_
      exact ih l1 x8 g7 srg7 hf
set_option maxRecDepth 100000 in
theorem th_X12_plain {h : HP} (ly : Lay h) {a1 : Int32} {hh : HP} (hf : f_X12_plain h a1 = some hh) : Spec yX12_plain cX12_plain miX12_plain [.ref 113, .int a1] h (pV fun h' => h' = hh ∧ SR h hh) := by
  refine Spec.of (ls0 := [.ref 113, .int a1, .null]) mo_X12_plain (Nat.le_of_ble_eq_true rfl) rfl ?_
  rw [ly.1]
  have srh : SR h h := SR.refl h
  unfold f_X12_plain at hf
  refine V.iconst (v := 0) dX12_plain_0 rfl ?_
  refine V.istore_n (ls' := [.ref 113, .int a1, .int 0]) dX12_plain_1 rfl (by decide) rfl ?_
  exact th_X12_plain_2 ly FU a1 0 h srh hf
set_option maxRecDepth 100000 in
theorem th_X12_status {h : HP} (ly : Lay h)  {rr : Int32} {hh : HP} (hf : f_X12_status h = some (rr, hh)) : Spec yX12_status cX12_status miX12_status [.ref 113] h (pI fun r' h' => (r' = rr ∧ h' = hh) ∧ SR h hh) := by
  refine Spec.of (ls0 := [.ref 113]) mo_X12_status (Nat.le_of_ble_eq_true rfl) rfl ?_
  rw [ly.1]
  have srh : SR h h := SR.refl h
  unfold f_X12_status at hf
  refine V.aload_n dX12_status_0 rfl rfl rfl ?_
  refine V.getI dX12_status_1 fl_X12_75 rfl (Or.inl ⟨rfl, SHL_lt rfl⟩) rfl rfl ?_
  refine V.ireturn dX12_status_4 rfl rfl ⟨rfl, rfl⟩ ly.1 ?_
  exact ret_I hf srh
set_option maxRecDepth 100000 in
theorem th_X12_top {h : HP} (ly : Lay h)  {rr : Int64} {hh : HP} (hf : f_X12_top h = some (rr, hh)) : Spec yX12_top cX12_top miX12_top [.ref 113] h (pL fun r' h' => (r' = rr ∧ h' = hh) ∧ SR h hh) := by
  refine Spec.of (ls0 := [.ref 113]) mo_X12_top (Nat.le_of_ble_eq_true rfl) rfl ?_
  rw [ly.1]
  have srh : SR h h := SR.refl h
  unfold f_X12_top at hf
  refine V.aload_n dX12_top_0 rfl rfl rfl ?_
  refine V.getL dX12_top_1 fl_X12_78 rfl (Or.inl ⟨rfl, SHL_lt rfl⟩) rfl rfl ?_
  refine V.lreturn dX12_top_4 rfl ⟨rfl, rfl⟩ ly.1 ?_
  exact ret_L hf srh
set_option maxRecDepth 100000 in
theorem th_X12_bottom {h : HP} (ly : Lay h)  {rr : Int64} {hh : HP} (hf : f_X12_bottom h = some (rr, hh)) : Spec yX12_bottom cX12_bottom miX12_bottom [.ref 113] h (pL fun r' h' => (r' = rr ∧ h' = hh) ∧ SR h hh) := by
  refine Spec.of (ls0 := [.ref 113]) mo_X12_bottom (Nat.le_of_ble_eq_true rfl) rfl ?_
  rw [ly.1]
  have srh : SR h h := SR.refl h
  unfold f_X12_bottom at hf
  refine V.aload_n dX12_bottom_0 rfl rfl rfl ?_
  refine V.getL dX12_bottom_1 fl_X12_17 rfl (Or.inl ⟨rfl, SHL_lt rfl⟩) rfl rfl ?_
  refine V.lreturn dX12_bottom_4 rfl ⟨rfl, rfl⟩ ly.1 ?_
  exact ret_L hf srh
set_option maxRecDepth 100000 in
theorem th_X12_is {h : HP} (ly : Lay h) {a1 : Int32} {rr : Int32} {hh : HP} (hf : f_X12_is h a1 = some (rr, hh)) : Spec yX12_is cX12_is miX12_is [.ref 113, .int a1] h (pI fun r' h' => (r' = rr ∧ h' = hh) ∧ SR h hh) := by
  refine Spec.of (ls0 := [.ref 113, .int a1]) mo_X12_is (Nat.le_of_ble_eq_true rfl) rfl ?_
  rw [ly.1]
  have srh : SR h h := SR.refl h
  unfold f_X12_is at hf
  refine V.aload_n dX12_is_0 rfl rfl rfl ?_
  refine V.iload_n dX12_is_1 rfl rfl ?_
  refine V.putI dX12_is_2 fl_X12_75 rfl (Or.inl ⟨rfl, SHL_lt rfl⟩) rfl (fun q hq => by cases hq; rfl) ⟨rfl, rfl⟩ ?_
  refine V.nameH (fun g1 eg1 => ?_)
  replace hf := lt_el hf g1 eg1
  have srg1 : SR h g1 := by rw [eg1]; exact srh.I _ _ _
  refine V.iload_n dX12_is_5 rfl rfl ?_
  refine V.if_ne (tgt := 13) dX12_is_6 (by decide) (fun c2 => ?_) (fun c2 => ?_)
  · replace hf := ite_n hf c2
    refine V.iconst (v := 0) dX12_is_13 rfl ?_
    refine V.ireturn dX12_is_14 rfl rfl ⟨rfl, rfl⟩ ly.1 ?_
    exact ret_I hf srg1
  · replace hf := ite_p hf c2
    refine V.iconst (v := 1) dX12_is_9 rfl ?_
    refine V.goto (tgt := 14) dX12_is_10 (by decide) ?_
    refine V.ireturn dX12_is_14 rfl rfl ⟨rfl, rfl⟩ ly.1 ?_
    exact ret_I hf srg1
set_option maxRecDepth 100000 in
theorem th_X12_refuse {h : HP} (ly : Lay h) {a1 : Int32} {rr : Int32} {hh : HP} (hf : f_X12_refuse h a1 = some (rr, hh)) : Spec yX12_refuse cX12_refuse miX12_refuse [.ref 113, .int a1] h (pI fun r' h' => (r' = rr ∧ h' = hh) ∧ SR h hh) := by
  refine Spec.of (ls0 := [.ref 113, .int a1]) mo_X12_refuse (Nat.le_of_ble_eq_true rfl) rfl ?_
  rw [ly.1]
  have srh : SR h h := SR.refl h
  unfold f_X12_refuse at hf
  refine V.aload_n dX12_refuse_0 rfl rfl rfl ?_
  refine V.iload_n dX12_refuse_1 rfl rfl ?_
  refine V.putI dX12_refuse_2 fl_X12_75 rfl (Or.inl ⟨rfl, SHL_lt rfl⟩) rfl (fun q hq => by cases hq; rfl) ⟨rfl, rfl⟩ ?_
  refine V.nameH (fun g1 eg1 => ?_)
  replace hf := lt_el hf g1 eg1
  have srg1 : SR h g1 := by rw [eg1]; exact srh.I _ _ _
  refine V.iconst (v := (-1)) dX12_refuse_5 rfl ?_
  refine V.ireturn dX12_refuse_6 rfl rfl ⟨rfl, rfl⟩ ly.1 ?_
  exact ret_I hf srg1
set_option maxRecDepth 100000 in
theorem th_X12_gives {h : HP} (ly : Lay h) {a1 : Int32} {rr : Int32} {hh : HP} (hf : f_X12_gives h a1 = some (rr, hh)) : Spec yX12_gives cX12_gives miX12_gives [.ref 113, .int a1] h (pI fun r' h' => (r' = rr ∧ h' = hh) ∧ SR h hh) := by
  refine Spec.of (ls0 := [.ref 113, .int a1]) mo_X12_gives (Nat.le_of_ble_eq_true rfl) rfl ?_
  rw [ly.1]
  have srh : SR h h := SR.refl h
  unfold f_X12_gives at hf
  refine V.aload_n dX12_gives_0 rfl rfl rfl ?_
  refine V.iconst (v := 0) dX12_gives_1 rfl ?_
  refine V.putI dX12_gives_2 fl_X12_75 rfl (Or.inl ⟨rfl, SHL_lt rfl⟩) rfl (fun q hq => by cases hq; rfl) ⟨rfl, rfl⟩ ?_
  refine V.nameH (fun g1 eg1 => ?_)
  replace hf := lt_el hf g1 eg1
  have srg1 : SR h g1 := by rw [eg1]; exact srh.I _ _ _
  refine V.iload_n dX12_gives_5 rfl rfl ?_
  refine V.ireturn dX12_gives_6 rfl rfl ⟨rfl, rfl⟩ ly.1 ?_
  exact ret_I hf srg1
set_option maxRecDepth 100000 in
theorem th_X12_givesLong {h : HP} (ly : Lay h) {a1 : Int64} {rr : Int64} {hh : HP} (hf : f_X12_givesLong h a1 = some (rr, hh)) : Spec yX12_givesLong cX12_givesLong miX12_givesLong [.ref 113, .long a1] h (pL fun r' h' => (r' = rr ∧ h' = hh) ∧ SR h hh) := by
  refine Spec.of (ls0 := [.ref 113, .long a1, .null]) mo_X12_givesLong (Nat.le_of_ble_eq_true rfl) rfl ?_
  rw [ly.1]
  have srh : SR h h := SR.refl h
  unfold f_X12_givesLong at hf
  refine V.aload_n dX12_givesLong_0 rfl rfl rfl ?_
  refine V.iconst (v := 0) dX12_givesLong_1 rfl ?_
  refine V.putI dX12_givesLong_2 fl_X12_75 rfl (Or.inl ⟨rfl, SHL_lt rfl⟩) rfl (fun q hq => by cases hq; rfl) ⟨rfl, rfl⟩ ?_
  refine V.nameH (fun g1 eg1 => ?_)
  replace hf := lt_el hf g1 eg1
  have srg1 : SR h g1 := by rw [eg1]; exact srh.I _ _ _
  refine V.lload_n dX12_givesLong_5 rfl rfl ?_
  refine V.lreturn dX12_givesLong_6 rfl ⟨rfl, rfl⟩ ly.1 ?_
  exact ret_L hf srg1
set_option maxRecDepth 100000 in
theorem th_X12_orNone {h : HP} (ly : Lay h) {a1 : Int32} {rr : Int32} {hh : HP} (hf : f_X12_orNone h a1 = some (rr, hh)) : Spec yX12_orNone cX12_orNone miX12_orNone [.ref 113, .int a1] h (pI fun r' h' => (r' = rr ∧ h' = hh) ∧ SR h hh) := by
  refine Spec.of (ls0 := [.ref 113, .int a1]) mo_X12_orNone (Nat.le_of_ble_eq_true rfl) rfl ?_
  rw [ly.1]
  have srh : SR h h := SR.refl h
  unfold f_X12_orNone at hf
  refine V.iload_n dX12_orNone_0 rfl rfl ?_
  refine V.iconst (v := (-1)) dX12_orNone_1 rfl ?_
  refine V.icmp_ne (tgt := 14) dX12_orNone_2 (by decide) (fun c1 => ?_) (fun c1 => ?_)
  · replace hf := ite_n hf c1
    refine V.aload_n dX12_orNone_14 rfl rfl rfl ?_
    refine V.iload_n dX12_orNone_15 rfl rfl ?_
    obtain ⟨r4, h3, q2, hf2⟩ := bd2_el hf
    replace hf := hf2
    clear hf2
    refine V.callVI dX12_orNone_16 ml_X12_85 mo_X12_gives mv_X12_gives rfl (fun q hq => by cases hq; rfl) (by decide) (Or.inl ⟨rfl, SHL_lt rfl⟩) (th_X12_gives (srh.ly ly) q2) rfl rfl ⟨Nat.le_of_ble_eq_true rfl, Nat.le_of_ble_eq_true rfl, fun _ => ⟨rfl, rfl⟩⟩ (Nat.le_of_ble_eq_true rfl) rfl (post_I (fun sq => ?_))
    have srh3 : SR h h3 := srh.trans sq
    clear sq q2
    refine V.ireturn dX12_orNone_19 rfl rfl ⟨rfl, rfl⟩ ly.1 ?_
    exact ret_I hf srh3
  · replace hf := ite_p hf c1
    refine V.aload_n dX12_orNone_5 rfl rfl rfl ?_
    refine V.bipush (v := 6) dX12_orNone_6 rfl ?_
    obtain ⟨r7, h6, q5, hf2⟩ := bd2_el hf
    replace hf := hf2
    clear hf2
    refine V.callVI dX12_orNone_8 ml_X12_81 mo_X12_refuse mv_X12_refuse rfl (fun q hq => by cases hq; rfl) (by decide) (Or.inl ⟨rfl, SHL_lt rfl⟩) (th_X12_refuse (srh.ly ly) q5) rfl rfl ⟨Nat.le_of_ble_eq_true rfl, Nat.le_of_ble_eq_true rfl, fun _ => ⟨rfl, rfl⟩⟩ (Nat.le_of_ble_eq_true rfl) rfl (post_I (fun sq => ?_))
    have srh6 : SR h h6 := srh.trans sq
    clear sq q5
    refine V.goto (tgt := 19) dX12_orNone_11 (by decide) ?_
    refine V.ireturn dX12_orNone_19 rfl rfl ⟨rfl, rfl⟩ ly.1 ?_
    exact ret_I hf srh6
set_option maxRecDepth 100000 in
theorem th_X12_tellsBy_6 {h0 : HP} (ly : Lay h0) {rr : Int32} {hh : HP}  : ∀ (n : Nat) (l1 : Int64) (l3 : Int64) (l5 : Int64) (l7 : Int64) (h : HP), SR h0 h → f_X12_tellsBy_6 n l1 l3 l5 l7 h = some (rr, hh) → V cX12_tellsBy miX12_tellsBy (ZI h0 miX12_tellsBy rr hh) 130 6 [.ref 113, .long l1, .null, .long l3, .null, .long l5, .null, .long l7, .null, .null, .null] [] h := by
  intro n
  induction n with
  | zero => intro l1 l3 l5 l7 h srh hf; exact absurd hf (by unfold f_X12_tellsBy_6; simp)
  | succ n ih =>
    intro l1 l3 l5 l7 h srh hf
    unfold f_X12_tellsBy_6 at hf
    refine V.lload dX12_tellsBy_6 rfl ?_
    refine V.lconst (v := 0) dX12_tellsBy_8 rfl ?_
    refine V.lcmp dX12_tellsBy_9 ?_
    refine V.if_eq (tgt := 31) dX12_tellsBy_10 (by decide) (fun c1 => ?_) (fun c1 => ?_)
    · replace hf := ite_p hf c1
      refine V.aload_n dX12_tellsBy_31 rfl rfl rfl ?_
      refine V.lload_n dX12_tellsBy_32 rfl rfl ?_
      refine V.lload dX12_tellsBy_33 rfl ?_
      obtain ⟨b2, hf2⟩ := gd_el hf
      replace hf := hf2
      clear hf2
      refine V.ldiv dX12_tellsBy_35 b2 ?_
      refine V.putL dX12_tellsBy_36 fl_X12_78 rfl (Or.inl ⟨rfl, SHL_lt rfl⟩) rfl (fun q hq => by cases hq; rfl) ?_
      refine V.nameH (fun g3 eg3 => ?_)
      replace hf := lt_el hf g3 eg3
      have srg3 : SR h0 g3 := by rw [eg3]; exact srh.L _ _ _
      refine V.aload_n dX12_tellsBy_39 rfl rfl rfl ?_
      refine V.lload_n dX12_tellsBy_40 rfl rfl ?_
      refine V.lload dX12_tellsBy_41 rfl ?_
      obtain ⟨b4, hf2⟩ := gd_el hf
      replace hf := hf2
      clear hf2
      refine V.ldiv dX12_tellsBy_43 b4 ?_
      refine V.putL dX12_tellsBy_44 fl_X12_17 rfl (Or.inl ⟨rfl, SHL_lt rfl⟩) rfl (fun q hq => by cases hq; rfl) ?_
      refine V.nameH (fun g5 eg5 => ?_)
      replace hf := lt_el hf g5 eg5
      have srg5 : SR h0 g5 := by rw [eg5]; exact srg3.L _ _ _
      refine V.aload_n dX12_tellsBy_47 rfl rfl rfl ?_
      refine V.iconst (v := 0) dX12_tellsBy_48 rfl ?_
      obtain ⟨r8, h7, q6, hf2⟩ := bd2_el hf
      replace hf := hf2
      clear hf2
      refine V.callVI dX12_tellsBy_49 ml_X12_88 mo_X12_is mv_X12_is rfl (fun q hq => by cases hq; rfl) (by decide) (Or.inl ⟨rfl, SHL_lt rfl⟩) (th_X12_is (srg5.ly ly) q6) rfl rfl ⟨Nat.le_of_ble_eq_true rfl, Nat.le_of_ble_eq_true rfl, fun _ => ⟨rfl, rfl⟩⟩ (Nat.le_of_ble_eq_true rfl) rfl (post_I (fun sq => ?_))
      have srh7 : SR h0 h7 := srg5.trans sq
      clear sq q6
      obtain ⟨b9, hf2⟩ := gd_el hf
      replace hf := hf2
      clear hf2
      refine V.ireturn dX12_tellsBy_52 rfl (narB b9) ⟨rfl, rfl⟩ ly.1 ?_
      exact ret_I hf srh7
    · replace hf := ite_n hf c1
      refine V.lload dX12_tellsBy_13 rfl ?_
      refine V.lload dX12_tellsBy_15 rfl ?_
      obtain ⟨b10, hf2⟩ := gd_el hf
      replace hf := hf2
      clear hf2
      refine V.lrem dX12_tellsBy_17 b10 ?_
      refine V.nml (fun x11 ex11 => ?_)
      replace hf := lt_el hf x11 ex11
      refine V.lstore (ls' := [.ref 113, .long l1, .null, .long l3, .null, .long l5, .null, .long l7, .null, .long x11, .null]) dX12_tellsBy_18 (by decide) rfl ?_
      refine V.lload dX12_tellsBy_20 rfl ?_
      refine V.lstore (ls' := [.ref 113, .long l1, .null, .long l3, .null, .long l7, .null, .long l7, .null, .long x11, .null]) dX12_tellsBy_22 (by decide) rfl ?_
      refine V.lload dX12_tellsBy_24 rfl ?_
      refine V.lstore (ls' := [.ref 113, .long l1, .null, .long l3, .null, .long l7, .null, .long x11, .null, .long x11, .null]) dX12_tellsBy_26 (by decide) rfl ?_
      refine V.goto (tgt := 6) dX12_tellsBy_28 (by decide) ?_
      refine V.less (ls' := [.ref 113, .long l1, .null, .long l3, .null, .long l7, .null, .long x11, .null, .null, .null]) ⟨Or.inr rfl, Or.inr rfl, Or.inl rfl, Or.inr rfl, Or.inl rfl, Or.inr rfl, Or.inl rfl, Or.inr rfl, Or.inl rfl, Or.inl rfl, Or.inl rfl, trivial⟩ ?_
      exact ih l1 l3 l7 x11 h srh hf
set_option maxRecDepth 100000 in
theorem th_X12_tellsBy {h : HP} (ly : Lay h) {a1 : Int64} {a3 : Int64} {rr : Int32} {hh : HP} (hf : f_X12_tellsBy h a1 a3 = some (rr, hh)) : Spec yX12_tellsBy cX12_tellsBy miX12_tellsBy [.ref 113, .long a1, .long a3] h (pI fun r' h' => (r' = rr ∧ h' = hh) ∧ SR h hh) := by
  refine Spec.of (ls0 := [.ref 113, .long a1, .null, .long a3, .null, .null, .null, .null, .null, .null, .null]) mo_X12_tellsBy (Nat.le_of_ble_eq_true rfl) rfl ?_
  rw [ly.1]
  have srh : SR h h := SR.refl h
  unfold f_X12_tellsBy at hf
  refine V.lload_n dX12_tellsBy_0 rfl rfl ?_
  refine V.lstore (ls' := [.ref 113, .long a1, .null, .long a3, .null, .long a1, .null, .null, .null, .null, .null]) dX12_tellsBy_1 (by decide) rfl ?_
  refine V.lload_n dX12_tellsBy_3 rfl rfl ?_
  refine V.lstore (ls' := [.ref 113, .long a1, .null, .long a3, .null, .long a1, .null, .long a3, .null, .null, .null]) dX12_tellsBy_4 (by decide) rfl ?_
  exact th_X12_tellsBy_6 ly FU a1 a3 a1 a3 h srh hf
set_option maxRecDepth 100000 in
theorem th_X12_isTray {h : HP} (ly : Lay h) {a0 : Int32} {rr : Int32} {hh : HP} (hf : f_X12_isTray h a0 = some (rr, hh)) : Spec yX12_isTray cX12_isTray miX12_isTray [.int a0] h (pI fun r' h' => (r' = rr ∧ h' = hh) ∧ SR h hh) := by
  refine Spec.of (ls0 := [.int a0]) mo_X12_isTray (Nat.le_of_ble_eq_true rfl) rfl ?_
  rw [ly.1]
  have srh : SR h h := SR.refl h
  unfold f_X12_isTray at hf
  refine V.iload_n dX12_isTray_0 rfl rfl ?_
  refine V.if_lt (tgt := 13) dX12_isTray_1 (by decide) (fun c1 => ?_) (fun c1 => ?_)
  · replace hf := ite_p hf c1
    refine V.iconst (v := 0) dX12_isTray_13 rfl ?_
    refine V.ireturn dX12_isTray_14 rfl rfl ⟨rfl, rfl⟩ ly.1 ?_
    exact ret_I hf srh
  · replace hf := ite_n hf c1
    refine V.iload_n dX12_isTray_4 rfl rfl ?_
    refine V.iconst (v := 4) dX12_isTray_5 rfl ?_
    refine V.icmp_ge (tgt := 13) dX12_isTray_6 (by decide) (fun c2 => ?_) (fun c2 => ?_)
    · replace hf := ite_p hf c2
      refine V.iconst (v := 0) dX12_isTray_13 rfl ?_
      refine V.ireturn dX12_isTray_14 rfl rfl ⟨rfl, rfl⟩ ly.1 ?_
      exact ret_I hf srh
    · replace hf := ite_n hf c2
      refine V.iconst (v := 1) dX12_isTray_9 rfl ?_
      refine V.goto (tgt := 14) dX12_isTray_10 (by decide) ?_
      refine V.ireturn dX12_isTray_14 rfl rfl ⟨rfl, rfl⟩ ly.1 ?_
      exact ret_I hf srh
set_option maxRecDepth 100000 in
theorem th_X12_cut {h : HP} (ly : Lay h) {a0 : Int64} {a2 : Int32} {rr : Int64} {hh : HP} (hf : f_X12_cut h a0 a2 = some (rr, hh)) : Spec yX12_cut cX12_cut miX12_cut [.long a0, .int a2] h (pL fun r' h' => (r' = rr ∧ h' = hh) ∧ SR h hh) := by
  refine Spec.of (ls0 := [.long a0, .null, .int a2]) mo_X12_cut (Nat.le_of_ble_eq_true rfl) rfl ?_
  rw [ly.1]
  have srh : SR h h := SR.refl h
  unfold f_X12_cut at hf
  refine V.iload_n dX12_cut_0 rfl rfl ?_
  refine V.if_ne (tgt := 11) dX12_cut_1 (by decide) (fun c1 => ?_) (fun c1 => ?_)
  · replace hf := ite_n hf c1
    refine V.iload_n dX12_cut_11 rfl rfl ?_
    refine V.iconst (v := 1) dX12_cut_12 rfl ?_
    refine V.icmp_ne (tgt := 23) dX12_cut_13 (by decide) (fun c2 => ?_) (fun c2 => ?_)
    · replace hf := ite_n hf c2
      refine V.iload_n dX12_cut_23 rfl rfl ?_
      refine V.iconst (v := 2) dX12_cut_24 rfl ?_
      refine V.icmp_ne (tgt := 34) dX12_cut_25 (by decide) (fun c3 => ?_) (fun c3 => ?_)
      · replace hf := ite_n hf c3
        refine V.lload_n dX12_cut_34 rfl rfl ?_
        refine V.lreturn dX12_cut_35 rfl ⟨rfl, rfl⟩ ly.1 ?_
        exact ret_L hf srh
      · replace hf := ite_p hf c3
        refine V.lload_n dX12_cut_28 rfl rfl ?_
        refine V.l2i dX12_cut_29 ?_
        refine V.i2l dX12_cut_30 ?_
        refine V.goto (tgt := 35) dX12_cut_31 (by decide) ?_
        refine V.lreturn dX12_cut_35 rfl ⟨rfl, rfl⟩ ly.1 ?_
        exact ret_L hf srh
    · replace hf := ite_p hf c2
      refine V.lload_n dX12_cut_16 rfl rfl ?_
      refine V.l2i dX12_cut_17 ?_
      refine V.i2s dX12_cut_18 ?_
      refine V.i2l dX12_cut_19 ?_
      refine V.goto (tgt := 35) dX12_cut_20 (by decide) ?_
      refine V.lreturn dX12_cut_35 rfl ⟨rfl, rfl⟩ ly.1 ?_
      exact ret_L hf srh
  · replace hf := ite_p hf c1
    refine V.lload_n dX12_cut_4 rfl rfl ?_
    refine V.l2i dX12_cut_5 ?_
    refine V.i2b dX12_cut_6 ?_
    refine V.i2l dX12_cut_7 ?_
    refine V.goto (tgt := 35) dX12_cut_8 (by decide) ?_
    refine V.lreturn dX12_cut_35 rfl ⟨rfl, rfl⟩ ly.1 ?_
    exact ret_L hf srh
set_option maxRecDepth 100000 in
theorem th_X12_tray_26 {h0 : HP} (ly : Lay h0) {rr : Int32} {hh : HP}  : ∀  (h : HP), SR h0 h → f_X12_tray_26 h = some (rr, hh) → V cX12_tray miX12_tray (ZI h0 miX12_tray rr hh) 130 26 [.ref 113, .null, .null, .null, .null] [] h := by
  intro  h srh hf
  unfold f_X12_tray_26 at hf
  refine V.aload_n dX12_tray_26 rfl rfl rfl ?_
  refine V.iconst (v := 1) dX12_tray_27 rfl ?_
  obtain ⟨r23, h22, q21, hf2⟩ := bd2_el hf
  replace hf := hf2
  clear hf2
  refine V.callVI dX12_tray_28 ml_X12_88 mo_X12_is mv_X12_is rfl (fun q hq => by cases hq; rfl) (by decide) (Or.inl ⟨rfl, SHL_lt rfl⟩) (th_X12_is (srh.ly ly) q21) rfl rfl ⟨Nat.le_of_ble_eq_true rfl, Nat.le_of_ble_eq_true rfl, fun _ => ⟨rfl, rfl⟩⟩ (Nat.le_of_ble_eq_true rfl) rfl (post_I (fun sq => ?_))
  have srh22 : SR h0 h22 := srh.trans sq
  clear sq q21
  obtain ⟨b24, hf2⟩ := gd_el hf
  replace hf := hf2
  clear hf2
  refine V.ireturn dX12_tray_31 rfl (narB b24) ⟨rfl, rfl⟩ ly.1 ?_
  exact ret_I hf srh22
set_option maxRecDepth 100000 in
theorem th_X12_tray_49 {h0 : HP} (ly : Lay h0) {rr : Int32} {hh : HP}  : ∀ (n : Nat) (l1 : Int32) (l3 : Int32) (l4 : Int32) (h : HP), SR h0 h → f_X12_tray_49 n l1 l3 l4 h = some (rr, hh) → V cX12_tray miX12_tray (ZI h0 miX12_tray rr hh) 130 49 [.ref 113, .int l1, .null, .int l3, .int l4] [] h := by
  intro n
  induction n with
  | zero => intro l1 l3 l4 h srh hf; exact absurd hf (by unfold f_X12_tray_49; simp)
  | succ n ih =>
    intro l1 l3 l4 h srh hf
    unfold f_X12_tray_49 at hf
    refine V.iload dX12_tray_49 rfl ?_
    refine V.iload_n dX12_tray_51 rfl rfl ?_
    refine V.icmp_ge (tgt := 74) dX12_tray_52 (by decide) (fun c13 => ?_) (fun c13 => ?_)
    · replace hf := ite_p hf c13
      refine V.aload_n dX12_tray_74 rfl rfl rfl ?_
      refine V.iconst (v := 0) dX12_tray_75 rfl ?_
      obtain ⟨r16, h15, q14, hf2⟩ := bd2_el hf
      replace hf := hf2
      clear hf2
      refine V.callVI dX12_tray_76 ml_X12_88 mo_X12_is mv_X12_is rfl (fun q hq => by cases hq; rfl) (by decide) (Or.inl ⟨rfl, SHL_lt rfl⟩) (th_X12_is (srh.ly ly) q14) rfl rfl ⟨Nat.le_of_ble_eq_true rfl, Nat.le_of_ble_eq_true rfl, fun _ => ⟨rfl, rfl⟩⟩ (Nat.le_of_ble_eq_true rfl) rfl (post_I (fun sq => ?_))
      have srh15 : SR h0 h15 := srh.trans sq
      clear sq q14
      obtain ⟨b17, hf2⟩ := gd_el hf
      replace hf := hf2
      clear hf2
      refine V.ireturn dX12_tray_79 rfl (narB b17) ⟨rfl, rfl⟩ ly.1 ?_
      exact ret_I hf srh15
    · replace hf := ite_n hf c13
      refine V.aload_n dX12_tray_55 rfl rfl rfl ?_
      refine V.getR (r := 118) dX12_tray_56 fl_X12_27 rfl (Or.inl ⟨rfl, SHL_lt rfl⟩) rfl (ly_113_7 (srh.ly ly)) ?_
      refine V.bipush (v := 60) dX12_tray_59 rfl ?_
      refine V.iload_n dX12_tray_61 rfl rfl ?_
      refine V.imul dX12_tray_62 ?_
      refine V.iload dX12_tray_63 rfl ?_
      refine V.iadd dX12_tray_65 ?_
      refine V.lconst (v := 0) dX12_tray_66 rfl ?_
      obtain ⟨b18, hf2⟩ := gdi_el hf
      replace hf := hf2
      clear hf2
      refine V.lastore dX12_tray_67 rfl (Or.inl ⟨rfl, SHL_lt rfl⟩) b18 ?_
      refine V.nameH (fun g19 eg19 => ?_)
      replace hf := lt_el hf g19 eg19
      have srg19 : SR h0 g19 := by rw [eg19]; exact srh.L _ _ _
      obtain ⟨x20, ex20⟩ : ∃ y : Int32, y = l4 + 1 := ⟨_, rfl⟩
      replace hf := lt_el hf x20 ex20
      refine V.iinc (v := x20) (ls' := [.ref 113, .int l1, .null, .int l3, .int x20]) dX12_tray_68 rfl (by decide) ex20.symm rfl ?_
      refine V.goto (tgt := 49) dX12_tray_71 (by decide) ?_
      exact ih l1 l3 x20 g19 srg19 hf
set_option maxRecDepth 100000 in
theorem th_X12_tray {h : HP} (ly : Lay h) {a1 : Int32} {a2 : Int32} {a3 : Int32} {rr : Int32} {hh : HP} (hf : f_X12_tray h a1 a2 a3 = some (rr, hh)) : Spec yX12_tray cX12_tray miX12_tray [.ref 113, .int a1, .int a2, .int a3] h (pI fun r' h' => (r' = rr ∧ h' = hh) ∧ SR h hh) := by
  refine Spec.of (ls0 := [.ref 113, .int a1, .int a2, .int a3, .null]) mo_X12_tray (Nat.le_of_ble_eq_true rfl) rfl ?_
  rw [ly.1]
  have srh : SR h h := SR.refl h
  unfold f_X12_tray at hf
  refine V.iload_n dX12_tray_0 rfl rfl ?_
  obtain ⟨r3, h2, q1, hf2⟩ := bd2_el hf
  replace hf := hf2
  clear hf2
  refine V.callSI dX12_tray_1 ml_X12_92 mo_X12_isTray ms_X12_isTray (th_X12_isTray (srh.ly ly) q1) rfl rfl ⟨Nat.le_of_ble_eq_true rfl, Nat.le_of_ble_eq_true rfl, fun _ => ⟨rfl, rfl⟩⟩ (Nat.le_of_ble_eq_true rfl) rfl (post_I (fun sq => ?_))
  have srh2 : SR h h2 := srh.trans sq
  clear sq q1
  refine V.if_eq (tgt := 26) dX12_tray_4 (by decide) (fun c4 => ?_) (fun c4 => ?_)
  · replace hf := ite_p hf c4
    refine V.less (ls' := [.ref 113, .null, .null, .null, .null]) ⟨Or.inr rfl, Or.inl rfl, Or.inl rfl, Or.inl rfl, Or.inl rfl, trivial⟩ ?_
    exact th_X12_tray_26 ly h2 srh2 hf
  · replace hf := ite_n hf c4
    refine V.iload_n dX12_tray_7 rfl rfl ?_
    refine V.if_lt (tgt := 26) dX12_tray_8 (by decide) (fun c5 => ?_) (fun c5 => ?_)
    · replace hf := ite_p hf c5
      refine V.less (ls' := [.ref 113, .null, .null, .null, .null]) ⟨Or.inr rfl, Or.inl rfl, Or.inl rfl, Or.inl rfl, Or.inl rfl, trivial⟩ ?_
      exact th_X12_tray_26 ly h2 srh2 hf
    · replace hf := ite_n hf c5
      refine V.iload_n dX12_tray_11 rfl rfl ?_
      refine V.iconst (v := 3) dX12_tray_12 rfl ?_
      refine V.icmp_gt (tgt := 26) dX12_tray_13 (by decide) (fun c6 => ?_) (fun c6 => ?_)
      · replace hf := ite_p hf c6
        refine V.less (ls' := [.ref 113, .null, .null, .null, .null]) ⟨Or.inr rfl, Or.inl rfl, Or.inl rfl, Or.inl rfl, Or.inl rfl, trivial⟩ ?_
        exact th_X12_tray_26 ly h2 srh2 hf
      · replace hf := ite_n hf c6
        refine V.iload_n dX12_tray_16 rfl rfl ?_
        refine V.if_lt (tgt := 26) dX12_tray_17 (by decide) (fun c7 => ?_) (fun c7 => ?_)
        · replace hf := ite_p hf c7
          refine V.less (ls' := [.ref 113, .null, .null, .null, .null]) ⟨Or.inr rfl, Or.inl rfl, Or.inl rfl, Or.inl rfl, Or.inl rfl, trivial⟩ ?_
          exact th_X12_tray_26 ly h2 srh2 hf
        · replace hf := ite_n hf c7
          refine V.iload_n dX12_tray_20 rfl rfl ?_
          refine V.bipush (v := 60) dX12_tray_21 rfl ?_
          refine V.icmp_le (tgt := 32) dX12_tray_23 (by decide) (fun c8 => ?_) (fun c8 => ?_)
          · replace hf := ite_p hf c8
            refine V.aload_n dX12_tray_32 rfl rfl rfl ?_
            refine V.getR (r := 116) dX12_tray_33 fl_X12_21 rfl (Or.inl ⟨rfl, SHL_lt rfl⟩) rfl (ly_113_5 (srh2.ly ly)) ?_
            refine V.iload_n dX12_tray_36 rfl rfl ?_
            refine V.iload_n dX12_tray_37 rfl rfl ?_
            obtain ⟨b9, hf2⟩ := gdi_el hf
            replace hf := hf2
            clear hf2
            refine V.iastore dX12_tray_38 rfl (Or.inl ⟨rfl, SHL_lt rfl⟩) b9 ?_
            refine V.nameH (fun g10 eg10 => ?_)
            replace hf := lt_el hf g10 eg10
            have srg10 : SR h g10 := by rw [eg10]; exact srh2.I _ _ _
            refine V.aload_n dX12_tray_39 rfl rfl rfl ?_
            refine V.getR (r := 117) dX12_tray_40 fl_X12_24 rfl (Or.inl ⟨rfl, SHL_lt rfl⟩) rfl (ly_113_6 (srg10.ly ly)) ?_
            refine V.iload_n dX12_tray_43 rfl rfl ?_
            refine V.iload_n dX12_tray_44 rfl rfl ?_
            obtain ⟨b11, hf2⟩ := gdi_el hf
            replace hf := hf2
            clear hf2
            refine V.iastore dX12_tray_45 rfl (Or.inl ⟨rfl, SHL_lt rfl⟩) b11 ?_
            refine V.nameH (fun g12 eg12 => ?_)
            replace hf := lt_el hf g12 eg12
            have srg12 : SR h g12 := by rw [eg12]; exact srg10.I _ _ _
            refine V.iconst (v := 0) dX12_tray_46 rfl ?_
            refine V.istore (ls' := [.ref 113, .int a1, .int a2, .int a3, .int 0]) dX12_tray_47 (by decide) rfl ?_
            refine V.less (ls' := [.ref 113, .int a1, .null, .int a3, .int 0]) ⟨Or.inr rfl, Or.inr rfl, Or.inl rfl, Or.inr rfl, Or.inr rfl, trivial⟩ ?_
            exact th_X12_tray_49 ly FU a1 a3 0 g12 srg12 hf
          · replace hf := ite_n hf c8
            refine V.less (ls' := [.ref 113, .null, .null, .null, .null]) ⟨Or.inr rfl, Or.inl rfl, Or.inl rfl, Or.inl rfl, Or.inl rfl, trivial⟩ ?_
            exact th_X12_tray_26 ly h2 srh2 hf
set_option maxRecDepth 100000 in
theorem th_X12_wrongPlace {h : HP} (ly : Lay h) {a1 : Int32} {a2 : Int32} {rr : Int32} {hh : HP} (hf : f_X12_wrongPlace h a1 a2 = some (rr, hh)) : Spec yX12_wrongPlace cX12_wrongPlace miX12_wrongPlace [.ref 113, .int a1, .int a2] h (pI fun r' h' => (r' = rr ∧ h' = hh) ∧ SR h hh) := by
  refine Spec.of (ls0 := [.ref 113, .int a1, .int a2]) mo_X12_wrongPlace (Nat.le_of_ble_eq_true rfl) rfl ?_
  rw [ly.1]
  have srh : SR h h := SR.refl h
  unfold f_X12_wrongPlace at hf
  refine V.iload_n dX12_wrongPlace_0 rfl rfl ?_
  obtain ⟨r3, h2, q1, hf2⟩ := bd2_el hf
  replace hf := hf2
  clear hf2
  refine V.callSI dX12_wrongPlace_1 ml_X12_92 mo_X12_isTray ms_X12_isTray (th_X12_isTray (srh.ly ly) q1) rfl rfl ⟨Nat.le_of_ble_eq_true rfl, Nat.le_of_ble_eq_true rfl, fun _ => ⟨rfl, rfl⟩⟩ (Nat.le_of_ble_eq_true rfl) rfl (post_I (fun sq => ?_))
  have srh2 : SR h h2 := srh.trans sq
  clear sq q1
  refine V.if_ne (tgt := 11) dX12_wrongPlace_4 (by decide) (fun c4 => ?_) (fun c4 => ?_)
  · replace hf := ite_n hf c4
    refine V.aload_n dX12_wrongPlace_11 rfl rfl rfl ?_
    refine V.getR (r := 117) dX12_wrongPlace_12 fl_X12_24 rfl (Or.inl ⟨rfl, SHL_lt rfl⟩) rfl (ly_113_6 (srh2.ly ly)) ?_
    refine V.iload_n dX12_wrongPlace_15 rfl rfl ?_
    obtain ⟨b5, hf2⟩ := gdi_el hf
    replace hf := hf2
    clear hf2
    refine V.iaload dX12_wrongPlace_16 rfl (Or.inl ⟨rfl, SHL_lt rfl⟩) b5 ?_
    refine V.iconst (v := (-1)) dX12_wrongPlace_17 rfl ?_
    refine V.icmp_ne (tgt := 25) dX12_wrongPlace_18 (by decide) (fun c6 => ?_) (fun c6 => ?_)
    · replace hf := ite_n hf c6
      refine V.iload_n dX12_wrongPlace_25 rfl rfl ?_
      refine V.if_lt (tgt := 39) dX12_wrongPlace_26 (by decide) (fun c7 => ?_) (fun c7 => ?_)
      · replace hf := ite_p hf c7
        refine V.iconst (v := 3) dX12_wrongPlace_39 rfl ?_
        refine V.goto (tgt := 44) dX12_wrongPlace_40 (by decide) ?_
        refine V.ireturn dX12_wrongPlace_44 rfl rfl ⟨rfl, rfl⟩ ly.1 ?_
        exact ret_I hf srh2
      · replace hf := ite_n hf c7
        refine V.iload_n dX12_wrongPlace_29 rfl rfl ?_
        refine V.aload_n dX12_wrongPlace_30 rfl rfl rfl ?_
        refine V.getR (r := 117) dX12_wrongPlace_31 fl_X12_24 rfl (Or.inl ⟨rfl, SHL_lt rfl⟩) rfl (ly_113_6 (srh2.ly ly)) ?_
        refine V.iload_n dX12_wrongPlace_34 rfl rfl ?_
        obtain ⟨b8, hf2⟩ := gdi_el hf
        replace hf := hf2
        clear hf2
        refine V.iaload dX12_wrongPlace_35 rfl (Or.inl ⟨rfl, SHL_lt rfl⟩) b8 ?_
        refine V.icmp_lt (tgt := 43) dX12_wrongPlace_36 (by decide) (fun c9 => ?_) (fun c9 => ?_)
        · replace hf := ite_p hf c9
          refine V.iconst (v := 0) dX12_wrongPlace_43 rfl ?_
          refine V.ireturn dX12_wrongPlace_44 rfl rfl ⟨rfl, rfl⟩ ly.1 ?_
          exact ret_I hf srh2
        · replace hf := ite_n hf c9
          refine V.iconst (v := 3) dX12_wrongPlace_39 rfl ?_
          refine V.goto (tgt := 44) dX12_wrongPlace_40 (by decide) ?_
          refine V.ireturn dX12_wrongPlace_44 rfl rfl ⟨rfl, rfl⟩ ly.1 ?_
          exact ret_I hf srh2
    · replace hf := ite_p hf c6
      refine V.iconst (v := 2) dX12_wrongPlace_21 rfl ?_
      refine V.goto (tgt := 44) dX12_wrongPlace_22 (by decide) ?_
      refine V.ireturn dX12_wrongPlace_44 rfl rfl ⟨rfl, rfl⟩ ly.1 ?_
      exact ret_I hf srh2
  · replace hf := ite_p hf c4
    refine V.iconst (v := 1) dX12_wrongPlace_7 rfl ?_
    refine V.goto (tgt := 44) dX12_wrongPlace_8 (by decide) ?_
    refine V.ireturn dX12_wrongPlace_44 rfl rfl ⟨rfl, rfl⟩ ly.1 ?_
    exact ret_I hf srh2
set_option maxRecDepth 100000 in
theorem th_X12_write {h : HP} (ly : Lay h) {a1 : Int32} {a2 : Int32} {a3 : Int64} {rr : Int32} {hh : HP} (hf : f_X12_write h a1 a2 a3 = some (rr, hh)) : Spec yX12_write cX12_write miX12_write [.ref 113, .int a1, .int a2, .long a3] h (pI fun r' h' => (r' = rr ∧ h' = hh) ∧ SR h hh) := by
  refine Spec.of (ls0 := [.ref 113, .int a1, .int a2, .long a3, .null, .null]) mo_X12_write (Nat.le_of_ble_eq_true rfl) rfl ?_
  rw [ly.1]
  have srh : SR h h := SR.refl h
  unfold f_X12_write at hf
  refine V.aload_n dX12_write_0 rfl rfl rfl ?_
  refine V.iload_n dX12_write_1 rfl rfl ?_
  refine V.iload_n dX12_write_2 rfl rfl ?_
  obtain ⟨r3, h2, q1, hf2⟩ := bd2_el hf
  replace hf := hf2
  clear hf2
  refine V.callVI dX12_write_3 ml_X12_95 mo_X12_wrongPlace mv_X12_wrongPlace rfl (fun q hq => by cases hq; rfl) (by decide) (Or.inl ⟨rfl, SHL_lt rfl⟩) (th_X12_wrongPlace (srh.ly ly) q1) rfl rfl ⟨Nat.le_of_ble_eq_true rfl, Nat.le_of_ble_eq_true rfl, fun _ => ⟨rfl, rfl⟩⟩ (Nat.le_of_ble_eq_true rfl) rfl (post_I (fun sq => ?_))
  have srh2 : SR h h2 := srh.trans sq
  clear sq q1
  refine V.istore (ls' := [.ref 113, .int a1, .int a2, .long a3, .null, .int r3]) dX12_write_6 (by decide) rfl ?_
  refine V.iload dX12_write_8 rfl ?_
  refine V.if_ne (tgt := 34) dX12_write_10 (by decide) (fun c4 => ?_) (fun c4 => ?_)
  · replace hf := ite_n hf c4
    refine V.aload_n dX12_write_34 rfl rfl rfl ?_
    refine V.iload dX12_write_35 rfl ?_
    obtain ⟨r7, h6, q5, hf2⟩ := bd2_el hf
    replace hf := hf2
    clear hf2
    refine V.callVI dX12_write_37 ml_X12_88 mo_X12_is mv_X12_is rfl (fun q hq => by cases hq; rfl) (by decide) (Or.inl ⟨rfl, SHL_lt rfl⟩) (th_X12_is (srh2.ly ly) q5) rfl rfl ⟨Nat.le_of_ble_eq_true rfl, Nat.le_of_ble_eq_true rfl, fun _ => ⟨rfl, rfl⟩⟩ (Nat.le_of_ble_eq_true rfl) rfl (post_I (fun sq => ?_))
    have srh6 : SR h h6 := srh2.trans sq
    clear sq q5
    obtain ⟨b8, hf2⟩ := gd_el hf
    replace hf := hf2
    clear hf2
    refine V.ireturn dX12_write_40 rfl (narB b8) ⟨rfl, rfl⟩ ly.1 ?_
    exact ret_I hf srh6
  · replace hf := ite_p hf c4
    refine V.aload_n dX12_write_13 rfl rfl rfl ?_
    refine V.getR (r := 118) dX12_write_14 fl_X12_27 rfl (Or.inl ⟨rfl, SHL_lt rfl⟩) rfl (ly_113_7 (srh2.ly ly)) ?_
    refine V.bipush (v := 60) dX12_write_17 rfl ?_
    refine V.iload_n dX12_write_19 rfl rfl ?_
    refine V.imul dX12_write_20 ?_
    refine V.iload_n dX12_write_21 rfl rfl ?_
    refine V.iadd dX12_write_22 ?_
    refine V.lload_n dX12_write_23 rfl rfl ?_
    refine V.aload_n dX12_write_24 rfl rfl rfl ?_
    refine V.getR (r := 116) dX12_write_25 fl_X12_21 rfl (Or.inl ⟨rfl, SHL_lt rfl⟩) rfl (ly_113_5 (srh2.ly ly)) ?_
    refine V.iload_n dX12_write_28 rfl rfl ?_
    obtain ⟨b9, hf2⟩ := gdi_el hf
    replace hf := hf2
    clear hf2
    refine V.iaload dX12_write_29 rfl (Or.inl ⟨rfl, SHL_lt rfl⟩) b9 ?_
    obtain ⟨r12, h11, q10, hf2⟩ := bd2_el hf
    replace hf := hf2
    clear hf2
    refine V.callSL dX12_write_30 ml_X12_99 mo_X12_cut ms_X12_cut (th_X12_cut (srh2.ly ly) q10) rfl rfl ⟨Nat.le_of_ble_eq_true rfl, Nat.le_of_ble_eq_true rfl, fun _ => ⟨rfl, rfl⟩⟩ (Nat.le_of_ble_eq_true rfl) rfl (post_L (fun sq => ?_))
    have srh11 : SR h h11 := srh2.trans sq
    clear sq q10
    obtain ⟨b13, hf2⟩ := gdi_el hf
    replace hf := hf2
    clear hf2
    refine V.lastore dX12_write_33 rfl (Or.inl ⟨rfl, SHL_lt rfl⟩) b13 ?_
    refine V.nameH (fun g14 eg14 => ?_)
    replace hf := lt_el hf g14 eg14
    have srg14 : SR h g14 := by rw [eg14]; exact srh11.L _ _ _
    refine V.aload_n dX12_write_34 rfl rfl rfl ?_
    refine V.iload dX12_write_35 rfl ?_
    obtain ⟨r17, h16, q15, hf2⟩ := bd2_el hf
    replace hf := hf2
    clear hf2
    refine V.callVI dX12_write_37 ml_X12_88 mo_X12_is mv_X12_is rfl (fun q hq => by cases hq; rfl) (by decide) (Or.inl ⟨rfl, SHL_lt rfl⟩) (th_X12_is (srg14.ly ly) q15) rfl rfl ⟨Nat.le_of_ble_eq_true rfl, Nat.le_of_ble_eq_true rfl, fun _ => ⟨rfl, rfl⟩⟩ (Nat.le_of_ble_eq_true rfl) rfl (post_I (fun sq => ?_))
    have srh16 : SR h h16 := srg14.trans sq
    clear sq q15
    obtain ⟨b18, hf2⟩ := gd_el hf
    replace hf := hf2
    clear hf2
    refine V.ireturn dX12_write_40 rfl (narB b18) ⟨rfl, rfl⟩ ly.1 ?_
    exact ret_I hf srh16
set_option maxRecDepth 100000 in
theorem th_X12_read {h : HP} (ly : Lay h) {a1 : Int32} {a2 : Int32} {rr : Int64} {hh : HP} (hf : f_X12_read h a1 a2 = some (rr, hh)) : Spec yX12_read cX12_read miX12_read [.ref 113, .int a1, .int a2] h (pL fun r' h' => (r' = rr ∧ h' = hh) ∧ SR h hh) := by
  refine Spec.of (ls0 := [.ref 113, .int a1, .int a2]) mo_X12_read (Nat.le_of_ble_eq_true rfl) rfl ?_
  rw [ly.1]
  have srh : SR h h := SR.refl h
  unfold f_X12_read at hf
  refine V.aload_n dX12_read_0 rfl rfl rfl ?_
  refine V.aload_n dX12_read_1 rfl rfl rfl ?_
  refine V.iload_n dX12_read_2 rfl rfl ?_
  refine V.iload_n dX12_read_3 rfl rfl ?_
  obtain ⟨r3, h2, q1, hf2⟩ := bd2_el hf
  replace hf := hf2
  clear hf2
  refine V.callVI dX12_read_4 ml_X12_95 mo_X12_wrongPlace mv_X12_wrongPlace rfl (fun q hq => by cases hq; rfl) (by decide) (Or.inl ⟨rfl, SHL_lt rfl⟩) (th_X12_wrongPlace (srh.ly ly) q1) rfl rfl ⟨Nat.le_of_ble_eq_true rfl, Nat.le_of_ble_eq_true rfl, fun _ => ⟨rfl, rfl⟩⟩ (Nat.le_of_ble_eq_true rfl) rfl (post_I (fun sq => ?_))
  have srh2 : SR h h2 := srh.trans sq
  clear sq q1
  refine V.putI dX12_read_7 fl_X12_75 rfl (Or.inl ⟨rfl, SHL_lt rfl⟩) rfl (fun q hq => by cases hq; rfl) ⟨rfl, rfl⟩ ?_
  refine V.nameH (fun g4 eg4 => ?_)
  replace hf := lt_el hf g4 eg4
  have srg4 : SR h g4 := by rw [eg4]; exact srh2.I _ _ _
  refine V.aload_n dX12_read_10 rfl rfl rfl ?_
  refine V.getI dX12_read_11 fl_X12_75 rfl (Or.inl ⟨rfl, SHL_lt rfl⟩) rfl rfl ?_
  refine V.if_le (tgt := 23) dX12_read_14 (by decide) (fun c5 => ?_) (fun c5 => ?_)
  · replace hf := ite_p hf c5
    refine V.aload_n dX12_read_23 rfl rfl rfl ?_
    refine V.getR (r := 118) dX12_read_24 fl_X12_27 rfl (Or.inl ⟨rfl, SHL_lt rfl⟩) rfl (ly_113_7 (srg4.ly ly)) ?_
    refine V.bipush (v := 60) dX12_read_27 rfl ?_
    refine V.iload_n dX12_read_29 rfl rfl ?_
    refine V.imul dX12_read_30 ?_
    refine V.iload_n dX12_read_31 rfl rfl ?_
    refine V.iadd dX12_read_32 ?_
    obtain ⟨b6, hf2⟩ := gdi_el hf
    replace hf := hf2
    clear hf2
    refine V.laload dX12_read_33 rfl (Or.inl ⟨rfl, SHL_lt rfl⟩) b6 ?_
    refine V.lreturn dX12_read_34 rfl ⟨rfl, rfl⟩ ly.1 ?_
    exact ret_L hf srg4
  · replace hf := ite_n hf c5
    refine V.ldc2 (v := (-1)) dX12_read_17 kc_X12_103 ?_
    refine V.goto (tgt := 34) dX12_read_20 (by decide) ?_
    refine V.lreturn dX12_read_34 rfl ⟨rfl, rfl⟩ ly.1 ?_
    exact ret_L hf srg4
set_option maxRecDepth 100000 in
theorem th_X12_pour_28 {h0 : HP} (ly : Lay h0) {rr : Int32} {hh : HP}  : ∀  (h : HP), SR h0 h → f_X12_pour_28 h = some (rr, hh) → V cX12_pour miX12_pour (ZI h0 miX12_pour rr hh) 130 28 [.ref 113, .null, .null, .null, .null, .null, .null, .null] [] h := by
  intro  h srh hf
  unfold f_X12_pour_28 at hf
  refine V.aload_n dX12_pour_28 rfl rfl rfl ?_
  refine V.iconst (v := 1) dX12_pour_29 rfl ?_
  obtain ⟨r55, h54, q53, hf2⟩ := bd2_el hf
  replace hf := hf2
  clear hf2
  refine V.callVI dX12_pour_30 ml_X12_88 mo_X12_is mv_X12_is rfl (fun q hq => by cases hq; rfl) (by decide) (Or.inl ⟨rfl, SHL_lt rfl⟩) (th_X12_is (srh.ly ly) q53) rfl rfl ⟨Nat.le_of_ble_eq_true rfl, Nat.le_of_ble_eq_true rfl, fun _ => ⟨rfl, rfl⟩⟩ (Nat.le_of_ble_eq_true rfl) rfl (post_I (fun sq => ?_))
  have srh54 : SR h0 h54 := srh.trans sq
  clear sq q53
  obtain ⟨b56, hf2⟩ := gd_el hf
  replace hf := hf2
  clear hf2
  refine V.ireturn dX12_pour_33 rfl (narB b56) ⟨rfl, rfl⟩ ly.1 ?_
  exact ret_I hf srh54
set_option maxRecDepth 100000 in
theorem th_X12_pour_143 {h0 : HP} (ly : Lay h0) {rr : Int32} {hh : HP} {K118 : Int32 → Int32 → Int32 → Int32 → Int32 → Int32 → HP → Option (Int32 × HP)} (kok118 : ∀ (l1 : Int32) (l2 : Int32) (l3 : Int32) (l4 : Int32) (l5 : Int32) (l6 : Int32) (g : HP), SR h0 g → K118 l1 l2 l3 l4 l5 l6 g = some (rr, hh) → V cX12_pour miX12_pour (ZI h0 miX12_pour rr hh) 130 118 [.ref 113, .int l1, .int l2, .int l3, .int l4, .int l5, .int l6, .null] [] g) : ∀ (l1 : Int32) (l2 : Int32) (l3 : Int32) (l4 : Int32) (l5 : Int32) (l6 : Int32) (s0 : Int32) (h : HP), SR h0 h → f_X12_pour_143 K118 l1 l2 l3 l4 l5 l6 s0 h = some (rr, hh) → V cX12_pour miX12_pour (ZI h0 miX12_pour rr hh) 130 143 [.ref 113, .int l1, .int l2, .int l3, .int l4, .int l5, .int l6, .null] [.int s0] h := by
  intro l1 l2 l3 l4 l5 l6 s0 h srh hf
  unfold f_X12_pour_143 at hf
  refine V.istore (ls' := [.ref 113, .int l1, .int l2, .int l3, .int l4, .int l5, .int l6, .int s0]) dX12_pour_143 (by decide) rfl ?_
  refine V.aload_n dX12_pour_145 rfl rfl rfl ?_
  refine V.getR (r := 118) dX12_pour_146 fl_X12_27 rfl (Or.inl ⟨rfl, SHL_lt rfl⟩) rfl (ly_113_7 (srh.ly ly)) ?_
  refine V.bipush (v := 60) dX12_pour_149 rfl ?_
  refine V.iload_n dX12_pour_151 rfl rfl ?_
  refine V.imul dX12_pour_152 ?_
  refine V.iload dX12_pour_153 rfl ?_
  refine V.iadd dX12_pour_155 ?_
  refine V.iload dX12_pour_156 rfl ?_
  refine V.iadd dX12_pour_158 ?_
  refine V.aload_n dX12_pour_159 rfl rfl rfl ?_
  refine V.getR (r := 118) dX12_pour_160 fl_X12_27 rfl (Or.inl ⟨rfl, SHL_lt rfl⟩) rfl (ly_113_7 (srh.ly ly)) ?_
  refine V.bipush (v := 60) dX12_pour_163 rfl ?_
  refine V.iload_n dX12_pour_165 rfl rfl ?_
  refine V.imul dX12_pour_166 ?_
  refine V.iload_n dX12_pour_167 rfl rfl ?_
  refine V.iadd dX12_pour_168 ?_
  refine V.iload dX12_pour_169 rfl ?_
  refine V.iadd dX12_pour_171 ?_
  obtain ⟨b49, hf2⟩ := gdi_el hf
  replace hf := hf2
  clear hf2
  refine V.laload dX12_pour_172 rfl (Or.inl ⟨rfl, SHL_lt rfl⟩) b49 ?_
  obtain ⟨b50, hf2⟩ := gdi_el hf
  replace hf := hf2
  clear hf2
  refine V.lastore dX12_pour_173 rfl (Or.inl ⟨rfl, SHL_lt rfl⟩) b50 ?_
  refine V.nameH (fun g51 eg51 => ?_)
  replace hf := lt_el hf g51 eg51
  have srg51 : SR h0 g51 := by rw [eg51]; exact srh.L _ _ _
  obtain ⟨x52, ex52⟩ : ∃ y : Int32, y = l6 + 1 := ⟨_, rfl⟩
  replace hf := lt_el hf x52 ex52
  refine V.iinc (v := x52) (ls' := [.ref 113, .int l1, .int l2, .int l3, .int l4, .int l5, .int x52, .int s0]) dX12_pour_174 rfl (by decide) ex52.symm rfl ?_
  refine V.goto (tgt := 118) dX12_pour_177 (by decide) ?_
  refine V.less (ls' := [.ref 113, .int l1, .int l2, .int l3, .int l4, .int l5, .int x52, .null]) ⟨Or.inr rfl, Or.inr rfl, Or.inr rfl, Or.inr rfl, Or.inr rfl, Or.inr rfl, Or.inr rfl, Or.inl rfl, trivial⟩ ?_
  exact kok118 l1 l2 l3 l4 l5 x52 g51 srg51 hf
set_option maxRecDepth 100000 in
theorem th_X12_pour_118 {h0 : HP} (ly : Lay h0) {rr : Int32} {hh : HP}  : ∀ (n : Nat) (l1 : Int32) (l2 : Int32) (l3 : Int32) (l4 : Int32) (l5 : Int32) (l6 : Int32) (h : HP), SR h0 h → f_X12_pour_118 n l1 l2 l3 l4 l5 l6 h = some (rr, hh) → V cX12_pour miX12_pour (ZI h0 miX12_pour rr hh) 130 118 [.ref 113, .int l1, .int l2, .int l3, .int l4, .int l5, .int l6, .null] [] h := by
  intro n
  induction n with
  | zero => intro l1 l2 l3 l4 l5 l6 h srh hf; exact absurd hf (by unfold f_X12_pour_118; simp)
  | succ n ih =>
    intro l1 l2 l3 l4 l5 l6 h srh hf
    unfold f_X12_pour_118 at hf
    refine V.iload dX12_pour_118 rfl ?_
    refine V.iload dX12_pour_120 rfl ?_
    refine V.icmp_ge (tgt := 180) dX12_pour_122 (by decide) (fun c43 => ?_) (fun c43 => ?_)
    · replace hf := ite_p hf c43
      refine V.aload_n dX12_pour_180 rfl rfl rfl ?_
      refine V.iconst (v := 0) dX12_pour_181 rfl ?_
      obtain ⟨r46, h45, q44, hf2⟩ := bd2_el hf
      replace hf := hf2
      clear hf2
      refine V.callVI dX12_pour_182 ml_X12_88 mo_X12_is mv_X12_is rfl (fun q hq => by cases hq; rfl) (by decide) (Or.inl ⟨rfl, SHL_lt rfl⟩) (th_X12_is (srh.ly ly) q44) rfl rfl ⟨Nat.le_of_ble_eq_true rfl, Nat.le_of_ble_eq_true rfl, fun _ => ⟨rfl, rfl⟩⟩ (Nat.le_of_ble_eq_true rfl) rfl (post_I (fun sq => ?_))
      have srh45 : SR h0 h45 := srh.trans sq
      clear sq q44
      obtain ⟨b47, hf2⟩ := gd_el hf
      replace hf := hf2
      clear hf2
      refine V.ireturn dX12_pour_185 rfl (narB b47) ⟨rfl, rfl⟩ ly.1 ?_
      exact ret_I hf srh45
    · replace hf := ite_n hf c43
      refine V.iload_n dX12_pour_125 rfl rfl ?_
      refine V.iload dX12_pour_126 rfl ?_
      refine V.icmp_ge (tgt := 141) dX12_pour_128 (by decide) (fun c48 => ?_) (fun c48 => ?_)
      · replace hf := ite_p hf c48
        refine V.iload dX12_pour_141 rfl ?_
        exact th_X12_pour_143 ly ih l1 l2 l3 l4 l5 l6 l6 h srh hf
      · replace hf := ite_n hf c48
        refine V.iload dX12_pour_131 rfl ?_
        refine V.iconst (v := 1) dX12_pour_133 rfl ?_
        refine V.isub dX12_pour_134 ?_
        refine V.iload dX12_pour_135 rfl ?_
        refine V.isub dX12_pour_137 ?_
        refine V.goto (tgt := 143) dX12_pour_138 (by decide) ?_
        exact th_X12_pour_143 ly ih l1 l2 l3 l4 l5 l6 ((l5 - 1) - l6) h srh hf
set_option maxRecDepth 100000 in
theorem th_X12_pour {h : HP} (ly : Lay h) {a1 : Int32} {a2 : Int32} {a3 : Int32} {a4 : Int32} {a5 : Int32} {rr : Int32} {hh : HP} (hf : f_X12_pour h a1 a2 a3 a4 a5 = some (rr, hh)) : Spec yX12_pour cX12_pour miX12_pour [.ref 113, .int a1, .int a2, .int a3, .int a4, .int a5] h (pI fun r' h' => (r' = rr ∧ h' = hh) ∧ SR h hh) := by
  refine Spec.of (ls0 := [.ref 113, .int a1, .int a2, .int a3, .int a4, .int a5, .null, .null]) mo_X12_pour (Nat.le_of_ble_eq_true rfl) rfl ?_
  rw [ly.1]
  have srh : SR h h := SR.refl h
  unfold f_X12_pour at hf
  refine V.iload_n dX12_pour_0 rfl rfl ?_
  obtain ⟨r3, h2, q1, hf2⟩ := bd2_el hf
  replace hf := hf2
  clear hf2
  refine V.callSI dX12_pour_1 ml_X12_92 mo_X12_isTray ms_X12_isTray (th_X12_isTray (srh.ly ly) q1) rfl rfl ⟨Nat.le_of_ble_eq_true rfl, Nat.le_of_ble_eq_true rfl, fun _ => ⟨rfl, rfl⟩⟩ (Nat.le_of_ble_eq_true rfl) rfl (post_I (fun sq => ?_))
  have srh2 : SR h h2 := srh.trans sq
  clear sq q1
  refine V.if_eq (tgt := 28) dX12_pour_4 (by decide) (fun c4 => ?_) (fun c4 => ?_)
  · replace hf := ite_p hf c4
    refine V.less (ls' := [.ref 113, .null, .null, .null, .null, .null, .null, .null]) ⟨Or.inr rfl, Or.inl rfl, Or.inl rfl, Or.inl rfl, Or.inl rfl, Or.inl rfl, Or.inl rfl, Or.inl rfl, trivial⟩ ?_
    exact th_X12_pour_28 ly h2 srh2 hf
  · replace hf := ite_n hf c4
    refine V.iload_n dX12_pour_7 rfl rfl ?_
    obtain ⟨r7, h6, q5, hf2⟩ := bd2_el hf
    replace hf := hf2
    clear hf2
    refine V.callSI dX12_pour_8 ml_X12_92 mo_X12_isTray ms_X12_isTray (th_X12_isTray (srh2.ly ly) q5) rfl rfl ⟨Nat.le_of_ble_eq_true rfl, Nat.le_of_ble_eq_true rfl, fun _ => ⟨rfl, rfl⟩⟩ (Nat.le_of_ble_eq_true rfl) rfl (post_I (fun sq => ?_))
    have srh6 : SR h h6 := srh2.trans sq
    clear sq q5
    refine V.if_eq (tgt := 28) dX12_pour_11 (by decide) (fun c8 => ?_) (fun c8 => ?_)
    · replace hf := ite_p hf c8
      refine V.less (ls' := [.ref 113, .null, .null, .null, .null, .null, .null, .null]) ⟨Or.inr rfl, Or.inl rfl, Or.inl rfl, Or.inl rfl, Or.inl rfl, Or.inl rfl, Or.inl rfl, Or.inl rfl, trivial⟩ ?_
      exact th_X12_pour_28 ly h6 srh6 hf
    · replace hf := ite_n hf c8
      refine V.iload_n dX12_pour_14 rfl rfl ?_
      refine V.if_lt (tgt := 28) dX12_pour_15 (by decide) (fun c9 => ?_) (fun c9 => ?_)
      · replace hf := ite_p hf c9
        refine V.less (ls' := [.ref 113, .null, .null, .null, .null, .null, .null, .null]) ⟨Or.inr rfl, Or.inl rfl, Or.inl rfl, Or.inl rfl, Or.inl rfl, Or.inl rfl, Or.inl rfl, Or.inl rfl, trivial⟩ ?_
        exact th_X12_pour_28 ly h6 srh6 hf
      · replace hf := ite_n hf c9
        refine V.iload dX12_pour_18 rfl ?_
        refine V.if_lt (tgt := 28) dX12_pour_20 (by decide) (fun c10 => ?_) (fun c10 => ?_)
        · replace hf := ite_p hf c10
          refine V.less (ls' := [.ref 113, .null, .null, .null, .null, .null, .null, .null]) ⟨Or.inr rfl, Or.inl rfl, Or.inl rfl, Or.inl rfl, Or.inl rfl, Or.inl rfl, Or.inl rfl, Or.inl rfl, trivial⟩ ?_
          exact th_X12_pour_28 ly h6 srh6 hf
        · replace hf := ite_n hf c10
          refine V.iload dX12_pour_23 rfl ?_
          refine V.if_ge (tgt := 34) dX12_pour_25 (by decide) (fun c11 => ?_) (fun c11 => ?_)
          · replace hf := ite_p hf c11
            refine V.aload_n dX12_pour_34 rfl rfl rfl ?_
            refine V.getR (r := 117) dX12_pour_35 fl_X12_24 rfl (Or.inl ⟨rfl, SHL_lt rfl⟩) rfl (ly_113_6 (srh6.ly ly)) ?_
            refine V.iload_n dX12_pour_38 rfl rfl ?_
            obtain ⟨b12, hf2⟩ := gdi_el hf
            replace hf := hf2
            clear hf2
            refine V.iaload dX12_pour_39 rfl (Or.inl ⟨rfl, SHL_lt rfl⟩) b12 ?_
            refine V.iconst (v := (-1)) dX12_pour_40 rfl ?_
            refine V.icmp_eq (tgt := 54) dX12_pour_41 (by decide) (fun c13 => ?_) (fun c13 => ?_)
            · replace hf := ite_p hf c13
              refine V.aload_n dX12_pour_54 rfl rfl rfl ?_
              refine V.iconst (v := 2) dX12_pour_55 rfl ?_
              obtain ⟨r16, h15, q14, hf2⟩ := bd2_el hf
              replace hf := hf2
              clear hf2
              refine V.callVI dX12_pour_56 ml_X12_88 mo_X12_is mv_X12_is rfl (fun q hq => by cases hq; rfl) (by decide) (Or.inl ⟨rfl, SHL_lt rfl⟩) (th_X12_is (srh6.ly ly) q14) rfl rfl ⟨Nat.le_of_ble_eq_true rfl, Nat.le_of_ble_eq_true rfl, fun _ => ⟨rfl, rfl⟩⟩ (Nat.le_of_ble_eq_true rfl) rfl (post_I (fun sq => ?_))
              have srh15 : SR h h15 := srh6.trans sq
              clear sq q14
              obtain ⟨b17, hf2⟩ := gd_el hf
              replace hf := hf2
              clear hf2
              refine V.ireturn dX12_pour_59 rfl (narB b17) ⟨rfl, rfl⟩ ly.1 ?_
              exact ret_I hf srh15
            · replace hf := ite_n hf c13
              refine V.aload_n dX12_pour_44 rfl rfl rfl ?_
              refine V.getR (r := 117) dX12_pour_45 fl_X12_24 rfl (Or.inl ⟨rfl, SHL_lt rfl⟩) rfl (ly_113_6 (srh6.ly ly)) ?_
              refine V.iload_n dX12_pour_48 rfl rfl ?_
              obtain ⟨b18, hf2⟩ := gdi_el hf
              replace hf := hf2
              clear hf2
              refine V.iaload dX12_pour_49 rfl (Or.inl ⟨rfl, SHL_lt rfl⟩) b18 ?_
              refine V.iconst (v := (-1)) dX12_pour_50 rfl ?_
              refine V.icmp_ne (tgt := 60) dX12_pour_51 (by decide) (fun c19 => ?_) (fun c19 => ?_)
              · replace hf := ite_n hf c19
                refine V.aload_n dX12_pour_60 rfl rfl rfl ?_
                refine V.getR (r := 116) dX12_pour_61 fl_X12_21 rfl (Or.inl ⟨rfl, SHL_lt rfl⟩) rfl (ly_113_5 (srh6.ly ly)) ?_
                refine V.iload_n dX12_pour_64 rfl rfl ?_
                obtain ⟨b20, hf2⟩ := gdi_el hf
                replace hf := hf2
                clear hf2
                refine V.iaload dX12_pour_65 rfl (Or.inl ⟨rfl, SHL_lt rfl⟩) b20 ?_
                refine V.aload_n dX12_pour_66 rfl rfl rfl ?_
                refine V.getR (r := 116) dX12_pour_67 fl_X12_21 rfl (Or.inl ⟨rfl, SHL_lt rfl⟩) rfl (ly_113_5 (srh6.ly ly)) ?_
                refine V.iload_n dX12_pour_70 rfl rfl ?_
                obtain ⟨b21, hf2⟩ := gdi_el hf
                replace hf := hf2
                clear hf2
                refine V.iaload dX12_pour_71 rfl (Or.inl ⟨rfl, SHL_lt rfl⟩) b21 ?_
                refine V.icmp_eq (tgt := 82) dX12_pour_72 (by decide) (fun c22 => ?_) (fun c22 => ?_)
                · replace hf := ite_p hf c22
                  refine V.iload dX12_pour_82 rfl ?_
                  refine V.aload_n dX12_pour_84 rfl rfl rfl ?_
                  refine V.getR (r := 117) dX12_pour_85 fl_X12_24 rfl (Or.inl ⟨rfl, SHL_lt rfl⟩) rfl (ly_113_6 (srh6.ly ly)) ?_
                  refine V.iload_n dX12_pour_88 rfl rfl ?_
                  obtain ⟨b23, hf2⟩ := gdi_el hf
                  replace hf := hf2
                  clear hf2
                  refine V.iaload dX12_pour_89 rfl (Or.inl ⟨rfl, SHL_lt rfl⟩) b23 ?_
                  refine V.iload_n dX12_pour_90 rfl rfl ?_
                  refine V.isub dX12_pour_91 ?_
                  refine V.icmp_gt (tgt := 109) dX12_pour_92 (by decide) (fun c24 => ?_) (fun c24 => ?_)
                  · replace hf := ite_p hf c24
                    refine V.aload_n dX12_pour_109 rfl rfl rfl ?_
                    refine V.iconst (v := 3) dX12_pour_110 rfl ?_
                    obtain ⟨r27, h26, q25, hf2⟩ := bd2_el hf
                    replace hf := hf2
                    clear hf2
                    refine V.callVI dX12_pour_111 ml_X12_88 mo_X12_is mv_X12_is rfl (fun q hq => by cases hq; rfl) (by decide) (Or.inl ⟨rfl, SHL_lt rfl⟩) (th_X12_is (srh6.ly ly) q25) rfl rfl ⟨Nat.le_of_ble_eq_true rfl, Nat.le_of_ble_eq_true rfl, fun _ => ⟨rfl, rfl⟩⟩ (Nat.le_of_ble_eq_true rfl) rfl (post_I (fun sq => ?_))
                    have srh26 : SR h h26 := srh6.trans sq
                    clear sq q25
                    obtain ⟨b28, hf2⟩ := gd_el hf
                    replace hf := hf2
                    clear hf2
                    refine V.ireturn dX12_pour_114 rfl (narB b28) ⟨rfl, rfl⟩ ly.1 ?_
                    exact ret_I hf srh26
                  · replace hf := ite_n hf c24
                    refine V.iload dX12_pour_95 rfl ?_
                    refine V.aload_n dX12_pour_97 rfl rfl rfl ?_
                    refine V.getR (r := 117) dX12_pour_98 fl_X12_24 rfl (Or.inl ⟨rfl, SHL_lt rfl⟩) rfl (ly_113_6 (srh6.ly ly)) ?_
                    refine V.iload_n dX12_pour_101 rfl rfl ?_
                    obtain ⟨b29, hf2⟩ := gdi_el hf
                    replace hf := hf2
                    clear hf2
                    refine V.iaload dX12_pour_102 rfl (Or.inl ⟨rfl, SHL_lt rfl⟩) b29 ?_
                    refine V.iload dX12_pour_103 rfl ?_
                    refine V.isub dX12_pour_105 ?_
                    refine V.icmp_le (tgt := 115) dX12_pour_106 (by decide) (fun c30 => ?_) (fun c30 => ?_)
                    · replace hf := ite_p hf c30
                      refine V.iconst (v := 0) dX12_pour_115 rfl ?_
                      refine V.istore (ls' := [.ref 113, .int a1, .int a2, .int a3, .int a4, .int a5, .int 0, .null]) dX12_pour_116 (by decide) rfl ?_
                      exact th_X12_pour_118 ly FU a1 a2 a3 a4 a5 0 h6 srh6 hf
                    · replace hf := ite_n hf c30
                      refine V.aload_n dX12_pour_109 rfl rfl rfl ?_
                      refine V.iconst (v := 3) dX12_pour_110 rfl ?_
                      obtain ⟨r33, h32, q31, hf2⟩ := bd2_el hf
                      replace hf := hf2
                      clear hf2
                      refine V.callVI dX12_pour_111 ml_X12_88 mo_X12_is mv_X12_is rfl (fun q hq => by cases hq; rfl) (by decide) (Or.inl ⟨rfl, SHL_lt rfl⟩) (th_X12_is (srh6.ly ly) q31) rfl rfl ⟨Nat.le_of_ble_eq_true rfl, Nat.le_of_ble_eq_true rfl, fun _ => ⟨rfl, rfl⟩⟩ (Nat.le_of_ble_eq_true rfl) rfl (post_I (fun sq => ?_))
                      have srh32 : SR h h32 := srh6.trans sq
                      clear sq q31
                      obtain ⟨b34, hf2⟩ := gd_el hf
                      replace hf := hf2
                      clear hf2
                      refine V.ireturn dX12_pour_114 rfl (narB b34) ⟨rfl, rfl⟩ ly.1 ?_
                      exact ret_I hf srh32
                · replace hf := ite_n hf c22
                  refine V.aload_n dX12_pour_75 rfl rfl rfl ?_
                  refine V.bipush (v := 8) dX12_pour_76 rfl ?_
                  obtain ⟨r37, h36, q35, hf2⟩ := bd2_el hf
                  replace hf := hf2
                  clear hf2
                  refine V.callVI dX12_pour_78 ml_X12_88 mo_X12_is mv_X12_is rfl (fun q hq => by cases hq; rfl) (by decide) (Or.inl ⟨rfl, SHL_lt rfl⟩) (th_X12_is (srh6.ly ly) q35) rfl rfl ⟨Nat.le_of_ble_eq_true rfl, Nat.le_of_ble_eq_true rfl, fun _ => ⟨rfl, rfl⟩⟩ (Nat.le_of_ble_eq_true rfl) rfl (post_I (fun sq => ?_))
                  have srh36 : SR h h36 := srh6.trans sq
                  clear sq q35
                  obtain ⟨b38, hf2⟩ := gd_el hf
                  replace hf := hf2
                  clear hf2
                  refine V.ireturn dX12_pour_81 rfl (narB b38) ⟨rfl, rfl⟩ ly.1 ?_
                  exact ret_I hf srh36
              · replace hf := ite_p hf c19
                refine V.aload_n dX12_pour_54 rfl rfl rfl ?_
                refine V.iconst (v := 2) dX12_pour_55 rfl ?_
                obtain ⟨r41, h40, q39, hf2⟩ := bd2_el hf
                replace hf := hf2
                clear hf2
                refine V.callVI dX12_pour_56 ml_X12_88 mo_X12_is mv_X12_is rfl (fun q hq => by cases hq; rfl) (by decide) (Or.inl ⟨rfl, SHL_lt rfl⟩) (th_X12_is (srh6.ly ly) q39) rfl rfl ⟨Nat.le_of_ble_eq_true rfl, Nat.le_of_ble_eq_true rfl, fun _ => ⟨rfl, rfl⟩⟩ (Nat.le_of_ble_eq_true rfl) rfl (post_I (fun sq => ?_))
                have srh40 : SR h h40 := srh6.trans sq
                clear sq q39
                obtain ⟨b42, hf2⟩ := gd_el hf
                replace hf := hf2
                clear hf2
                refine V.ireturn dX12_pour_59 rfl (narB b42) ⟨rfl, rfl⟩ ly.1 ?_
                exact ret_I hf srh40
          · replace hf := ite_n hf c11
            refine V.less (ls' := [.ref 113, .null, .null, .null, .null, .null, .null, .null]) ⟨Or.inr rfl, Or.inl rfl, Or.inl rfl, Or.inl rfl, Or.inl rfl, Or.inl rfl, Or.inl rfl, Or.inl rfl, trivial⟩ ?_
            exact th_X12_pour_28 ly h6 srh6 hf
set_option maxRecDepth 100000 in
theorem th_X12_isFrom {h : HP} (ly : Lay h) {a0 : Int64} {a2 : Int64} {a4 : Int64} {rr : Int32} {hh : HP} (hf : f_X12_isFrom h a0 a2 a4 = some (rr, hh)) : Spec yX12_isFrom cX12_isFrom miX12_isFrom [.long a0, .long a2, .long a4] h (pI fun r' h' => (r' = rr ∧ h' = hh) ∧ SR h hh) := by
  refine Spec.of (ls0 := [.long a0, .null, .long a2, .null, .long a4, .null]) mo_X12_isFrom (Nat.le_of_ble_eq_true rfl) rfl ?_
  rw [ly.1]
  have srh : SR h h := SR.refl h
  unfold f_X12_isFrom at hf
  refine V.lload_n dX12_isFrom_0 rfl rfl ?_
  refine V.lload_n dX12_isFrom_1 rfl rfl ?_
  refine V.lcmp dX12_isFrom_2 ?_
  refine V.if_lt (tgt := 17) dX12_isFrom_3 (by decide) (fun c1 => ?_) (fun c1 => ?_)
  · replace hf := ite_p hf c1
    refine V.iconst (v := 0) dX12_isFrom_17 rfl ?_
    refine V.ireturn dX12_isFrom_18 rfl rfl ⟨rfl, rfl⟩ ly.1 ?_
    exact ret_I hf srh
  · replace hf := ite_n hf c1
    refine V.lload_n dX12_isFrom_6 rfl rfl ?_
    refine V.lload dX12_isFrom_7 rfl ?_
    refine V.lcmp dX12_isFrom_9 ?_
    refine V.if_gt (tgt := 17) dX12_isFrom_10 (by decide) (fun c2 => ?_) (fun c2 => ?_)
    · replace hf := ite_p hf c2
      refine V.iconst (v := 0) dX12_isFrom_17 rfl ?_
      refine V.ireturn dX12_isFrom_18 rfl rfl ⟨rfl, rfl⟩ ly.1 ?_
      exact ret_I hf srh
    · replace hf := ite_n hf c2
      refine V.iconst (v := 1) dX12_isFrom_13 rfl ?_
      refine V.goto (tgt := 18) dX12_isFrom_14 (by decide) ?_
      refine V.ireturn dX12_isFrom_18 rfl rfl ⟨rfl, rfl⟩ ly.1 ?_
      exact ret_I hf srh
set_option maxRecDepth 100000 in
theorem th_X12_four_3 {h0 : HP} (ly : Lay h0) {hh : HP}  : ∀ (n : Nat) (l1 : Int32) (l2 : Int32) (h : HP), SR h0 h → f_X12_four_3 n l1 l2 h = some hh → V cX12_four miX12_four (ZV h0 miX12_four hh) 130 3 [.ref 113, .int l1, .int l2] [] h := by
  intro n
  induction n with
  | zero => intro l1 l2 h srh hf; exact absurd hf (by unfold f_X12_four_3; simp)
  | succ n ih =>
    intro l1 l2 h srh hf
    unfold f_X12_four_3 at hf
    refine V.iload_n dX12_four_3 rfl rfl ?_
    refine V.if_lt (tgt := 36) dX12_four_4 (by decide) (fun c1 => ?_) (fun c1 => ?_)
    · replace hf := ite_p hf c1
      refine V.vreturn' dX12_four_36 rfl ly.1 (Or.inl ⟨rfl, rfl⟩) ?_
      exact ret_V hf srh
    · replace hf := ite_n hf c1
      refine V.aload_n dX12_four_7 rfl rfl rfl ?_
      refine V.getR (r := 119) dX12_four_8 fl_X12_30 rfl (Or.inl ⟨rfl, SHL_lt rfl⟩) rfl (ly_113_8 (srh.ly ly)) ?_
      refine V.aload_n dX12_four_11 rfl rfl rfl ?_
      refine V.getI dX12_four_12 fl_X12_105 rfl (Or.inl ⟨rfl, SHL_lt rfl⟩) rfl rfl ?_
      refine V.iload_n dX12_four_15 rfl rfl ?_
      refine V.iload_n dX12_four_16 rfl rfl ?_
      refine V.ishr dX12_four_17 ?_
      refine V.i2b dX12_four_18 ?_
      obtain ⟨b2, hf2⟩ := gdi_el hf
      replace hf := hf2
      clear hf2
      refine V.bastore dX12_four_19 rfl (Or.inl ⟨rfl, SHL_lt rfl⟩) b2 ?_
      refine V.nameH (fun g3 eg3 => ?_)
      replace hf := lt_el hf g3 eg3
      have srg3 : SR h0 g3 := by rw [eg3]; exact srh.I _ _ _
      refine V.aload_n dX12_four_20 rfl rfl rfl ?_
      refine V.dup dX12_four_21 rfl ?_
      refine V.getI dX12_four_22 fl_X12_105 rfl (Or.inl ⟨rfl, SHL_lt rfl⟩) rfl rfl ?_
      refine V.iconst (v := 1) dX12_four_25 rfl ?_
      refine V.iadd dX12_four_26 ?_
      refine V.putI dX12_four_27 fl_X12_105 rfl (Or.inl ⟨rfl, SHL_lt rfl⟩) rfl (fun q hq => by cases hq; rfl) ⟨rfl, rfl⟩ ?_
      refine V.nameH (fun g4 eg4 => ?_)
      replace hf := lt_el hf g4 eg4
      have srg4 : SR h0 g4 := by rw [eg4]; exact srg3.I _ _ _
      obtain ⟨x5, ex5⟩ : ∃ y : Int32, y = l2 + (-8) := ⟨_, rfl⟩
      replace hf := lt_el hf x5 ex5
      refine V.iinc (v := x5) (ls' := [.ref 113, .int l1, .int x5]) dX12_four_30 rfl (by decide) ex5.symm rfl ?_
      refine V.goto (tgt := 3) dX12_four_33 (by decide) ?_
      exact ih l1 x5 g4 srg4 hf
set_option maxRecDepth 100000 in
theorem th_X12_four {h : HP} (ly : Lay h) {a1 : Int32} {hh : HP} (hf : f_X12_four h a1 = some hh) : Spec yX12_four cX12_four miX12_four [.ref 113, .int a1] h (pV fun h' => h' = hh ∧ SR h hh) := by
  refine Spec.of (ls0 := [.ref 113, .int a1, .null]) mo_X12_four (Nat.le_of_ble_eq_true rfl) rfl ?_
  rw [ly.1]
  have srh : SR h h := SR.refl h
  unfold f_X12_four at hf
  refine V.bipush (v := 24) dX12_four_0 rfl ?_
  refine V.istore_n (ls' := [.ref 113, .int a1, .int 24]) dX12_four_2 rfl (by decide) rfl ?_
  exact th_X12_four_3 ly FU a1 24 h srh hf
set_option maxRecDepth 100000 in
theorem th_X12_feed {h : HP} (ly : Lay h) {a1 : Int32} {a2 : Int32} {a3 : Int32} {a4 : Int32} {a5 : Int32} {rr : Int32} {hh : HP} (hf : f_X12_feed h a1 a2 a3 a4 a5 = some (rr, hh)) : Spec yX12_feed cX12_feed miX12_feed [.ref 113, .int a1, .int a2, .int a3, .int a4, .int a5] h (pI fun r' h' => (r' = rr ∧ h' = hh) ∧ SR h hh) := by
  refine Spec.of (ls0 := [.ref 113, .int a1, .int a2, .int a3, .int a4, .int a5]) mo_X12_feed (Nat.le_of_ble_eq_true rfl) rfl ?_
  rw [ly.1]
  have srh : SR h h := SR.refl h
  unfold f_X12_feed at hf
  refine V.aload_n dX12_feed_0 rfl rfl rfl ?_
  refine V.getI dX12_feed_1 fl_X12_105 rfl (Or.inl ⟨rfl, SHL_lt rfl⟩) rfl rfl ?_
  refine V.bipush (v := 20) dX12_feed_4 rfl ?_
  refine V.iadd dX12_feed_6 ?_
  refine V.sipush (v := 900) dX12_feed_7 rfl ?_
  refine V.icmp_le (tgt := 15) dX12_feed_10 (by decide) (fun c1 => ?_) (fun c1 => ?_)
  · replace hf := ite_p hf c1
    refine V.aload_n dX12_feed_15 rfl rfl rfl ?_
    refine V.iload_n dX12_feed_16 rfl rfl ?_
    obtain ⟨h3, q2, hf2⟩ := bd_el hf
    replace hf := hf2
    clear hf2
    refine V.callVV dX12_feed_17 ml_X12_108 mo_X12_four mv_X12_four rfl (fun q hq => by cases hq; rfl) (by decide) (Or.inl ⟨rfl, SHL_lt rfl⟩) (th_X12_four (srh.ly ly) q2) rfl rfl ⟨Nat.le_of_ble_eq_true rfl, Nat.le_of_ble_eq_true rfl, fun _ => ⟨rfl, rfl⟩⟩ (Nat.le_of_ble_eq_true rfl) (Or.inl rfl) (post_V (fun sq => ?_))
    have srh3 : SR h h3 := srh.trans sq
    clear sq q2
    refine V.aload_n dX12_feed_20 rfl rfl rfl ?_
    refine V.iload_n dX12_feed_21 rfl rfl ?_
    obtain ⟨h5, q4, hf2⟩ := bd_el hf
    replace hf := hf2
    clear hf2
    refine V.callVV dX12_feed_22 ml_X12_108 mo_X12_four mv_X12_four rfl (fun q hq => by cases hq; rfl) (by decide) (Or.inl ⟨rfl, SHL_lt rfl⟩) (th_X12_four (srh3.ly ly) q4) rfl rfl ⟨Nat.le_of_ble_eq_true rfl, Nat.le_of_ble_eq_true rfl, fun _ => ⟨rfl, rfl⟩⟩ (Nat.le_of_ble_eq_true rfl) (Or.inl rfl) (post_V (fun sq => ?_))
    have srh5 : SR h h5 := srh3.trans sq
    clear sq q4
    refine V.aload_n dX12_feed_25 rfl rfl rfl ?_
    refine V.iload_n dX12_feed_26 rfl rfl ?_
    obtain ⟨h7, q6, hf2⟩ := bd_el hf
    replace hf := hf2
    clear hf2
    refine V.callVV dX12_feed_27 ml_X12_108 mo_X12_four mv_X12_four rfl (fun q hq => by cases hq; rfl) (by decide) (Or.inl ⟨rfl, SHL_lt rfl⟩) (th_X12_four (srh5.ly ly) q6) rfl rfl ⟨Nat.le_of_ble_eq_true rfl, Nat.le_of_ble_eq_true rfl, fun _ => ⟨rfl, rfl⟩⟩ (Nat.le_of_ble_eq_true rfl) (Or.inl rfl) (post_V (fun sq => ?_))
    have srh7 : SR h h7 := srh5.trans sq
    clear sq q6
    refine V.aload_n dX12_feed_30 rfl rfl rfl ?_
    refine V.iload dX12_feed_31 rfl ?_
    obtain ⟨h9, q8, hf2⟩ := bd_el hf
    replace hf := hf2
    clear hf2
    refine V.callVV dX12_feed_33 ml_X12_108 mo_X12_four mv_X12_four rfl (fun q hq => by cases hq; rfl) (by decide) (Or.inl ⟨rfl, SHL_lt rfl⟩) (th_X12_four (srh7.ly ly) q8) rfl rfl ⟨Nat.le_of_ble_eq_true rfl, Nat.le_of_ble_eq_true rfl, fun _ => ⟨rfl, rfl⟩⟩ (Nat.le_of_ble_eq_true rfl) (Or.inl rfl) (post_V (fun sq => ?_))
    have srh9 : SR h h9 := srh7.trans sq
    clear sq q8
    refine V.aload_n dX12_feed_36 rfl rfl rfl ?_
    refine V.iload dX12_feed_37 rfl ?_
    obtain ⟨h11, q10, hf2⟩ := bd_el hf
    replace hf := hf2
    clear hf2
    refine V.callVV dX12_feed_39 ml_X12_108 mo_X12_four mv_X12_four rfl (fun q hq => by cases hq; rfl) (by decide) (Or.inl ⟨rfl, SHL_lt rfl⟩) (th_X12_four (srh9.ly ly) q10) rfl rfl ⟨Nat.le_of_ble_eq_true rfl, Nat.le_of_ble_eq_true rfl, fun _ => ⟨rfl, rfl⟩⟩ (Nat.le_of_ble_eq_true rfl) (Or.inl rfl) (post_V (fun sq => ?_))
    have srh11 : SR h h11 := srh9.trans sq
    clear sq q10
    refine V.aload_n dX12_feed_42 rfl rfl rfl ?_
    refine V.getI dX12_feed_43 fl_X12_105 rfl (Or.inl ⟨rfl, SHL_lt rfl⟩) rfl rfl ?_
    refine V.ireturn dX12_feed_46 rfl rfl ⟨rfl, rfl⟩ ly.1 ?_
    exact ret_I hf srh11
  · replace hf := ite_n hf c1
    refine V.iconst (v := (-1)) dX12_feed_13 rfl ?_
    refine V.ireturn dX12_feed_14 rfl rfl ⟨rfl, rfl⟩ ly.1 ?_
    exact ret_I hf srh
set_option maxRecDepth 100000 in
theorem th_X12_byteAt {h : HP} (ly : Lay h) {a1 : Int32} {rr : Int32} {hh : HP} (hf : f_X12_byteAt h a1 = some (rr, hh)) : Spec yX12_byteAt cX12_byteAt miX12_byteAt [.ref 113, .int a1] h (pI fun r' h' => (r' = rr ∧ h' = hh) ∧ SR h hh) := by
  refine Spec.of (ls0 := [.ref 113, .int a1]) mo_X12_byteAt (Nat.le_of_ble_eq_true rfl) rfl ?_
  rw [ly.1]
  have srh : SR h h := SR.refl h
  unfold f_X12_byteAt at hf
  refine V.iload_n dX12_byteAt_0 rfl rfl ?_
  refine V.aload_n dX12_byteAt_1 rfl rfl rfl ?_
  refine V.getI dX12_byteAt_2 fl_X12_111 rfl (Or.inl ⟨rfl, SHL_lt rfl⟩) rfl rfl ?_
  refine V.icmp_ge (tgt := 21) dX12_byteAt_5 (by decide) (fun c1 => ?_) (fun c1 => ?_)
  · replace hf := ite_p hf c1
    refine V.iconst (v := (-1)) dX12_byteAt_21 rfl ?_
    refine V.ireturn dX12_byteAt_22 rfl rfl ⟨rfl, rfl⟩ ly.1 ?_
    exact ret_I hf srh
  · replace hf := ite_n hf c1
    refine V.aload_n dX12_byteAt_8 rfl rfl rfl ?_
    refine V.getR (r := 120) dX12_byteAt_9 fl_X12_34 rfl (Or.inl ⟨rfl, SHL_lt rfl⟩) rfl (ly_113_9 (srh.ly ly)) ?_
    refine V.iload_n dX12_byteAt_12 rfl rfl ?_
    obtain ⟨b2, hf2⟩ := gdi_el hf
    replace hf := hf2
    clear hf2
    refine V.baload dX12_byteAt_13 rfl (Or.inl ⟨rfl, SHL_lt rfl⟩) b2 ?_
    refine V.sipush (v := 255) dX12_byteAt_14 rfl ?_
    refine V.iand dX12_byteAt_17 ?_
    refine V.goto (tgt := 22) dX12_byteAt_18 (by decide) ?_
    refine V.ireturn dX12_byteAt_22 rfl rfl ⟨rfl, rfl⟩ ly.1 ?_
    exact ret_I hf srh
set_option maxRecDepth 100000 in
theorem th_X12_isSmall {h : HP} (ly : Lay h) {a0 : Int32} {rr : Int32} {hh : HP} (hf : f_X12_isSmall h a0 = some (rr, hh)) : Spec yX12_isSmall cX12_isSmall miX12_isSmall [.int a0] h (pI fun r' h' => (r' = rr ∧ h' = hh) ∧ SR h hh) := by
  refine Spec.of (ls0 := [.int a0]) mo_X12_isSmall (Nat.le_of_ble_eq_true rfl) rfl ?_
  rw [ly.1]
  have srh : SR h h := SR.refl h
  unfold f_X12_isSmall at hf
  refine V.iload_n dX12_isSmall_0 rfl rfl ?_
  refine V.bipush (v := 97) dX12_isSmall_1 rfl ?_
  refine V.icmp_lt (tgt := 16) dX12_isSmall_3 (by decide) (fun c1 => ?_) (fun c1 => ?_)
  · replace hf := ite_p hf c1
    refine V.iconst (v := 0) dX12_isSmall_16 rfl ?_
    refine V.ireturn dX12_isSmall_17 rfl rfl ⟨rfl, rfl⟩ ly.1 ?_
    exact ret_I hf srh
  · replace hf := ite_n hf c1
    refine V.iload_n dX12_isSmall_6 rfl rfl ?_
    refine V.bipush (v := 122) dX12_isSmall_7 rfl ?_
    refine V.icmp_gt (tgt := 16) dX12_isSmall_9 (by decide) (fun c2 => ?_) (fun c2 => ?_)
    · replace hf := ite_p hf c2
      refine V.iconst (v := 0) dX12_isSmall_16 rfl ?_
      refine V.ireturn dX12_isSmall_17 rfl rfl ⟨rfl, rfl⟩ ly.1 ?_
      exact ret_I hf srh
    · replace hf := ite_n hf c2
      refine V.iconst (v := 1) dX12_isSmall_12 rfl ?_
      refine V.goto (tgt := 17) dX12_isSmall_13 (by decide) ?_
      refine V.ireturn dX12_isSmall_17 rfl rfl ⟨rfl, rfl⟩ ly.1 ?_
      exact ret_I hf srh
set_option maxRecDepth 100000 in
theorem th_X12_isDigit {h : HP} (ly : Lay h) {a0 : Int32} {rr : Int32} {hh : HP} (hf : f_X12_isDigit h a0 = some (rr, hh)) : Spec yX12_isDigit cX12_isDigit miX12_isDigit [.int a0] h (pI fun r' h' => (r' = rr ∧ h' = hh) ∧ SR h hh) := by
  refine Spec.of (ls0 := [.int a0]) mo_X12_isDigit (Nat.le_of_ble_eq_true rfl) rfl ?_
  rw [ly.1]
  have srh : SR h h := SR.refl h
  unfold f_X12_isDigit at hf
  refine V.iload_n dX12_isDigit_0 rfl rfl ?_
  refine V.bipush (v := 48) dX12_isDigit_1 rfl ?_
  refine V.icmp_lt (tgt := 16) dX12_isDigit_3 (by decide) (fun c1 => ?_) (fun c1 => ?_)
  · replace hf := ite_p hf c1
    refine V.iconst (v := 0) dX12_isDigit_16 rfl ?_
    refine V.ireturn dX12_isDigit_17 rfl rfl ⟨rfl, rfl⟩ ly.1 ?_
    exact ret_I hf srh
  · replace hf := ite_n hf c1
    refine V.iload_n dX12_isDigit_6 rfl rfl ?_
    refine V.bipush (v := 57) dX12_isDigit_7 rfl ?_
    refine V.icmp_gt (tgt := 16) dX12_isDigit_9 (by decide) (fun c2 => ?_) (fun c2 => ?_)
    · replace hf := ite_p hf c2
      refine V.iconst (v := 0) dX12_isDigit_16 rfl ?_
      refine V.ireturn dX12_isDigit_17 rfl rfl ⟨rfl, rfl⟩ ly.1 ?_
      exact ret_I hf srh
    · replace hf := ite_n hf c2
      refine V.iconst (v := 1) dX12_isDigit_12 rfl ?_
      refine V.goto (tgt := 17) dX12_isDigit_13 (by decide) ?_
      refine V.ireturn dX12_isDigit_17 rfl rfl ⟨rfl, rfl⟩ ly.1 ?_
      exact ret_I hf srh
set_option maxRecDepth 100000 in
theorem th_X12_onward_81 {h0 : HP} (ly : Lay h0) {hh : HP}  : ∀ (n : Nat)  (h : HP), SR h0 h → f_X12_onward_81 n h = some hh → V cX12_onward miX12_onward (ZV h0 miX12_onward hh) 130 81 [.ref 113, .null] [] h := by
  intro n
  induction n with
  | zero => intro  h srh hf; exact absurd hf (by unfold f_X12_onward_81; simp)
  | succ n ih =>
    intro  h srh hf
    unfold f_X12_onward_81 at hf
    refine V.aload_n dX12_onward_81 rfl rfl rfl ?_
    refine V.aload_n dX12_onward_82 rfl rfl rfl ?_
    refine V.getI dX12_onward_83 fl_X12_114 rfl (Or.inl ⟨rfl, SHL_lt rfl⟩) rfl rfl ?_
    obtain ⟨r35, h34, q33, hf2⟩ := bd2_el hf
    replace hf := hf2
    clear hf2
    refine V.callVI dX12_onward_86 ml_X12_117 mo_X12_byteAt mv_X12_byteAt rfl (fun q hq => by cases hq; rfl) (by decide) (Or.inl ⟨rfl, SHL_lt rfl⟩) (th_X12_byteAt (srh.ly ly) q33) rfl rfl ⟨Nat.le_of_ble_eq_true rfl, Nat.le_of_ble_eq_true rfl, fun _ => ⟨rfl, rfl⟩⟩ (Nat.le_of_ble_eq_true rfl) rfl (post_I (fun sq => ?_))
    have srh34 : SR h0 h34 := srh.trans sq
    clear sq q33
    obtain ⟨r38, h37, q36, hf2⟩ := bd2_el hf
    replace hf := hf2
    clear hf2
    refine V.callSI dX12_onward_89 ml_X12_129 mo_X12_isSmall ms_X12_isSmall (th_X12_isSmall (srh34.ly ly) q36) rfl rfl ⟨Nat.le_of_ble_eq_true rfl, Nat.le_of_ble_eq_true rfl, fun _ => ⟨rfl, rfl⟩⟩ (Nat.le_of_ble_eq_true rfl) rfl (post_I (fun sq => ?_))
    have srh37 : SR h0 h37 := srh34.trans sq
    clear sq q36
    refine V.if_eq (tgt := 108) dX12_onward_92 (by decide) (fun c39 => ?_) (fun c39 => ?_)
    · replace hf := ite_p hf c39
      refine V.aload_n dX12_onward_108 rfl rfl rfl ?_
      refine V.iconst (v := 2) dX12_onward_109 rfl ?_
      refine V.putI dX12_onward_110 fl_X12_126 rfl (Or.inl ⟨rfl, SHL_lt rfl⟩) rfl (fun q hq => by cases hq; rfl) ⟨rfl, rfl⟩ ?_
      refine V.nameH (fun g40 eg40 => ?_)
      replace hf := lt_el hf g40 eg40
      have srg40 : SR h0 g40 := by rw [eg40]; exact srh37.I _ _ _
      refine V.goto (tgt := 251) dX12_onward_113 (by decide) ?_
      refine V.vreturn' dX12_onward_251 rfl ly.1 (Or.inl ⟨rfl, rfl⟩) ?_
      exact ret_V hf srg40
    · replace hf := ite_n hf c39
      refine V.aload_n dX12_onward_95 rfl rfl rfl ?_
      refine V.dup dX12_onward_96 rfl ?_
      refine V.getI dX12_onward_97 fl_X12_114 rfl (Or.inl ⟨rfl, SHL_lt rfl⟩) rfl rfl ?_
      refine V.iconst (v := 1) dX12_onward_100 rfl ?_
      refine V.iadd dX12_onward_101 ?_
      refine V.putI dX12_onward_102 fl_X12_114 rfl (Or.inl ⟨rfl, SHL_lt rfl⟩) rfl (fun q hq => by cases hq; rfl) ⟨rfl, rfl⟩ ?_
      refine V.nameH (fun g41 eg41 => ?_)
      replace hf := lt_el hf g41 eg41
      have srg41 : SR h0 g41 := by rw [eg41]; exact srh37.I _ _ _
      refine V.goto (tgt := 81) dX12_onward_105 (by decide) ?_
      exact ih g41 srg41 hf
set_option maxRecDepth 100000 in
theorem th_X12_onward_128 {h0 : HP} (ly : Lay h0) {hh : HP}  : ∀ (n : Nat)  (h : HP), SR h0 h → f_X12_onward_128 n h = some hh → V cX12_onward miX12_onward (ZV h0 miX12_onward hh) 130 128 [.ref 113, .null] [] h := by
  intro n
  induction n with
  | zero => intro  h srh hf; exact absurd hf (by unfold f_X12_onward_128; simp)
  | succ n ih =>
    intro  h srh hf
    unfold f_X12_onward_128 at hf
    refine V.aload_n dX12_onward_128 rfl rfl rfl ?_
    refine V.aload_n dX12_onward_129 rfl rfl rfl ?_
    refine V.getI dX12_onward_130 fl_X12_114 rfl (Or.inl ⟨rfl, SHL_lt rfl⟩) rfl rfl ?_
    obtain ⟨r44, h43, q42, hf2⟩ := bd2_el hf
    replace hf := hf2
    clear hf2
    refine V.callVI dX12_onward_133 ml_X12_117 mo_X12_byteAt mv_X12_byteAt rfl (fun q hq => by cases hq; rfl) (by decide) (Or.inl ⟨rfl, SHL_lt rfl⟩) (th_X12_byteAt (srh.ly ly) q42) rfl rfl ⟨Nat.le_of_ble_eq_true rfl, Nat.le_of_ble_eq_true rfl, fun _ => ⟨rfl, rfl⟩⟩ (Nat.le_of_ble_eq_true rfl) rfl (post_I (fun sq => ?_))
    have srh43 : SR h0 h43 := srh.trans sq
    clear sq q42
    obtain ⟨r47, h46, q45, hf2⟩ := bd2_el hf
    replace hf := hf2
    clear hf2
    refine V.callSI dX12_onward_136 ml_X12_132 mo_X12_isDigit ms_X12_isDigit (th_X12_isDigit (srh43.ly ly) q45) rfl rfl ⟨Nat.le_of_ble_eq_true rfl, Nat.le_of_ble_eq_true rfl, fun _ => ⟨rfl, rfl⟩⟩ (Nat.le_of_ble_eq_true rfl) rfl (post_I (fun sq => ?_))
    have srh46 : SR h0 h46 := srh43.trans sq
    clear sq q45
    refine V.if_eq (tgt := 183) dX12_onward_139 (by decide) (fun c48 => ?_) (fun c48 => ?_)
    · replace hf := ite_p hf c48
      refine V.aload_n dX12_onward_183 rfl rfl rfl ?_
      refine V.aload_n dX12_onward_184 rfl rfl rfl ?_
      refine V.getI dX12_onward_185 fl_X12_114 rfl (Or.inl ⟨rfl, SHL_lt rfl⟩) rfl rfl ?_
      refine V.aload_n dX12_onward_188 rfl rfl rfl ?_
      refine V.getI dX12_onward_189 fl_X12_120 rfl (Or.inl ⟨rfl, SHL_lt rfl⟩) rfl rfl ?_
      refine V.isub dX12_onward_192 ?_
      refine V.iconst (v := 4) dX12_onward_193 rfl ?_
      refine V.icmp_le (tgt := 201) dX12_onward_194 (by decide) (fun c49 => ?_) (fun c49 => ?_)
      · replace hf := ite_p hf c49
        refine V.iconst (v := 3) dX12_onward_201 rfl ?_
        refine V.putI dX12_onward_202 fl_X12_126 rfl (Or.inl ⟨rfl, SHL_lt rfl⟩) rfl (fun q hq => by cases hq; rfl) ⟨rfl, rfl⟩ ?_
        refine V.nameH (fun g50 eg50 => ?_)
        replace hf := lt_el hf g50 eg50
        have srg50 : SR h0 g50 := by rw [eg50]; exact srh46.I _ _ _
        refine V.goto (tgt := 251) dX12_onward_205 (by decide) ?_
        refine V.vreturn' dX12_onward_251 rfl ly.1 (Or.inl ⟨rfl, rfl⟩) ?_
        exact ret_V hf srg50
      · replace hf := ite_n hf c49
        refine V.iconst (v := 1) dX12_onward_197 rfl ?_
        refine V.goto (tgt := 202) dX12_onward_198 (by decide) ?_
        refine V.putI dX12_onward_202 fl_X12_126 rfl (Or.inl ⟨rfl, SHL_lt rfl⟩) rfl (fun q hq => by cases hq; rfl) ⟨rfl, rfl⟩ ?_
        refine V.nameH (fun g51 eg51 => ?_)
        replace hf := lt_el hf g51 eg51
        have srg51 : SR h0 g51 := by rw [eg51]; exact srh46.I _ _ _
        refine V.goto (tgt := 251) dX12_onward_205 (by decide) ?_
        refine V.vreturn' dX12_onward_251 rfl ly.1 (Or.inl ⟨rfl, rfl⟩) ?_
        exact ret_V hf srg51
    · replace hf := ite_n hf c48
      refine V.aload_n dX12_onward_142 rfl rfl rfl ?_
      refine V.ldc (v := 100000) dX12_onward_143 kc_X12_135 ?_
      refine V.bipush (v := 10) dX12_onward_145 rfl ?_
      refine V.aload_n dX12_onward_147 rfl rfl rfl ?_
      refine V.getI dX12_onward_148 fl_X12_123 rfl (Or.inl ⟨rfl, SHL_lt rfl⟩) rfl rfl ?_
      refine V.imul dX12_onward_151 ?_
      refine V.aload_n dX12_onward_152 rfl rfl rfl ?_
      refine V.aload_n dX12_onward_153 rfl rfl rfl ?_
      refine V.getI dX12_onward_154 fl_X12_114 rfl (Or.inl ⟨rfl, SHL_lt rfl⟩) rfl rfl ?_
      obtain ⟨r54, h53, q52, hf2⟩ := bd2_el hf
      replace hf := hf2
      clear hf2
      refine V.callVI dX12_onward_157 ml_X12_117 mo_X12_byteAt mv_X12_byteAt rfl (fun q hq => by cases hq; rfl) (by decide) (Or.inl ⟨rfl, SHL_lt rfl⟩) (th_X12_byteAt (srh46.ly ly) q52) rfl rfl ⟨Nat.le_of_ble_eq_true rfl, Nat.le_of_ble_eq_true rfl, fun _ => ⟨rfl, rfl⟩⟩ (Nat.le_of_ble_eq_true rfl) rfl (post_I (fun sq => ?_))
      have srh53 : SR h0 h53 := srh46.trans sq
      clear sq q52
      refine V.iadd dX12_onward_160 ?_
      refine V.bipush (v := 48) dX12_onward_161 rfl ?_
      refine V.isub dX12_onward_163 ?_
      refine V.min dX12_onward_164 lk_X12_136 min_ok rfl ⟨Nat.le_of_ble_eq_true rfl, Nat.le_of_ble_eq_true rfl⟩ ?_
      refine V.putI dX12_onward_167 fl_X12_123 rfl (Or.inl ⟨rfl, SHL_lt rfl⟩) rfl (fun q hq => by cases hq; rfl) ⟨rfl, rfl⟩ ?_
      refine V.nameH (fun g55 eg55 => ?_)
      replace hf := lt_el hf g55 eg55
      have srg55 : SR h0 g55 := by rw [eg55]; exact srh53.I _ _ _
      refine V.aload_n dX12_onward_170 rfl rfl rfl ?_
      refine V.dup dX12_onward_171 rfl ?_
      refine V.getI dX12_onward_172 fl_X12_114 rfl (Or.inl ⟨rfl, SHL_lt rfl⟩) rfl rfl ?_
      refine V.iconst (v := 1) dX12_onward_175 rfl ?_
      refine V.iadd dX12_onward_176 ?_
      refine V.putI dX12_onward_177 fl_X12_114 rfl (Or.inl ⟨rfl, SHL_lt rfl⟩) rfl (fun q hq => by cases hq; rfl) ⟨rfl, rfl⟩ ?_
      refine V.nameH (fun g56 eg56 => ?_)
      replace hf := lt_el hf g56 eg56
      have srg56 : SR h0 g56 := by rw [eg56]; exact srg55.I _ _ _
      refine V.goto (tgt := 128) dX12_onward_180 (by decide) ?_
      exact ih g56 srg56 hf
set_option maxRecDepth 100000 in
theorem th_X12_onward_243 {h0 : HP} (ly : Lay h0) {hh : HP}  : ∀  (h : HP), SR h0 h → f_X12_onward_243 h = some hh → V cX12_onward miX12_onward (ZV h0 miX12_onward hh) 130 243 [.null, .null] [.ref 113] h := by
  intro  h srh hf
  unfold f_X12_onward_243 at hf
  refine V.iconst (v := 4) dX12_onward_243 rfl ?_
  refine V.goto (tgt := 248) dX12_onward_244 (by decide) ?_
  refine V.putI dX12_onward_248 fl_X12_126 rfl (Or.inl ⟨rfl, SHL_lt rfl⟩) rfl (fun q hq => by cases hq; rfl) ⟨rfl, rfl⟩ ?_
  refine V.nameH (fun g57 eg57 => ?_)
  replace hf := lt_el hf g57 eg57
  have srg57 : SR h0 g57 := by rw [eg57]; exact srh.I _ _ _
  refine V.vreturn' dX12_onward_251 rfl ly.1 (Or.inl ⟨rfl, rfl⟩) ?_
  exact ret_V hf srg57
set_option maxRecDepth 100000 in
theorem th_X12_onward_0 {h0 : HP} (ly : Lay h0) {hh : HP}  : ∀ (n : Nat)  (h : HP), SR h0 h → f_X12_onward_0 n h = some hh → V cX12_onward miX12_onward (ZV h0 miX12_onward hh) 130 0 [.ref 113, .null] [] h := by
  intro n
  induction n with
  | zero => intro  h srh hf; exact absurd hf (by unfold f_X12_onward_0; simp)
  | succ n ih =>
    intro  h srh hf
    unfold f_X12_onward_0 at hf
    refine V.aload_n dX12_onward_0 rfl rfl rfl ?_
    refine V.aload_n dX12_onward_1 rfl rfl rfl ?_
    refine V.getI dX12_onward_2 fl_X12_114 rfl (Or.inl ⟨rfl, SHL_lt rfl⟩) rfl rfl ?_
    obtain ⟨r3, h2, q1, hf2⟩ := bd2_el hf
    replace hf := hf2
    clear hf2
    refine V.callVI dX12_onward_5 ml_X12_117 mo_X12_byteAt mv_X12_byteAt rfl (fun q hq => by cases hq; rfl) (by decide) (Or.inl ⟨rfl, SHL_lt rfl⟩) (th_X12_byteAt (srh.ly ly) q1) rfl rfl ⟨Nat.le_of_ble_eq_true rfl, Nat.le_of_ble_eq_true rfl, fun _ => ⟨rfl, rfl⟩⟩ (Nat.le_of_ble_eq_true rfl) rfl (post_I (fun sq => ?_))
    have srh2 : SR h0 h2 := srh.trans sq
    clear sq q1
    refine V.bipush (v := 32) dX12_onward_8 rfl ?_
    refine V.icmp_eq (tgt := 26) dX12_onward_10 (by decide) (fun c4 => ?_) (fun c4 => ?_)
    · replace hf := ite_p hf c4
      refine V.aload_n dX12_onward_26 rfl rfl rfl ?_
      refine V.dup dX12_onward_27 rfl ?_
      refine V.getI dX12_onward_28 fl_X12_114 rfl (Or.inl ⟨rfl, SHL_lt rfl⟩) rfl rfl ?_
      refine V.iconst (v := 1) dX12_onward_31 rfl ?_
      refine V.iadd dX12_onward_32 ?_
      refine V.putI dX12_onward_33 fl_X12_114 rfl (Or.inl ⟨rfl, SHL_lt rfl⟩) rfl (fun q hq => by cases hq; rfl) ⟨rfl, rfl⟩ ?_
      refine V.nameH (fun g5 eg5 => ?_)
      replace hf := lt_el hf g5 eg5
      have srg5 : SR h0 g5 := by rw [eg5]; exact srh2.I _ _ _
      refine V.goto (tgt := 0) dX12_onward_36 (by decide) ?_
      exact ih g5 srg5 hf
    · replace hf := ite_n hf c4
      refine V.aload_n dX12_onward_13 rfl rfl rfl ?_
      refine V.aload_n dX12_onward_14 rfl rfl rfl ?_
      refine V.getI dX12_onward_15 fl_X12_114 rfl (Or.inl ⟨rfl, SHL_lt rfl⟩) rfl rfl ?_
      obtain ⟨r8, h7, q6, hf2⟩ := bd2_el hf
      replace hf := hf2
      clear hf2
      refine V.callVI dX12_onward_18 ml_X12_117 mo_X12_byteAt mv_X12_byteAt rfl (fun q hq => by cases hq; rfl) (by decide) (Or.inl ⟨rfl, SHL_lt rfl⟩) (th_X12_byteAt (srh2.ly ly) q6) rfl rfl ⟨Nat.le_of_ble_eq_true rfl, Nat.le_of_ble_eq_true rfl, fun _ => ⟨rfl, rfl⟩⟩ (Nat.le_of_ble_eq_true rfl) rfl (post_I (fun sq => ?_))
      have srh7 : SR h0 h7 := srh2.trans sq
      clear sq q6
      refine V.bipush (v := 10) dX12_onward_21 rfl ?_
      refine V.icmp_ne (tgt := 39) dX12_onward_23 (by decide) (fun c9 => ?_) (fun c9 => ?_)
      · replace hf := ite_n hf c9
        refine V.aload_n dX12_onward_39 rfl rfl rfl ?_
        refine V.aload_n dX12_onward_40 rfl rfl rfl ?_
        refine V.getI dX12_onward_41 fl_X12_114 rfl (Or.inl ⟨rfl, SHL_lt rfl⟩) rfl rfl ?_
        refine V.putI dX12_onward_44 fl_X12_120 rfl (Or.inl ⟨rfl, SHL_lt rfl⟩) rfl (fun q hq => by cases hq; rfl) ⟨rfl, rfl⟩ ?_
        refine V.nameH (fun g10 eg10 => ?_)
        replace hf := lt_el hf g10 eg10
        have srg10 : SR h0 g10 := by rw [eg10]; exact srh7.I _ _ _
        refine V.aload_n dX12_onward_47 rfl rfl rfl ?_
        refine V.aload_n dX12_onward_48 rfl rfl rfl ?_
        refine V.getI dX12_onward_49 fl_X12_114 rfl (Or.inl ⟨rfl, SHL_lt rfl⟩) rfl rfl ?_
        obtain ⟨r13, h12, q11, hf2⟩ := bd2_el hf
        replace hf := hf2
        clear hf2
        refine V.callVI dX12_onward_52 ml_X12_117 mo_X12_byteAt mv_X12_byteAt rfl (fun q hq => by cases hq; rfl) (by decide) (Or.inl ⟨rfl, SHL_lt rfl⟩) (th_X12_byteAt (srg10.ly ly) q11) rfl rfl ⟨Nat.le_of_ble_eq_true rfl, Nat.le_of_ble_eq_true rfl, fun _ => ⟨rfl, rfl⟩⟩ (Nat.le_of_ble_eq_true rfl) rfl (post_I (fun sq => ?_))
        have srh12 : SR h0 h12 := srg10.trans sq
        clear sq q11
        refine V.istore_n (ls' := [.ref 113, .int r13]) dX12_onward_55 rfl (by decide) rfl ?_
        refine V.aload_n dX12_onward_56 rfl rfl rfl ?_
        refine V.iload_n dX12_onward_57 rfl rfl ?_
        refine V.putI dX12_onward_58 fl_X12_123 rfl (Or.inl ⟨rfl, SHL_lt rfl⟩) rfl (fun q hq => by cases hq; rfl) ⟨rfl, rfl⟩ ?_
        refine V.nameH (fun g14 eg14 => ?_)
        replace hf := lt_el hf g14 eg14
        have srg14 : SR h0 g14 := by rw [eg14]; exact srh12.I _ _ _
        refine V.iload_n dX12_onward_61 rfl rfl ?_
        refine V.iconst (v := (-1)) dX12_onward_62 rfl ?_
        refine V.icmp_ne (tgt := 74) dX12_onward_63 (by decide) (fun c15 => ?_) (fun c15 => ?_)
        · replace hf := ite_n hf c15
          refine V.iload_n dX12_onward_74 rfl rfl ?_
          obtain ⟨r18, h17, q16, hf2⟩ := bd2_el hf
          replace hf := hf2
          clear hf2
          refine V.callSI dX12_onward_75 ml_X12_129 mo_X12_isSmall ms_X12_isSmall (th_X12_isSmall (srg14.ly ly) q16) rfl rfl ⟨Nat.le_of_ble_eq_true rfl, Nat.le_of_ble_eq_true rfl, fun _ => ⟨rfl, rfl⟩⟩ (Nat.le_of_ble_eq_true rfl) rfl (post_I (fun sq => ?_))
          have srh17 : SR h0 h17 := srg14.trans sq
          clear sq q16
          refine V.if_eq (tgt := 116) dX12_onward_78 (by decide) (fun c19 => ?_) (fun c19 => ?_)
          · replace hf := ite_p hf c19
            refine V.iload_n dX12_onward_116 rfl rfl ?_
            obtain ⟨r22, h21, q20, hf2⟩ := bd2_el hf
            replace hf := hf2
            clear hf2
            refine V.callSI dX12_onward_117 ml_X12_132 mo_X12_isDigit ms_X12_isDigit (th_X12_isDigit (srh17.ly ly) q20) rfl rfl ⟨Nat.le_of_ble_eq_true rfl, Nat.le_of_ble_eq_true rfl, fun _ => ⟨rfl, rfl⟩⟩ (Nat.le_of_ble_eq_true rfl) rfl (post_I (fun sq => ?_))
            have srh21 : SR h0 h21 := srh17.trans sq
            clear sq q20
            refine V.if_eq (tgt := 208) dX12_onward_120 (by decide) (fun c23 => ?_) (fun c23 => ?_)
            · replace hf := ite_p hf c23
              refine V.aload_n dX12_onward_208 rfl rfl rfl ?_
              refine V.dup dX12_onward_209 rfl ?_
              refine V.getI dX12_onward_210 fl_X12_114 rfl (Or.inl ⟨rfl, SHL_lt rfl⟩) rfl rfl ?_
              refine V.iconst (v := 1) dX12_onward_213 rfl ?_
              refine V.iadd dX12_onward_214 ?_
              refine V.putI dX12_onward_215 fl_X12_114 rfl (Or.inl ⟨rfl, SHL_lt rfl⟩) rfl (fun q hq => by cases hq; rfl) ⟨rfl, rfl⟩ ?_
              refine V.nameH (fun g24 eg24 => ?_)
              replace hf := lt_el hf g24 eg24
              have srg24 : SR h0 g24 := by rw [eg24]; exact srh21.I _ _ _
              refine V.aload_n dX12_onward_218 rfl rfl rfl ?_
              refine V.iload_n dX12_onward_219 rfl rfl ?_
              refine V.bipush (v := 59) dX12_onward_220 rfl ?_
              refine V.icmp_eq (tgt := 243) dX12_onward_222 (by decide) (fun c25 => ?_) (fun c25 => ?_)
              · replace hf := ite_p hf c25
                refine V.less (ls' := [.null, .null]) ⟨Or.inl rfl, Or.inl rfl, trivial⟩ ?_
                exact th_X12_onward_243 ly g24 srg24 hf
              · replace hf := ite_n hf c25
                refine V.iload_n dX12_onward_225 rfl rfl ?_
                refine V.bipush (v := 60) dX12_onward_226 rfl ?_
                refine V.icmp_eq (tgt := 243) dX12_onward_228 (by decide) (fun c26 => ?_) (fun c26 => ?_)
                · replace hf := ite_p hf c26
                  refine V.less (ls' := [.null, .null]) ⟨Or.inl rfl, Or.inl rfl, trivial⟩ ?_
                  exact th_X12_onward_243 ly g24 srg24 hf
                · replace hf := ite_n hf c26
                  refine V.iload_n dX12_onward_231 rfl rfl ?_
                  refine V.bipush (v := 62) dX12_onward_232 rfl ?_
                  refine V.icmp_eq (tgt := 243) dX12_onward_234 (by decide) (fun c27 => ?_) (fun c27 => ?_)
                  · replace hf := ite_p hf c27
                    refine V.less (ls' := [.null, .null]) ⟨Or.inl rfl, Or.inl rfl, trivial⟩ ?_
                    exact th_X12_onward_243 ly g24 srg24 hf
                  · replace hf := ite_n hf c27
                    refine V.iload_n dX12_onward_237 rfl rfl ?_
                    refine V.bipush (v := 61) dX12_onward_238 rfl ?_
                    refine V.icmp_ne (tgt := 247) dX12_onward_240 (by decide) (fun c28 => ?_) (fun c28 => ?_)
                    · replace hf := ite_n hf c28
                      refine V.iconst (v := 1) dX12_onward_247 rfl ?_
                      refine V.putI dX12_onward_248 fl_X12_126 rfl (Or.inl ⟨rfl, SHL_lt rfl⟩) rfl (fun q hq => by cases hq; rfl) ⟨rfl, rfl⟩ ?_
                      refine V.nameH (fun g29 eg29 => ?_)
                      replace hf := lt_el hf g29 eg29
                      have srg29 : SR h0 g29 := by rw [eg29]; exact srg24.I _ _ _
                      refine V.vreturn' dX12_onward_251 rfl ly.1 (Or.inl ⟨rfl, rfl⟩) ?_
                      exact ret_V hf srg29
                    · replace hf := ite_p hf c28
                      refine V.less (ls' := [.null, .null]) ⟨Or.inl rfl, Or.inl rfl, trivial⟩ ?_
                      exact th_X12_onward_243 ly g24 srg24 hf
            · replace hf := ite_n hf c23
              refine V.aload_n dX12_onward_123 rfl rfl rfl ?_
              refine V.iconst (v := 0) dX12_onward_124 rfl ?_
              refine V.putI dX12_onward_125 fl_X12_123 rfl (Or.inl ⟨rfl, SHL_lt rfl⟩) rfl (fun q hq => by cases hq; rfl) ⟨rfl, rfl⟩ ?_
              refine V.nameH (fun g30 eg30 => ?_)
              replace hf := lt_el hf g30 eg30
              have srg30 : SR h0 g30 := by rw [eg30]; exact srh21.I _ _ _
              refine V.less (ls' := [.ref 113, .null]) ⟨Or.inr rfl, Or.inl rfl, trivial⟩ ?_
              exact th_X12_onward_128 ly FU g30 srg30 hf
          · replace hf := ite_n hf c19
            refine V.less (ls' := [.ref 113, .null]) ⟨Or.inr rfl, Or.inl rfl, trivial⟩ ?_
            exact th_X12_onward_81 ly FU h17 srh17 hf
        · replace hf := ite_p hf c15
          refine V.aload_n dX12_onward_66 rfl rfl rfl ?_
          refine V.iconst (v := 0) dX12_onward_67 rfl ?_
          refine V.putI dX12_onward_68 fl_X12_126 rfl (Or.inl ⟨rfl, SHL_lt rfl⟩) rfl (fun q hq => by cases hq; rfl) ⟨rfl, rfl⟩ ?_
          refine V.nameH (fun g31 eg31 => ?_)
          replace hf := lt_el hf g31 eg31
          have srg31 : SR h0 g31 := by rw [eg31]; exact srg14.I _ _ _
          refine V.goto (tgt := 251) dX12_onward_71 (by decide) ?_
          refine V.vreturn' dX12_onward_251 rfl ly.1 (Or.inl ⟨rfl, rfl⟩) ?_
          exact ret_V hf srg31
      · replace hf := ite_p hf c9
        refine V.aload_n dX12_onward_26 rfl rfl rfl ?_
        refine V.dup dX12_onward_27 rfl ?_
        refine V.getI dX12_onward_28 fl_X12_114 rfl (Or.inl ⟨rfl, SHL_lt rfl⟩) rfl rfl ?_
        refine V.iconst (v := 1) dX12_onward_31 rfl ?_
        refine V.iadd dX12_onward_32 ?_
        refine V.putI dX12_onward_33 fl_X12_114 rfl (Or.inl ⟨rfl, SHL_lt rfl⟩) rfl (fun q hq => by cases hq; rfl) ⟨rfl, rfl⟩ ?_
        refine V.nameH (fun g32 eg32 => ?_)
        replace hf := lt_el hf g32 eg32
        have srg32 : SR h0 g32 := by rw [eg32]; exact srh7.I _ _ _
        refine V.goto (tgt := 0) dX12_onward_36 (by decide) ?_
        exact ih g32 srg32 hf
set_option maxRecDepth 100000 in
theorem th_X12_onward {h : HP} (ly : Lay h)  {hh : HP} (hf : f_X12_onward h = some hh) : Spec yX12_onward cX12_onward miX12_onward [.ref 113] h (pV fun h' => h' = hh ∧ SR h hh) := by
  refine Spec.of (ls0 := [.ref 113, .null]) mo_X12_onward (Nat.le_of_ble_eq_true rfl) rfl ?_
  rw [ly.1]
  have srh : SR h h := SR.refl h
  unfold f_X12_onward at hf
  exact th_X12_onward_0 ly FU h srh hf
set_option maxRecDepth 100000 in
theorem th_X12_isSign {h : HP} (ly : Lay h) {a1 : Int32} {rr : Int32} {hh : HP} (hf : f_X12_isSign h a1 = some (rr, hh)) : Spec yX12_isSign cX12_isSign miX12_isSign [.ref 113, .int a1] h (pI fun r' h' => (r' = rr ∧ h' = hh) ∧ SR h hh) := by
  refine Spec.of (ls0 := [.ref 113, .int a1]) mo_X12_isSign (Nat.le_of_ble_eq_true rfl) rfl ?_
  rw [ly.1]
  have srh : SR h h := SR.refl h
  unfold f_X12_isSign at hf
  refine V.aload_n dX12_isSign_0 rfl rfl rfl ?_
  refine V.getI dX12_isSign_1 fl_X12_126 rfl (Or.inl ⟨rfl, SHL_lt rfl⟩) rfl rfl ?_
  refine V.iconst (v := 4) dX12_isSign_4 rfl ?_
  refine V.icmp_ne (tgt := 20) dX12_isSign_5 (by decide) (fun c1 => ?_) (fun c1 => ?_)
  · replace hf := ite_n hf c1
    refine V.iconst (v := 0) dX12_isSign_20 rfl ?_
    refine V.ireturn dX12_isSign_21 rfl rfl ⟨rfl, rfl⟩ ly.1 ?_
    exact ret_I hf srh
  · replace hf := ite_p hf c1
    refine V.aload_n dX12_isSign_8 rfl rfl rfl ?_
    refine V.getI dX12_isSign_9 fl_X12_123 rfl (Or.inl ⟨rfl, SHL_lt rfl⟩) rfl rfl ?_
    refine V.iload_n dX12_isSign_12 rfl rfl ?_
    refine V.icmp_ne (tgt := 20) dX12_isSign_13 (by decide) (fun c2 => ?_) (fun c2 => ?_)
    · replace hf := ite_n hf c2
      refine V.iconst (v := 0) dX12_isSign_20 rfl ?_
      refine V.ireturn dX12_isSign_21 rfl rfl ⟨rfl, rfl⟩ ly.1 ?_
      exact ret_I hf srh
    · replace hf := ite_p hf c2
      refine V.iconst (v := 1) dX12_isSign_16 rfl ?_
      refine V.goto (tgt := 21) dX12_isSign_17 (by decide) ?_
      refine V.ireturn dX12_isSign_21 rfl rfl ⟨rfl, rfl⟩ ly.1 ?_
      exact ret_I hf srh
set_option maxRecDepth 100000 in
theorem th_X12_inWords_68 {h0 : HP} (ly : Lay h0) {rr : Int32} {hh : HP} {K14 : Int32 → Int32 → HP → Option (Int32 × HP)} (kok14 : ∀ (l2 : Int32) (l3 : Int32) (g : HP), SR h0 g → K14 l2 l3 g = some (rr, hh) → V cX12_inWords miX12_inWords (ZI h0 miX12_inWords rr hh) 130 14 [.ref 113, .ref (NUL + 3), .int l2, .int l3, .null, .null, .null] [] g) : ∀ (n : Nat) (l2 : Int32) (l3 : Int32) (l4 : Int32) (l5 : Int32) (l6 : Int32) (h : HP), SR h0 h → f_X12_inWords_68 K14 n l2 l3 l4 l5 l6 h = some (rr, hh) → V cX12_inWords miX12_inWords (ZI h0 miX12_inWords rr hh) 130 68 [.ref 113, .ref (NUL + 3), .int l2, .int l3, .int l4, .int l5, .int l6] [] h := by
  intro n
  induction n with
  | zero => intro l2 l3 l4 l5 l6 h srh hf; exact absurd hf (by unfold f_X12_inWords_68; simp)
  | succ n ih =>
    intro l2 l3 l4 l5 l6 h srh hf
    unfold f_X12_inWords_68 at hf
    refine V.iload dX12_inWords_68 rfl ?_
    refine V.iload dX12_inWords_70 rfl ?_
    refine V.icmp_ge (tgt := 115) dX12_inWords_72 (by decide) (fun c12 => ?_) (fun c12 => ?_)
    · replace hf := ite_p hf c12
      refine V.iload dX12_inWords_115 rfl ?_
      refine V.if_eq (tgt := 122) dX12_inWords_117 (by decide) (fun c13 => ?_) (fun c13 => ?_)
      · replace hf := ite_p hf c13
        obtain ⟨x14, ex14⟩ : ∃ y : Int32, y = l2 + 1 := ⟨_, rfl⟩
        replace hf := lt_el hf x14 ex14
        refine V.iinc (v := x14) (ls' := [.ref 113, .ref (NUL + 3), .int x14, .int l3, .int l4, .int l5, .int l6]) dX12_inWords_122 rfl (by decide) ex14.symm rfl ?_
        refine V.iload dX12_inWords_125 rfl ?_
        refine V.iconst (v := 1) dX12_inWords_127 rfl ?_
        refine V.iadd dX12_inWords_128 ?_
        refine V.nmi (fun x15 ex15 => ?_)
        replace hf := lt_el hf x15 ex15
        refine V.istore_n (ls' := [.ref 113, .ref (NUL + 3), .int x14, .int x15, .int l4, .int l5, .int l6]) dX12_inWords_129 rfl (by decide) rfl ?_
        refine V.goto (tgt := 14) dX12_inWords_130 (by decide) ?_
        refine V.less (ls' := [.ref 113, .ref (NUL + 3), .int x14, .int x15, .null, .null, .null]) ⟨Or.inr rfl, Or.inr rfl, Or.inr rfl, Or.inr rfl, Or.inl rfl, Or.inl rfl, Or.inl rfl, trivial⟩ ?_
        exact kok14 x14 x15 h srh hf
      · replace hf := ite_n hf c13
        refine V.iload_n dX12_inWords_120 rfl rfl ?_
        refine V.ireturn dX12_inWords_121 rfl rfl ⟨rfl, rfl⟩ ly.1 ?_
        exact ret_I hf srh
    · replace hf := ite_n hf c12
      refine V.iload dX12_inWords_75 rfl ?_
      refine V.if_eq (tgt := 115) dX12_inWords_77 (by decide) (fun c16 => ?_) (fun c16 => ?_)
      · replace hf := ite_p hf c16
        refine V.iload dX12_inWords_115 rfl ?_
        refine V.if_eq (tgt := 122) dX12_inWords_117 (by decide) (fun c17 => ?_) (fun c17 => ?_)
        · replace hf := ite_p hf c17
          obtain ⟨x18, ex18⟩ : ∃ y : Int32, y = l2 + 1 := ⟨_, rfl⟩
          replace hf := lt_el hf x18 ex18
          refine V.iinc (v := x18) (ls' := [.ref 113, .ref (NUL + 3), .int x18, .int l3, .int l4, .int l5, .int l6]) dX12_inWords_122 rfl (by decide) ex18.symm rfl ?_
          refine V.iload dX12_inWords_125 rfl ?_
          refine V.iconst (v := 1) dX12_inWords_127 rfl ?_
          refine V.iadd dX12_inWords_128 ?_
          refine V.nmi (fun x19 ex19 => ?_)
          replace hf := lt_el hf x19 ex19
          refine V.istore_n (ls' := [.ref 113, .ref (NUL + 3), .int x18, .int x19, .int l4, .int l5, .int l6]) dX12_inWords_129 rfl (by decide) rfl ?_
          refine V.goto (tgt := 14) dX12_inWords_130 (by decide) ?_
          refine V.less (ls' := [.ref 113, .ref (NUL + 3), .int x18, .int x19, .null, .null, .null]) ⟨Or.inr rfl, Or.inr rfl, Or.inr rfl, Or.inr rfl, Or.inl rfl, Or.inl rfl, Or.inl rfl, trivial⟩ ?_
          exact kok14 x18 x19 h srh hf
        · replace hf := ite_n hf c17
          refine V.iload_n dX12_inWords_120 rfl rfl ?_
          refine V.ireturn dX12_inWords_121 rfl rfl ⟨rfl, rfl⟩ ly.1 ?_
          exact ret_I hf srh
      · replace hf := ite_n hf c16
        refine V.aload_nS dX12_inWords_80 rfl rfl (by decide) (by decide) ?_
        refine V.iload dX12_inWords_81 rfl ?_
        obtain ⟨r22, h21, q20, hf2⟩ := bd2_el hf
        replace hf := hf2
        clear hf2
        refine V.callVSI (by decide) dX12_inWords_83 lkS_X12_147 mo_J0_charAt_5068e mv_J0_charAt_5068e rfl (th_J0_charAt_5068e (srh.ly ly) q20) rfl rfl ⟨Nat.le_of_ble_eq_true rfl, Nat.le_of_ble_eq_true rfl, fun _ => ⟨rfl, rfl⟩⟩ (Nat.le_of_ble_eq_true rfl) rfl (post_I (fun sq => ?_))
        have srh21 : SR h0 h21 := srh.trans sq
        clear sq q20
        refine V.aload_n dX12_inWords_86 rfl rfl rfl ?_
        refine V.aload_n dX12_inWords_87 rfl rfl rfl ?_
        refine V.getI dX12_inWords_88 fl_X12_120 rfl (Or.inl ⟨rfl, SHL_lt rfl⟩) rfl rfl ?_
        refine V.iload dX12_inWords_91 rfl ?_
        refine V.iadd dX12_inWords_93 ?_
        refine V.iload_n dX12_inWords_94 rfl rfl ?_
        refine V.isub dX12_inWords_95 ?_
        obtain ⟨r25, h24, q23, hf2⟩ := bd2_el hf
        replace hf := hf2
        clear hf2
        refine V.callVI dX12_inWords_96 ml_X12_117 mo_X12_byteAt mv_X12_byteAt rfl (fun q hq => by cases hq; rfl) (by decide) (Or.inl ⟨rfl, SHL_lt rfl⟩) (th_X12_byteAt (srh21.ly ly) q23) rfl rfl ⟨Nat.le_of_ble_eq_true rfl, Nat.le_of_ble_eq_true rfl, fun _ => ⟨rfl, rfl⟩⟩ (Nat.le_of_ble_eq_true rfl) rfl (post_I (fun sq => ?_))
        have srh24 : SR h0 h24 := srh21.trans sq
        clear sq q23
        refine V.icmp_ne (tgt := 106) dX12_inWords_99 (by decide) (fun c26 => ?_) (fun c26 => ?_)
        · replace hf := ite_n hf c26
          refine V.iconst (v := 0) dX12_inWords_106 rfl ?_
          refine V.istore (ls' := [.ref 113, .ref (NUL + 3), .int l2, .int l3, .int l4, .int 0, .int l6]) dX12_inWords_107 (by decide) rfl ?_
          obtain ⟨x27, ex27⟩ : ∃ y : Int32, y = l6 + 1 := ⟨_, rfl⟩
          replace hf := lt_el hf x27 ex27
          refine V.iinc (v := x27) (ls' := [.ref 113, .ref (NUL + 3), .int l2, .int l3, .int l4, .int 0, .int x27]) dX12_inWords_109 rfl (by decide) ex27.symm rfl ?_
          refine V.goto (tgt := 68) dX12_inWords_112 (by decide) ?_
          exact ih l2 l3 l4 0 x27 h24 srh24 hf
        · replace hf := ite_p hf c26
          refine V.iconst (v := 1) dX12_inWords_102 rfl ?_
          refine V.goto (tgt := 107) dX12_inWords_103 (by decide) ?_
          refine V.istore (ls' := [.ref 113, .ref (NUL + 3), .int l2, .int l3, .int l4, .int 1, .int l6]) dX12_inWords_107 (by decide) rfl ?_
          obtain ⟨x28, ex28⟩ : ∃ y : Int32, y = l6 + 1 := ⟨_, rfl⟩
          replace hf := lt_el hf x28 ex28
          refine V.iinc (v := x28) (ls' := [.ref 113, .ref (NUL + 3), .int l2, .int l3, .int l4, .int 1, .int x28]) dX12_inWords_109 rfl (by decide) ex28.symm rfl ?_
          refine V.goto (tgt := 68) dX12_inWords_112 (by decide) ?_
          exact ih l2 l3 l4 1 x28 h24 srh24 hf
set_option maxRecDepth 100000 in
theorem th_X12_inWords_25 {h0 : HP} (ly : Lay h0) {rr : Int32} {hh : HP} {K14 : Int32 → Int32 → HP → Option (Int32 × HP)} (kok14 : ∀ (l2 : Int32) (l3 : Int32) (g : HP), SR h0 g → K14 l2 l3 g = some (rr, hh) → V cX12_inWords miX12_inWords (ZI h0 miX12_inWords rr hh) 130 14 [.ref 113, .ref (NUL + 3), .int l2, .int l3, .null, .null, .null] [] g) : ∀ (n : Nat) (l2 : Int32) (l3 : Int32) (l4 : Int32) (h : HP), SR h0 h → f_X12_inWords_25 K14 n l2 l3 l4 h = some (rr, hh) → V cX12_inWords miX12_inWords (ZI h0 miX12_inWords rr hh) 130 25 [.ref 113, .ref (NUL + 3), .int l2, .int l3, .int l4, .null, .null] [] h := by
  intro n
  induction n with
  | zero => intro l2 l3 l4 h srh hf; exact absurd hf (by unfold f_X12_inWords_25; simp)
  | succ n ih =>
    intro l2 l3 l4 h srh hf
    unfold f_X12_inWords_25 at hf
    refine V.aload_nS dX12_inWords_25 rfl rfl (by decide) (by decide) ?_
    refine V.iload dX12_inWords_26 rfl ?_
    obtain ⟨r8, h7, q6, hf2⟩ := bd2_el hf
    replace hf := hf2
    clear hf2
    refine V.callVSI (by decide) dX12_inWords_28 lkS_X12_147 mo_J0_charAt_5068e mv_J0_charAt_5068e rfl (th_J0_charAt_5068e (srh.ly ly) q6) rfl rfl ⟨Nat.le_of_ble_eq_true rfl, Nat.le_of_ble_eq_true rfl, fun _ => ⟨rfl, rfl⟩⟩ (Nat.le_of_ble_eq_true rfl) rfl (post_I (fun sq => ?_))
    have srh7 : SR h0 h7 := srh.trans sq
    clear sq q6
    refine V.bipush (v := 32) dX12_inWords_31 rfl ?_
    refine V.icmp_eq (tgt := 42) dX12_inWords_33 (by decide) (fun c9 => ?_) (fun c9 => ?_)
    · replace hf := ite_p hf c9
      refine V.iload dX12_inWords_42 rfl ?_
      refine V.iload_n dX12_inWords_44 rfl rfl ?_
      refine V.isub dX12_inWords_45 ?_
      refine V.aload_n dX12_inWords_46 rfl rfl rfl ?_
      refine V.getI dX12_inWords_47 fl_X12_114 rfl (Or.inl ⟨rfl, SHL_lt rfl⟩) rfl rfl ?_
      refine V.aload_n dX12_inWords_50 rfl rfl rfl ?_
      refine V.getI dX12_inWords_51 fl_X12_120 rfl (Or.inl ⟨rfl, SHL_lt rfl⟩) rfl rfl ?_
      refine V.isub dX12_inWords_54 ?_
      refine V.icmp_ne (tgt := 62) dX12_inWords_55 (by decide) (fun c10 => ?_) (fun c10 => ?_)
      · replace hf := ite_n hf c10
        refine V.iconst (v := 0) dX12_inWords_62 rfl ?_
        refine V.istore (ls' := [.ref 113, .ref (NUL + 3), .int l2, .int l3, .int l4, .int 0, .null]) dX12_inWords_63 (by decide) rfl ?_
        refine V.iload_n dX12_inWords_65 rfl rfl ?_
        refine V.istore (ls' := [.ref 113, .ref (NUL + 3), .int l2, .int l3, .int l4, .int 0, .int l3]) dX12_inWords_66 (by decide) rfl ?_
        exact th_X12_inWords_68 ly kok14 FU l2 l3 l4 0 l3 h7 srh7 hf
      · replace hf := ite_p hf c10
        refine V.iconst (v := 1) dX12_inWords_58 rfl ?_
        refine V.goto (tgt := 63) dX12_inWords_59 (by decide) ?_
        refine V.istore (ls' := [.ref 113, .ref (NUL + 3), .int l2, .int l3, .int l4, .int 1, .null]) dX12_inWords_63 (by decide) rfl ?_
        refine V.iload_n dX12_inWords_65 rfl rfl ?_
        refine V.istore (ls' := [.ref 113, .ref (NUL + 3), .int l2, .int l3, .int l4, .int 1, .int l3]) dX12_inWords_66 (by decide) rfl ?_
        exact th_X12_inWords_68 ly kok14 FU l2 l3 l4 1 l3 h7 srh7 hf
    · replace hf := ite_n hf c9
      obtain ⟨x11, ex11⟩ : ∃ y : Int32, y = l4 + 1 := ⟨_, rfl⟩
      replace hf := lt_el hf x11 ex11
      refine V.iinc (v := x11) (ls' := [.ref 113, .ref (NUL + 3), .int l2, .int l3, .int x11, .null, .null]) dX12_inWords_36 rfl (by decide) ex11.symm rfl ?_
      refine V.goto (tgt := 25) dX12_inWords_39 (by decide) ?_
      exact ih l2 l3 x11 h7 srh7 hf
set_option maxRecDepth 100000 in
theorem th_X12_inWords_14 {h0 : HP} (ly : Lay h0) {rr : Int32} {hh : HP}  : ∀ (n : Nat) (l2 : Int32) (l3 : Int32) (h : HP), SR h0 h → f_X12_inWords_14 n l2 l3 h = some (rr, hh) → V cX12_inWords miX12_inWords (ZI h0 miX12_inWords rr hh) 130 14 [.ref 113, .ref (NUL + 3), .int l2, .int l3, .null, .null, .null] [] h := by
  intro n
  induction n with
  | zero => intro l2 l3 h srh hf; exact absurd hf (by unfold f_X12_inWords_14; simp)
  | succ n ih =>
    intro l2 l3 h srh hf
    unfold f_X12_inWords_14 at hf
    refine V.iload_n dX12_inWords_14 rfl rfl ?_
    refine V.aload_nS dX12_inWords_15 rfl rfl (by decide) (by decide) ?_
    obtain ⟨r4, h3, q2, hf2⟩ := bd2_el hf
    replace hf := hf2
    clear hf2
    refine V.callVSI (by decide) dX12_inWords_16 lkS_X12_141 mo_J0_length_8abf5 mv_J0_length_8abf5 rfl (th_J0_length_8abf5 (srh.ly ly) q2) rfl rfl ⟨Nat.le_of_ble_eq_true rfl, Nat.le_of_ble_eq_true rfl, fun _ => ⟨rfl, rfl⟩⟩ (Nat.le_of_ble_eq_true rfl) rfl (post_I (fun sq => ?_))
    have srh3 : SR h0 h3 := srh.trans sq
    clear sq q2
    refine V.icmp_ge (tgt := 133) dX12_inWords_19 (by decide) (fun c5 => ?_) (fun c5 => ?_)
    · replace hf := ite_p hf c5
      refine V.iconst (v := (-1)) dX12_inWords_133 rfl ?_
      refine V.ireturn dX12_inWords_134 rfl rfl ⟨rfl, rfl⟩ ly.1 ?_
      exact ret_I hf srh3
    · replace hf := ite_n hf c5
      refine V.iload_n dX12_inWords_22 rfl rfl ?_
      refine V.istore (ls' := [.ref 113, .ref (NUL + 3), .int l2, .int l3, .int l3, .null, .null]) dX12_inWords_23 (by decide) rfl ?_
      exact th_X12_inWords_25 ly ih FU l2 l3 l3 h3 srh3 hf
set_option maxRecDepth 100000 in
theorem th_X12_inWords {h : HP} (ly : Lay h)  {rr : Int32} {hh : HP} (hf : f_X12_inWords h = some (rr, hh)) : Spec yX12_inWords cX12_inWords miX12_inWords [.ref 113, .ref (NUL + 3)] h (pI fun r' h' => (r' = rr ∧ h' = hh) ∧ SR h hh) := by
  refine Spec.of (ls0 := [.ref 113, .ref (NUL + 3), .null, .null, .null, .null, .null]) mo_X12_inWords (Nat.le_of_ble_eq_true rfl) rfl ?_
  rw [ly.1]
  have srh : SR h h := SR.refl h
  unfold f_X12_inWords at hf
  refine V.aload_n dX12_inWords_0 rfl rfl rfl ?_
  refine V.getI dX12_inWords_1 fl_X12_126 rfl (Or.inl ⟨rfl, SHL_lt rfl⟩) rfl rfl ?_
  refine V.iconst (v := 2) dX12_inWords_4 rfl ?_
  refine V.icmp_eq (tgt := 10) dX12_inWords_5 (by decide) (fun c1 => ?_) (fun c1 => ?_)
  · replace hf := ite_p hf c1
    refine V.iconst (v := 0) dX12_inWords_10 rfl ?_
    refine V.istore_n (ls' := [.ref 113, .ref (NUL + 3), .int 0, .null, .null, .null, .null]) dX12_inWords_11 rfl (by decide) rfl ?_
    refine V.iconst (v := 1) dX12_inWords_12 rfl ?_
    refine V.istore_n (ls' := [.ref 113, .ref (NUL + 3), .int 0, .int 1, .null, .null, .null]) dX12_inWords_13 rfl (by decide) rfl ?_
    exact th_X12_inWords_14 ly FU 0 1 h srh hf
  · replace hf := ite_n hf c1
    refine V.iconst (v := (-1)) dX12_inWords_8 rfl ?_
    refine V.ireturn dX12_inWords_9 rfl rfl ⟨rfl, rfl⟩ ly.1 ?_
    exact ret_I hf srh
set_option maxRecDepth 100000 in
theorem th_X12_fails {h : HP} (ly : Lay h) {a1 : Int32} {rr : Int32} {hh : HP} (hf : f_X12_fails h a1 = some (rr, hh)) : Spec yX12_fails cX12_fails miX12_fails [.ref 113, .int a1] h (pI fun r' h' => (r' = rr ∧ h' = hh) ∧ SR h hh) := by
  refine Spec.of (ls0 := [.ref 113, .int a1]) mo_X12_fails (Nat.le_of_ble_eq_true rfl) rfl ?_
  rw [ly.1]
  have srh : SR h h := SR.refl h
  unfold f_X12_fails at hf
  refine V.aload_n dX12_fails_0 rfl rfl rfl ?_
  refine V.getI dX12_fails_1 fl_X12_151 rfl (Or.inl ⟨rfl, SHL_lt rfl⟩) rfl rfl ?_
  refine V.if_ne (tgt := 32) dX12_fails_4 (by decide) (fun c1 => ?_) (fun c1 => ?_)
  · replace hf := ite_n hf c1
    refine V.iconst (v := 0) dX12_fails_32 rfl ?_
    refine V.ireturn dX12_fails_33 rfl rfl ⟨rfl, rfl⟩ ly.1 ?_
    exact ret_I hf srh
  · replace hf := ite_p hf c1
    refine V.aload_n dX12_fails_7 rfl rfl rfl ?_
    refine V.aload_n dX12_fails_8 rfl rfl rfl ?_
    refine V.getI dX12_fails_9 fl_X12_126 rfl (Or.inl ⟨rfl, SHL_lt rfl⟩) rfl rfl ?_
    refine V.iconst (v := 1) dX12_fails_12 rfl ?_
    refine V.icmp_ne (tgt := 20) dX12_fails_13 (by decide) (fun c2 => ?_) (fun c2 => ?_)
    · replace hf := ite_n hf c2
      refine V.iload_n dX12_fails_20 rfl rfl ?_
      refine V.putI dX12_fails_21 fl_X12_151 rfl (Or.inl ⟨rfl, SHL_lt rfl⟩) rfl (fun q hq => by cases hq; rfl) ⟨rfl, rfl⟩ ?_
      refine V.nameH (fun g3 eg3 => ?_)
      replace hf := lt_el hf g3 eg3
      have srg3 : SR h g3 := by rw [eg3]; exact srh.I _ _ _
      refine V.aload_n dX12_fails_24 rfl rfl rfl ?_
      refine V.aload_n dX12_fails_25 rfl rfl rfl ?_
      refine V.getI dX12_fails_26 fl_X12_120 rfl (Or.inl ⟨rfl, SHL_lt rfl⟩) rfl rfl ?_
      refine V.putI dX12_fails_29 fl_X12_41 rfl (Or.inl ⟨rfl, SHL_lt rfl⟩) rfl (fun q hq => by cases hq; rfl) ⟨rfl, rfl⟩ ?_
      refine V.nameH (fun g4 eg4 => ?_)
      replace hf := lt_el hf g4 eg4
      have srg4 : SR h g4 := by rw [eg4]; exact srg3.I _ _ _
      refine V.iconst (v := 0) dX12_fails_32 rfl ?_
      refine V.ireturn dX12_fails_33 rfl rfl ⟨rfl, rfl⟩ ly.1 ?_
      exact ret_I hf srg4
    · replace hf := ite_p hf c2
      refine V.iconst (v := 1) dX12_fails_16 rfl ?_
      refine V.goto (tgt := 21) dX12_fails_17 (by decide) ?_
      refine V.putI dX12_fails_21 fl_X12_151 rfl (Or.inl ⟨rfl, SHL_lt rfl⟩) rfl (fun q hq => by cases hq; rfl) ⟨rfl, rfl⟩ ?_
      refine V.nameH (fun g5 eg5 => ?_)
      replace hf := lt_el hf g5 eg5
      have srg5 : SR h g5 := by rw [eg5]; exact srh.I _ _ _
      refine V.aload_n dX12_fails_24 rfl rfl rfl ?_
      refine V.aload_n dX12_fails_25 rfl rfl rfl ?_
      refine V.getI dX12_fails_26 fl_X12_120 rfl (Or.inl ⟨rfl, SHL_lt rfl⟩) rfl rfl ?_
      refine V.putI dX12_fails_29 fl_X12_41 rfl (Or.inl ⟨rfl, SHL_lt rfl⟩) rfl (fun q hq => by cases hq; rfl) ⟨rfl, rfl⟩ ?_
      refine V.nameH (fun g6 eg6 => ?_)
      replace hf := lt_el hf g6 eg6
      have srg6 : SR h g6 := by rw [eg6]; exact srg5.I _ _ _
      refine V.iconst (v := 0) dX12_fails_32 rfl ?_
      refine V.ireturn dX12_fails_33 rfl rfl ⟨rfl, rfl⟩ ly.1 ?_
      exact ret_I hf srg6
set_option maxRecDepth 100000 in
theorem th_X12_begins_26 {h0 : HP} (ly : Lay h0) {rr : Int32} {hh : HP}  : ∀ (n : Nat) (l1 : Int32) (l3 : Int32) (h : HP), SR h0 h → f_X12_begins_26 n l1 l3 h = some (rr, hh) → V cX12_begins miX12_begins (ZI h0 miX12_begins rr hh) 130 26 [.ref 113, .int l1, .null, .int l3] [] h := by
  intro n
  induction n with
  | zero => intro l1 l3 h srh hf; exact absurd hf (by unfold f_X12_begins_26; simp)
  | succ n ih =>
    intro l1 l3 h srh hf
    unfold f_X12_begins_26 at hf
    refine V.iload_n dX12_begins_26 rfl rfl ?_
    refine V.iload_n dX12_begins_27 rfl rfl ?_
    refine V.icmp_ge (tgt := 49) dX12_begins_28 (by decide) (fun c5 => ?_) (fun c5 => ?_)
    · replace hf := ite_p hf c5
      refine V.aload_n dX12_begins_49 rfl rfl rfl ?_
      refine V.iconst (v := 0) dX12_begins_50 rfl ?_
      refine V.putI dX12_begins_51 fl_X12_105 rfl (Or.inl ⟨rfl, SHL_lt rfl⟩) rfl (fun q hq => by cases hq; rfl) ⟨rfl, rfl⟩ ?_
      refine V.nameH (fun g6 eg6 => ?_)
      replace hf := lt_el hf g6 eg6
      have srg6 : SR h0 g6 := by rw [eg6]; exact srh.I _ _ _
      refine V.aload_n dX12_begins_54 rfl rfl rfl ?_
      refine V.iconst (v := 0) dX12_begins_55 rfl ?_
      refine V.putI dX12_begins_56 fl_X12_151 rfl (Or.inl ⟨rfl, SHL_lt rfl⟩) rfl (fun q hq => by cases hq; rfl) ⟨rfl, rfl⟩ ?_
      refine V.nameH (fun g7 eg7 => ?_)
      replace hf := lt_el hf g7 eg7
      have srg7 : SR h0 g7 := by rw [eg7]; exact srg6.I _ _ _
      refine V.aload_n dX12_begins_59 rfl rfl rfl ?_
      refine V.iconst (v := (-1)) dX12_begins_60 rfl ?_
      refine V.putI dX12_begins_61 fl_X12_41 rfl (Or.inl ⟨rfl, SHL_lt rfl⟩) rfl (fun q hq => by cases hq; rfl) ⟨rfl, rfl⟩ ?_
      refine V.nameH (fun g8 eg8 => ?_)
      replace hf := lt_el hf g8 eg8
      have srg8 : SR h0 g8 := by rw [eg8]; exact srg7.I _ _ _
      refine V.aload_n dX12_begins_64 rfl rfl rfl ?_
      refine V.iconst (v := 0) dX12_begins_65 rfl ?_
      refine V.putI dX12_begins_66 fl_X12_114 rfl (Or.inl ⟨rfl, SHL_lt rfl⟩) rfl (fun q hq => by cases hq; rfl) ⟨rfl, rfl⟩ ?_
      refine V.nameH (fun g9 eg9 => ?_)
      replace hf := lt_el hf g9 eg9
      have srg9 : SR h0 g9 := by rw [eg9]; exact srg8.I _ _ _
      refine V.aload_n dX12_begins_69 rfl rfl rfl ?_
      refine V.iconst (v := 0) dX12_begins_70 rfl ?_
      refine V.putI dX12_begins_71 fl_X12_154 rfl (Or.inl ⟨rfl, SHL_lt rfl⟩) rfl (fun q hq => by cases hq; rfl) ⟨rfl, rfl⟩ ?_
      refine V.nameH (fun g10 eg10 => ?_)
      replace hf := lt_el hf g10 eg10
      have srg10 : SR h0 g10 := by rw [eg10]; exact srg9.I _ _ _
      refine V.aload_n dX12_begins_74 rfl rfl rfl ?_
      obtain ⟨h12, q11, hf2⟩ := bd_el hf
      replace hf := hf2
      clear hf2
      refine V.callVV dX12_begins_75 ml_X12_157 mo_X12_onward mv_X12_onward rfl (fun q hq => by cases hq; rfl) (by decide) (Or.inl ⟨rfl, SHL_lt rfl⟩) (th_X12_onward (srg10.ly ly) q11) rfl rfl ⟨Nat.le_of_ble_eq_true rfl, Nat.le_of_ble_eq_true rfl, fun _ => ⟨rfl, rfl⟩⟩ (Nat.le_of_ble_eq_true rfl) (Or.inl rfl) (post_V (fun sq => ?_))
      have srh12 : SR h0 h12 := srg10.trans sq
      clear sq q11
      refine V.iconst (v := 1) dX12_begins_78 rfl ?_
      refine V.ireturn dX12_begins_79 rfl rfl ⟨rfl, rfl⟩ ly.1 ?_
      exact ret_I hf srh12
    · replace hf := ite_n hf c5
      refine V.aload_n dX12_begins_31 rfl rfl rfl ?_
      refine V.getR (r := 120) dX12_begins_32 fl_X12_34 rfl (Or.inl ⟨rfl, SHL_lt rfl⟩) rfl (ly_113_9 (srh.ly ly)) ?_
      refine V.iload_n dX12_begins_35 rfl rfl ?_
      refine V.aload_n dX12_begins_36 rfl rfl rfl ?_
      refine V.getR (r := 119) dX12_begins_37 fl_X12_30 rfl (Or.inl ⟨rfl, SHL_lt rfl⟩) rfl (ly_113_8 (srh.ly ly)) ?_
      refine V.iload_n dX12_begins_40 rfl rfl ?_
      obtain ⟨b13, hf2⟩ := gdi_el hf
      replace hf := hf2
      clear hf2
      refine V.baload dX12_begins_41 rfl (Or.inl ⟨rfl, SHL_lt rfl⟩) b13 ?_
      obtain ⟨b14, hf2⟩ := gdi_el hf
      replace hf := hf2
      clear hf2
      refine V.bastore dX12_begins_42 rfl (Or.inl ⟨rfl, SHL_lt rfl⟩) b14 ?_
      refine V.nameH (fun g15 eg15 => ?_)
      replace hf := lt_el hf g15 eg15
      have srg15 : SR h0 g15 := by rw [eg15]; exact srh.I _ _ _
      obtain ⟨x16, ex16⟩ : ∃ y : Int32, y = l3 + 1 := ⟨_, rfl⟩
      replace hf := lt_el hf x16 ex16
      refine V.iinc (v := x16) (ls' := [.ref 113, .int l1, .null, .int x16]) dX12_begins_43 rfl (by decide) ex16.symm rfl ?_
      refine V.goto (tgt := 26) dX12_begins_46 (by decide) ?_
      exact ih l1 x16 g15 srg15 hf
set_option maxRecDepth 100000 in
theorem th_X12_begins {h : HP} (ly : Lay h) {a1 : Int32} {a2 : Int32} {rr : Int32} {hh : HP} (hf : f_X12_begins h a1 a2 = some (rr, hh)) : Spec yX12_begins cX12_begins miX12_begins [.ref 113, .int a1, .int a2] h (pI fun r' h' => (r' = rr ∧ h' = hh) ∧ SR h hh) := by
  refine Spec.of (ls0 := [.ref 113, .int a1, .int a2, .null]) mo_X12_begins (Nat.le_of_ble_eq_true rfl) rfl ?_
  rw [ly.1]
  have srh : SR h h := SR.refl h
  unfold f_X12_begins at hf
  refine V.iload_n dX12_begins_0 rfl rfl ?_
  refine V.if_lt (tgt := 17) dX12_begins_1 (by decide) (fun c1 => ?_) (fun c1 => ?_)
  · replace hf := ite_p hf c1
    refine V.iconst (v := 0) dX12_begins_17 rfl ?_
    refine V.ireturn dX12_begins_18 rfl rfl ⟨rfl, rfl⟩ ly.1 ?_
    exact ret_I hf srh
  · replace hf := ite_n hf c1
    refine V.iload_n dX12_begins_4 rfl rfl ?_
    refine V.aload_n dX12_begins_5 rfl rfl rfl ?_
    refine V.getI dX12_begins_6 fl_X12_105 rfl (Or.inl ⟨rfl, SHL_lt rfl⟩) rfl rfl ?_
    refine V.icmp_gt (tgt := 17) dX12_begins_9 (by decide) (fun c2 => ?_) (fun c2 => ?_)
    · replace hf := ite_p hf c2
      refine V.iconst (v := 0) dX12_begins_17 rfl ?_
      refine V.ireturn dX12_begins_18 rfl rfl ⟨rfl, rfl⟩ ly.1 ?_
      exact ret_I hf srh
    · replace hf := ite_n hf c2
      refine V.iload_n dX12_begins_12 rfl rfl ?_
      refine V.iload_n dX12_begins_13 rfl rfl ?_
      refine V.icmp_le (tgt := 19) dX12_begins_14 (by decide) (fun c3 => ?_) (fun c3 => ?_)
      · replace hf := ite_p hf c3
        refine V.aload_n dX12_begins_19 rfl rfl rfl ?_
        refine V.iload_n dX12_begins_20 rfl rfl ?_
        refine V.putI dX12_begins_21 fl_X12_111 rfl (Or.inl ⟨rfl, SHL_lt rfl⟩) rfl (fun q hq => by cases hq; rfl) ⟨rfl, rfl⟩ ?_
        refine V.nameH (fun g4 eg4 => ?_)
        replace hf := lt_el hf g4 eg4
        have srg4 : SR h g4 := by rw [eg4]; exact srh.I _ _ _
        refine V.iconst (v := 0) dX12_begins_24 rfl ?_
        refine V.istore_n (ls' := [.ref 113, .int a1, .int a2, .int 0]) dX12_begins_25 rfl (by decide) rfl ?_
        refine V.less (ls' := [.ref 113, .int a1, .null, .int 0]) ⟨Or.inr rfl, Or.inr rfl, Or.inl rfl, Or.inr rfl, trivial⟩ ?_
        exact th_X12_begins_26 ly FU a1 0 g4 srg4 hf
      · replace hf := ite_n hf c3
        refine V.iconst (v := 0) dX12_begins_17 rfl ?_
        refine V.ireturn dX12_begins_18 rfl rfl ⟨rfl, rfl⟩ ly.1 ?_
        exact ret_I hf srh
set_option maxRecDepth 100000 in
theorem th_X12_wantSign {h : HP} (ly : Lay h) {a1 : Int32} {rr : Int32} {hh : HP} (hf : f_X12_wantSign h a1 = some (rr, hh)) : Spec yX12_wantSign cX12_wantSign miX12_wantSign [.ref 113, .int a1] h (pI fun r' h' => (r' = rr ∧ h' = hh) ∧ SR h hh) := by
  refine Spec.of (ls0 := [.ref 113, .int a1]) mo_X12_wantSign (Nat.le_of_ble_eq_true rfl) rfl ?_
  rw [ly.1]
  have srh : SR h h := SR.refl h
  unfold f_X12_wantSign at hf
  refine V.aload_n dX12_wantSign_0 rfl rfl rfl ?_
  refine V.iload_n dX12_wantSign_1 rfl rfl ?_
  obtain ⟨r3, h2, q1, hf2⟩ := bd2_el hf
  replace hf := hf2
  clear hf2
  refine V.callVI dX12_wantSign_2 ml_X12_160 mo_X12_isSign mv_X12_isSign rfl (fun q hq => by cases hq; rfl) (by decide) (Or.inl ⟨rfl, SHL_lt rfl⟩) (th_X12_isSign (srh.ly ly) q1) rfl rfl ⟨Nat.le_of_ble_eq_true rfl, Nat.le_of_ble_eq_true rfl, fun _ => ⟨rfl, rfl⟩⟩ (Nat.le_of_ble_eq_true rfl) rfl (post_I (fun sq => ?_))
  have srh2 : SR h h2 := srh.trans sq
  clear sq q1
  refine V.if_ne (tgt := 14) dX12_wantSign_5 (by decide) (fun c4 => ?_) (fun c4 => ?_)
  · replace hf := ite_n hf c4
    refine V.aload_n dX12_wantSign_14 rfl rfl rfl ?_
    obtain ⟨h6, q5, hf2⟩ := bd_el hf
    replace hf := hf2
    clear hf2
    refine V.callVV dX12_wantSign_15 ml_X12_157 mo_X12_onward mv_X12_onward rfl (fun q hq => by cases hq; rfl) (by decide) (Or.inl ⟨rfl, SHL_lt rfl⟩) (th_X12_onward (srh2.ly ly) q5) rfl rfl ⟨Nat.le_of_ble_eq_true rfl, Nat.le_of_ble_eq_true rfl, fun _ => ⟨rfl, rfl⟩⟩ (Nat.le_of_ble_eq_true rfl) (Or.inl rfl) (post_V (fun sq => ?_))
    have srh6 : SR h h6 := srh2.trans sq
    clear sq q5
    refine V.iconst (v := 1) dX12_wantSign_18 rfl ?_
    refine V.ireturn dX12_wantSign_19 rfl rfl ⟨rfl, rfl⟩ ly.1 ?_
    exact ret_I hf srh6
  · replace hf := ite_p hf c4
    refine V.aload_n dX12_wantSign_8 rfl rfl rfl ?_
    refine V.iconst (v := 2) dX12_wantSign_9 rfl ?_
    obtain ⟨r9, h8, q7, hf2⟩ := bd2_el hf
    replace hf := hf2
    clear hf2
    refine V.callVI dX12_wantSign_10 ml_X12_163 mo_X12_fails mv_X12_fails rfl (fun q hq => by cases hq; rfl) (by decide) (Or.inl ⟨rfl, SHL_lt rfl⟩) (th_X12_fails (srh2.ly ly) q7) rfl rfl ⟨Nat.le_of_ble_eq_true rfl, Nat.le_of_ble_eq_true rfl, fun _ => ⟨rfl, rfl⟩⟩ (Nat.le_of_ble_eq_true rfl) rfl (post_I (fun sq => ?_))
    have srh8 : SR h h8 := srh2.trans sq
    clear sq q7
    obtain ⟨b10, hf2⟩ := gd_el hf
    replace hf := hf2
    clear hf2
    refine V.ireturn dX12_wantSign_13 rfl (narB b10) ⟨rfl, rfl⟩ ly.1 ?_
    exact ret_I hf srh8
set_option maxRecDepth 100000 in
theorem th_X12_wantWord {h : HP} (ly : Lay h) {a2 : Int32} {rr : Int32} {hh : HP} (hf : f_X12_wantWord h a2 = some (rr, hh)) : Spec yX12_wantWord cX12_wantWord miX12_wantWord [.ref 113, .ref (NUL + 3), .int a2] h (pI fun r' h' => (r' = rr ∧ h' = hh) ∧ SR h hh) := by
  refine Spec.of (ls0 := [.ref 113, .ref (NUL + 3), .int a2]) mo_X12_wantWord (Nat.le_of_ble_eq_true rfl) rfl ?_
  rw [ly.1]
  have srh : SR h h := SR.refl h
  unfold f_X12_wantWord at hf
  refine V.aload_n dX12_wantWord_0 rfl rfl rfl ?_
  refine V.aload_nS dX12_wantWord_1 rfl rfl (by decide) (by decide) ?_
  obtain ⟨r3, h2, q1, hf2⟩ := bd2_el hf
  replace hf := hf2
  clear hf2
  refine V.callVI dX12_wantWord_2 ml_X12_166 mo_X12_inWords mv_X12_inWords rfl (fun q hq => by cases hq; rfl) (by decide) (Or.inl ⟨rfl, SHL_lt rfl⟩) (th_X12_inWords (srh.ly ly) q1) rfl rfl ⟨Nat.le_of_ble_eq_true rfl, Nat.le_of_ble_eq_true rfl, fun _ => ⟨rfl, rfl⟩⟩ (Nat.le_of_ble_eq_true rfl) rfl (post_I (fun sq => ?_))
  have srh2 : SR h h2 := srh.trans sq
  clear sq q1
  refine V.iload_n dX12_wantWord_5 rfl rfl ?_
  refine V.icmp_eq (tgt := 15) dX12_wantWord_6 (by decide) (fun c4 => ?_) (fun c4 => ?_)
  · replace hf := ite_p hf c4
    refine V.aload_n dX12_wantWord_15 rfl rfl rfl ?_
    obtain ⟨h6, q5, hf2⟩ := bd_el hf
    replace hf := hf2
    clear hf2
    refine V.callVV dX12_wantWord_16 ml_X12_157 mo_X12_onward mv_X12_onward rfl (fun q hq => by cases hq; rfl) (by decide) (Or.inl ⟨rfl, SHL_lt rfl⟩) (th_X12_onward (srh2.ly ly) q5) rfl rfl ⟨Nat.le_of_ble_eq_true rfl, Nat.le_of_ble_eq_true rfl, fun _ => ⟨rfl, rfl⟩⟩ (Nat.le_of_ble_eq_true rfl) (Or.inl rfl) (post_V (fun sq => ?_))
    have srh6 : SR h h6 := srh2.trans sq
    clear sq q5
    refine V.iconst (v := 1) dX12_wantWord_19 rfl ?_
    refine V.ireturn dX12_wantWord_20 rfl rfl ⟨rfl, rfl⟩ ly.1 ?_
    exact ret_I hf srh6
  · replace hf := ite_n hf c4
    refine V.aload_n dX12_wantWord_9 rfl rfl rfl ?_
    refine V.iconst (v := 2) dX12_wantWord_10 rfl ?_
    obtain ⟨r9, h8, q7, hf2⟩ := bd2_el hf
    replace hf := hf2
    clear hf2
    refine V.callVI dX12_wantWord_11 ml_X12_163 mo_X12_fails mv_X12_fails rfl (fun q hq => by cases hq; rfl) (by decide) (Or.inl ⟨rfl, SHL_lt rfl⟩) (th_X12_fails (srh2.ly ly) q7) rfl rfl ⟨Nat.le_of_ble_eq_true rfl, Nat.le_of_ble_eq_true rfl, fun _ => ⟨rfl, rfl⟩⟩ (Nat.le_of_ble_eq_true rfl) rfl (post_I (fun sq => ?_))
    have srh8 : SR h h8 := srh2.trans sq
    clear sq q7
    obtain ⟨b10, hf2⟩ := gd_el hf
    replace hf := hf2
    clear hf2
    refine V.ireturn dX12_wantWord_14 rfl (narB b10) ⟨rfl, rfl⟩ ly.1 ?_
    exact ret_I hf srh8
set_option maxRecDepth 100000 in
theorem th_X12_number {h : HP} (ly : Lay h) {a1 : Int32} {a2 : Int32} {a3 : Int32} {rr : Int32} {hh : HP} (hf : f_X12_number h a1 a2 a3 = some (rr, hh)) : Spec yX12_number cX12_number miX12_number [.ref 113, .int a1, .int a2, .int a3] h (pI fun r' h' => (r' = rr ∧ h' = hh) ∧ SR h hh) := by
  refine Spec.of (ls0 := [.ref 113, .int a1, .int a2, .int a3]) mo_X12_number (Nat.le_of_ble_eq_true rfl) rfl ?_
  rw [ly.1]
  have srh : SR h h := SR.refl h
  unfold f_X12_number at hf
  refine V.aload_n dX12_number_0 rfl rfl rfl ?_
  refine V.getI dX12_number_1 fl_X12_126 rfl (Or.inl ⟨rfl, SHL_lt rfl⟩) rfl rfl ?_
  refine V.iconst (v := 3) dX12_number_4 rfl ?_
  refine V.icmp_eq (tgt := 14) dX12_number_5 (by decide) (fun c1 => ?_) (fun c1 => ?_)
  · replace hf := ite_p hf c1
    refine V.aload_n dX12_number_14 rfl rfl rfl ?_
    refine V.getI dX12_number_15 fl_X12_123 rfl (Or.inl ⟨rfl, SHL_lt rfl⟩) rfl rfl ?_
    refine V.iload_n dX12_number_18 rfl rfl ?_
    refine V.icmp_lt (tgt := 30) dX12_number_19 (by decide) (fun c2 => ?_) (fun c2 => ?_)
    · replace hf := ite_p hf c2
      refine V.aload_n dX12_number_30 rfl rfl rfl ?_
      refine V.iconst (v := 4) dX12_number_31 rfl ?_
      obtain ⟨r5, h4, q3, hf2⟩ := bd2_el hf
      replace hf := hf2
      clear hf2
      refine V.callVI dX12_number_32 ml_X12_163 mo_X12_fails mv_X12_fails rfl (fun q hq => by cases hq; rfl) (by decide) (Or.inl ⟨rfl, SHL_lt rfl⟩) (th_X12_fails (srh.ly ly) q3) rfl rfl ⟨Nat.le_of_ble_eq_true rfl, Nat.le_of_ble_eq_true rfl, fun _ => ⟨rfl, rfl⟩⟩ (Nat.le_of_ble_eq_true rfl) rfl (post_I (fun sq => ?_))
      have srh4 : SR h h4 := srh.trans sq
      clear sq q3
      obtain ⟨b6, hf2⟩ := gd_el hf
      replace hf := hf2
      clear hf2
      refine V.ireturn dX12_number_35 rfl (narB b6) ⟨rfl, rfl⟩ ly.1 ?_
      exact ret_I hf srh4
    · replace hf := ite_n hf c2
      refine V.aload_n dX12_number_22 rfl rfl rfl ?_
      refine V.getI dX12_number_23 fl_X12_123 rfl (Or.inl ⟨rfl, SHL_lt rfl⟩) rfl rfl ?_
      refine V.iload_n dX12_number_26 rfl rfl ?_
      refine V.icmp_le (tgt := 36) dX12_number_27 (by decide) (fun c7 => ?_) (fun c7 => ?_)
      · replace hf := ite_p hf c7
        refine V.aload_n dX12_number_36 rfl rfl rfl ?_
        refine V.getR (r := 114) dX12_number_37 fl_X12_7 rfl (Or.inl ⟨rfl, SHL_lt rfl⟩) rfl (ly_113_0 (srh.ly ly)) ?_
        refine V.iload_n dX12_number_40 rfl rfl ?_
        refine V.aload_n dX12_number_41 rfl rfl rfl ?_
        refine V.getI dX12_number_42 fl_X12_123 rfl (Or.inl ⟨rfl, SHL_lt rfl⟩) rfl rfl ?_
        obtain ⟨b8, hf2⟩ := gdi_el hf
        replace hf := hf2
        clear hf2
        refine V.iastore dX12_number_45 rfl (Or.inl ⟨rfl, SHL_lt rfl⟩) b8 ?_
        refine V.nameH (fun g9 eg9 => ?_)
        replace hf := lt_el hf g9 eg9
        have srg9 : SR h g9 := by rw [eg9]; exact srh.I _ _ _
        refine V.aload_n dX12_number_46 rfl rfl rfl ?_
        obtain ⟨h11, q10, hf2⟩ := bd_el hf
        replace hf := hf2
        clear hf2
        refine V.callVV dX12_number_47 ml_X12_157 mo_X12_onward mv_X12_onward rfl (fun q hq => by cases hq; rfl) (by decide) (Or.inl ⟨rfl, SHL_lt rfl⟩) (th_X12_onward (srg9.ly ly) q10) rfl rfl ⟨Nat.le_of_ble_eq_true rfl, Nat.le_of_ble_eq_true rfl, fun _ => ⟨rfl, rfl⟩⟩ (Nat.le_of_ble_eq_true rfl) (Or.inl rfl) (post_V (fun sq => ?_))
        have srh11 : SR h h11 := srg9.trans sq
        clear sq q10
        refine V.iconst (v := 1) dX12_number_50 rfl ?_
        refine V.ireturn dX12_number_51 rfl rfl ⟨rfl, rfl⟩ ly.1 ?_
        exact ret_I hf srh11
      · replace hf := ite_n hf c7
        refine V.aload_n dX12_number_30 rfl rfl rfl ?_
        refine V.iconst (v := 4) dX12_number_31 rfl ?_
        obtain ⟨r14, h13, q12, hf2⟩ := bd2_el hf
        replace hf := hf2
        clear hf2
        refine V.callVI dX12_number_32 ml_X12_163 mo_X12_fails mv_X12_fails rfl (fun q hq => by cases hq; rfl) (by decide) (Or.inl ⟨rfl, SHL_lt rfl⟩) (th_X12_fails (srh.ly ly) q12) rfl rfl ⟨Nat.le_of_ble_eq_true rfl, Nat.le_of_ble_eq_true rfl, fun _ => ⟨rfl, rfl⟩⟩ (Nat.le_of_ble_eq_true rfl) rfl (post_I (fun sq => ?_))
        have srh13 : SR h h13 := srh.trans sq
        clear sq q12
        obtain ⟨b15, hf2⟩ := gd_el hf
        replace hf := hf2
        clear hf2
        refine V.ireturn dX12_number_35 rfl (narB b15) ⟨rfl, rfl⟩ ly.1 ?_
        exact ret_I hf srh13
  · replace hf := ite_n hf c1
    refine V.aload_n dX12_number_8 rfl rfl rfl ?_
    refine V.iconst (v := 2) dX12_number_9 rfl ?_
    obtain ⟨r18, h17, q16, hf2⟩ := bd2_el hf
    replace hf := hf2
    clear hf2
    refine V.callVI dX12_number_10 ml_X12_163 mo_X12_fails mv_X12_fails rfl (fun q hq => by cases hq; rfl) (by decide) (Or.inl ⟨rfl, SHL_lt rfl⟩) (th_X12_fails (srh.ly ly) q16) rfl rfl ⟨Nat.le_of_ble_eq_true rfl, Nat.le_of_ble_eq_true rfl, fun _ => ⟨rfl, rfl⟩⟩ (Nat.le_of_ble_eq_true rfl) rfl (post_I (fun sq => ?_))
    have srh17 : SR h h17 := srh.trans sq
    clear sq q16
    obtain ⟨b19, hf2⟩ := gd_el hf
    replace hf := hf2
    clear hf2
    refine V.ireturn dX12_number_13 rfl (narB b19) ⟨rfl, rfl⟩ ly.1 ?_
    exact ret_I hf srh17
set_option maxRecDepth 100000 in
theorem th_X12_isName {h : HP} (ly : Lay h)  {rr : Int32} {hh : HP} (hf : f_X12_isName h = some (rr, hh)) : Spec yX12_isName cX12_isName miX12_isName [.ref 113, .ref (NUL + 3)] h (pI fun r' h' => (r' = rr ∧ h' = hh) ∧ SR h hh) := by
  refine Spec.of (ls0 := [.ref 113, .ref (NUL + 3)]) mo_X12_isName (Nat.le_of_ble_eq_true rfl) rfl ?_
  rw [ly.1]
  have srh : SR h h := SR.refl h
  unfold f_X12_isName at hf
  refine V.aload_n dX12_isName_0 rfl rfl rfl ?_
  refine V.getI dX12_isName_1 fl_X12_126 rfl (Or.inl ⟨rfl, SHL_lt rfl⟩) rfl rfl ?_
  refine V.iconst (v := 2) dX12_isName_4 rfl ?_
  refine V.icmp_ne (tgt := 35) dX12_isName_5 (by decide) (fun c1 => ?_) (fun c1 => ?_)
  · replace hf := ite_n hf c1
    refine V.iconst (v := 0) dX12_isName_35 rfl ?_
    refine V.ireturn dX12_isName_36 rfl rfl ⟨rfl, rfl⟩ ly.1 ?_
    exact ret_I hf srh
  · replace hf := ite_p hf c1
    refine V.aload_n dX12_isName_8 rfl rfl rfl ?_
    refine V.getI dX12_isName_9 fl_X12_114 rfl (Or.inl ⟨rfl, SHL_lt rfl⟩) rfl rfl ?_
    refine V.aload_n dX12_isName_12 rfl rfl rfl ?_
    refine V.getI dX12_isName_13 fl_X12_120 rfl (Or.inl ⟨rfl, SHL_lt rfl⟩) rfl rfl ?_
    refine V.isub dX12_isName_16 ?_
    refine V.bipush (v := 8) dX12_isName_17 rfl ?_
    refine V.icmp_gt (tgt := 35) dX12_isName_19 (by decide) (fun c2 => ?_) (fun c2 => ?_)
    · replace hf := ite_p hf c2
      refine V.iconst (v := 0) dX12_isName_35 rfl ?_
      refine V.ireturn dX12_isName_36 rfl rfl ⟨rfl, rfl⟩ ly.1 ?_
      exact ret_I hf srh
    · replace hf := ite_n hf c2
      refine V.aload_n dX12_isName_22 rfl rfl rfl ?_
      refine V.aload_nS dX12_isName_23 rfl rfl (by decide) (by decide) ?_
      obtain ⟨r5, h4, q3, hf2⟩ := bd2_el hf
      replace hf := hf2
      clear hf2
      refine V.callVI dX12_isName_24 ml_X12_166 mo_X12_inWords mv_X12_inWords rfl (fun q hq => by cases hq; rfl) (by decide) (Or.inl ⟨rfl, SHL_lt rfl⟩) (th_X12_inWords (srh.ly ly) q3) rfl rfl ⟨Nat.le_of_ble_eq_true rfl, Nat.le_of_ble_eq_true rfl, fun _ => ⟨rfl, rfl⟩⟩ (Nat.le_of_ble_eq_true rfl) rfl (post_I (fun sq => ?_))
      have srh4 : SR h h4 := srh.trans sq
      clear sq q3
      refine V.iconst (v := (-1)) dX12_isName_27 rfl ?_
      refine V.icmp_ne (tgt := 35) dX12_isName_28 (by decide) (fun c6 => ?_) (fun c6 => ?_)
      · replace hf := ite_n hf c6
        refine V.iconst (v := 0) dX12_isName_35 rfl ?_
        refine V.ireturn dX12_isName_36 rfl rfl ⟨rfl, rfl⟩ ly.1 ?_
        exact ret_I hf srh4
      · replace hf := ite_p hf c6
        refine V.iconst (v := 1) dX12_isName_31 rfl ?_
        refine V.goto (tgt := 36) dX12_isName_32 (by decide) ?_
        refine V.ireturn dX12_isName_36 rfl rfl ⟨rfl, rfl⟩ ly.1 ?_
        exact ret_I hf srh4
set_option maxRecDepth 100000 in
theorem th_X12_nameHere_7 {h0 : HP} (ly : Lay h0) {rr : Int64} {hh : HP}  : ∀ (n : Nat) (l1 : Int64) (l3 : Int32) (h : HP), SR h0 h → f_X12_nameHere_7 n l1 l3 h = some (rr, hh) → V cX12_nameHere miX12_nameHere (ZJ h0 miX12_nameHere rr hh) 130 7 [.ref 113, .long l1, .null, .int l3] [] h := by
  intro n
  induction n with
  | zero => intro l1 l3 h srh hf; exact absurd hf (by unfold f_X12_nameHere_7; simp)
  | succ n ih =>
    intro l1 l3 h srh hf
    unfold f_X12_nameHere_7 at hf
    refine V.iload_n dX12_nameHere_7 rfl rfl ?_
    refine V.aload_n dX12_nameHere_8 rfl rfl rfl ?_
    refine V.getI dX12_nameHere_9 fl_X12_114 rfl (Or.inl ⟨rfl, SHL_lt rfl⟩) rfl rfl ?_
    refine V.icmp_ge (tgt := 33) dX12_nameHere_12 (by decide) (fun c2 => ?_) (fun c2 => ?_)
    · replace hf := ite_p hf c2
      refine V.lload_n dX12_nameHere_33 rfl rfl ?_
      refine V.lreturn dX12_nameHere_34 rfl ⟨rfl, rfl⟩ ly.1 ?_
      exact ret_L hf srh
    · replace hf := ite_n hf c2
      refine V.lload_n dX12_nameHere_15 rfl rfl ?_
      refine V.bipush (v := 8) dX12_nameHere_16 rfl ?_
      refine V.lshl dX12_nameHere_18 ?_
      refine V.aload_n dX12_nameHere_19 rfl rfl rfl ?_
      refine V.iload_n dX12_nameHere_20 rfl rfl ?_
      obtain ⟨r5, h4, q3, hf2⟩ := bd2_el hf
      replace hf := hf2
      clear hf2
      refine V.callVI dX12_nameHere_21 ml_X12_117 mo_X12_byteAt mv_X12_byteAt rfl (fun q hq => by cases hq; rfl) (by decide) (Or.inl ⟨rfl, SHL_lt rfl⟩) (th_X12_byteAt (srh.ly ly) q3) rfl rfl ⟨Nat.le_of_ble_eq_true rfl, Nat.le_of_ble_eq_true rfl, fun _ => ⟨rfl, rfl⟩⟩ (Nat.le_of_ble_eq_true rfl) rfl (post_I (fun sq => ?_))
      have srh4 : SR h0 h4 := srh.trans sq
      clear sq q3
      refine V.i2l dX12_nameHere_24 ?_
      refine V.lor dX12_nameHere_25 ?_
      refine V.nml (fun x6 ex6 => ?_)
      replace hf := lt_el hf x6 ex6
      refine V.lstore_n (ls' := [.ref 113, .long x6, .null, .int l3]) dX12_nameHere_26 rfl (by decide) rfl ?_
      obtain ⟨x7, ex7⟩ : ∃ y : Int32, y = l3 + 1 := ⟨_, rfl⟩
      replace hf := lt_el hf x7 ex7
      refine V.iinc (v := x7) (ls' := [.ref 113, .long x6, .null, .int x7]) dX12_nameHere_27 rfl (by decide) ex7.symm rfl ?_
      refine V.goto (tgt := 7) dX12_nameHere_30 (by decide) ?_
      exact ih x6 x7 h4 srh4 hf
set_option maxRecDepth 100000 in
theorem th_X12_nameHere {h : HP} (ly : Lay h)  {rr : Int64} {hh : HP} (hf : f_X12_nameHere h = some (rr, hh)) : Spec yX12_nameHere cX12_nameHere miX12_nameHere [.ref 113] h (pL fun r' h' => (r' = rr ∧ h' = hh) ∧ SR h hh) := by
  refine Spec.of (ls0 := [.ref 113, .null, .null, .null]) mo_X12_nameHere (Nat.le_of_ble_eq_true rfl) rfl ?_
  rw [ly.1]
  have srh : SR h h := SR.refl h
  unfold f_X12_nameHere at hf
  refine V.lconst (v := 0) dX12_nameHere_0 rfl ?_
  refine V.lstore_n (ls' := [.ref 113, .long 0, .null, .null]) dX12_nameHere_1 rfl (by decide) rfl ?_
  refine V.aload_n dX12_nameHere_2 rfl rfl rfl ?_
  refine V.getI dX12_nameHere_3 fl_X12_120 rfl (Or.inl ⟨rfl, SHL_lt rfl⟩) rfl rfl ?_
  refine V.nmi (fun x1 ex1 => ?_)
  replace hf := lt_el hf x1 ex1
  refine V.istore_n (ls' := [.ref 113, .long 0, .null, .int x1]) dX12_nameHere_6 rfl (by decide) rfl ?_
  exact th_X12_nameHere_7 ly FU 0 x1 h srh hf
set_option maxRecDepth 100000 in
theorem th_X12_findHere_2 {h0 : HP} (ly : Lay h0) {rr : Int32} {hh : HP}  : ∀ (n : Nat) (l1 : Int32) (l2 : Int32) (l3 : Int32) (h : HP), SR h0 h → f_X12_findHere_2 n l1 l2 l3 h = some (rr, hh) → V cX12_findHere miX12_findHere (ZI h0 miX12_findHere rr hh) 130 2 [.ref 113, .int l1, .int l2, .int l3] [] h := by
  intro n
  induction n with
  | zero => intro l1 l2 l3 h srh hf; exact absurd hf (by unfold f_X12_findHere_2; simp)
  | succ n ih =>
    intro l1 l2 l3 h srh hf
    unfold f_X12_findHere_2 at hf
    refine V.iload_n dX12_findHere_2 rfl rfl ?_
    refine V.iload_n dX12_findHere_3 rfl rfl ?_
    refine V.icmp_ge (tgt := 31) dX12_findHere_4 (by decide) (fun c1 => ?_) (fun c1 => ?_)
    · replace hf := ite_p hf c1
      refine V.iconst (v := (-1)) dX12_findHere_31 rfl ?_
      refine V.ireturn dX12_findHere_32 rfl rfl ⟨rfl, rfl⟩ ly.1 ?_
      exact ret_I hf srh
    · replace hf := ite_n hf c1
      refine V.aload_n dX12_findHere_7 rfl rfl rfl ?_
      refine V.getR (r := 115) dX12_findHere_8 fl_X12_13 rfl (Or.inl ⟨rfl, SHL_lt rfl⟩) rfl (ly_113_1 (srh.ly ly)) ?_
      refine V.iload_n dX12_findHere_11 rfl rfl ?_
      refine V.iload_n dX12_findHere_12 rfl rfl ?_
      refine V.iadd dX12_findHere_13 ?_
      obtain ⟨b2, hf2⟩ := gdi_el hf
      replace hf := hf2
      clear hf2
      refine V.laload dX12_findHere_14 rfl (Or.inl ⟨rfl, SHL_lt rfl⟩) b2 ?_
      refine V.aload_n dX12_findHere_15 rfl rfl rfl ?_
      obtain ⟨r5, h4, q3, hf2⟩ := bd2_el hf
      replace hf := hf2
      clear hf2
      refine V.callVL dX12_findHere_16 ml_X12_170 mo_X12_nameHere mv_X12_nameHere rfl (fun q hq => by cases hq; rfl) (by decide) (Or.inl ⟨rfl, SHL_lt rfl⟩) (th_X12_nameHere (srh.ly ly) q3) rfl rfl ⟨Nat.le_of_ble_eq_true rfl, Nat.le_of_ble_eq_true rfl, fun _ => ⟨rfl, rfl⟩⟩ (Nat.le_of_ble_eq_true rfl) rfl (post_L (fun sq => ?_))
      have srh4 : SR h0 h4 := srh.trans sq
      clear sq q3
      refine V.lcmp dX12_findHere_19 ?_
      refine V.if_ne (tgt := 25) dX12_findHere_20 (by decide) (fun c6 => ?_) (fun c6 => ?_)
      · replace hf := ite_n hf c6
        obtain ⟨x7, ex7⟩ : ∃ y : Int32, y = l3 + 1 := ⟨_, rfl⟩
        replace hf := lt_el hf x7 ex7
        refine V.iinc (v := x7) (ls' := [.ref 113, .int l1, .int l2, .int x7]) dX12_findHere_25 rfl (by decide) ex7.symm rfl ?_
        refine V.goto (tgt := 2) dX12_findHere_28 (by decide) ?_
        exact ih l1 l2 x7 h4 srh4 hf
      · replace hf := ite_p hf c6
        refine V.iload_n dX12_findHere_23 rfl rfl ?_
        refine V.ireturn dX12_findHere_24 rfl rfl ⟨rfl, rfl⟩ ly.1 ?_
        exact ret_I hf srh4
set_option maxRecDepth 100000 in
theorem th_X12_findHere {h : HP} (ly : Lay h) {a1 : Int32} {a2 : Int32} {rr : Int32} {hh : HP} (hf : f_X12_findHere h a1 a2 = some (rr, hh)) : Spec yX12_findHere cX12_findHere miX12_findHere [.ref 113, .int a1, .int a2] h (pI fun r' h' => (r' = rr ∧ h' = hh) ∧ SR h hh) := by
  refine Spec.of (ls0 := [.ref 113, .int a1, .int a2, .null]) mo_X12_findHere (Nat.le_of_ble_eq_true rfl) rfl ?_
  rw [ly.1]
  have srh : SR h h := SR.refl h
  unfold f_X12_findHere at hf
  refine V.iconst (v := 0) dX12_findHere_0 rfl ?_
  refine V.istore_n (ls' := [.ref 113, .int a1, .int a2, .int 0]) dX12_findHere_1 rfl (by decide) rfl ?_
  exact th_X12_findHere_2 ly FU a1 a2 0 h srh hf
set_option maxRecDepth 100000 in
theorem th_X12_fault {h : HP} (ly : Lay h) {a1 : Int32} {rr : Int32} {hh : HP} (hf : f_X12_fault h a1 = some (rr, hh)) : Spec yX12_fault cX12_fault miX12_fault [.ref 113, .int a1] h (pI fun r' h' => (r' = rr ∧ h' = hh) ∧ SR h hh) := by
  refine Spec.of (ls0 := [.ref 113, .int a1]) mo_X12_fault (Nat.le_of_ble_eq_true rfl) rfl ?_
  rw [ly.1]
  have srh : SR h h := SR.refl h
  unfold f_X12_fault at hf
  refine V.iload_n dX12_fault_0 rfl rfl ?_
  refine V.if_ne (tgt := 11) dX12_fault_1 (by decide) (fun c1 => ?_) (fun c1 => ?_)
  · replace hf := ite_n hf c1
    refine V.iload_n dX12_fault_11 rfl rfl ?_
    refine V.iconst (v := 1) dX12_fault_12 rfl ?_
    refine V.icmp_ne (tgt := 23) dX12_fault_13 (by decide) (fun c2 => ?_) (fun c2 => ?_)
    · replace hf := ite_n hf c2
      refine V.iconst (v := (-1)) dX12_fault_23 rfl ?_
      refine V.ireturn dX12_fault_24 rfl rfl ⟨rfl, rfl⟩ ly.1 ?_
      exact ret_I hf srh
    · replace hf := ite_p hf c2
      refine V.aload_n dX12_fault_16 rfl rfl rfl ?_
      refine V.getI dX12_fault_17 fl_X12_41 rfl (Or.inl ⟨rfl, SHL_lt rfl⟩) rfl rfl ?_
      refine V.goto (tgt := 24) dX12_fault_20 (by decide) ?_
      refine V.ireturn dX12_fault_24 rfl rfl ⟨rfl, rfl⟩ ly.1 ?_
      exact ret_I hf srh
  · replace hf := ite_p hf c1
    refine V.aload_n dX12_fault_4 rfl rfl rfl ?_
    refine V.getI dX12_fault_5 fl_X12_37 rfl (Or.inl ⟨rfl, SHL_lt rfl⟩) rfl rfl ?_
    refine V.goto (tgt := 24) dX12_fault_8 (by decide) ?_
    refine V.ireturn dX12_fault_24 rfl rfl ⟨rfl, rfl⟩ ly.1 ?_
    exact ret_I hf srh
set_option maxRecDepth 100000 in
theorem th_X12_taken {h : HP} (ly : Lay h) {a1 : Int32} {rr : Int32} {hh : HP} (hf : f_X12_taken h a1 = some (rr, hh)) : Spec yX12_taken cX12_taken miX12_taken [.ref 113, .int a1] h (pI fun r' h' => (r' = rr ∧ h' = hh) ∧ SR h hh) := by
  refine Spec.of (ls0 := [.ref 113, .int a1]) mo_X12_taken (Nat.le_of_ble_eq_true rfl) rfl ?_
  rw [ly.1]
  have srh : SR h h := SR.refl h
  unfold f_X12_taken at hf
  refine V.aload_n dX12_taken_0 rfl rfl rfl ?_
  refine V.aload_n dX12_taken_1 rfl rfl rfl ?_
  refine V.getI dX12_taken_2 fl_X12_151 rfl (Or.inl ⟨rfl, SHL_lt rfl⟩) rfl rfl ?_
  refine V.putI dX12_taken_5 fl_X12_37 rfl (Or.inl ⟨rfl, SHL_lt rfl⟩) rfl (fun q hq => by cases hq; rfl) ⟨rfl, rfl⟩ ?_
  refine V.nameH (fun g1 eg1 => ?_)
  replace hf := lt_el hf g1 eg1
  have srg1 : SR h g1 := by rw [eg1]; exact srh.I _ _ _
  refine V.aload_n dX12_taken_8 rfl rfl rfl ?_
  refine V.getI dX12_taken_9 fl_X12_151 rfl (Or.inl ⟨rfl, SHL_lt rfl⟩) rfl rfl ?_
  refine V.if_le (tgt := 24) dX12_taken_12 (by decide) (fun c2 => ?_) (fun c2 => ?_)
  · replace hf := ite_p hf c2
    refine V.aload_n dX12_taken_24 rfl rfl rfl ?_
    refine V.iload_n dX12_taken_25 rfl rfl ?_
    obtain ⟨r5, h4, q3, hf2⟩ := bd2_el hf
    replace hf := hf2
    clear hf2
    refine V.callVI dX12_taken_26 ml_X12_85 mo_X12_gives mv_X12_gives rfl (fun q hq => by cases hq; rfl) (by decide) (Or.inl ⟨rfl, SHL_lt rfl⟩) (th_X12_gives (srg1.ly ly) q3) rfl rfl ⟨Nat.le_of_ble_eq_true rfl, Nat.le_of_ble_eq_true rfl, fun _ => ⟨rfl, rfl⟩⟩ (Nat.le_of_ble_eq_true rfl) rfl (post_I (fun sq => ?_))
    have srh4 : SR h h4 := srg1.trans sq
    clear sq q3
    refine V.ireturn dX12_taken_29 rfl rfl ⟨rfl, rfl⟩ ly.1 ?_
    exact ret_I hf srh4
  · replace hf := ite_n hf c2
    refine V.aload_n dX12_taken_15 rfl rfl rfl ?_
    refine V.bipush (v := 9) dX12_taken_16 rfl ?_
    obtain ⟨r8, h7, q6, hf2⟩ := bd2_el hf
    replace hf := hf2
    clear hf2
    refine V.callVI dX12_taken_18 ml_X12_81 mo_X12_refuse mv_X12_refuse rfl (fun q hq => by cases hq; rfl) (by decide) (Or.inl ⟨rfl, SHL_lt rfl⟩) (th_X12_refuse (srg1.ly ly) q6) rfl rfl ⟨Nat.le_of_ble_eq_true rfl, Nat.le_of_ble_eq_true rfl, fun _ => ⟨rfl, rfl⟩⟩ (Nat.le_of_ble_eq_true rfl) rfl (post_I (fun sq => ?_))
    have srh7 : SR h h7 := srg1.trans sq
    clear sq q6
    refine V.goto (tgt := 29) dX12_taken_21 (by decide) ?_
    refine V.ireturn dX12_taken_29 rfl rfl ⟨rfl, rfl⟩ ly.1 ?_
    exact ret_I hf srh7
set_option maxRecDepth 100000 in
theorem th_X12_oldRule {h : HP} (ly : Lay h) {a1 : Int32} {rr : Int32} {hh : HP} (hf : f_X12_oldRule h a1 = some (rr, hh)) : Spec yX12_oldRule cX12_oldRule miX12_oldRule [.ref 113, .int a1] h (pI fun r' h' => (r' = rr ∧ h' = hh) ∧ SR h hh) := by
  refine Spec.of (ls0 := [.ref 113, .int a1]) mo_X12_oldRule (Nat.le_of_ble_eq_true rfl) rfl ?_
  rw [ly.1]
  have srh : SR h h := SR.refl h
  unfold f_X12_oldRule at hf
  refine V.aload_n dX12_oldRule_0 rfl rfl rfl ?_
  refine V.ldcS (i := 1) (by decide) dX12_oldRule_1 rfl rfl ?_
  obtain ⟨r3, h2, q1, hf2⟩ := bd2_el hf
  replace hf := hf2
  clear hf2
  refine V.callVI dX12_oldRule_3 ml_X12_176 mo_X12_isName mv_X12_isName rfl (fun q hq => by cases hq; rfl) (by decide) (Or.inl ⟨rfl, SHL_lt rfl⟩) (th_X12_isName (srh.ly ly) q1) rfl rfl ⟨Nat.le_of_ble_eq_true rfl, Nat.le_of_ble_eq_true rfl, fun _ => ⟨rfl, rfl⟩⟩ (Nat.le_of_ble_eq_true rfl) rfl (post_I (fun sq => ?_))
  have srh2 : SR h h2 := srh.trans sq
  clear sq q1
  refine V.if_ne (tgt := 15) dX12_oldRule_6 (by decide) (fun c4 => ?_) (fun c4 => ?_)
  · replace hf := ite_n hf c4
    refine V.aload_n dX12_oldRule_15 rfl rfl rfl ?_
    refine V.getR (r := 114) dX12_oldRule_16 fl_X12_7 rfl (Or.inl ⟨rfl, SHL_lt rfl⟩) rfl (ly_113_0 (srh2.ly ly)) ?_
    refine V.iload_n dX12_oldRule_19 rfl rfl ?_
    refine V.aload_n dX12_oldRule_20 rfl rfl rfl ?_
    refine V.iconst (v := 0) dX12_oldRule_21 rfl ?_
    refine V.aload_n dX12_oldRule_22 rfl rfl rfl ?_
    refine V.getR (r := 114) dX12_oldRule_23 fl_X12_7 rfl (Or.inl ⟨rfl, SHL_lt rfl⟩) rfl (ly_113_0 (srh2.ly ly)) ?_
    refine V.iconst (v := 5) dX12_oldRule_26 rfl ?_
    refine V.iaload dX12_oldRule_27 rfl (Or.inl ⟨rfl, SHL_lt rfl⟩) (vp_lit (by decide)) ?_
    rw [show Int32.toNatClampNeg 5 = 5 from rfl]
    obtain ⟨r7, h6, q5, hf2⟩ := bd2_el hf
    replace hf := hf2
    clear hf2
    refine V.callVI dX12_oldRule_28 ml_X12_180 mo_X12_findHere mv_X12_findHere rfl (fun q hq => by cases hq; rfl) (by decide) (Or.inl ⟨rfl, SHL_lt rfl⟩) (th_X12_findHere (srh2.ly ly) q5) rfl rfl ⟨Nat.le_of_ble_eq_true rfl, Nat.le_of_ble_eq_true rfl, fun _ => ⟨rfl, rfl⟩⟩ (Nat.le_of_ble_eq_true rfl) rfl (post_I (fun sq => ?_))
    have srh6 : SR h h6 := srh2.trans sq
    clear sq q5
    obtain ⟨b8, hf2⟩ := gdi_el hf
    replace hf := hf2
    clear hf2
    refine V.iastore dX12_oldRule_31 rfl (Or.inl ⟨rfl, SHL_lt rfl⟩) b8 ?_
    refine V.nameH (fun g9 eg9 => ?_)
    replace hf := lt_el hf g9 eg9
    have srg9 : SR h g9 := by rw [eg9]; exact srh6.I _ _ _
    refine V.aload_n dX12_oldRule_32 rfl rfl rfl ?_
    refine V.getR (r := 114) dX12_oldRule_33 fl_X12_7 rfl (Or.inl ⟨rfl, SHL_lt rfl⟩) rfl (ly_113_0 (srg9.ly ly)) ?_
    refine V.iload_n dX12_oldRule_36 rfl rfl ?_
    obtain ⟨b10, hf2⟩ := gdi_el hf
    replace hf := hf2
    clear hf2
    refine V.iaload dX12_oldRule_37 rfl (Or.inl ⟨rfl, SHL_lt rfl⟩) b10 ?_
    refine V.iconst (v := (-1)) dX12_oldRule_38 rfl ?_
    refine V.icmp_ne (tgt := 48) dX12_oldRule_39 (by decide) (fun c11 => ?_) (fun c11 => ?_)
    · replace hf := ite_n hf c11
      refine V.aload_n dX12_oldRule_48 rfl rfl rfl ?_
      obtain ⟨h13, q12, hf2⟩ := bd_el hf
      replace hf := hf2
      clear hf2
      refine V.callVV dX12_oldRule_49 ml_X12_157 mo_X12_onward mv_X12_onward rfl (fun q hq => by cases hq; rfl) (by decide) (Or.inl ⟨rfl, SHL_lt rfl⟩) (th_X12_onward (srg9.ly ly) q12) rfl rfl ⟨Nat.le_of_ble_eq_true rfl, Nat.le_of_ble_eq_true rfl, fun _ => ⟨rfl, rfl⟩⟩ (Nat.le_of_ble_eq_true rfl) (Or.inl rfl) (post_V (fun sq => ?_))
      have srh13 : SR h h13 := srg9.trans sq
      clear sq q12
      refine V.iconst (v := 1) dX12_oldRule_52 rfl ?_
      refine V.ireturn dX12_oldRule_53 rfl rfl ⟨rfl, rfl⟩ ly.1 ?_
      exact ret_I hf srh13
    · replace hf := ite_p hf c11
      refine V.aload_n dX12_oldRule_42 rfl rfl rfl ?_
      refine V.iconst (v := 3) dX12_oldRule_43 rfl ?_
      obtain ⟨r16, h15, q14, hf2⟩ := bd2_el hf
      replace hf := hf2
      clear hf2
      refine V.callVI dX12_oldRule_44 ml_X12_163 mo_X12_fails mv_X12_fails rfl (fun q hq => by cases hq; rfl) (by decide) (Or.inl ⟨rfl, SHL_lt rfl⟩) (th_X12_fails (srg9.ly ly) q14) rfl rfl ⟨Nat.le_of_ble_eq_true rfl, Nat.le_of_ble_eq_true rfl, fun _ => ⟨rfl, rfl⟩⟩ (Nat.le_of_ble_eq_true rfl) rfl (post_I (fun sq => ?_))
      have srh15 : SR h h15 := srg9.trans sq
      clear sq q14
      obtain ⟨b17, hf2⟩ := gd_el hf
      replace hf := hf2
      clear hf2
      refine V.ireturn dX12_oldRule_47 rfl (narB b17) ⟨rfl, rfl⟩ ly.1 ?_
      exact ret_I hf srh15
  · replace hf := ite_p hf c4
    refine V.aload_n dX12_oldRule_9 rfl rfl rfl ?_
    refine V.iconst (v := 2) dX12_oldRule_10 rfl ?_
    obtain ⟨r20, h19, q18, hf2⟩ := bd2_el hf
    replace hf := hf2
    clear hf2
    refine V.callVI dX12_oldRule_11 ml_X12_163 mo_X12_fails mv_X12_fails rfl (fun q hq => by cases hq; rfl) (by decide) (Or.inl ⟨rfl, SHL_lt rfl⟩) (th_X12_fails (srh2.ly ly) q18) rfl rfl ⟨Nat.le_of_ble_eq_true rfl, Nat.le_of_ble_eq_true rfl, fun _ => ⟨rfl, rfl⟩⟩ (Nat.le_of_ble_eq_true rfl) rfl (post_I (fun sq => ?_))
    have srh19 : SR h h19 := srh2.trans sq
    clear sq q18
    obtain ⟨b21, hf2⟩ := gd_el hf
    replace hf := hf2
    clear hf2
    refine V.ireturn dX12_oldRule_14 rfl (narB b21) ⟨rfl, rfl⟩ ly.1 ?_
    exact ret_I hf srh19
set_option maxRecDepth 100000 in
theorem th_X12_isThere {h : HP} (ly : Lay h) {a1 : Int32} {rr : Int32} {hh : HP} (hf : f_X12_isThere h a1 = some (rr, hh)) : Spec yX12_isThere cX12_isThere miX12_isThere [.ref 113, .int a1] h (pI fun r' h' => (r' = rr ∧ h' = hh) ∧ SR h hh) := by
  refine Spec.of (ls0 := [.ref 113, .int a1]) mo_X12_isThere (Nat.le_of_ble_eq_true rfl) rfl ?_
  rw [ly.1]
  have srh : SR h h := SR.refl h
  unfold f_X12_isThere at hf
  refine V.aload_n dX12_isThere_0 rfl rfl rfl ?_
  refine V.ldcS (i := 1) (by decide) dX12_isThere_1 rfl rfl ?_
  obtain ⟨r3, h2, q1, hf2⟩ := bd2_el hf
  replace hf := hf2
  clear hf2
  refine V.callVI dX12_isThere_3 ml_X12_166 mo_X12_inWords mv_X12_inWords rfl (fun q hq => by cases hq; rfl) (by decide) (Or.inl ⟨rfl, SHL_lt rfl⟩) (th_X12_inWords (srh.ly ly) q1) rfl rfl ⟨Nat.le_of_ble_eq_true rfl, Nat.le_of_ble_eq_true rfl, fun _ => ⟨rfl, rfl⟩⟩ (Nat.le_of_ble_eq_true rfl) rfl (post_I (fun sq => ?_))
  have srh2 : SR h h2 := srh.trans sq
  clear sq q1
  refine V.iload_n dX12_isThere_6 rfl rfl ?_
  refine V.icmp_eq (tgt := 12) dX12_isThere_7 (by decide) (fun c4 => ?_) (fun c4 => ?_)
  · replace hf := ite_p hf c4
    refine V.aload_n dX12_isThere_12 rfl rfl rfl ?_
    obtain ⟨h6, q5, hf2⟩ := bd_el hf
    replace hf := hf2
    clear hf2
    refine V.callVV dX12_isThere_13 ml_X12_157 mo_X12_onward mv_X12_onward rfl (fun q hq => by cases hq; rfl) (by decide) (Or.inl ⟨rfl, SHL_lt rfl⟩) (th_X12_onward (srh2.ly ly) q5) rfl rfl ⟨Nat.le_of_ble_eq_true rfl, Nat.le_of_ble_eq_true rfl, fun _ => ⟨rfl, rfl⟩⟩ (Nat.le_of_ble_eq_true rfl) (Or.inl rfl) (post_V (fun sq => ?_))
    have srh6 : SR h h6 := srh2.trans sq
    clear sq q5
    refine V.iconst (v := 1) dX12_isThere_16 rfl ?_
    refine V.ireturn dX12_isThere_17 rfl rfl ⟨rfl, rfl⟩ ly.1 ?_
    exact ret_I hf srh6
  · replace hf := ite_n hf c4
    refine V.iconst (v := 0) dX12_isThere_10 rfl ?_
    refine V.ireturn dX12_isThere_11 rfl rfl ⟨rfl, rfl⟩ ly.1 ?_
    exact ret_I hf srh2
set_option maxRecDepth 100000 in
theorem th_X12_newOne {h : HP} (ly : Lay h) {a1 : Int32} {a2 : Int32} {a3 : Int32} {rr : Int32} {hh : HP} (hf : f_X12_newOne h a1 a2 a3 = some (rr, hh)) : Spec yX12_newOne cX12_newOne miX12_newOne [.ref 113, .int a1, .int a2, .int a3] h (pI fun r' h' => (r' = rr ∧ h' = hh) ∧ SR h hh) := by
  refine Spec.of (ls0 := [.ref 113, .int a1, .int a2, .int a3]) mo_X12_newOne (Nat.le_of_ble_eq_true rfl) rfl ?_
  rw [ly.1]
  have srh : SR h h := SR.refl h
  unfold f_X12_newOne at hf
  refine V.aload_n dX12_newOne_0 rfl rfl rfl ?_
  refine V.getR (r := 114) dX12_newOne_1 fl_X12_7 rfl (Or.inl ⟨rfl, SHL_lt rfl⟩) rfl (ly_113_0 (srh.ly ly)) ?_
  refine V.sipush (v := 1640) dX12_newOne_4 rfl ?_
  refine V.iload_n dX12_newOne_7 rfl rfl ?_
  refine V.iadd dX12_newOne_8 ?_
  obtain ⟨b1, hf2⟩ := gdi_el hf
  replace hf := hf2
  clear hf2
  refine V.iaload dX12_newOne_9 rfl (Or.inl ⟨rfl, SHL_lt rfl⟩) b1 ?_
  refine V.iload_n dX12_newOne_10 rfl rfl ?_
  refine V.icmp_ne (tgt := 21) dX12_newOne_11 (by decide) (fun c2 => ?_) (fun c2 => ?_)
  · replace hf := ite_n hf c2
    refine V.aload_n dX12_newOne_21 rfl rfl rfl ?_
    obtain ⟨h4, q3, hf2⟩ := bd_el hf
    replace hf := hf2
    clear hf2
    refine V.callVV dX12_newOne_22 ml_X12_157 mo_X12_onward mv_X12_onward rfl (fun q hq => by cases hq; rfl) (by decide) (Or.inl ⟨rfl, SHL_lt rfl⟩) (th_X12_onward (srh.ly ly) q3) rfl rfl ⟨Nat.le_of_ble_eq_true rfl, Nat.le_of_ble_eq_true rfl, fun _ => ⟨rfl, rfl⟩⟩ (Nat.le_of_ble_eq_true rfl) (Or.inl rfl) (post_V (fun sq => ?_))
    have srh4 : SR h h4 := srh.trans sq
    clear sq q3
    refine V.aload_n dX12_newOne_25 rfl rfl rfl ?_
    refine V.ldcS (i := 1) (by decide) dX12_newOne_26 rfl rfl ?_
    obtain ⟨r7, h6, q5, hf2⟩ := bd2_el hf
    replace hf := hf2
    clear hf2
    refine V.callVI dX12_newOne_28 ml_X12_176 mo_X12_isName mv_X12_isName rfl (fun q hq => by cases hq; rfl) (by decide) (Or.inl ⟨rfl, SHL_lt rfl⟩) (th_X12_isName (srh4.ly ly) q5) rfl rfl ⟨Nat.le_of_ble_eq_true rfl, Nat.le_of_ble_eq_true rfl, fun _ => ⟨rfl, rfl⟩⟩ (Nat.le_of_ble_eq_true rfl) rfl (post_I (fun sq => ?_))
    have srh6 : SR h h6 := srh4.trans sq
    clear sq q5
    refine V.if_ne (tgt := 40) dX12_newOne_31 (by decide) (fun c8 => ?_) (fun c8 => ?_)
    · replace hf := ite_n hf c8
      refine V.aload_n dX12_newOne_40 rfl rfl rfl ?_
      refine V.bipush (v := 40) dX12_newOne_41 rfl ?_
      refine V.aload_n dX12_newOne_43 rfl rfl rfl ?_
      refine V.getR (r := 114) dX12_newOne_44 fl_X12_7 rfl (Or.inl ⟨rfl, SHL_lt rfl⟩) rfl (ly_113_0 (srh6.ly ly)) ?_
      refine V.sipush (v := 1645) dX12_newOne_47 rfl ?_
      refine V.iaload dX12_newOne_50 rfl (Or.inl ⟨rfl, SHL_lt rfl⟩) (vp_lit (by decide)) ?_
      rw [show Int32.toNatClampNeg 1645 = 1645 from rfl]
      obtain ⟨r11, h10, q9, hf2⟩ := bd2_el hf
      replace hf := hf2
      clear hf2
      refine V.callVI dX12_newOne_51 ml_X12_180 mo_X12_findHere mv_X12_findHere rfl (fun q hq => by cases hq; rfl) (by decide) (Or.inl ⟨rfl, SHL_lt rfl⟩) (th_X12_findHere (srh6.ly ly) q9) rfl rfl ⟨Nat.le_of_ble_eq_true rfl, Nat.le_of_ble_eq_true rfl, fun _ => ⟨rfl, rfl⟩⟩ (Nat.le_of_ble_eq_true rfl) rfl (post_I (fun sq => ?_))
      have srh10 : SR h h10 := srh6.trans sq
      clear sq q9
      refine V.iconst (v := (-1)) dX12_newOne_54 rfl ?_
      refine V.icmp_ne (tgt := 76) dX12_newOne_55 (by decide) (fun c12 => ?_) (fun c12 => ?_)
      · replace hf := ite_n hf c12
        refine V.aload_n dX12_newOne_76 rfl rfl rfl ?_
        refine V.iconst (v := 3) dX12_newOne_77 rfl ?_
        obtain ⟨r15, h14, q13, hf2⟩ := bd2_el hf
        replace hf := hf2
        clear hf2
        refine V.callVI dX12_newOne_78 ml_X12_163 mo_X12_fails mv_X12_fails rfl (fun q hq => by cases hq; rfl) (by decide) (Or.inl ⟨rfl, SHL_lt rfl⟩) (th_X12_fails (srh10.ly ly) q13) rfl rfl ⟨Nat.le_of_ble_eq_true rfl, Nat.le_of_ble_eq_true rfl, fun _ => ⟨rfl, rfl⟩⟩ (Nat.le_of_ble_eq_true rfl) rfl (post_I (fun sq => ?_))
        have srh14 : SR h h14 := srh10.trans sq
        clear sq q13
        obtain ⟨b16, hf2⟩ := gd_el hf
        replace hf := hf2
        clear hf2
        refine V.ireturn dX12_newOne_81 rfl (narB b16) ⟨rfl, rfl⟩ ly.1 ?_
        exact ret_I hf srh14
      · replace hf := ite_p hf c12
        refine V.aload_n dX12_newOne_58 rfl rfl rfl ?_
        refine V.bipush (v := 44) dX12_newOne_59 rfl ?_
        refine V.aload_n dX12_newOne_61 rfl rfl rfl ?_
        refine V.getR (r := 114) dX12_newOne_62 fl_X12_7 rfl (Or.inl ⟨rfl, SHL_lt rfl⟩) rfl (ly_113_0 (srh10.ly ly)) ?_
        refine V.sipush (v := 1646) dX12_newOne_65 rfl ?_
        refine V.iaload dX12_newOne_68 rfl (Or.inl ⟨rfl, SHL_lt rfl⟩) (vp_lit (by decide)) ?_
        rw [show Int32.toNatClampNeg 1646 = 1646 from rfl]
        obtain ⟨r19, h18, q17, hf2⟩ := bd2_el hf
        replace hf := hf2
        clear hf2
        refine V.callVI dX12_newOne_69 ml_X12_180 mo_X12_findHere mv_X12_findHere rfl (fun q hq => by cases hq; rfl) (by decide) (Or.inl ⟨rfl, SHL_lt rfl⟩) (th_X12_findHere (srh10.ly ly) q17) rfl rfl ⟨Nat.le_of_ble_eq_true rfl, Nat.le_of_ble_eq_true rfl, fun _ => ⟨rfl, rfl⟩⟩ (Nat.le_of_ble_eq_true rfl) rfl (post_I (fun sq => ?_))
        have srh18 : SR h h18 := srh10.trans sq
        clear sq q17
        refine V.iconst (v := (-1)) dX12_newOne_72 rfl ?_
        refine V.icmp_eq (tgt := 82) dX12_newOne_73 (by decide) (fun c20 => ?_) (fun c20 => ?_)
        · replace hf := ite_p hf c20
          refine V.aload_n dX12_newOne_82 rfl rfl rfl ?_
          refine V.getR (r := 115) dX12_newOne_83 fl_X12_13 rfl (Or.inl ⟨rfl, SHL_lt rfl⟩) rfl (ly_113_1 (srh18.ly ly)) ?_
          refine V.bipush (v := 40) dX12_newOne_86 rfl ?_
          refine V.iload_n dX12_newOne_88 rfl rfl ?_
          refine V.iadd dX12_newOne_89 ?_
          refine V.aload_n dX12_newOne_90 rfl rfl rfl ?_
          refine V.getR (r := 114) dX12_newOne_91 fl_X12_7 rfl (Or.inl ⟨rfl, SHL_lt rfl⟩) rfl (ly_113_0 (srh18.ly ly)) ?_
          refine V.sipush (v := 1640) dX12_newOne_94 rfl ?_
          refine V.iload_n dX12_newOne_97 rfl rfl ?_
          refine V.iadd dX12_newOne_98 ?_
          obtain ⟨b21, hf2⟩ := gdi_el hf
          replace hf := hf2
          clear hf2
          refine V.iaload dX12_newOne_99 rfl (Or.inl ⟨rfl, SHL_lt rfl⟩) b21 ?_
          refine V.iadd dX12_newOne_100 ?_
          refine V.aload_n dX12_newOne_101 rfl rfl rfl ?_
          obtain ⟨r24, h23, q22, hf2⟩ := bd2_el hf
          replace hf := hf2
          clear hf2
          refine V.callVL dX12_newOne_102 ml_X12_170 mo_X12_nameHere mv_X12_nameHere rfl (fun q hq => by cases hq; rfl) (by decide) (Or.inl ⟨rfl, SHL_lt rfl⟩) (th_X12_nameHere (srh18.ly ly) q22) rfl rfl ⟨Nat.le_of_ble_eq_true rfl, Nat.le_of_ble_eq_true rfl, fun _ => ⟨rfl, rfl⟩⟩ (Nat.le_of_ble_eq_true rfl) rfl (post_L (fun sq => ?_))
          have srh23 : SR h h23 := srh18.trans sq
          clear sq q22
          obtain ⟨b25, hf2⟩ := gdi_el hf
          replace hf := hf2
          clear hf2
          refine V.lastore dX12_newOne_105 rfl (Or.inl ⟨rfl, SHL_lt rfl⟩) b25 ?_
          refine V.nameH (fun g26 eg26 => ?_)
          replace hf := lt_el hf g26 eg26
          have srg26 : SR h g26 := by rw [eg26]; exact srh23.L _ _ _
          refine V.aload_n dX12_newOne_106 rfl rfl rfl ?_
          obtain ⟨h28, q27, hf2⟩ := bd_el hf
          replace hf := hf2
          clear hf2
          refine V.callVV dX12_newOne_107 ml_X12_157 mo_X12_onward mv_X12_onward rfl (fun q hq => by cases hq; rfl) (by decide) (Or.inl ⟨rfl, SHL_lt rfl⟩) (th_X12_onward (srg26.ly ly) q27) rfl rfl ⟨Nat.le_of_ble_eq_true rfl, Nat.le_of_ble_eq_true rfl, fun _ => ⟨rfl, rfl⟩⟩ (Nat.le_of_ble_eq_true rfl) (Or.inl rfl) (post_V (fun sq => ?_))
          have srh28 : SR h h28 := srg26.trans sq
          clear sq q27
          refine V.iconst (v := 1) dX12_newOne_110 rfl ?_
          refine V.ireturn dX12_newOne_111 rfl rfl ⟨rfl, rfl⟩ ly.1 ?_
          exact ret_I hf srh28
        · replace hf := ite_n hf c20
          refine V.aload_n dX12_newOne_76 rfl rfl rfl ?_
          refine V.iconst (v := 3) dX12_newOne_77 rfl ?_
          obtain ⟨r31, h30, q29, hf2⟩ := bd2_el hf
          replace hf := hf2
          clear hf2
          refine V.callVI dX12_newOne_78 ml_X12_163 mo_X12_fails mv_X12_fails rfl (fun q hq => by cases hq; rfl) (by decide) (Or.inl ⟨rfl, SHL_lt rfl⟩) (th_X12_fails (srh18.ly ly) q29) rfl rfl ⟨Nat.le_of_ble_eq_true rfl, Nat.le_of_ble_eq_true rfl, fun _ => ⟨rfl, rfl⟩⟩ (Nat.le_of_ble_eq_true rfl) rfl (post_I (fun sq => ?_))
          have srh30 : SR h h30 := srh18.trans sq
          clear sq q29
          obtain ⟨b32, hf2⟩ := gd_el hf
          replace hf := hf2
          clear hf2
          refine V.ireturn dX12_newOne_81 rfl (narB b32) ⟨rfl, rfl⟩ ly.1 ?_
          exact ret_I hf srh30
    · replace hf := ite_p hf c8
      refine V.aload_n dX12_newOne_34 rfl rfl rfl ?_
      refine V.iconst (v := 2) dX12_newOne_35 rfl ?_
      obtain ⟨r35, h34, q33, hf2⟩ := bd2_el hf
      replace hf := hf2
      clear hf2
      refine V.callVI dX12_newOne_36 ml_X12_163 mo_X12_fails mv_X12_fails rfl (fun q hq => by cases hq; rfl) (by decide) (Or.inl ⟨rfl, SHL_lt rfl⟩) (th_X12_fails (srh6.ly ly) q33) rfl rfl ⟨Nat.le_of_ble_eq_true rfl, Nat.le_of_ble_eq_true rfl, fun _ => ⟨rfl, rfl⟩⟩ (Nat.le_of_ble_eq_true rfl) rfl (post_I (fun sq => ?_))
      have srh34 : SR h h34 := srh6.trans sq
      clear sq q33
      obtain ⟨b36, hf2⟩ := gd_el hf
      replace hf := hf2
      clear hf2
      refine V.ireturn dX12_newOne_39 rfl (narB b36) ⟨rfl, rfl⟩ ly.1 ?_
      exact ret_I hf srh34
  · replace hf := ite_p hf c2
    refine V.aload_n dX12_newOne_14 rfl rfl rfl ?_
    refine V.bipush (v := 6) dX12_newOne_15 rfl ?_
    obtain ⟨r39, h38, q37, hf2⟩ := bd2_el hf
    replace hf := hf2
    clear hf2
    refine V.callVI dX12_newOne_17 ml_X12_163 mo_X12_fails mv_X12_fails rfl (fun q hq => by cases hq; rfl) (by decide) (Or.inl ⟨rfl, SHL_lt rfl⟩) (th_X12_fails (srh.ly ly) q37) rfl rfl ⟨Nat.le_of_ble_eq_true rfl, Nat.le_of_ble_eq_true rfl, fun _ => ⟨rfl, rfl⟩⟩ (Nat.le_of_ble_eq_true rfl) rfl (post_I (fun sq => ?_))
    have srh38 : SR h h38 := srh.trans sq
    clear sq q37
    obtain ⟨b40, hf2⟩ := gd_el hf
    replace hf := hf2
    clear hf2
    refine V.ireturn dX12_newOne_20 rfl (narB b40) ⟨rfl, rfl⟩ ly.1 ?_
    exact ret_I hf srh38
set_option maxRecDepth 100000 in
theorem th_X12_first {h : HP} (ly : Lay h)  {rr : Int32} {hh : HP} (hf : f_X12_first h = some (rr, hh)) : Spec yX12_first cX12_first miX12_first [.ref 113] h (pI fun r' h' => (r' = rr ∧ h' = hh) ∧ SR h hh) := by
  refine Spec.of (ls0 := [.ref 113]) mo_X12_first (Nat.le_of_ble_eq_true rfl) rfl ?_
  rw [ly.1]
  have srh : SR h h := SR.refl h
  unfold f_X12_first at hf
  refine V.aload_n dX12_first_0 rfl rfl rfl ?_
  refine V.ldcS (i := 1) (by decide) dX12_first_1 rfl rfl ?_
  refine V.iconst (v := 0) dX12_first_3 rfl ?_
  obtain ⟨r3, h2, q1, hf2⟩ := bd2_el hf
  replace hf := hf2
  clear hf2
  refine V.callVI dX12_first_4 ml_X12_183 mo_X12_wantWord mv_X12_wantWord rfl (fun q hq => by cases hq; rfl) (by decide) (Or.inl ⟨rfl, SHL_lt rfl⟩) (th_X12_wantWord (srh.ly ly) q1) rfl rfl ⟨Nat.le_of_ble_eq_true rfl, Nat.le_of_ble_eq_true rfl, fun _ => ⟨rfl, rfl⟩⟩ (Nat.le_of_ble_eq_true rfl) rfl (post_I (fun sq => ?_))
  have srh2 : SR h h2 := srh.trans sq
  clear sq q1
  refine V.if_eq (tgt := 22) dX12_first_7 (by decide) (fun c4 => ?_) (fun c4 => ?_)
  · replace hf := ite_p hf c4
    refine V.iconst (v := 0) dX12_first_22 rfl ?_
    refine V.ireturn dX12_first_23 rfl rfl ⟨rfl, rfl⟩ ly.1 ?_
    exact ret_I hf srh2
  · replace hf := ite_n hf c4
    refine V.aload_n dX12_first_10 rfl rfl rfl ?_
    refine V.sipush (v := 1640) dX12_first_11 rfl ?_
    refine V.iconst (v := 1) dX12_first_14 rfl ?_
    refine V.iconst (v := 5) dX12_first_15 rfl ?_
    obtain ⟨r7, h6, q5, hf2⟩ := bd2_el hf
    replace hf := hf2
    clear hf2
    refine V.callVI dX12_first_16 ml_X12_187 mo_X12_number mv_X12_number rfl (fun q hq => by cases hq; rfl) (by decide) (Or.inl ⟨rfl, SHL_lt rfl⟩) (th_X12_number (srh2.ly ly) q5) rfl rfl ⟨Nat.le_of_ble_eq_true rfl, Nat.le_of_ble_eq_true rfl, fun _ => ⟨rfl, rfl⟩⟩ (Nat.le_of_ble_eq_true rfl) rfl (post_I (fun sq => ?_))
    have srh6 : SR h h6 := srh2.trans sq
    clear sq q5
    refine V.if_ne (tgt := 24) dX12_first_19 (by decide) (fun c8 => ?_) (fun c8 => ?_)
    · replace hf := ite_n hf c8
      refine V.aload_n dX12_first_24 rfl rfl rfl ?_
      refine V.getR (r := 114) dX12_first_25 fl_X12_7 rfl (Or.inl ⟨rfl, SHL_lt rfl⟩) rfl (ly_113_0 (srh6.ly ly)) ?_
      refine V.sipush (v := 1649) dX12_first_28 rfl ?_
      refine V.aload_n dX12_first_31 rfl rfl rfl ?_
      refine V.iconst (v := 4) dX12_first_32 rfl ?_
      obtain ⟨r11, h10, q9, hf2⟩ := bd2_el hf
      replace hf := hf2
      clear hf2
      refine V.callVI dX12_first_33 ml_X12_191 mo_X12_isThere mv_X12_isThere rfl (fun q hq => by cases hq; rfl) (by decide) (Or.inl ⟨rfl, SHL_lt rfl⟩) (th_X12_isThere (srh6.ly ly) q9) rfl rfl ⟨Nat.le_of_ble_eq_true rfl, Nat.le_of_ble_eq_true rfl, fun _ => ⟨rfl, rfl⟩⟩ (Nat.le_of_ble_eq_true rfl) rfl (post_I (fun sq => ?_))
      have srh10 : SR h h10 := srh6.trans sq
      clear sq q9
      refine V.if_eq (tgt := 55) dX12_first_36 (by decide) (fun c12 => ?_) (fun c12 => ?_)
      · replace hf := ite_p hf c12
        refine V.iconst (v := 0) dX12_first_55 rfl ?_
        refine V.iastore dX12_first_56 rfl (Or.inl ⟨rfl, SHL_lt rfl⟩) (vp_lit (by decide)) ?_
        rw [show Int32.toNatClampNeg 1649 = 1649 from rfl]
        refine V.nameH (fun g13 eg13 => ?_)
        replace hf := lt_el hf g13 eg13
        have srg13 : SR h g13 := by rw [eg13]; exact srh10.I _ _ _
        refine V.aload_n dX12_first_57 rfl rfl rfl ?_
        refine V.bipush (v := 59) dX12_first_58 rfl ?_
        obtain ⟨r16, h15, q14, hf2⟩ := bd2_el hf
        replace hf := hf2
        clear hf2
        refine V.callVI dX12_first_60 ml_X12_194 mo_X12_wantSign mv_X12_wantSign rfl (fun q hq => by cases hq; rfl) (by decide) (Or.inl ⟨rfl, SHL_lt rfl⟩) (th_X12_wantSign (srg13.ly ly) q14) rfl rfl ⟨Nat.le_of_ble_eq_true rfl, Nat.le_of_ble_eq_true rfl, fun _ => ⟨rfl, rfl⟩⟩ (Nat.le_of_ble_eq_true rfl) rfl (post_I (fun sq => ?_))
        have srh15 : SR h h15 := srg13.trans sq
        clear sq q14
        obtain ⟨b17, hf2⟩ := gd_el hf
        replace hf := hf2
        clear hf2
        refine V.ireturn dX12_first_63 rfl (narB b17) ⟨rfl, rfl⟩ ly.1 ?_
        exact ret_I hf srh15
      · replace hf := ite_n hf c12
        refine V.aload_n dX12_first_39 rfl rfl rfl ?_
        refine V.getR (r := 114) dX12_first_40 fl_X12_7 rfl (Or.inl ⟨rfl, SHL_lt rfl⟩) rfl (ly_113_0 (srh10.ly ly)) ?_
        refine V.sipush (v := 1640) dX12_first_43 rfl ?_
        refine V.iaload dX12_first_46 rfl (Or.inl ⟨rfl, SHL_lt rfl⟩) (vp_lit (by decide)) ?_
        rw [show Int32.toNatClampNeg 1640 = 1640 from rfl]
        refine V.iconst (v := 2) dX12_first_47 rfl ?_
        refine V.icmp_le (tgt := 55) dX12_first_48 (by decide) (fun c18 => ?_) (fun c18 => ?_)
        · replace hf := ite_p hf c18
          refine V.iconst (v := 0) dX12_first_55 rfl ?_
          refine V.iastore dX12_first_56 rfl (Or.inl ⟨rfl, SHL_lt rfl⟩) (vp_lit (by decide)) ?_
          rw [show Int32.toNatClampNeg 1649 = 1649 from rfl]
          refine V.nameH (fun g19 eg19 => ?_)
          replace hf := lt_el hf g19 eg19
          have srg19 : SR h g19 := by rw [eg19]; exact srh10.I _ _ _
          refine V.aload_n dX12_first_57 rfl rfl rfl ?_
          refine V.bipush (v := 59) dX12_first_58 rfl ?_
          obtain ⟨r22, h21, q20, hf2⟩ := bd2_el hf
          replace hf := hf2
          clear hf2
          refine V.callVI dX12_first_60 ml_X12_194 mo_X12_wantSign mv_X12_wantSign rfl (fun q hq => by cases hq; rfl) (by decide) (Or.inl ⟨rfl, SHL_lt rfl⟩) (th_X12_wantSign (srg19.ly ly) q20) rfl rfl ⟨Nat.le_of_ble_eq_true rfl, Nat.le_of_ble_eq_true rfl, fun _ => ⟨rfl, rfl⟩⟩ (Nat.le_of_ble_eq_true rfl) rfl (post_I (fun sq => ?_))
          have srh21 : SR h h21 := srg19.trans sq
          clear sq q20
          obtain ⟨b23, hf2⟩ := gd_el hf
          replace hf := hf2
          clear hf2
          refine V.ireturn dX12_first_63 rfl (narB b23) ⟨rfl, rfl⟩ ly.1 ?_
          exact ret_I hf srh21
        · replace hf := ite_n hf c18
          refine V.iconst (v := 1) dX12_first_51 rfl ?_
          refine V.goto (tgt := 56) dX12_first_52 (by decide) ?_
          refine V.iastore dX12_first_56 rfl (Or.inl ⟨rfl, SHL_lt rfl⟩) (vp_lit (by decide)) ?_
          rw [show Int32.toNatClampNeg 1649 = 1649 from rfl]
          refine V.nameH (fun g24 eg24 => ?_)
          replace hf := lt_el hf g24 eg24
          have srg24 : SR h g24 := by rw [eg24]; exact srh10.I _ _ _
          refine V.aload_n dX12_first_57 rfl rfl rfl ?_
          refine V.bipush (v := 59) dX12_first_58 rfl ?_
          obtain ⟨r27, h26, q25, hf2⟩ := bd2_el hf
          replace hf := hf2
          clear hf2
          refine V.callVI dX12_first_60 ml_X12_194 mo_X12_wantSign mv_X12_wantSign rfl (fun q hq => by cases hq; rfl) (by decide) (Or.inl ⟨rfl, SHL_lt rfl⟩) (th_X12_wantSign (srg24.ly ly) q25) rfl rfl ⟨Nat.le_of_ble_eq_true rfl, Nat.le_of_ble_eq_true rfl, fun _ => ⟨rfl, rfl⟩⟩ (Nat.le_of_ble_eq_true rfl) rfl (post_I (fun sq => ?_))
          have srh26 : SR h h26 := srg24.trans sq
          clear sq q25
          obtain ⟨b28, hf2⟩ := gd_el hf
          replace hf := hf2
          clear hf2
          refine V.ireturn dX12_first_63 rfl (narB b28) ⟨rfl, rfl⟩ ly.1 ?_
          exact ret_I hf srh26
    · replace hf := ite_p hf c8
      refine V.iconst (v := 0) dX12_first_22 rfl ?_
      refine V.ireturn dX12_first_23 rfl rfl ⟨rfl, rfl⟩ ly.1 ?_
      exact ret_I hf srh6
set_option maxRecDepth 100000 in
theorem th_X12_isLamp_30 {h0 : HP} (ly : Lay h0) {rr : Int32} {hh : HP}  : ∀  (h : HP), SR h0 h → f_X12_isLamp_30 h = some (rr, hh) → V cX12_isLamp miX12_isLamp (ZI h0 miX12_isLamp rr hh) 130 30 [.null] [] h := by
  intro  h srh hf
  unfold f_X12_isLamp_30 at hf
  refine V.iconst (v := 1) dX12_isLamp_30 rfl ?_
  refine V.goto (tgt := 35) dX12_isLamp_31 (by decide) ?_
  refine V.ireturn dX12_isLamp_35 rfl rfl ⟨rfl, rfl⟩ ly.1 ?_
  exact ret_I hf srh
set_option maxRecDepth 100000 in
theorem th_X12_isLamp {h : HP} (ly : Lay h) {a0 : Int32} {rr : Int32} {hh : HP} (hf : f_X12_isLamp h a0 = some (rr, hh)) : Spec yX12_isLamp cX12_isLamp miX12_isLamp [.int a0] h (pI fun r' h' => (r' = rr ∧ h' = hh) ∧ SR h hh) := by
  refine Spec.of (ls0 := [.int a0]) mo_X12_isLamp (Nat.le_of_ble_eq_true rfl) rfl ?_
  rw [ly.1]
  have srh : SR h h := SR.refl h
  unfold f_X12_isLamp at hf
  refine V.iload_n dX12_isLamp_0 rfl rfl ?_
  refine V.bipush (v := 100) dX12_isLamp_1 rfl ?_
  refine V.icmp_eq (tgt := 30) dX12_isLamp_3 (by decide) (fun c1 => ?_) (fun c1 => ?_)
  · replace hf := ite_p hf c1
    refine V.less (ls' := [.null]) ⟨Or.inl rfl, trivial⟩ ?_
    exact th_X12_isLamp_30 ly h srh hf
  · replace hf := ite_n hf c1
    refine V.iload_n dX12_isLamp_6 rfl rfl ?_
    refine V.bipush (v := 108) dX12_isLamp_7 rfl ?_
    refine V.icmp_eq (tgt := 30) dX12_isLamp_9 (by decide) (fun c2 => ?_) (fun c2 => ?_)
    · replace hf := ite_p hf c2
      refine V.less (ls' := [.null]) ⟨Or.inl rfl, trivial⟩ ?_
      exact th_X12_isLamp_30 ly h srh hf
    · replace hf := ite_n hf c2
      refine V.iload_n dX12_isLamp_12 rfl rfl ?_
      refine V.bipush (v := 110) dX12_isLamp_13 rfl ?_
      refine V.icmp_eq (tgt := 30) dX12_isLamp_15 (by decide) (fun c3 => ?_) (fun c3 => ?_)
      · replace hf := ite_p hf c3
        refine V.less (ls' := [.null]) ⟨Or.inl rfl, trivial⟩ ?_
        exact th_X12_isLamp_30 ly h srh hf
      · replace hf := ite_n hf c3
        refine V.iload_n dX12_isLamp_18 rfl rfl ?_
        refine V.bipush (v := 119) dX12_isLamp_19 rfl ?_
        refine V.icmp_eq (tgt := 30) dX12_isLamp_21 (by decide) (fun c4 => ?_) (fun c4 => ?_)
        · replace hf := ite_p hf c4
          refine V.less (ls' := [.null]) ⟨Or.inl rfl, trivial⟩ ?_
          exact th_X12_isLamp_30 ly h srh hf
        · replace hf := ite_n hf c4
          refine V.iload_n dX12_isLamp_24 rfl rfl ?_
          refine V.bipush (v := 120) dX12_isLamp_25 rfl ?_
          refine V.icmp_ne (tgt := 34) dX12_isLamp_27 (by decide) (fun c5 => ?_) (fun c5 => ?_)
          · replace hf := ite_n hf c5
            refine V.iconst (v := 0) dX12_isLamp_34 rfl ?_
            refine V.ireturn dX12_isLamp_35 rfl rfl ⟨rfl, rfl⟩ ly.1 ?_
            exact ret_I hf srh
          · replace hf := ite_p hf c5
            refine V.less (ls' := [.null]) ⟨Or.inl rfl, trivial⟩ ?_
            exact th_X12_isLamp_30 ly h srh hf
set_option maxRecDepth 100000 in
theorem th_X12_aRow_182 {h0 : HP} (ly : Lay h0) {rr : Int32} {hh : HP} {K99 : Int32 → HP → Option (Int32 × HP)} (kok99 : ∀ (l1 : Int32) (g : HP), SR h0 g → K99 l1 g = some (rr, hh) → V cX12_aRow miX12_aRow (ZI h0 miX12_aRow rr hh) 130 99 [.ref 113, .int l1, .null, .null] [] g) : ∀ (l1 : Int32) (l2 : Int32) (l3 : Int32) (h : HP), SR h0 h → f_X12_aRow_182 K99 l1 l2 l3 h = some (rr, hh) → V cX12_aRow miX12_aRow (ZI h0 miX12_aRow rr hh) 130 182 [.ref 113, .int l1, .int l2, .int l3] [] h := by
  intro l1 l2 l3 h srh hf
  unfold f_X12_aRow_182 at hf
  refine V.iload_n dX12_aRow_182 rfl rfl ?_
  refine V.bipush (v := 119) dX12_aRow_183 rfl ?_
  refine V.icmp_eq (tgt := 194) dX12_aRow_185 (by decide) (fun c51 => ?_) (fun c51 => ?_)
  · replace hf := ite_p hf c51
    refine V.aload_n dX12_aRow_194 rfl rfl rfl ?_
    refine V.getR (r := 114) dX12_aRow_195 fl_X12_7 rfl (Or.inl ⟨rfl, SHL_lt rfl⟩) rfl (ly_113_0 (srh.ly ly)) ?_
    refine V.sipush (v := 1644) dX12_aRow_198 rfl ?_
    refine V.dup2 dX12_aRow_201 rfl rfl ?_
    refine V.iaload dX12_aRow_202 rfl (Or.inl ⟨rfl, SHL_lt rfl⟩) (vp_lit (by decide)) ?_
    rw [show Int32.toNatClampNeg 1644 = 1644 from rfl]
    refine V.iload_n dX12_aRow_203 rfl rfl ?_
    refine V.ior dX12_aRow_204 ?_
    refine V.iastore dX12_aRow_205 rfl (Or.inl ⟨rfl, SHL_lt rfl⟩) (vp_lit (by decide)) ?_
    rw [show Int32.toNatClampNeg 1644 = 1644 from rfl]
    refine V.nameH (fun g52 eg52 => ?_)
    replace hf := lt_el hf g52 eg52
    have srg52 : SR h0 g52 := by rw [eg52]; exact srh.I _ _ _
    obtain ⟨x53, ex53⟩ : ∃ y : Int32, y = l1 + 1 := ⟨_, rfl⟩
    replace hf := lt_el hf x53 ex53
    refine V.iinc (v := x53) (ls' := [.ref 113, .int x53, .int l2, .int l3]) dX12_aRow_206 rfl (by decide) ex53.symm rfl ?_
    refine V.goto (tgt := 99) dX12_aRow_209 (by decide) ?_
    refine V.less (ls' := [.ref 113, .int x53, .null, .null]) ⟨Or.inr rfl, Or.inr rfl, Or.inl rfl, Or.inl rfl, trivial⟩ ?_
    exact kok99 x53 g52 srg52 hf
  · replace hf := ite_n hf c51
    refine V.iload_n dX12_aRow_188 rfl rfl ?_
    refine V.bipush (v := 120) dX12_aRow_189 rfl ?_
    refine V.icmp_ne (tgt := 206) dX12_aRow_191 (by decide) (fun c54 => ?_) (fun c54 => ?_)
    · replace hf := ite_n hf c54
      obtain ⟨x55, ex55⟩ : ∃ y : Int32, y = l1 + 1 := ⟨_, rfl⟩
      replace hf := lt_el hf x55 ex55
      refine V.iinc (v := x55) (ls' := [.ref 113, .int x55, .int l2, .int l3]) dX12_aRow_206 rfl (by decide) ex55.symm rfl ?_
      refine V.goto (tgt := 99) dX12_aRow_209 (by decide) ?_
      refine V.less (ls' := [.ref 113, .int x55, .null, .null]) ⟨Or.inr rfl, Or.inr rfl, Or.inl rfl, Or.inl rfl, trivial⟩ ?_
      exact kok99 x55 h srh hf
    · replace hf := ite_p hf c54
      refine V.aload_n dX12_aRow_194 rfl rfl rfl ?_
      refine V.getR (r := 114) dX12_aRow_195 fl_X12_7 rfl (Or.inl ⟨rfl, SHL_lt rfl⟩) rfl (ly_113_0 (srh.ly ly)) ?_
      refine V.sipush (v := 1644) dX12_aRow_198 rfl ?_
      refine V.dup2 dX12_aRow_201 rfl rfl ?_
      refine V.iaload dX12_aRow_202 rfl (Or.inl ⟨rfl, SHL_lt rfl⟩) (vp_lit (by decide)) ?_
      rw [show Int32.toNatClampNeg 1644 = 1644 from rfl]
      refine V.iload_n dX12_aRow_203 rfl rfl ?_
      refine V.ior dX12_aRow_204 ?_
      refine V.iastore dX12_aRow_205 rfl (Or.inl ⟨rfl, SHL_lt rfl⟩) (vp_lit (by decide)) ?_
      rw [show Int32.toNatClampNeg 1644 = 1644 from rfl]
      refine V.nameH (fun g56 eg56 => ?_)
      replace hf := lt_el hf g56 eg56
      have srg56 : SR h0 g56 := by rw [eg56]; exact srh.I _ _ _
      obtain ⟨x57, ex57⟩ : ∃ y : Int32, y = l1 + 1 := ⟨_, rfl⟩
      replace hf := lt_el hf x57 ex57
      refine V.iinc (v := x57) (ls' := [.ref 113, .int x57, .int l2, .int l3]) dX12_aRow_206 rfl (by decide) ex57.symm rfl ?_
      refine V.goto (tgt := 99) dX12_aRow_209 (by decide) ?_
      refine V.less (ls' := [.ref 113, .int x57, .null, .null]) ⟨Or.inr rfl, Or.inr rfl, Or.inl rfl, Or.inl rfl, trivial⟩ ?_
      exact kok99 x57 g56 srg56 hf
set_option maxRecDepth 100000 in
theorem th_X12_aRow_158 {h0 : HP} (ly : Lay h0) {rr : Int32} {hh : HP} {K99 : Int32 → HP → Option (Int32 × HP)} (kok99 : ∀ (l1 : Int32) (g : HP), SR h0 g → K99 l1 g = some (rr, hh) → V cX12_aRow miX12_aRow (ZI h0 miX12_aRow rr hh) 130 99 [.ref 113, .int l1, .null, .null] [] g) : ∀ (l1 : Int32) (l2 : Int32) (l3 : Int32) (h : HP), SR h0 h → f_X12_aRow_158 K99 l1 l2 l3 h = some (rr, hh) → V cX12_aRow miX12_aRow (ZI h0 miX12_aRow rr hh) 130 158 [.ref 113, .int l1, .int l2, .int l3] [] h := by
  intro l1 l2 l3 h srh hf
  unfold f_X12_aRow_158 at hf
  refine V.iload_n dX12_aRow_158 rfl rfl ?_
  refine V.bipush (v := 108) dX12_aRow_159 rfl ?_
  refine V.icmp_eq (tgt := 170) dX12_aRow_161 (by decide) (fun c47 => ?_) (fun c47 => ?_)
  · replace hf := ite_p hf c47
    refine V.aload_n dX12_aRow_170 rfl rfl rfl ?_
    refine V.getR (r := 114) dX12_aRow_171 fl_X12_7 rfl (Or.inl ⟨rfl, SHL_lt rfl⟩) rfl (ly_113_0 (srh.ly ly)) ?_
    refine V.sipush (v := 1643) dX12_aRow_174 rfl ?_
    refine V.dup2 dX12_aRow_177 rfl rfl ?_
    refine V.iaload dX12_aRow_178 rfl (Or.inl ⟨rfl, SHL_lt rfl⟩) (vp_lit (by decide)) ?_
    rw [show Int32.toNatClampNeg 1643 = 1643 from rfl]
    refine V.iload_n dX12_aRow_179 rfl rfl ?_
    refine V.ior dX12_aRow_180 ?_
    refine V.iastore dX12_aRow_181 rfl (Or.inl ⟨rfl, SHL_lt rfl⟩) (vp_lit (by decide)) ?_
    rw [show Int32.toNatClampNeg 1643 = 1643 from rfl]
    refine V.nameH (fun g48 eg48 => ?_)
    replace hf := lt_el hf g48 eg48
    have srg48 : SR h0 g48 := by rw [eg48]; exact srh.I _ _ _
    exact th_X12_aRow_182 ly kok99 l1 l2 l3 g48 srg48 hf
  · replace hf := ite_n hf c47
    refine V.iload_n dX12_aRow_164 rfl rfl ?_
    refine V.bipush (v := 119) dX12_aRow_165 rfl ?_
    refine V.icmp_ne (tgt := 182) dX12_aRow_167 (by decide) (fun c49 => ?_) (fun c49 => ?_)
    · replace hf := ite_n hf c49
      exact th_X12_aRow_182 ly kok99 l1 l2 l3 h srh hf
    · replace hf := ite_p hf c49
      refine V.aload_n dX12_aRow_170 rfl rfl rfl ?_
      refine V.getR (r := 114) dX12_aRow_171 fl_X12_7 rfl (Or.inl ⟨rfl, SHL_lt rfl⟩) rfl (ly_113_0 (srh.ly ly)) ?_
      refine V.sipush (v := 1643) dX12_aRow_174 rfl ?_
      refine V.dup2 dX12_aRow_177 rfl rfl ?_
      refine V.iaload dX12_aRow_178 rfl (Or.inl ⟨rfl, SHL_lt rfl⟩) (vp_lit (by decide)) ?_
      rw [show Int32.toNatClampNeg 1643 = 1643 from rfl]
      refine V.iload_n dX12_aRow_179 rfl rfl ?_
      refine V.ior dX12_aRow_180 ?_
      refine V.iastore dX12_aRow_181 rfl (Or.inl ⟨rfl, SHL_lt rfl⟩) (vp_lit (by decide)) ?_
      rw [show Int32.toNatClampNeg 1643 = 1643 from rfl]
      refine V.nameH (fun g50 eg50 => ?_)
      replace hf := lt_el hf g50 eg50
      have srg50 : SR h0 g50 := by rw [eg50]; exact srh.I _ _ _
      exact th_X12_aRow_182 ly kok99 l1 l2 l3 g50 srg50 hf
set_option maxRecDepth 100000 in
theorem th_X12_aRow_99 {h0 : HP} (ly : Lay h0) {rr : Int32} {hh : HP}  : ∀ (n : Nat) (l1 : Int32) (h : HP), SR h0 h → f_X12_aRow_99 n l1 h = some (rr, hh) → V cX12_aRow miX12_aRow (ZI h0 miX12_aRow rr hh) 130 99 [.ref 113, .int l1, .null, .null] [] h := by
  intro n
  induction n with
  | zero => intro l1 h srh hf; exact absurd hf (by unfold f_X12_aRow_99; simp)
  | succ n ih =>
    intro l1 h srh hf
    unfold f_X12_aRow_99 at hf
    refine V.iload_n dX12_aRow_99 rfl rfl ?_
    refine V.aload_n dX12_aRow_100 rfl rfl rfl ?_
    refine V.getI dX12_aRow_101 fl_X12_114 rfl (Or.inl ⟨rfl, SHL_lt rfl⟩) rfl rfl ?_
    refine V.icmp_ge (tgt := 212) dX12_aRow_104 (by decide) (fun c33 => ?_) (fun c33 => ?_)
    · replace hf := ite_p hf c33
      refine V.aload_n dX12_aRow_212 rfl rfl rfl ?_
      refine V.getR (r := 114) dX12_aRow_213 fl_X12_7 rfl (Or.inl ⟨rfl, SHL_lt rfl⟩) rfl (ly_113_0 (srh.ly ly)) ?_
      refine V.sipush (v := 1641) dX12_aRow_216 rfl ?_
      refine V.dup2 dX12_aRow_219 rfl rfl ?_
      refine V.iaload dX12_aRow_220 rfl (Or.inl ⟨rfl, SHL_lt rfl⟩) (vp_lit (by decide)) ?_
      rw [show Int32.toNatClampNeg 1641 = 1641 from rfl]
      refine V.iconst (v := 1) dX12_aRow_221 rfl ?_
      refine V.iadd dX12_aRow_222 ?_
      refine V.iastore dX12_aRow_223 rfl (Or.inl ⟨rfl, SHL_lt rfl⟩) (vp_lit (by decide)) ?_
      rw [show Int32.toNatClampNeg 1641 = 1641 from rfl]
      refine V.nameH (fun g34 eg34 => ?_)
      replace hf := lt_el hf g34 eg34
      have srg34 : SR h0 g34 := by rw [eg34]; exact srh.I _ _ _
      refine V.aload_n dX12_aRow_224 rfl rfl rfl ?_
      obtain ⟨h36, q35, hf2⟩ := bd_el hf
      replace hf := hf2
      clear hf2
      refine V.callVV dX12_aRow_225 ml_X12_157 mo_X12_onward mv_X12_onward rfl (fun q hq => by cases hq; rfl) (by decide) (Or.inl ⟨rfl, SHL_lt rfl⟩) (th_X12_onward (srg34.ly ly) q35) rfl rfl ⟨Nat.le_of_ble_eq_true rfl, Nat.le_of_ble_eq_true rfl, fun _ => ⟨rfl, rfl⟩⟩ (Nat.le_of_ble_eq_true rfl) (Or.inl rfl) (post_V (fun sq => ?_))
      have srh36 : SR h0 h36 := srg34.trans sq
      clear sq q35
      refine V.aload_n dX12_aRow_228 rfl rfl rfl ?_
      refine V.bipush (v := 59) dX12_aRow_229 rfl ?_
      obtain ⟨r39, h38, q37, hf2⟩ := bd2_el hf
      replace hf := hf2
      clear hf2
      refine V.callVI dX12_aRow_231 ml_X12_194 mo_X12_wantSign mv_X12_wantSign rfl (fun q hq => by cases hq; rfl) (by decide) (Or.inl ⟨rfl, SHL_lt rfl⟩) (th_X12_wantSign (srh36.ly ly) q37) rfl rfl ⟨Nat.le_of_ble_eq_true rfl, Nat.le_of_ble_eq_true rfl, fun _ => ⟨rfl, rfl⟩⟩ (Nat.le_of_ble_eq_true rfl) rfl (post_I (fun sq => ?_))
      have srh38 : SR h0 h38 := srh36.trans sq
      clear sq q37
      obtain ⟨b40, hf2⟩ := gd_el hf
      replace hf := hf2
      clear hf2
      refine V.ireturn dX12_aRow_234 rfl (narB b40) ⟨rfl, rfl⟩ ly.1 ?_
      exact ret_I hf srh38
    · replace hf := ite_n hf c33
      refine V.iconst (v := 1) dX12_aRow_107 rfl ?_
      refine V.aload_n dX12_aRow_108 rfl rfl rfl ?_
      refine V.getR (r := 114) dX12_aRow_109 fl_X12_7 rfl (Or.inl ⟨rfl, SHL_lt rfl⟩) rfl (ly_113_0 (srh.ly ly)) ?_
      refine V.sipush (v := 1640) dX12_aRow_112 rfl ?_
      refine V.iaload dX12_aRow_115 rfl (Or.inl ⟨rfl, SHL_lt rfl⟩) (vp_lit (by decide)) ?_
      rw [show Int32.toNatClampNeg 1640 = 1640 from rfl]
      refine V.aload_n dX12_aRow_116 rfl rfl rfl ?_
      refine V.getR (r := 114) dX12_aRow_117 fl_X12_7 rfl (Or.inl ⟨rfl, SHL_lt rfl⟩) rfl (ly_113_0 (srh.ly ly)) ?_
      refine V.sipush (v := 1641) dX12_aRow_120 rfl ?_
      refine V.iaload dX12_aRow_123 rfl (Or.inl ⟨rfl, SHL_lt rfl⟩) (vp_lit (by decide)) ?_
      rw [show Int32.toNatClampNeg 1641 = 1641 from rfl]
      refine V.imul dX12_aRow_124 ?_
      refine V.iload_n dX12_aRow_125 rfl rfl ?_
      refine V.iadd dX12_aRow_126 ?_
      refine V.aload_n dX12_aRow_127 rfl rfl rfl ?_
      refine V.getI dX12_aRow_128 fl_X12_120 rfl (Or.inl ⟨rfl, SHL_lt rfl⟩) rfl rfl ?_
      refine V.isub dX12_aRow_131 ?_
      refine V.ishl dX12_aRow_132 ?_
      refine V.nmi (fun x41 ex41 => ?_)
      replace hf := lt_el hf x41 ex41
      refine V.istore_n (ls' := [.ref 113, .int l1, .int x41, .null]) dX12_aRow_133 rfl (by decide) rfl ?_
      refine V.aload_n dX12_aRow_134 rfl rfl rfl ?_
      refine V.iload_n dX12_aRow_135 rfl rfl ?_
      obtain ⟨r44, h43, q42, hf2⟩ := bd2_el hf
      replace hf := hf2
      clear hf2
      refine V.callVI dX12_aRow_136 ml_X12_117 mo_X12_byteAt mv_X12_byteAt rfl (fun q hq => by cases hq; rfl) (by decide) (Or.inl ⟨rfl, SHL_lt rfl⟩) (th_X12_byteAt (srh.ly ly) q42) rfl rfl ⟨Nat.le_of_ble_eq_true rfl, Nat.le_of_ble_eq_true rfl, fun _ => ⟨rfl, rfl⟩⟩ (Nat.le_of_ble_eq_true rfl) rfl (post_I (fun sq => ?_))
      have srh43 : SR h0 h43 := srh.trans sq
      clear sq q42
      refine V.istore_n (ls' := [.ref 113, .int l1, .int x41, .int r44]) dX12_aRow_139 rfl (by decide) rfl ?_
      refine V.iload_n dX12_aRow_140 rfl rfl ?_
      refine V.bipush (v := 110) dX12_aRow_141 rfl ?_
      refine V.icmp_eq (tgt := 158) dX12_aRow_143 (by decide) (fun c45 => ?_) (fun c45 => ?_)
      · replace hf := ite_p hf c45
        exact th_X12_aRow_158 ly ih l1 x41 r44 h43 srh43 hf
      · replace hf := ite_n hf c45
        refine V.aload_n dX12_aRow_146 rfl rfl rfl ?_
        refine V.getR (r := 114) dX12_aRow_147 fl_X12_7 rfl (Or.inl ⟨rfl, SHL_lt rfl⟩) rfl (ly_113_0 (srh43.ly ly)) ?_
        refine V.sipush (v := 1642) dX12_aRow_150 rfl ?_
        refine V.dup2 dX12_aRow_153 rfl rfl ?_
        refine V.iaload dX12_aRow_154 rfl (Or.inl ⟨rfl, SHL_lt rfl⟩) (vp_lit (by decide)) ?_
        rw [show Int32.toNatClampNeg 1642 = 1642 from rfl]
        refine V.iload_n dX12_aRow_155 rfl rfl ?_
        refine V.ior dX12_aRow_156 ?_
        refine V.iastore dX12_aRow_157 rfl (Or.inl ⟨rfl, SHL_lt rfl⟩) (vp_lit (by decide)) ?_
        rw [show Int32.toNatClampNeg 1642 = 1642 from rfl]
        refine V.nameH (fun g46 eg46 => ?_)
        replace hf := lt_el hf g46 eg46
        have srg46 : SR h0 g46 := by rw [eg46]; exact srh43.I _ _ _
        exact th_X12_aRow_158 ly ih l1 x41 r44 g46 srg46 hf
set_option maxRecDepth 100000 in
theorem th_X12_aRow_63 {h0 : HP} (ly : Lay h0) {rr : Int32} {hh : HP}  : ∀ (n : Nat) (l1 : Int32) (h : HP), SR h0 h → f_X12_aRow_63 n l1 h = some (rr, hh) → V cX12_aRow miX12_aRow (ZI h0 miX12_aRow rr hh) 130 63 [.ref 113, .int l1, .null, .null] [] h := by
  intro n
  induction n with
  | zero => intro l1 h srh hf; exact absurd hf (by unfold f_X12_aRow_63; simp)
  | succ n ih =>
    intro l1 h srh hf
    unfold f_X12_aRow_63 at hf
    refine V.iload_n dX12_aRow_63 rfl rfl ?_
    refine V.aload_n dX12_aRow_64 rfl rfl rfl ?_
    refine V.getI dX12_aRow_65 fl_X12_114 rfl (Or.inl ⟨rfl, SHL_lt rfl⟩) rfl rfl ?_
    refine V.icmp_ge (tgt := 94) dX12_aRow_68 (by decide) (fun c19 => ?_) (fun c19 => ?_)
    · replace hf := ite_p hf c19
      refine V.aload_n dX12_aRow_94 rfl rfl rfl ?_
      refine V.getI dX12_aRow_95 fl_X12_120 rfl (Or.inl ⟨rfl, SHL_lt rfl⟩) rfl rfl ?_
      refine V.nmi (fun x20 ex20 => ?_)
      replace hf := lt_el hf x20 ex20
      refine V.istore_n (ls' := [.ref 113, .int x20, .null, .null]) dX12_aRow_98 rfl (by decide) rfl ?_
      exact th_X12_aRow_99 ly FU x20 h srh hf
    · replace hf := ite_n hf c19
      refine V.aload_n dX12_aRow_71 rfl rfl rfl ?_
      refine V.iload_n dX12_aRow_72 rfl rfl ?_
      obtain ⟨r23, h22, q21, hf2⟩ := bd2_el hf
      replace hf := hf2
      clear hf2
      refine V.callVI dX12_aRow_73 ml_X12_117 mo_X12_byteAt mv_X12_byteAt rfl (fun q hq => by cases hq; rfl) (by decide) (Or.inl ⟨rfl, SHL_lt rfl⟩) (th_X12_byteAt (srh.ly ly) q21) rfl rfl ⟨Nat.le_of_ble_eq_true rfl, Nat.le_of_ble_eq_true rfl, fun _ => ⟨rfl, rfl⟩⟩ (Nat.le_of_ble_eq_true rfl) rfl (post_I (fun sq => ?_))
      have srh22 : SR h0 h22 := srh.trans sq
      clear sq q21
      obtain ⟨r26, h25, q24, hf2⟩ := bd2_el hf
      replace hf := hf2
      clear hf2
      refine V.callSI dX12_aRow_76 ml_X12_197 mo_X12_isLamp ms_X12_isLamp (th_X12_isLamp (srh22.ly ly) q24) rfl rfl ⟨Nat.le_of_ble_eq_true rfl, Nat.le_of_ble_eq_true rfl, fun _ => ⟨rfl, rfl⟩⟩ (Nat.le_of_ble_eq_true rfl) rfl (post_I (fun sq => ?_))
      have srh25 : SR h0 h25 := srh22.trans sq
      clear sq q24
      refine V.if_ne (tgt := 88) dX12_aRow_79 (by decide) (fun c27 => ?_) (fun c27 => ?_)
      · replace hf := ite_n hf c27
        obtain ⟨x28, ex28⟩ : ∃ y : Int32, y = l1 + 1 := ⟨_, rfl⟩
        replace hf := lt_el hf x28 ex28
        refine V.iinc (v := x28) (ls' := [.ref 113, .int x28, .null, .null]) dX12_aRow_88 rfl (by decide) ex28.symm rfl ?_
        refine V.goto (tgt := 63) dX12_aRow_91 (by decide) ?_
        exact ih x28 h25 srh25 hf
      · replace hf := ite_p hf c27
        refine V.aload_n dX12_aRow_82 rfl rfl rfl ?_
        refine V.iconst (v := 2) dX12_aRow_83 rfl ?_
        obtain ⟨r31, h30, q29, hf2⟩ := bd2_el hf
        replace hf := hf2
        clear hf2
        refine V.callVI dX12_aRow_84 ml_X12_163 mo_X12_fails mv_X12_fails rfl (fun q hq => by cases hq; rfl) (by decide) (Or.inl ⟨rfl, SHL_lt rfl⟩) (th_X12_fails (srh25.ly ly) q29) rfl rfl ⟨Nat.le_of_ble_eq_true rfl, Nat.le_of_ble_eq_true rfl, fun _ => ⟨rfl, rfl⟩⟩ (Nat.le_of_ble_eq_true rfl) rfl (post_I (fun sq => ?_))
        have srh30 : SR h0 h30 := srh25.trans sq
        clear sq q29
        obtain ⟨b32, hf2⟩ := gd_el hf
        replace hf := hf2
        clear hf2
        refine V.ireturn dX12_aRow_87 rfl (narB b32) ⟨rfl, rfl⟩ ly.1 ?_
        exact ret_I hf srh30
set_option maxRecDepth 100000 in
theorem th_X12_aRow {h : HP} (ly : Lay h)  {rr : Int32} {hh : HP} (hf : f_X12_aRow h = some (rr, hh)) : Spec yX12_aRow cX12_aRow miX12_aRow [.ref 113] h (pI fun r' h' => (r' = rr ∧ h' = hh) ∧ SR h hh) := by
  refine Spec.of (ls0 := [.ref 113, .null, .null, .null]) mo_X12_aRow (Nat.le_of_ble_eq_true rfl) rfl ?_
  rw [ly.1]
  have srh : SR h h := SR.refl h
  unfold f_X12_aRow at hf
  refine V.aload_n dX12_aRow_0 rfl rfl rfl ?_
  refine V.getR (r := 114) dX12_aRow_1 fl_X12_7 rfl (Or.inl ⟨rfl, SHL_lt rfl⟩) rfl (ly_113_0 (srh.ly ly)) ?_
  refine V.sipush (v := 1641) dX12_aRow_4 rfl ?_
  refine V.iaload dX12_aRow_7 rfl (Or.inl ⟨rfl, SHL_lt rfl⟩) (vp_lit (by decide)) ?_
  rw [show Int32.toNatClampNeg 1641 = 1641 from rfl]
  refine V.bipush (v := 6) dX12_aRow_8 rfl ?_
  refine V.icmp_ne (tgt := 20) dX12_aRow_10 (by decide) (fun c1 => ?_) (fun c1 => ?_)
  · replace hf := ite_n hf c1
    refine V.aload_n dX12_aRow_20 rfl rfl rfl ?_
    obtain ⟨h3, q2, hf2⟩ := bd_el hf
    replace hf := hf2
    clear hf2
    refine V.callVV dX12_aRow_21 ml_X12_157 mo_X12_onward mv_X12_onward rfl (fun q hq => by cases hq; rfl) (by decide) (Or.inl ⟨rfl, SHL_lt rfl⟩) (th_X12_onward (srh.ly ly) q2) rfl rfl ⟨Nat.le_of_ble_eq_true rfl, Nat.le_of_ble_eq_true rfl, fun _ => ⟨rfl, rfl⟩⟩ (Nat.le_of_ble_eq_true rfl) (Or.inl rfl) (post_V (fun sq => ?_))
    have srh3 : SR h h3 := srh.trans sq
    clear sq q2
    refine V.aload_n dX12_aRow_24 rfl rfl rfl ?_
    refine V.getI dX12_aRow_25 fl_X12_126 rfl (Or.inl ⟨rfl, SHL_lt rfl⟩) rfl rfl ?_
    refine V.iconst (v := 2) dX12_aRow_28 rfl ?_
    refine V.icmp_ne (tgt := 52) dX12_aRow_29 (by decide) (fun c4 => ?_) (fun c4 => ?_)
    · replace hf := ite_n hf c4
      refine V.aload_n dX12_aRow_52 rfl rfl rfl ?_
      refine V.iconst (v := 2) dX12_aRow_53 rfl ?_
      obtain ⟨r7, h6, q5, hf2⟩ := bd2_el hf
      replace hf := hf2
      clear hf2
      refine V.callVI dX12_aRow_54 ml_X12_163 mo_X12_fails mv_X12_fails rfl (fun q hq => by cases hq; rfl) (by decide) (Or.inl ⟨rfl, SHL_lt rfl⟩) (th_X12_fails (srh3.ly ly) q5) rfl rfl ⟨Nat.le_of_ble_eq_true rfl, Nat.le_of_ble_eq_true rfl, fun _ => ⟨rfl, rfl⟩⟩ (Nat.le_of_ble_eq_true rfl) rfl (post_I (fun sq => ?_))
      have srh6 : SR h h6 := srh3.trans sq
      clear sq q5
      obtain ⟨b8, hf2⟩ := gd_el hf
      replace hf := hf2
      clear hf2
      refine V.ireturn dX12_aRow_57 rfl (narB b8) ⟨rfl, rfl⟩ ly.1 ?_
      exact ret_I hf srh6
    · replace hf := ite_p hf c4
      refine V.aload_n dX12_aRow_32 rfl rfl rfl ?_
      refine V.getI dX12_aRow_33 fl_X12_114 rfl (Or.inl ⟨rfl, SHL_lt rfl⟩) rfl rfl ?_
      refine V.aload_n dX12_aRow_36 rfl rfl rfl ?_
      refine V.getI dX12_aRow_37 fl_X12_120 rfl (Or.inl ⟨rfl, SHL_lt rfl⟩) rfl rfl ?_
      refine V.isub dX12_aRow_40 ?_
      refine V.aload_n dX12_aRow_41 rfl rfl rfl ?_
      refine V.getR (r := 114) dX12_aRow_42 fl_X12_7 rfl (Or.inl ⟨rfl, SHL_lt rfl⟩) rfl (ly_113_0 (srh3.ly ly)) ?_
      refine V.sipush (v := 1640) dX12_aRow_45 rfl ?_
      refine V.iaload dX12_aRow_48 rfl (Or.inl ⟨rfl, SHL_lt rfl⟩) (vp_lit (by decide)) ?_
      rw [show Int32.toNatClampNeg 1640 = 1640 from rfl]
      refine V.icmp_eq (tgt := 58) dX12_aRow_49 (by decide) (fun c9 => ?_) (fun c9 => ?_)
      · replace hf := ite_p hf c9
        refine V.aload_n dX12_aRow_58 rfl rfl rfl ?_
        refine V.getI dX12_aRow_59 fl_X12_120 rfl (Or.inl ⟨rfl, SHL_lt rfl⟩) rfl rfl ?_
        refine V.nmi (fun x10 ex10 => ?_)
        replace hf := lt_el hf x10 ex10
        refine V.istore_n (ls' := [.ref 113, .int x10, .null, .null]) dX12_aRow_62 rfl (by decide) rfl ?_
        exact th_X12_aRow_63 ly FU x10 h3 srh3 hf
      · replace hf := ite_n hf c9
        refine V.aload_n dX12_aRow_52 rfl rfl rfl ?_
        refine V.iconst (v := 2) dX12_aRow_53 rfl ?_
        obtain ⟨r13, h12, q11, hf2⟩ := bd2_el hf
        replace hf := hf2
        clear hf2
        refine V.callVI dX12_aRow_54 ml_X12_163 mo_X12_fails mv_X12_fails rfl (fun q hq => by cases hq; rfl) (by decide) (Or.inl ⟨rfl, SHL_lt rfl⟩) (th_X12_fails (srh3.ly ly) q11) rfl rfl ⟨Nat.le_of_ble_eq_true rfl, Nat.le_of_ble_eq_true rfl, fun _ => ⟨rfl, rfl⟩⟩ (Nat.le_of_ble_eq_true rfl) rfl (post_I (fun sq => ?_))
        have srh12 : SR h h12 := srh3.trans sq
        clear sq q11
        obtain ⟨b14, hf2⟩ := gd_el hf
        replace hf := hf2
        clear hf2
        refine V.ireturn dX12_aRow_57 rfl (narB b14) ⟨rfl, rfl⟩ ly.1 ?_
        exact ret_I hf srh12
  · replace hf := ite_p hf c1
    refine V.aload_n dX12_aRow_13 rfl rfl rfl ?_
    refine V.bipush (v := 6) dX12_aRow_14 rfl ?_
    obtain ⟨r17, h16, q15, hf2⟩ := bd2_el hf
    replace hf := hf2
    clear hf2
    refine V.callVI dX12_aRow_16 ml_X12_163 mo_X12_fails mv_X12_fails rfl (fun q hq => by cases hq; rfl) (by decide) (Or.inl ⟨rfl, SHL_lt rfl⟩) (th_X12_fails (srh.ly ly) q15) rfl rfl ⟨Nat.le_of_ble_eq_true rfl, Nat.le_of_ble_eq_true rfl, fun _ => ⟨rfl, rfl⟩⟩ (Nat.le_of_ble_eq_true rfl) rfl (post_I (fun sq => ?_))
    have srh16 : SR h h16 := srh.trans sq
    clear sq q15
    obtain ⟨b18, hf2⟩ := gd_el hf
    replace hf := hf2
    clear hf2
    refine V.ireturn dX12_aRow_19 rfl (narB b18) ⟨rfl, rfl⟩ ly.1 ?_
    exact ret_I hf srh16
set_option maxRecDepth 100000 in
theorem th_X12_neighbours_14 {h0 : HP} (ly : Lay h0) {rr : Int32} {hh : HP}  : ∀ (n : Nat) (l1 : Int32) (h : HP), SR h0 h → f_X12_neighbours_14 n l1 h = some (rr, hh) → V cX12_neighbours miX12_neighbours (ZI h0 miX12_neighbours rr hh) 130 14 [.ref 113, .int l1] [] h := by
  intro n
  induction n with
  | zero => intro l1 h srh hf; exact absurd hf (by unfold f_X12_neighbours_14; simp)
  | succ n ih =>
    intro l1 h srh hf
    unfold f_X12_neighbours_14 at hf
    refine V.aload_n dX12_neighbours_14 rfl rfl rfl ?_
    refine V.getI dX12_neighbours_15 fl_X12_126 rfl (Or.inl ⟨rfl, SHL_lt rfl⟩) rfl rfl ?_
    refine V.iconst (v := 3) dX12_neighbours_18 rfl ?_
    refine V.icmp_ne (tgt := 81) dX12_neighbours_19 (by decide) (fun c6 => ?_) (fun c6 => ?_)
    · replace hf := ite_n hf c6
      refine V.iconst (v := 1) dX12_neighbours_81 rfl ?_
      refine V.ireturn dX12_neighbours_82 rfl rfl ⟨rfl, rfl⟩ ly.1 ?_
      exact ret_I hf srh
    · replace hf := ite_p hf c6
      refine V.aload_n dX12_neighbours_22 rfl rfl rfl ?_
      refine V.getI dX12_neighbours_23 fl_X12_123 rfl (Or.inl ⟨rfl, SHL_lt rfl⟩) rfl rfl ?_
      refine V.iconst (v := 4) dX12_neighbours_26 rfl ?_
      refine V.icmp_le (tgt := 36) dX12_neighbours_27 (by decide) (fun c7 => ?_) (fun c7 => ?_)
      · replace hf := ite_p hf c7
        refine V.aload_n dX12_neighbours_36 rfl rfl rfl ?_
        refine V.getR (r := 114) dX12_neighbours_37 fl_X12_7 rfl (Or.inl ⟨rfl, SHL_lt rfl⟩) rfl (ly_113_0 (srh.ly ly)) ?_
        refine V.iload_n dX12_neighbours_40 rfl rfl ?_
        obtain ⟨b8, hf2⟩ := gdi_el hf
        replace hf := hf2
        clear hf2
        refine V.iaload dX12_neighbours_41 rfl (Or.inl ⟨rfl, SHL_lt rfl⟩) b8 ?_
        refine V.aload_n dX12_neighbours_42 rfl rfl rfl ?_
        refine V.getI dX12_neighbours_43 fl_X12_123 rfl (Or.inl ⟨rfl, SHL_lt rfl⟩) rfl rfl ?_
        refine V.ishr dX12_neighbours_46 ?_
        refine V.iconst (v := 1) dX12_neighbours_47 rfl ?_
        refine V.iand dX12_neighbours_48 ?_
        refine V.iconst (v := 1) dX12_neighbours_49 rfl ?_
        refine V.icmp_ne (tgt := 59) dX12_neighbours_50 (by decide) (fun c9 => ?_) (fun c9 => ?_)
        · replace hf := ite_n hf c9
          refine V.aload_n dX12_neighbours_59 rfl rfl rfl ?_
          refine V.getR (r := 114) dX12_neighbours_60 fl_X12_7 rfl (Or.inl ⟨rfl, SHL_lt rfl⟩) rfl (ly_113_0 (srh.ly ly)) ?_
          refine V.iload_n dX12_neighbours_63 rfl rfl ?_
          refine V.dup2 dX12_neighbours_64 rfl rfl ?_
          obtain ⟨b10, hf2⟩ := gdi_el hf
          replace hf := hf2
          clear hf2
          refine V.iaload dX12_neighbours_65 rfl (Or.inl ⟨rfl, SHL_lt rfl⟩) b10 ?_
          refine V.iconst (v := 1) dX12_neighbours_66 rfl ?_
          refine V.aload_n dX12_neighbours_67 rfl rfl rfl ?_
          refine V.getI dX12_neighbours_68 fl_X12_123 rfl (Or.inl ⟨rfl, SHL_lt rfl⟩) rfl rfl ?_
          refine V.ishl dX12_neighbours_71 ?_
          refine V.ior dX12_neighbours_72 ?_
          obtain ⟨b11, hf2⟩ := gdi_el hf
          replace hf := hf2
          clear hf2
          refine V.iastore dX12_neighbours_73 rfl (Or.inl ⟨rfl, SHL_lt rfl⟩) b11 ?_
          refine V.nameH (fun g12 eg12 => ?_)
          replace hf := lt_el hf g12 eg12
          have srg12 : SR h0 g12 := by rw [eg12]; exact srh.I _ _ _
          refine V.aload_n dX12_neighbours_74 rfl rfl rfl ?_
          obtain ⟨h14, q13, hf2⟩ := bd_el hf
          replace hf := hf2
          clear hf2
          refine V.callVV dX12_neighbours_75 ml_X12_157 mo_X12_onward mv_X12_onward rfl (fun q hq => by cases hq; rfl) (by decide) (Or.inl ⟨rfl, SHL_lt rfl⟩) (th_X12_onward (srg12.ly ly) q13) rfl rfl ⟨Nat.le_of_ble_eq_true rfl, Nat.le_of_ble_eq_true rfl, fun _ => ⟨rfl, rfl⟩⟩ (Nat.le_of_ble_eq_true rfl) (Or.inl rfl) (post_V (fun sq => ?_))
          have srh14 : SR h0 h14 := srg12.trans sq
          clear sq q13
          refine V.goto (tgt := 14) dX12_neighbours_78 (by decide) ?_
          exact ih l1 h14 srh14 hf
        · replace hf := ite_p hf c9
          refine V.aload_n dX12_neighbours_53 rfl rfl rfl ?_
          refine V.iconst (v := 5) dX12_neighbours_54 rfl ?_
          obtain ⟨r17, h16, q15, hf2⟩ := bd2_el hf
          replace hf := hf2
          clear hf2
          refine V.callVI dX12_neighbours_55 ml_X12_163 mo_X12_fails mv_X12_fails rfl (fun q hq => by cases hq; rfl) (by decide) (Or.inl ⟨rfl, SHL_lt rfl⟩) (th_X12_fails (srh.ly ly) q15) rfl rfl ⟨Nat.le_of_ble_eq_true rfl, Nat.le_of_ble_eq_true rfl, fun _ => ⟨rfl, rfl⟩⟩ (Nat.le_of_ble_eq_true rfl) rfl (post_I (fun sq => ?_))
          have srh16 : SR h0 h16 := srh.trans sq
          clear sq q15
          obtain ⟨b18, hf2⟩ := gd_el hf
          replace hf := hf2
          clear hf2
          refine V.ireturn dX12_neighbours_58 rfl (narB b18) ⟨rfl, rfl⟩ ly.1 ?_
          exact ret_I hf srh16
      · replace hf := ite_n hf c7
        refine V.aload_n dX12_neighbours_30 rfl rfl rfl ?_
        refine V.iconst (v := 4) dX12_neighbours_31 rfl ?_
        obtain ⟨r21, h20, q19, hf2⟩ := bd2_el hf
        replace hf := hf2
        clear hf2
        refine V.callVI dX12_neighbours_32 ml_X12_163 mo_X12_fails mv_X12_fails rfl (fun q hq => by cases hq; rfl) (by decide) (Or.inl ⟨rfl, SHL_lt rfl⟩) (th_X12_fails (srh.ly ly) q19) rfl rfl ⟨Nat.le_of_ble_eq_true rfl, Nat.le_of_ble_eq_true rfl, fun _ => ⟨rfl, rfl⟩⟩ (Nat.le_of_ble_eq_true rfl) rfl (post_I (fun sq => ?_))
        have srh20 : SR h0 h20 := srh.trans sq
        clear sq q19
        obtain ⟨b22, hf2⟩ := gd_el hf
        replace hf := hf2
        clear hf2
        refine V.ireturn dX12_neighbours_35 rfl (narB b22) ⟨rfl, rfl⟩ ly.1 ?_
        exact ret_I hf srh20
set_option maxRecDepth 100000 in
theorem th_X12_neighbours {h : HP} (ly : Lay h) {a1 : Int32} {rr : Int32} {hh : HP} (hf : f_X12_neighbours h a1 = some (rr, hh)) : Spec yX12_neighbours cX12_neighbours miX12_neighbours [.ref 113, .int a1] h (pI fun r' h' => (r' = rr ∧ h' = hh) ∧ SR h hh) := by
  refine Spec.of (ls0 := [.ref 113, .int a1]) mo_X12_neighbours (Nat.le_of_ble_eq_true rfl) rfl ?_
  rw [ly.1]
  have srh : SR h h := SR.refl h
  unfold f_X12_neighbours at hf
  refine V.aload_n dX12_neighbours_0 rfl rfl rfl ?_
  refine V.getI dX12_neighbours_1 fl_X12_126 rfl (Or.inl ⟨rfl, SHL_lt rfl⟩) rfl rfl ?_
  refine V.iconst (v := 3) dX12_neighbours_4 rfl ?_
  refine V.icmp_eq (tgt := 14) dX12_neighbours_5 (by decide) (fun c1 => ?_) (fun c1 => ?_)
  · replace hf := ite_p hf c1
    exact th_X12_neighbours_14 ly FU a1 h srh hf
  · replace hf := ite_n hf c1
    refine V.aload_n dX12_neighbours_8 rfl rfl rfl ?_
    refine V.iconst (v := 2) dX12_neighbours_9 rfl ?_
    obtain ⟨r4, h3, q2, hf2⟩ := bd2_el hf
    replace hf := hf2
    clear hf2
    refine V.callVI dX12_neighbours_10 ml_X12_163 mo_X12_fails mv_X12_fails rfl (fun q hq => by cases hq; rfl) (by decide) (Or.inl ⟨rfl, SHL_lt rfl⟩) (th_X12_fails (srh.ly ly) q2) rfl rfl ⟨Nat.le_of_ble_eq_true rfl, Nat.le_of_ble_eq_true rfl, fun _ => ⟨rfl, rfl⟩⟩ (Nat.le_of_ble_eq_true rfl) rfl (post_I (fun sq => ?_))
    have srh3 : SR h h3 := srh.trans sq
    clear sq q2
    obtain ⟨b5, hf2⟩ := gd_el hf
    replace hf := hf2
    clear hf2
    refine V.ireturn dX12_neighbours_13 rfl (narB b5) ⟨rfl, rfl⟩ ly.1 ?_
    exact ret_I hf srh3
set_option maxRecDepth 100000 in
theorem th_X12_aRule_66 {h0 : HP} (ly : Lay h0) {rr : Int32} {hh : HP}  : ∀  (h : HP), SR h0 h → f_X12_aRule_66 h = some (rr, hh) → V cX12_aRule miX12_aRule (ZI h0 miX12_aRule rr hh) 130 66 [.ref 113, .null] [] h := by
  intro  h srh hf
  unfold f_X12_aRule_66 at hf
  refine V.aload_n dX12_aRule_66 rfl rfl rfl ?_
  refine V.getR (r := 114) dX12_aRule_67 fl_X12_7 rfl (Or.inl ⟨rfl, SHL_lt rfl⟩) rfl (ly_113_0 (srh.ly ly)) ?_
  refine V.sipush (v := 1645) dX12_aRule_70 rfl ?_
  refine V.dup2 dX12_aRule_73 rfl rfl ?_
  refine V.iaload dX12_aRule_74 rfl (Or.inl ⟨rfl, SHL_lt rfl⟩) (vp_lit (by decide)) ?_
  rw [show Int32.toNatClampNeg 1645 = 1645 from rfl]
  refine V.iconst (v := 1) dX12_aRule_75 rfl ?_
  refine V.iadd dX12_aRule_76 ?_
  refine V.iastore dX12_aRule_77 rfl (Or.inl ⟨rfl, SHL_lt rfl⟩) (vp_lit (by decide)) ?_
  rw [show Int32.toNatClampNeg 1645 = 1645 from rfl]
  refine V.nameH (fun g22 eg22 => ?_)
  replace hf := lt_el hf g22 eg22
  have srg22 : SR h0 g22 := by rw [eg22]; exact srh.I _ _ _
  refine V.aload_n dX12_aRule_78 rfl rfl rfl ?_
  refine V.getR (r := 114) dX12_aRule_79 fl_X12_7 rfl (Or.inl ⟨rfl, SHL_lt rfl⟩) rfl (ly_113_0 (srg22.ly ly)) ?_
  refine V.sipush (v := 1650) dX12_aRule_82 rfl ?_
  refine V.iconst (v := 0) dX12_aRule_85 rfl ?_
  refine V.iastore dX12_aRule_86 rfl (Or.inl ⟨rfl, SHL_lt rfl⟩) (vp_lit (by decide)) ?_
  rw [show Int32.toNatClampNeg 1650 = 1650 from rfl]
  refine V.nameH (fun g23 eg23 => ?_)
  replace hf := lt_el hf g23 eg23
  have srg23 : SR h0 g23 := by rw [eg23]; exact srg22.I _ _ _
  refine V.iconst (v := 1) dX12_aRule_87 rfl ?_
  refine V.ireturn dX12_aRule_88 rfl rfl ⟨rfl, rfl⟩ ly.1 ?_
  exact ret_I hf srg23
set_option maxRecDepth 100000 in
theorem th_X12_aRule_45 {h0 : HP} (ly : Lay h0) {rr : Int32} {hh : HP}  : ∀ (l1 : Int32) (h : HP), SR h0 h → f_X12_aRule_45 l1 h = some (rr, hh) → V cX12_aRule miX12_aRule (ZI h0 miX12_aRule rr hh) 130 45 [.ref 113, .int l1] [] h := by
  intro l1 h srh hf
  unfold f_X12_aRule_45 at hf
  refine V.aload_n dX12_aRule_45 rfl rfl rfl ?_
  refine V.bipush (v := 6) dX12_aRule_46 rfl ?_
  obtain ⟨r16, h15, q14, hf2⟩ := bd2_el hf
  replace hf := hf2
  clear hf2
  refine V.callVI dX12_aRule_48 ml_X12_191 mo_X12_isThere mv_X12_isThere rfl (fun q hq => by cases hq; rfl) (by decide) (Or.inl ⟨rfl, SHL_lt rfl⟩) (th_X12_isThere (srh.ly ly) q14) rfl rfl ⟨Nat.le_of_ble_eq_true rfl, Nat.le_of_ble_eq_true rfl, fun _ => ⟨rfl, rfl⟩⟩ (Nat.le_of_ble_eq_true rfl) rfl (post_I (fun sq => ?_))
  have srh15 : SR h0 h15 := srh.trans sq
  clear sq q14
  refine V.if_eq (tgt := 66) dX12_aRule_51 (by decide) (fun c17 => ?_) (fun c17 => ?_)
  · replace hf := ite_p hf c17
    refine V.less (ls' := [.ref 113, .null]) ⟨Or.inr rfl, Or.inl rfl, trivial⟩ ?_
    exact th_X12_aRule_66 ly h15 srh15 hf
  · replace hf := ite_n hf c17
    refine V.aload_n dX12_aRule_54 rfl rfl rfl ?_
    refine V.iload_n dX12_aRule_55 rfl rfl ?_
    refine V.iconst (v := 1) dX12_aRule_56 rfl ?_
    refine V.iadd dX12_aRule_57 ?_
    obtain ⟨r20, h19, q18, hf2⟩ := bd2_el hf
    replace hf := hf2
    clear hf2
    refine V.callVI dX12_aRule_58 ml_X12_203 mo_X12_neighbours mv_X12_neighbours rfl (fun q hq => by cases hq; rfl) (by decide) (Or.inl ⟨rfl, SHL_lt rfl⟩) (th_X12_neighbours (srh15.ly ly) q18) rfl rfl ⟨Nat.le_of_ble_eq_true rfl, Nat.le_of_ble_eq_true rfl, fun _ => ⟨rfl, rfl⟩⟩ (Nat.le_of_ble_eq_true rfl) rfl (post_I (fun sq => ?_))
    have srh19 : SR h0 h19 := srh15.trans sq
    clear sq q18
    refine V.if_ne (tgt := 66) dX12_aRule_61 (by decide) (fun c21 => ?_) (fun c21 => ?_)
    · replace hf := ite_n hf c21
      refine V.less (ls' := [.ref 113, .null]) ⟨Or.inr rfl, Or.inl rfl, trivial⟩ ?_
      exact th_X12_aRule_66 ly h19 srh19 hf
    · replace hf := ite_p hf c21
      refine V.iconst (v := 0) dX12_aRule_64 rfl ?_
      refine V.ireturn dX12_aRule_65 rfl rfl ⟨rfl, rfl⟩ ly.1 ?_
      exact ret_I hf srh19
set_option maxRecDepth 100000 in
theorem th_X12_aRule {h : HP} (ly : Lay h)  {rr : Int32} {hh : HP} (hf : f_X12_aRule h = some (rr, hh)) : Spec yX12_aRule cX12_aRule miX12_aRule [.ref 113] h (pI fun r' h' => (r' = rr ∧ h' = hh) ∧ SR h hh) := by
  refine Spec.of (ls0 := [.ref 113, .null]) mo_X12_aRule (Nat.le_of_ble_eq_true rfl) rfl ?_
  rw [ly.1]
  have srh : SR h h := SR.refl h
  unfold f_X12_aRule at hf
  refine V.sipush (v := 1652) dX12_aRule_0 rfl ?_
  refine V.iconst (v := 2) dX12_aRule_3 rfl ?_
  refine V.aload_n dX12_aRule_4 rfl rfl rfl ?_
  refine V.getR (r := 114) dX12_aRule_5 fl_X12_7 rfl (Or.inl ⟨rfl, SHL_lt rfl⟩) rfl (ly_113_0 (srh.ly ly)) ?_
  refine V.sipush (v := 1645) dX12_aRule_8 rfl ?_
  refine V.iaload dX12_aRule_11 rfl (Or.inl ⟨rfl, SHL_lt rfl⟩) (vp_lit (by decide)) ?_
  rw [show Int32.toNatClampNeg 1645 = 1645 from rfl]
  refine V.imul dX12_aRule_12 ?_
  refine V.iadd dX12_aRule_13 ?_
  refine V.nmi (fun x1 ex1 => ?_)
  replace hf := lt_el hf x1 ex1
  refine V.istore_n (ls' := [.ref 113, .int x1]) dX12_aRule_14 rfl (by decide) rfl ?_
  refine V.aload_n dX12_aRule_15 rfl rfl rfl ?_
  refine V.iconst (v := 5) dX12_aRule_16 rfl ?_
  refine V.iconst (v := 4) dX12_aRule_17 rfl ?_
  refine V.iconst (v := 0) dX12_aRule_18 rfl ?_
  obtain ⟨r4, h3, q2, hf2⟩ := bd2_el hf
  replace hf := hf2
  clear hf2
  refine V.callVI dX12_aRule_19 ml_X12_200 mo_X12_newOne mv_X12_newOne rfl (fun q hq => by cases hq; rfl) (by decide) (Or.inl ⟨rfl, SHL_lt rfl⟩) (th_X12_newOne (srh.ly ly) q2) rfl rfl ⟨Nat.le_of_ble_eq_true rfl, Nat.le_of_ble_eq_true rfl, fun _ => ⟨rfl, rfl⟩⟩ (Nat.le_of_ble_eq_true rfl) rfl (post_I (fun sq => ?_))
  have srh3 : SR h h3 := srh.trans sq
  clear sq q2
  refine V.if_ne (tgt := 27) dX12_aRule_22 (by decide) (fun c5 => ?_) (fun c5 => ?_)
  · replace hf := ite_n hf c5
    refine V.aload_n dX12_aRule_27 rfl rfl rfl ?_
    refine V.iconst (v := 5) dX12_aRule_28 rfl ?_
    obtain ⟨r8, h7, q6, hf2⟩ := bd2_el hf
    replace hf := hf2
    clear hf2
    refine V.callVI dX12_aRule_29 ml_X12_191 mo_X12_isThere mv_X12_isThere rfl (fun q hq => by cases hq; rfl) (by decide) (Or.inl ⟨rfl, SHL_lt rfl⟩) (th_X12_isThere (srh3.ly ly) q6) rfl rfl ⟨Nat.le_of_ble_eq_true rfl, Nat.le_of_ble_eq_true rfl, fun _ => ⟨rfl, rfl⟩⟩ (Nat.le_of_ble_eq_true rfl) rfl (post_I (fun sq => ?_))
    have srh7 : SR h h7 := srh3.trans sq
    clear sq q6
    refine V.if_eq (tgt := 45) dX12_aRule_32 (by decide) (fun c9 => ?_) (fun c9 => ?_)
    · replace hf := ite_p hf c9
      exact th_X12_aRule_45 ly x1 h7 srh7 hf
    · replace hf := ite_n hf c9
      refine V.aload_n dX12_aRule_35 rfl rfl rfl ?_
      refine V.iload_n dX12_aRule_36 rfl rfl ?_
      obtain ⟨r12, h11, q10, hf2⟩ := bd2_el hf
      replace hf := hf2
      clear hf2
      refine V.callVI dX12_aRule_37 ml_X12_203 mo_X12_neighbours mv_X12_neighbours rfl (fun q hq => by cases hq; rfl) (by decide) (Or.inl ⟨rfl, SHL_lt rfl⟩) (th_X12_neighbours (srh7.ly ly) q10) rfl rfl ⟨Nat.le_of_ble_eq_true rfl, Nat.le_of_ble_eq_true rfl, fun _ => ⟨rfl, rfl⟩⟩ (Nat.le_of_ble_eq_true rfl) rfl (post_I (fun sq => ?_))
      have srh11 : SR h h11 := srh7.trans sq
      clear sq q10
      refine V.if_ne (tgt := 45) dX12_aRule_40 (by decide) (fun c13 => ?_) (fun c13 => ?_)
      · replace hf := ite_n hf c13
        exact th_X12_aRule_45 ly x1 h11 srh11 hf
      · replace hf := ite_p hf c13
        refine V.iconst (v := 0) dX12_aRule_43 rfl ?_
        refine V.ireturn dX12_aRule_44 rfl rfl ⟨rfl, rfl⟩ ly.1 ?_
        exact ret_I hf srh11
  · replace hf := ite_p hf c5
    refine V.iconst (v := 0) dX12_aRule_25 rfl ?_
    refine V.ireturn dX12_aRule_26 rfl rfl ⟨rfl, rfl⟩ ly.1 ?_
    exact ret_I hf srh3
set_option maxRecDepth 100000 in
theorem th_X12_aCitizen {h : HP} (ly : Lay h)  {rr : Int32} {hh : HP} (hf : f_X12_aCitizen h = some (rr, hh)) : Spec yX12_aCitizen cX12_aCitizen miX12_aCitizen [.ref 113] h (pI fun r' h' => (r' = rr ∧ h' = hh) ∧ SR h hh) := by
  refine Spec.of (ls0 := [.ref 113, .null]) mo_X12_aCitizen (Nat.le_of_ble_eq_true rfl) rfl ?_
  rw [ly.1]
  have srh : SR h h := SR.refl h
  unfold f_X12_aCitizen at hf
  refine V.sipush (v := 1660) dX12_aCitizen_0 rfl ?_
  refine V.iconst (v := 2) dX12_aCitizen_3 rfl ?_
  refine V.aload_n dX12_aCitizen_4 rfl rfl rfl ?_
  refine V.getR (r := 114) dX12_aCitizen_5 fl_X12_7 rfl (Or.inl ⟨rfl, SHL_lt rfl⟩) rfl (ly_113_0 (srh.ly ly)) ?_
  refine V.sipush (v := 1646) dX12_aCitizen_8 rfl ?_
  refine V.iaload dX12_aCitizen_11 rfl (Or.inl ⟨rfl, SHL_lt rfl⟩) (vp_lit (by decide)) ?_
  rw [show Int32.toNatClampNeg 1646 = 1646 from rfl]
  refine V.imul dX12_aCitizen_12 ?_
  refine V.iadd dX12_aCitizen_13 ?_
  refine V.nmi (fun x1 ex1 => ?_)
  replace hf := lt_el hf x1 ex1
  refine V.istore_n (ls' := [.ref 113, .int x1]) dX12_aCitizen_14 rfl (by decide) rfl ?_
  refine V.aload_n dX12_aCitizen_15 rfl rfl rfl ?_
  refine V.bipush (v := 6) dX12_aCitizen_16 rfl ?_
  refine V.bipush (v := 6) dX12_aCitizen_18 rfl ?_
  refine V.iconst (v := 4) dX12_aCitizen_20 rfl ?_
  obtain ⟨r4, h3, q2, hf2⟩ := bd2_el hf
  replace hf := hf2
  clear hf2
  refine V.callVI dX12_aCitizen_21 ml_X12_200 mo_X12_newOne mv_X12_newOne rfl (fun q hq => by cases hq; rfl) (by decide) (Or.inl ⟨rfl, SHL_lt rfl⟩) (th_X12_newOne (srh.ly ly) q2) rfl rfl ⟨Nat.le_of_ble_eq_true rfl, Nat.le_of_ble_eq_true rfl, fun _ => ⟨rfl, rfl⟩⟩ (Nat.le_of_ble_eq_true rfl) rfl (post_I (fun sq => ?_))
  have srh3 : SR h h3 := srh.trans sq
  clear sq q2
  refine V.if_ne (tgt := 29) dX12_aCitizen_24 (by decide) (fun c5 => ?_) (fun c5 => ?_)
  · replace hf := ite_n hf c5
    refine V.aload_n dX12_aCitizen_29 rfl rfl rfl ?_
    refine V.ldcS (i := 1) (by decide) dX12_aCitizen_30 rfl rfl ?_
    refine V.bipush (v := 7) dX12_aCitizen_32 rfl ?_
    obtain ⟨r8, h7, q6, hf2⟩ := bd2_el hf
    replace hf := hf2
    clear hf2
    refine V.callVI dX12_aCitizen_34 ml_X12_183 mo_X12_wantWord mv_X12_wantWord rfl (fun q hq => by cases hq; rfl) (by decide) (Or.inl ⟨rfl, SHL_lt rfl⟩) (th_X12_wantWord (srh3.ly ly) q6) rfl rfl ⟨Nat.le_of_ble_eq_true rfl, Nat.le_of_ble_eq_true rfl, fun _ => ⟨rfl, rfl⟩⟩ (Nat.le_of_ble_eq_true rfl) rfl (post_I (fun sq => ?_))
    have srh7 : SR h h7 := srh3.trans sq
    clear sq q6
    refine V.if_eq (tgt := 80) dX12_aCitizen_37 (by decide) (fun c9 => ?_) (fun c9 => ?_)
    · replace hf := ite_p hf c9
      refine V.iconst (v := 0) dX12_aCitizen_80 rfl ?_
      refine V.ireturn dX12_aCitizen_81 rfl rfl ⟨rfl, rfl⟩ ly.1 ?_
      exact ret_I hf srh7
    · replace hf := ite_n hf c9
      refine V.aload_n dX12_aCitizen_40 rfl rfl rfl ?_
      refine V.iload_n dX12_aCitizen_41 rfl rfl ?_
      refine V.iconst (v := 0) dX12_aCitizen_42 rfl ?_
      refine V.bipush (v := 30) dX12_aCitizen_43 rfl ?_
      obtain ⟨r12, h11, q10, hf2⟩ := bd2_el hf
      replace hf := hf2
      clear hf2
      refine V.callVI dX12_aCitizen_45 ml_X12_187 mo_X12_number mv_X12_number rfl (fun q hq => by cases hq; rfl) (by decide) (Or.inl ⟨rfl, SHL_lt rfl⟩) (th_X12_number (srh7.ly ly) q10) rfl rfl ⟨Nat.le_of_ble_eq_true rfl, Nat.le_of_ble_eq_true rfl, fun _ => ⟨rfl, rfl⟩⟩ (Nat.le_of_ble_eq_true rfl) rfl (post_I (fun sq => ?_))
      have srh11 : SR h h11 := srh7.trans sq
      clear sq q10
      refine V.if_eq (tgt := 80) dX12_aCitizen_48 (by decide) (fun c13 => ?_) (fun c13 => ?_)
      · replace hf := ite_p hf c13
        refine V.iconst (v := 0) dX12_aCitizen_80 rfl ?_
        refine V.ireturn dX12_aCitizen_81 rfl rfl ⟨rfl, rfl⟩ ly.1 ?_
        exact ret_I hf srh11
      · replace hf := ite_n hf c13
        refine V.aload_n dX12_aCitizen_51 rfl rfl rfl ?_
        refine V.ldcS (i := 1) (by decide) dX12_aCitizen_52 rfl rfl ?_
        refine V.bipush (v := 8) dX12_aCitizen_54 rfl ?_
        obtain ⟨r16, h15, q14, hf2⟩ := bd2_el hf
        replace hf := hf2
        clear hf2
        refine V.callVI dX12_aCitizen_56 ml_X12_183 mo_X12_wantWord mv_X12_wantWord rfl (fun q hq => by cases hq; rfl) (by decide) (Or.inl ⟨rfl, SHL_lt rfl⟩) (th_X12_wantWord (srh11.ly ly) q14) rfl rfl ⟨Nat.le_of_ble_eq_true rfl, Nat.le_of_ble_eq_true rfl, fun _ => ⟨rfl, rfl⟩⟩ (Nat.le_of_ble_eq_true rfl) rfl (post_I (fun sq => ?_))
        have srh15 : SR h h15 := srh11.trans sq
        clear sq q14
        refine V.if_eq (tgt := 80) dX12_aCitizen_59 (by decide) (fun c17 => ?_) (fun c17 => ?_)
        · replace hf := ite_p hf c17
          refine V.iconst (v := 0) dX12_aCitizen_80 rfl ?_
          refine V.ireturn dX12_aCitizen_81 rfl rfl ⟨rfl, rfl⟩ ly.1 ?_
          exact ret_I hf srh15
        · replace hf := ite_n hf c17
          refine V.aload_n dX12_aCitizen_62 rfl rfl rfl ?_
          refine V.iload_n dX12_aCitizen_63 rfl rfl ?_
          refine V.iconst (v := 1) dX12_aCitizen_64 rfl ?_
          refine V.iadd dX12_aCitizen_65 ?_
          refine V.aload_n dX12_aCitizen_66 rfl rfl rfl ?_
          refine V.getR (r := 114) dX12_aCitizen_67 fl_X12_7 rfl (Or.inl ⟨rfl, SHL_lt rfl⟩) rfl (ly_113_0 (srh15.ly ly)) ?_
          refine V.iload_n dX12_aCitizen_70 rfl rfl ?_
          obtain ⟨b18, hf2⟩ := gdi_el hf
          replace hf := hf2
          clear hf2
          refine V.iaload dX12_aCitizen_71 rfl (Or.inl ⟨rfl, SHL_lt rfl⟩) b18 ?_
          refine V.bipush (v := 30) dX12_aCitizen_72 rfl ?_
          obtain ⟨r21, h20, q19, hf2⟩ := bd2_el hf
          replace hf := hf2
          clear hf2
          refine V.callVI dX12_aCitizen_74 ml_X12_187 mo_X12_number mv_X12_number rfl (fun q hq => by cases hq; rfl) (by decide) (Or.inl ⟨rfl, SHL_lt rfl⟩) (th_X12_number (srh15.ly ly) q19) rfl rfl ⟨Nat.le_of_ble_eq_true rfl, Nat.le_of_ble_eq_true rfl, fun _ => ⟨rfl, rfl⟩⟩ (Nat.le_of_ble_eq_true rfl) rfl (post_I (fun sq => ?_))
          have srh20 : SR h h20 := srh15.trans sq
          clear sq q19
          refine V.if_ne (tgt := 82) dX12_aCitizen_77 (by decide) (fun c22 => ?_) (fun c22 => ?_)
          · replace hf := ite_n hf c22
            refine V.aload_n dX12_aCitizen_82 rfl rfl rfl ?_
            refine V.getR (r := 114) dX12_aCitizen_83 fl_X12_7 rfl (Or.inl ⟨rfl, SHL_lt rfl⟩) rfl (ly_113_0 (srh20.ly ly)) ?_
            refine V.sipush (v := 1646) dX12_aCitizen_86 rfl ?_
            refine V.dup2 dX12_aCitizen_89 rfl rfl ?_
            refine V.iaload dX12_aCitizen_90 rfl (Or.inl ⟨rfl, SHL_lt rfl⟩) (vp_lit (by decide)) ?_
            rw [show Int32.toNatClampNeg 1646 = 1646 from rfl]
            refine V.iconst (v := 1) dX12_aCitizen_91 rfl ?_
            refine V.iadd dX12_aCitizen_92 ?_
            refine V.iastore dX12_aCitizen_93 rfl (Or.inl ⟨rfl, SHL_lt rfl⟩) (vp_lit (by decide)) ?_
            rw [show Int32.toNatClampNeg 1646 = 1646 from rfl]
            refine V.nameH (fun g23 eg23 => ?_)
            replace hf := lt_el hf g23 eg23
            have srg23 : SR h g23 := by rw [eg23]; exact srh20.I _ _ _
            refine V.iconst (v := 1) dX12_aCitizen_94 rfl ?_
            refine V.ireturn dX12_aCitizen_95 rfl rfl ⟨rfl, rfl⟩ ly.1 ?_
            exact ret_I hf srg23
          · replace hf := ite_p hf c22
            refine V.iconst (v := 0) dX12_aCitizen_80 rfl ?_
            refine V.ireturn dX12_aCitizen_81 rfl rfl ⟨rfl, rfl⟩ ly.1 ?_
            exact ret_I hf srh20
  · replace hf := ite_p hf c5
    refine V.iconst (v := 0) dX12_aCitizen_27 rfl ?_
    refine V.ireturn dX12_aCitizen_28 rfl rfl ⟨rfl, rfl⟩ ly.1 ?_
    exact ret_I hf srh3
set_option maxRecDepth 100000 in
theorem th_X12_townPart_23 {h0 : HP} (ly : Lay h0) {rr : Int32} {hh : HP}  : ∀ (l1 : Int32) (h : HP), SR h0 h → f_X12_townPart_23 l1 h = some (rr, hh) → V cX12_townPart miX12_townPart (ZI h0 miX12_townPart rr hh) 130 23 [.ref 113, .int l1] [] h := by
  intro l1 h srh hf
  unfold f_X12_townPart_23 at hf
  refine V.iload_n dX12_townPart_23 rfl rfl ?_
  refine V.iconst (v := 2) dX12_townPart_24 rfl ?_
  refine V.icmp_ne (tgt := 38) dX12_townPart_25 (by decide) (fun c10 => ?_) (fun c10 => ?_)
  · replace hf := ite_n hf c10
    refine V.aload_n dX12_townPart_38 rfl rfl rfl ?_
    obtain ⟨r13, h12, q11, hf2⟩ := bd2_el hf
    replace hf := hf2
    clear hf2
    refine V.callVI dX12_townPart_39 ml_X12_210 mo_X12_aCitizen mv_X12_aCitizen rfl (fun q hq => by cases hq; rfl) (by decide) (Or.inl ⟨rfl, SHL_lt rfl⟩) (th_X12_aCitizen (srh.ly ly) q11) rfl rfl ⟨Nat.le_of_ble_eq_true rfl, Nat.le_of_ble_eq_true rfl, fun _ => ⟨rfl, rfl⟩⟩ (Nat.le_of_ble_eq_true rfl) rfl (post_I (fun sq => ?_))
    have srh12 : SR h0 h12 := srh.trans sq
    clear sq q11
    refine V.if_eq (tgt := 58) dX12_townPart_42 (by decide) (fun c14 => ?_) (fun c14 => ?_)
    · replace hf := ite_p hf c14
      refine V.iconst (v := 0) dX12_townPart_58 rfl ?_
      refine V.ireturn dX12_townPart_59 rfl rfl ⟨rfl, rfl⟩ ly.1 ?_
      exact ret_I hf srh12
    · replace hf := ite_n hf c14
      refine V.aload_n dX12_townPart_45 rfl rfl rfl ?_
      refine V.bipush (v := 59) dX12_townPart_46 rfl ?_
      obtain ⟨r17, h16, q15, hf2⟩ := bd2_el hf
      replace hf := hf2
      clear hf2
      refine V.callVI dX12_townPart_48 ml_X12_194 mo_X12_wantSign mv_X12_wantSign rfl (fun q hq => by cases hq; rfl) (by decide) (Or.inl ⟨rfl, SHL_lt rfl⟩) (th_X12_wantSign (srh12.ly ly) q15) rfl rfl ⟨Nat.le_of_ble_eq_true rfl, Nat.le_of_ble_eq_true rfl, fun _ => ⟨rfl, rfl⟩⟩ (Nat.le_of_ble_eq_true rfl) rfl (post_I (fun sq => ?_))
      have srh16 : SR h0 h16 := srh12.trans sq
      clear sq q15
      refine V.if_eq (tgt := 58) dX12_townPart_51 (by decide) (fun c18 => ?_) (fun c18 => ?_)
      · replace hf := ite_p hf c18
        refine V.iconst (v := 0) dX12_townPart_58 rfl ?_
        refine V.ireturn dX12_townPart_59 rfl rfl ⟨rfl, rfl⟩ ly.1 ?_
        exact ret_I hf srh16
      · replace hf := ite_n hf c18
        refine V.iconst (v := 1) dX12_townPart_54 rfl ?_
        refine V.goto (tgt := 59) dX12_townPart_55 (by decide) ?_
        refine V.ireturn dX12_townPart_59 rfl rfl ⟨rfl, rfl⟩ ly.1 ?_
        exact ret_I hf srh16
  · replace hf := ite_p hf c10
    refine V.aload_n dX12_townPart_28 rfl rfl rfl ?_
    obtain ⟨r21, h20, q19, hf2⟩ := bd2_el hf
    replace hf := hf2
    clear hf2
    refine V.callVI dX12_townPart_29 ml_X12_206 mo_X12_aRule mv_X12_aRule rfl (fun q hq => by cases hq; rfl) (by decide) (Or.inl ⟨rfl, SHL_lt rfl⟩) (th_X12_aRule (srh.ly ly) q19) rfl rfl ⟨Nat.le_of_ble_eq_true rfl, Nat.le_of_ble_eq_true rfl, fun _ => ⟨rfl, rfl⟩⟩ (Nat.le_of_ble_eq_true rfl) rfl (post_I (fun sq => ?_))
    have srh20 : SR h0 h20 := srh.trans sq
    clear sq q19
    refine V.if_eq (tgt := 58) dX12_townPart_32 (by decide) (fun c22 => ?_) (fun c22 => ?_)
    · replace hf := ite_p hf c22
      refine V.iconst (v := 0) dX12_townPart_58 rfl ?_
      refine V.ireturn dX12_townPart_59 rfl rfl ⟨rfl, rfl⟩ ly.1 ?_
      exact ret_I hf srh20
    · replace hf := ite_n hf c22
      refine V.goto (tgt := 45) dX12_townPart_35 (by decide) ?_
      refine V.aload_n dX12_townPart_45 rfl rfl rfl ?_
      refine V.bipush (v := 59) dX12_townPart_46 rfl ?_
      obtain ⟨r25, h24, q23, hf2⟩ := bd2_el hf
      replace hf := hf2
      clear hf2
      refine V.callVI dX12_townPart_48 ml_X12_194 mo_X12_wantSign mv_X12_wantSign rfl (fun q hq => by cases hq; rfl) (by decide) (Or.inl ⟨rfl, SHL_lt rfl⟩) (th_X12_wantSign (srh20.ly ly) q23) rfl rfl ⟨Nat.le_of_ble_eq_true rfl, Nat.le_of_ble_eq_true rfl, fun _ => ⟨rfl, rfl⟩⟩ (Nat.le_of_ble_eq_true rfl) rfl (post_I (fun sq => ?_))
      have srh24 : SR h0 h24 := srh20.trans sq
      clear sq q23
      refine V.if_eq (tgt := 58) dX12_townPart_51 (by decide) (fun c26 => ?_) (fun c26 => ?_)
      · replace hf := ite_p hf c26
        refine V.iconst (v := 0) dX12_townPart_58 rfl ?_
        refine V.ireturn dX12_townPart_59 rfl rfl ⟨rfl, rfl⟩ ly.1 ?_
        exact ret_I hf srh24
      · replace hf := ite_n hf c26
        refine V.iconst (v := 1) dX12_townPart_54 rfl ?_
        refine V.goto (tgt := 59) dX12_townPart_55 (by decide) ?_
        refine V.ireturn dX12_townPart_59 rfl rfl ⟨rfl, rfl⟩ ly.1 ?_
        exact ret_I hf srh24
set_option maxRecDepth 100000 in
theorem th_X12_townPart {h : HP} (ly : Lay h)  {rr : Int32} {hh : HP} (hf : f_X12_townPart h = some (rr, hh)) : Spec yX12_townPart cX12_townPart miX12_townPart [.ref 113] h (pI fun r' h' => (r' = rr ∧ h' = hh) ∧ SR h hh) := by
  refine Spec.of (ls0 := [.ref 113, .null]) mo_X12_townPart (Nat.le_of_ble_eq_true rfl) rfl ?_
  rw [ly.1]
  have srh : SR h h := SR.refl h
  unfold f_X12_townPart at hf
  refine V.aload_n dX12_townPart_0 rfl rfl rfl ?_
  refine V.ldcS (i := 1) (by decide) dX12_townPart_1 rfl rfl ?_
  obtain ⟨r3, h2, q1, hf2⟩ := bd2_el hf
  replace hf := hf2
  clear hf2
  refine V.callVI dX12_townPart_3 ml_X12_166 mo_X12_inWords mv_X12_inWords rfl (fun q hq => by cases hq; rfl) (by decide) (Or.inl ⟨rfl, SHL_lt rfl⟩) (th_X12_inWords (srh.ly ly) q1) rfl rfl ⟨Nat.le_of_ble_eq_true rfl, Nat.le_of_ble_eq_true rfl, fun _ => ⟨rfl, rfl⟩⟩ (Nat.le_of_ble_eq_true rfl) rfl (post_I (fun sq => ?_))
  have srh2 : SR h h2 := srh.trans sq
  clear sq q1
  refine V.istore_n (ls' := [.ref 113, .int r3]) dX12_townPart_6 rfl (by decide) rfl ?_
  refine V.iload_n dX12_townPart_7 rfl rfl ?_
  refine V.iconst (v := 2) dX12_townPart_8 rfl ?_
  refine V.icmp_eq (tgt := 23) dX12_townPart_9 (by decide) (fun c4 => ?_) (fun c4 => ?_)
  · replace hf := ite_p hf c4
    exact th_X12_townPart_23 ly r3 h2 srh2 hf
  · replace hf := ite_n hf c4
    refine V.iload_n dX12_townPart_12 rfl rfl ?_
    refine V.iconst (v := 3) dX12_townPart_13 rfl ?_
    refine V.icmp_eq (tgt := 23) dX12_townPart_14 (by decide) (fun c5 => ?_) (fun c5 => ?_)
    · replace hf := ite_p hf c5
      exact th_X12_townPart_23 ly r3 h2 srh2 hf
    · replace hf := ite_n hf c5
      refine V.aload_n dX12_townPart_17 rfl rfl rfl ?_
      refine V.iconst (v := 2) dX12_townPart_18 rfl ?_
      obtain ⟨r8, h7, q6, hf2⟩ := bd2_el hf
      replace hf := hf2
      clear hf2
      refine V.callVI dX12_townPart_19 ml_X12_163 mo_X12_fails mv_X12_fails rfl (fun q hq => by cases hq; rfl) (by decide) (Or.inl ⟨rfl, SHL_lt rfl⟩) (th_X12_fails (srh2.ly ly) q6) rfl rfl ⟨Nat.le_of_ble_eq_true rfl, Nat.le_of_ble_eq_true rfl, fun _ => ⟨rfl, rfl⟩⟩ (Nat.le_of_ble_eq_true rfl) rfl (post_I (fun sq => ?_))
      have srh7 : SR h h7 := srh2.trans sq
      clear sq q6
      obtain ⟨b9, hf2⟩ := gd_el hf
      replace hf := hf2
      clear hf2
      refine V.ireturn dX12_townPart_22 rfl (narB b9) ⟨rfl, rfl⟩ ly.1 ?_
      exact ret_I hf srh7
set_option maxRecDepth 100000 in
theorem th_X12_bits_4 {h0 : HP} (ly : Lay h0) {rr : Int32} {hh : HP}  : ∀ (n : Nat) (l1 : Int32) (l2 : Int32) (h : HP), SR h0 h → f_X12_bits_4 n l1 l2 h = some (rr, hh) → V cX12_bits miX12_bits (ZI h0 miX12_bits rr hh) 130 4 [.null, .int l1, .int l2] [] h := by
  intro n
  induction n with
  | zero => intro l1 l2 h srh hf; exact absurd hf (by unfold f_X12_bits_4; simp)
  | succ n ih =>
    intro l1 l2 h srh hf
    unfold f_X12_bits_4 at hf
    refine V.iload_n dX12_bits_4 rfl rfl ?_
    refine V.if_eq (tgt := 20) dX12_bits_5 (by decide) (fun c1 => ?_) (fun c1 => ?_)
    · replace hf := ite_p hf c1
      refine V.iload_n dX12_bits_20 rfl rfl ?_
      refine V.ireturn dX12_bits_21 rfl rfl ⟨rfl, rfl⟩ ly.1 ?_
      exact ret_I hf srh
    · replace hf := ite_n hf c1
      obtain ⟨x2, ex2⟩ : ∃ y : Int32, y = l1 + 1 := ⟨_, rfl⟩
      replace hf := lt_el hf x2 ex2
      refine V.iinc (v := x2) (ls' := [.null, .int x2, .int l2]) dX12_bits_8 rfl (by decide) ex2.symm rfl ?_
      refine V.iload_n dX12_bits_11 rfl rfl ?_
      refine V.iload_n dX12_bits_12 rfl rfl ?_
      refine V.iconst (v := 1) dX12_bits_13 rfl ?_
      refine V.isub dX12_bits_14 ?_
      refine V.iand dX12_bits_15 ?_
      refine V.nmi (fun x3 ex3 => ?_)
      replace hf := lt_el hf x3 ex3
      refine V.istore_n (ls' := [.null, .int x2, .int x3]) dX12_bits_16 rfl (by decide) rfl ?_
      refine V.goto (tgt := 4) dX12_bits_17 (by decide) ?_
      exact ih x2 x3 h srh hf
set_option maxRecDepth 100000 in
theorem th_X12_bits {h : HP} (ly : Lay h) {a0 : Int32} {rr : Int32} {hh : HP} (hf : f_X12_bits h a0 = some (rr, hh)) : Spec yX12_bits cX12_bits miX12_bits [.int a0] h (pI fun r' h' => (r' = rr ∧ h' = hh) ∧ SR h hh) := by
  refine Spec.of (ls0 := [.int a0, .null, .null]) mo_X12_bits (Nat.le_of_ble_eq_true rfl) rfl ?_
  rw [ly.1]
  have srh : SR h h := SR.refl h
  unfold f_X12_bits at hf
  refine V.iconst (v := 0) dX12_bits_0 rfl ?_
  refine V.istore_n (ls' := [.int a0, .int 0, .null]) dX12_bits_1 rfl (by decide) rfl ?_
  refine V.iload_n dX12_bits_2 rfl rfl ?_
  refine V.istore_n (ls' := [.int a0, .int 0, .int a0]) dX12_bits_3 rfl (by decide) rfl ?_
  refine V.less (ls' := [.null, .int 0, .int a0]) ⟨Or.inl rfl, Or.inr rfl, Or.inr rfl, trivial⟩ ?_
  exact th_X12_bits_4 ly FU 0 a0 h srh hf
set_option maxRecDepth 100000 in
theorem th_X12_town_131 {h0 : HP} (ly : Lay h0) {rr : Int32} {hh : HP}  : ∀ (n : Nat) (l3 : Int32) (h : HP), SR h0 h → f_X12_town_131 n l3 h = some (rr, hh) → V cX12_town miX12_town (ZI h0 miX12_town rr hh) 130 131 [.ref 113, .null, .null, .int l3] [] h := by
  intro n
  induction n with
  | zero => intro l3 h srh hf; exact absurd hf (by unfold f_X12_town_131; simp)
  | succ n ih =>
    intro l3 h srh hf
    unfold f_X12_town_131 at hf
    refine V.iload_n dX12_town_131 rfl rfl ?_
    refine V.bipush (v := 10) dX12_town_132 rfl ?_
    refine V.icmp_ge (tgt := 158) dX12_town_134 (by decide) (fun c43 => ?_) (fun c43 => ?_)
    · replace hf := ite_p hf c43
      refine V.aload_n dX12_town_158 rfl rfl rfl ?_
      refine V.aload_n dX12_town_159 rfl rfl rfl ?_
      refine V.getR (r := 114) dX12_town_160 fl_X12_7 rfl (Or.inl ⟨rfl, SHL_lt rfl⟩) rfl (ly_113_0 (srh.ly ly)) ?_
      refine V.iconst (v := 2) dX12_town_163 rfl ?_
      refine V.iaload dX12_town_164 rfl (Or.inl ⟨rfl, SHL_lt rfl⟩) (vp_lit (by decide)) ?_
      rw [show Int32.toNatClampNeg 2 = 2 from rfl]
      obtain ⟨r46, h45, q44, hf2⟩ := bd2_el hf
      replace hf := hf2
      clear hf2
      refine V.callSI dX12_town_165 ml_X12_226 mo_X12_bits ms_X12_bits (th_X12_bits (srh.ly ly) q44) rfl rfl ⟨Nat.le_of_ble_eq_true rfl, Nat.le_of_ble_eq_true rfl, fun _ => ⟨rfl, rfl⟩⟩ (Nat.le_of_ble_eq_true rfl) rfl (post_I (fun sq => ?_))
      have srh45 : SR h0 h45 := srh.trans sq
      clear sq q44
      obtain ⟨r49, h48, q47, hf2⟩ := bd2_el hf
      replace hf := hf2
      clear hf2
      refine V.callVI dX12_town_168 ml_X12_229 mo_X12_taken mv_X12_taken rfl (fun q hq => by cases hq; rfl) (by decide) (Or.inl ⟨rfl, SHL_lt rfl⟩) (th_X12_taken (srh45.ly ly) q47) rfl rfl ⟨Nat.le_of_ble_eq_true rfl, Nat.le_of_ble_eq_true rfl, fun _ => ⟨rfl, rfl⟩⟩ (Nat.le_of_ble_eq_true rfl) rfl (post_I (fun sq => ?_))
      have srh48 : SR h0 h48 := srh45.trans sq
      clear sq q47
      refine V.ireturn dX12_town_171 rfl rfl ⟨rfl, rfl⟩ ly.1 ?_
      exact ret_I hf srh48
    · replace hf := ite_n hf c43
      refine V.aload_n dX12_town_137 rfl rfl rfl ?_
      refine V.getR (r := 115) dX12_town_138 fl_X12_13 rfl (Or.inl ⟨rfl, SHL_lt rfl⟩) rfl (ly_113_1 (srh.ly ly)) ?_
      refine V.iload_n dX12_town_141 rfl rfl ?_
      refine V.aload_n dX12_town_142 rfl rfl rfl ?_
      refine V.getR (r := 115) dX12_town_143 fl_X12_13 rfl (Or.inl ⟨rfl, SHL_lt rfl⟩) rfl (ly_113_1 (srh.ly ly)) ?_
      refine V.bipush (v := 40) dX12_town_146 rfl ?_
      refine V.iload_n dX12_town_148 rfl rfl ?_
      refine V.iadd dX12_town_149 ?_
      obtain ⟨b50, hf2⟩ := gdi_el hf
      replace hf := hf2
      clear hf2
      refine V.laload dX12_town_150 rfl (Or.inl ⟨rfl, SHL_lt rfl⟩) b50 ?_
      obtain ⟨b51, hf2⟩ := gdi_el hf
      replace hf := hf2
      clear hf2
      refine V.lastore dX12_town_151 rfl (Or.inl ⟨rfl, SHL_lt rfl⟩) b51 ?_
      refine V.nameH (fun g52 eg52 => ?_)
      replace hf := lt_el hf g52 eg52
      have srg52 : SR h0 g52 := by rw [eg52]; exact srh.L _ _ _
      obtain ⟨x53, ex53⟩ : ∃ y : Int32, y = l3 + 1 := ⟨_, rfl⟩
      replace hf := lt_el hf x53 ex53
      refine V.iinc (v := x53) (ls' := [.ref 113, .null, .null, .int x53]) dX12_town_152 rfl (by decide) ex53.symm rfl ?_
      refine V.goto (tgt := 131) dX12_town_155 (by decide) ?_
      exact ih x53 g52 srg52 hf
set_option maxRecDepth 100000 in
theorem th_X12_town_100 {h0 : HP} (ly : Lay h0) {rr : Int32} {hh : HP}  : ∀ (n : Nat) (l3 : Int32) (h : HP), SR h0 h → f_X12_town_100 n l3 h = some (rr, hh) → V cX12_town miX12_town (ZI h0 miX12_town rr hh) 130 100 [.ref 113, .null, .null, .int l3] [] h := by
  intro n
  induction n with
  | zero => intro l3 h srh hf; exact absurd hf (by unfold f_X12_town_100; simp)
  | succ n ih =>
    intro l3 h srh hf
    unfold f_X12_town_100 at hf
    refine V.iload_n dX12_town_100 rfl rfl ?_
    refine V.sipush (v := 410) dX12_town_101 rfl ?_
    refine V.icmp_ge (tgt := 129) dX12_town_104 (by decide) (fun c38 => ?_) (fun c38 => ?_)
    · replace hf := ite_p hf c38
      refine V.iconst (v := 0) dX12_town_129 rfl ?_
      refine V.istore_n (ls' := [.ref 113, .null, .null, .int 0]) dX12_town_130 rfl (by decide) rfl ?_
      exact th_X12_town_131 ly FU 0 h srh hf
    · replace hf := ite_n hf c38
      refine V.aload_n dX12_town_107 rfl rfl rfl ?_
      refine V.getR (r := 114) dX12_town_108 fl_X12_7 rfl (Or.inl ⟨rfl, SHL_lt rfl⟩) rfl (ly_113_0 (srh.ly ly)) ?_
      refine V.iload_n dX12_town_111 rfl rfl ?_
      refine V.aload_n dX12_town_112 rfl rfl rfl ?_
      refine V.getR (r := 114) dX12_town_113 fl_X12_7 rfl (Or.inl ⟨rfl, SHL_lt rfl⟩) rfl (ly_113_0 (srh.ly ly)) ?_
      refine V.sipush (v := 1640) dX12_town_116 rfl ?_
      refine V.iload_n dX12_town_119 rfl rfl ?_
      refine V.iadd dX12_town_120 ?_
      obtain ⟨b39, hf2⟩ := gdi_el hf
      replace hf := hf2
      clear hf2
      refine V.iaload dX12_town_121 rfl (Or.inl ⟨rfl, SHL_lt rfl⟩) b39 ?_
      obtain ⟨b40, hf2⟩ := gdi_el hf
      replace hf := hf2
      clear hf2
      refine V.iastore dX12_town_122 rfl (Or.inl ⟨rfl, SHL_lt rfl⟩) b40 ?_
      refine V.nameH (fun g41 eg41 => ?_)
      replace hf := lt_el hf g41 eg41
      have srg41 : SR h0 g41 := by rw [eg41]; exact srh.I _ _ _
      obtain ⟨x42, ex42⟩ : ∃ y : Int32, y = l3 + 1 := ⟨_, rfl⟩
      replace hf := lt_el hf x42 ex42
      refine V.iinc (v := x42) (ls' := [.ref 113, .null, .null, .int x42]) dX12_town_123 rfl (by decide) ex42.symm rfl ?_
      refine V.goto (tgt := 100) dX12_town_126 (by decide) ?_
      exact ih x42 g41 srg41 hf
set_option maxRecDepth 100000 in
theorem th_X12_town_91 {h0 : HP} (ly : Lay h0) {rr : Int32} {hh : HP}  : ∀  (h : HP), SR h0 h → f_X12_town_91 h = some (rr, hh) → V cX12_town miX12_town (ZI h0 miX12_town rr hh) 130 91 [.ref 113, .null, .null, .null] [] h := by
  intro  h srh hf
  unfold f_X12_town_91 at hf
  refine V.aload_n dX12_town_91 rfl rfl rfl ?_
  refine V.getI dX12_town_92 fl_X12_151 rfl (Or.inl ⟨rfl, SHL_lt rfl⟩) rfl rfl ?_
  refine V.if_ne (tgt := 158) dX12_town_95 (by decide) (fun c31 => ?_) (fun c31 => ?_)
  · replace hf := ite_n hf c31
    refine V.aload_n dX12_town_158 rfl rfl rfl ?_
    refine V.aload_n dX12_town_159 rfl rfl rfl ?_
    refine V.getR (r := 114) dX12_town_160 fl_X12_7 rfl (Or.inl ⟨rfl, SHL_lt rfl⟩) rfl (ly_113_0 (srh.ly ly)) ?_
    refine V.iconst (v := 2) dX12_town_163 rfl ?_
    refine V.iaload dX12_town_164 rfl (Or.inl ⟨rfl, SHL_lt rfl⟩) (vp_lit (by decide)) ?_
    rw [show Int32.toNatClampNeg 2 = 2 from rfl]
    obtain ⟨r34, h33, q32, hf2⟩ := bd2_el hf
    replace hf := hf2
    clear hf2
    refine V.callSI dX12_town_165 ml_X12_226 mo_X12_bits ms_X12_bits (th_X12_bits (srh.ly ly) q32) rfl rfl ⟨Nat.le_of_ble_eq_true rfl, Nat.le_of_ble_eq_true rfl, fun _ => ⟨rfl, rfl⟩⟩ (Nat.le_of_ble_eq_true rfl) rfl (post_I (fun sq => ?_))
    have srh33 : SR h0 h33 := srh.trans sq
    clear sq q32
    obtain ⟨r37, h36, q35, hf2⟩ := bd2_el hf
    replace hf := hf2
    clear hf2
    refine V.callVI dX12_town_168 ml_X12_229 mo_X12_taken mv_X12_taken rfl (fun q hq => by cases hq; rfl) (by decide) (Or.inl ⟨rfl, SHL_lt rfl⟩) (th_X12_taken (srh33.ly ly) q35) rfl rfl ⟨Nat.le_of_ble_eq_true rfl, Nat.le_of_ble_eq_true rfl, fun _ => ⟨rfl, rfl⟩⟩ (Nat.le_of_ble_eq_true rfl) rfl (post_I (fun sq => ?_))
    have srh36 : SR h0 h36 := srh33.trans sq
    clear sq q35
    refine V.ireturn dX12_town_171 rfl rfl ⟨rfl, rfl⟩ ly.1 ?_
    exact ret_I hf srh36
  · replace hf := ite_p hf c31
    refine V.iconst (v := 0) dX12_town_98 rfl ?_
    refine V.istore_n (ls' := [.ref 113, .null, .null, .int 0]) dX12_town_99 rfl (by decide) rfl ?_
    exact th_X12_town_100 ly FU 0 h srh hf
set_option maxRecDepth 100000 in
theorem th_X12_town_72 {h0 : HP} (ly : Lay h0) {rr : Int32} {hh : HP}  : ∀ (n : Nat) (l2 : Int32) (h : HP), SR h0 h → f_X12_town_72 n l2 h = some (rr, hh) → V cX12_town miX12_town (ZI h0 miX12_town rr hh) 130 72 [.ref 113, .null, .int l2, .null] [] h := by
  intro n
  induction n with
  | zero => intro l2 h srh hf; exact absurd hf (by unfold f_X12_town_72; simp)
  | succ n ih =>
    intro l2 h srh hf
    unfold f_X12_town_72 at hf
    refine V.iload_n dX12_town_72 rfl rfl ?_
    refine V.if_eq (tgt := 91) dX12_town_73 (by decide) (fun c26 => ?_) (fun c26 => ?_)
    · replace hf := ite_p hf c26
      refine V.less (ls' := [.ref 113, .null, .null, .null]) ⟨Or.inr rfl, Or.inl rfl, Or.inl rfl, Or.inl rfl, trivial⟩ ?_
      exact th_X12_town_91 ly h srh hf
    · replace hf := ite_n hf c26
      refine V.aload_n dX12_town_76 rfl rfl rfl ?_
      refine V.getI dX12_town_77 fl_X12_126 rfl (Or.inl ⟨rfl, SHL_lt rfl⟩) rfl rfl ?_
      refine V.if_eq (tgt := 91) dX12_town_80 (by decide) (fun c27 => ?_) (fun c27 => ?_)
      · replace hf := ite_p hf c27
        refine V.less (ls' := [.ref 113, .null, .null, .null]) ⟨Or.inr rfl, Or.inl rfl, Or.inl rfl, Or.inl rfl, trivial⟩ ?_
        exact th_X12_town_91 ly h srh hf
      · replace hf := ite_n hf c27
        refine V.aload_n dX12_town_83 rfl rfl rfl ?_
        obtain ⟨r30, h29, q28, hf2⟩ := bd2_el hf
        replace hf := hf2
        clear hf2
        refine V.callVI dX12_town_84 ml_X12_223 mo_X12_townPart mv_X12_townPart rfl (fun q hq => by cases hq; rfl) (by decide) (Or.inl ⟨rfl, SHL_lt rfl⟩) (th_X12_townPart (srh.ly ly) q28) rfl rfl ⟨Nat.le_of_ble_eq_true rfl, Nat.le_of_ble_eq_true rfl, fun _ => ⟨rfl, rfl⟩⟩ (Nat.le_of_ble_eq_true rfl) rfl (post_I (fun sq => ?_))
        have srh29 : SR h0 h29 := srh.trans sq
        clear sq q28
        refine V.istore_n (ls' := [.ref 113, .null, .int r30, .null]) dX12_town_87 rfl (by decide) rfl ?_
        refine V.goto (tgt := 72) dX12_town_88 (by decide) ?_
        exact ih r30 h29 srh29 hf
set_option maxRecDepth 100000 in
theorem th_X12_town_51 {h0 : HP} (ly : Lay h0) {rr : Int32} {hh : HP}  : ∀ (l2 : Int32) (h : HP), SR h0 h → f_X12_town_51 l2 h = some (rr, hh) → V cX12_town miX12_town (ZI h0 miX12_town rr hh) 130 51 [.ref 113, .null, .int l2, .null] [] h := by
  intro l2 h srh hf
  unfold f_X12_town_51 at hf
  refine V.iload_n dX12_town_51 rfl rfl ?_
  refine V.if_eq (tgt := 72) dX12_town_52 (by decide) (fun c21 => ?_) (fun c21 => ?_)
  · replace hf := ite_p hf c21
    exact th_X12_town_72 ly FU l2 h srh hf
  · replace hf := ite_n hf c21
    refine V.aload_n dX12_town_55 rfl rfl rfl ?_
    refine V.getR (r := 114) dX12_town_56 fl_X12_7 rfl (Or.inl ⟨rfl, SHL_lt rfl⟩) rfl (ly_113_0 (srh.ly ly)) ?_
    refine V.sipush (v := 1641) dX12_town_59 rfl ?_
    refine V.iaload dX12_town_62 rfl (Or.inl ⟨rfl, SHL_lt rfl⟩) (vp_lit (by decide)) ?_
    rw [show Int32.toNatClampNeg 1641 = 1641 from rfl]
    refine V.if_ne (tgt := 72) dX12_town_63 (by decide) (fun c22 => ?_) (fun c22 => ?_)
    · replace hf := ite_n hf c22
      exact th_X12_town_72 ly FU l2 h srh hf
    · replace hf := ite_p hf c22
      refine V.aload_n dX12_town_66 rfl rfl rfl ?_
      refine V.iconst (v := 2) dX12_town_67 rfl ?_
      obtain ⟨r25, h24, q23, hf2⟩ := bd2_el hf
      replace hf := hf2
      clear hf2
      refine V.callVI dX12_town_68 ml_X12_163 mo_X12_fails mv_X12_fails rfl (fun q hq => by cases hq; rfl) (by decide) (Or.inl ⟨rfl, SHL_lt rfl⟩) (th_X12_fails (srh.ly ly) q23) rfl rfl ⟨Nat.le_of_ble_eq_true rfl, Nat.le_of_ble_eq_true rfl, fun _ => ⟨rfl, rfl⟩⟩ (Nat.le_of_ble_eq_true rfl) rfl (post_I (fun sq => ?_))
      have srh24 : SR h0 h24 := srh.trans sq
      clear sq q23
      refine V.istore_n (ls' := [.ref 113, .null, .int r25, .null]) dX12_town_71 rfl (by decide) rfl ?_
      exact th_X12_town_72 ly FU r25 h24 srh24 hf
set_option maxRecDepth 100000 in
theorem th_X12_town_29 {h0 : HP} (ly : Lay h0) {rr : Int32} {hh : HP}  : ∀ (n : Nat) (l2 : Int32) (h : HP), SR h0 h → f_X12_town_29 n l2 h = some (rr, hh) → V cX12_town miX12_town (ZI h0 miX12_town rr hh) 130 29 [.ref 113, .null, .int l2, .null] [] h := by
  intro n
  induction n with
  | zero => intro l2 h srh hf; exact absurd hf (by unfold f_X12_town_29; simp)
  | succ n ih =>
    intro l2 h srh hf
    unfold f_X12_town_29 at hf
    refine V.iload_n dX12_town_29 rfl rfl ?_
    refine V.if_eq (tgt := 51) dX12_town_30 (by decide) (fun c13 => ?_) (fun c13 => ?_)
    · replace hf := ite_p hf c13
      exact th_X12_town_51 ly l2 h srh hf
    · replace hf := ite_n hf c13
      refine V.aload_n dX12_town_33 rfl rfl rfl ?_
      refine V.ldcS (i := 1) (by decide) dX12_town_34 rfl rfl ?_
      obtain ⟨r16, h15, q14, hf2⟩ := bd2_el hf
      replace hf := hf2
      clear hf2
      refine V.callVI dX12_town_36 ml_X12_166 mo_X12_inWords mv_X12_inWords rfl (fun q hq => by cases hq; rfl) (by decide) (Or.inl ⟨rfl, SHL_lt rfl⟩) (th_X12_inWords (srh.ly ly) q14) rfl rfl ⟨Nat.le_of_ble_eq_true rfl, Nat.le_of_ble_eq_true rfl, fun _ => ⟨rfl, rfl⟩⟩ (Nat.le_of_ble_eq_true rfl) rfl (post_I (fun sq => ?_))
      have srh15 : SR h0 h15 := srh.trans sq
      clear sq q14
      refine V.iconst (v := 1) dX12_town_39 rfl ?_
      refine V.icmp_ne (tgt := 51) dX12_town_40 (by decide) (fun c17 => ?_) (fun c17 => ?_)
      · replace hf := ite_n hf c17
        exact th_X12_town_51 ly l2 h15 srh15 hf
      · replace hf := ite_p hf c17
        refine V.aload_n dX12_town_43 rfl rfl rfl ?_
        obtain ⟨r20, h19, q18, hf2⟩ := bd2_el hf
        replace hf := hf2
        clear hf2
        refine V.callVI dX12_town_44 ml_X12_220 mo_X12_aRow mv_X12_aRow rfl (fun q hq => by cases hq; rfl) (by decide) (Or.inl ⟨rfl, SHL_lt rfl⟩) (th_X12_aRow (srh15.ly ly) q18) rfl rfl ⟨Nat.le_of_ble_eq_true rfl, Nat.le_of_ble_eq_true rfl, fun _ => ⟨rfl, rfl⟩⟩ (Nat.le_of_ble_eq_true rfl) rfl (post_I (fun sq => ?_))
        have srh19 : SR h0 h19 := srh15.trans sq
        clear sq q18
        refine V.istore_n (ls' := [.ref 113, .null, .int r20, .null]) dX12_town_47 rfl (by decide) rfl ?_
        refine V.goto (tgt := 29) dX12_town_48 (by decide) ?_
        exact ih r20 h19 srh19 hf
set_option maxRecDepth 100000 in
theorem th_X12_town {h : HP} (ly : Lay h) {a1 : Int32} {rr : Int32} {hh : HP} (hf : f_X12_town h a1 = some (rr, hh)) : Spec yX12_town cX12_town miX12_town [.ref 113, .int a1] h (pI fun r' h' => (r' = rr ∧ h' = hh) ∧ SR h hh) := by
  refine Spec.of (ls0 := [.ref 113, .int a1, .null, .null]) mo_X12_town (Nat.le_of_ble_eq_true rfl) rfl ?_
  rw [ly.1]
  have srh : SR h h := SR.refl h
  unfold f_X12_town at hf
  refine V.aload_n dX12_town_0 rfl rfl rfl ?_
  refine V.iload_n dX12_town_1 rfl rfl ?_
  refine V.sipush (v := 900) dX12_town_2 rfl ?_
  obtain ⟨r3, h2, q1, hf2⟩ := bd2_el hf
  replace hf := hf2
  clear hf2
  refine V.callVI dX12_town_5 ml_X12_213 mo_X12_begins mv_X12_begins rfl (fun q hq => by cases hq; rfl) (by decide) (Or.inl ⟨rfl, SHL_lt rfl⟩) (th_X12_begins (srh.ly ly) q1) rfl rfl ⟨Nat.le_of_ble_eq_true rfl, Nat.le_of_ble_eq_true rfl, fun _ => ⟨rfl, rfl⟩⟩ (Nat.le_of_ble_eq_true rfl) rfl (post_I (fun sq => ?_))
  have srh2 : SR h h2 := srh.trans sq
  clear sq q1
  refine V.if_ne (tgt := 17) dX12_town_8 (by decide) (fun c4 => ?_) (fun c4 => ?_)
  · replace hf := ite_n hf c4
    refine V.aload_n dX12_town_17 rfl rfl rfl ?_
    refine V.sipush (v := 1640) dX12_town_18 rfl ?_
    obtain ⟨h6, q5, hf2⟩ := bd_el hf
    replace hf := hf2
    clear hf2
    refine V.callVV dX12_town_21 ml_X12_71 mo_X12_plain mv_X12_plain rfl (fun q hq => by cases hq; rfl) (by decide) (Or.inl ⟨rfl, SHL_lt rfl⟩) (th_X12_plain (srh2.ly ly) q5) rfl rfl ⟨Nat.le_of_ble_eq_true rfl, Nat.le_of_ble_eq_true rfl, fun _ => ⟨rfl, rfl⟩⟩ (Nat.le_of_ble_eq_true rfl) (Or.inl rfl) (post_V (fun sq => ?_))
    have srh6 : SR h h6 := srh2.trans sq
    clear sq q5
    refine V.aload_n dX12_town_24 rfl rfl rfl ?_
    obtain ⟨r9, h8, q7, hf2⟩ := bd2_el hf
    replace hf := hf2
    clear hf2
    refine V.callVI dX12_town_25 ml_X12_217 mo_X12_first mv_X12_first rfl (fun q hq => by cases hq; rfl) (by decide) (Or.inl ⟨rfl, SHL_lt rfl⟩) (th_X12_first (srh6.ly ly) q7) rfl rfl ⟨Nat.le_of_ble_eq_true rfl, Nat.le_of_ble_eq_true rfl, fun _ => ⟨rfl, rfl⟩⟩ (Nat.le_of_ble_eq_true rfl) rfl (post_I (fun sq => ?_))
    have srh8 : SR h h8 := srh6.trans sq
    clear sq q7
    refine V.istore_n (ls' := [.ref 113, .int a1, .int r9, .null]) dX12_town_28 rfl (by decide) rfl ?_
    refine V.less (ls' := [.ref 113, .null, .int r9, .null]) ⟨Or.inr rfl, Or.inl rfl, Or.inr rfl, Or.inl rfl, trivial⟩ ?_
    exact th_X12_town_29 ly FU r9 h8 srh8 hf
  · replace hf := ite_p hf c4
    refine V.aload_n dX12_town_11 rfl rfl rfl ?_
    refine V.iconst (v := 1) dX12_town_12 rfl ?_
    obtain ⟨r12, h11, q10, hf2⟩ := bd2_el hf
    replace hf := hf2
    clear hf2
    refine V.callVI dX12_town_13 ml_X12_81 mo_X12_refuse mv_X12_refuse rfl (fun q hq => by cases hq; rfl) (by decide) (Or.inl ⟨rfl, SHL_lt rfl⟩) (th_X12_refuse (srh2.ly ly) q10) rfl rfl ⟨Nat.le_of_ble_eq_true rfl, Nat.le_of_ble_eq_true rfl, fun _ => ⟨rfl, rfl⟩⟩ (Nat.le_of_ble_eq_true rfl) rfl (post_I (fun sq => ?_))
    have srh11 : SR h h11 := srh2.trans sq
    clear sq q10
    refine V.ireturn dX12_town_16 rfl rfl ⟨rfl, rfl⟩ ly.1 ?_
    exact ret_I hf srh11
set_option maxRecDepth 100000 in
theorem th_X12_placeTo {h : HP} (ly : Lay h) {a1 : Int32} {rr : Int32} {hh : HP} (hf : f_X12_placeTo h a1 = some (rr, hh)) : Spec yX12_placeTo cX12_placeTo miX12_placeTo [.ref 113, .int a1] h (pI fun r' h' => (r' = rr ∧ h' = hh) ∧ SR h hh) := by
  refine Spec.of (ls0 := [.ref 113, .int a1]) mo_X12_placeTo (Nat.le_of_ble_eq_true rfl) rfl ?_
  rw [ly.1]
  have srh : SR h h := SR.refl h
  unfold f_X12_placeTo at hf
  refine V.aload_n dX12_placeTo_0 rfl rfl rfl ?_
  refine V.iload_n dX12_placeTo_1 rfl rfl ?_
  refine V.iconst (v := 0) dX12_placeTo_2 rfl ?_
  refine V.aload_n dX12_placeTo_3 rfl rfl rfl ?_
  refine V.getR (r := 114) dX12_placeTo_4 fl_X12_7 rfl (Or.inl ⟨rfl, SHL_lt rfl⟩) rfl (ly_113_0 (srh.ly ly)) ?_
  refine V.iconst (v := 0) dX12_placeTo_7 rfl ?_
  refine V.iaload dX12_placeTo_8 rfl (Or.inl ⟨rfl, SHL_lt rfl⟩) (vp_lit (by decide)) ?_
  rw [show Int32.toNatClampNeg 0 = 0 from rfl]
  refine V.iconst (v := 1) dX12_placeTo_9 rfl ?_
  refine V.isub dX12_placeTo_10 ?_
  obtain ⟨r3, h2, q1, hf2⟩ := bd2_el hf
  replace hf := hf2
  clear hf2
  refine V.callVI dX12_placeTo_11 ml_X12_187 mo_X12_number mv_X12_number rfl (fun q hq => by cases hq; rfl) (by decide) (Or.inl ⟨rfl, SHL_lt rfl⟩) (th_X12_number (srh.ly ly) q1) rfl rfl ⟨Nat.le_of_ble_eq_true rfl, Nat.le_of_ble_eq_true rfl, fun _ => ⟨rfl, rfl⟩⟩ (Nat.le_of_ble_eq_true rfl) rfl (post_I (fun sq => ?_))
  have srh2 : SR h h2 := srh.trans sq
  clear sq q1
  refine V.if_eq (tgt := 40) dX12_placeTo_14 (by decide) (fun c4 => ?_) (fun c4 => ?_)
  · replace hf := ite_p hf c4
    refine V.iconst (v := 0) dX12_placeTo_40 rfl ?_
    refine V.ireturn dX12_placeTo_41 rfl rfl ⟨rfl, rfl⟩ ly.1 ?_
    exact ret_I hf srh2
  · replace hf := ite_n hf c4
    refine V.aload_n dX12_placeTo_17 rfl rfl rfl ?_
    refine V.iload_n dX12_placeTo_18 rfl rfl ?_
    refine V.iconst (v := 1) dX12_placeTo_19 rfl ?_
    refine V.iadd dX12_placeTo_20 ?_
    refine V.iconst (v := 0) dX12_placeTo_21 rfl ?_
    refine V.aload_n dX12_placeTo_22 rfl rfl rfl ?_
    refine V.getR (r := 114) dX12_placeTo_23 fl_X12_7 rfl (Or.inl ⟨rfl, SHL_lt rfl⟩) rfl (ly_113_0 (srh2.ly ly)) ?_
    refine V.iconst (v := 1) dX12_placeTo_26 rfl ?_
    refine V.iaload dX12_placeTo_27 rfl (Or.inl ⟨rfl, SHL_lt rfl⟩) (vp_lit (by decide)) ?_
    rw [show Int32.toNatClampNeg 1 = 1 from rfl]
    refine V.iconst (v := 1) dX12_placeTo_28 rfl ?_
    refine V.isub dX12_placeTo_29 ?_
    obtain ⟨r7, h6, q5, hf2⟩ := bd2_el hf
    replace hf := hf2
    clear hf2
    refine V.callVI dX12_placeTo_30 ml_X12_187 mo_X12_number mv_X12_number rfl (fun q hq => by cases hq; rfl) (by decide) (Or.inl ⟨rfl, SHL_lt rfl⟩) (th_X12_number (srh2.ly ly) q5) rfl rfl ⟨Nat.le_of_ble_eq_true rfl, Nat.le_of_ble_eq_true rfl, fun _ => ⟨rfl, rfl⟩⟩ (Nat.le_of_ble_eq_true rfl) rfl (post_I (fun sq => ?_))
    have srh6 : SR h h6 := srh2.trans sq
    clear sq q5
    refine V.if_eq (tgt := 40) dX12_placeTo_33 (by decide) (fun c8 => ?_) (fun c8 => ?_)
    · replace hf := ite_p hf c8
      refine V.iconst (v := 0) dX12_placeTo_40 rfl ?_
      refine V.ireturn dX12_placeTo_41 rfl rfl ⟨rfl, rfl⟩ ly.1 ?_
      exact ret_I hf srh6
    · replace hf := ite_n hf c8
      refine V.iconst (v := 1) dX12_placeTo_36 rfl ?_
      refine V.goto (tgt := 41) dX12_placeTo_37 (by decide) ?_
      refine V.ireturn dX12_placeTo_41 rfl rfl ⟨rfl, rfl⟩ ly.1 ?_
      exact ret_I hf srh6
set_option maxRecDepth 100000 in
theorem th_X12_test_89 {h0 : HP} (ly : Lay h0) {rr : Int32} {hh : HP}  : ∀ (l1 : Int32) (h : HP), SR h0 h → f_X12_test_89 l1 h = some (rr, hh) → V cX12_test miX12_test (ZI h0 miX12_test rr hh) 130 89 [.ref 113, .int l1, .null] [] h := by
  intro l1 h srh hf
  unfold f_X12_test_89 at hf
  refine V.aload_n dX12_test_89 rfl rfl rfl ?_
  refine V.getR (r := 114) dX12_test_90 fl_X12_7 rfl (Or.inl ⟨rfl, SHL_lt rfl⟩) rfl (ly_113_0 (srh.ly ly)) ?_
  refine V.iload_n dX12_test_93 rfl rfl ?_
  refine V.iconst (v := 5) dX12_test_94 rfl ?_
  refine V.iadd dX12_test_95 ?_
  refine V.aload_n dX12_test_96 rfl rfl rfl ?_
  refine V.getI dX12_test_97 fl_X12_123 rfl (Or.inl ⟨rfl, SHL_lt rfl⟩) rfl rfl ?_
  obtain ⟨b35, hf2⟩ := gdi_el hf
  replace hf := hf2
  clear hf2
  refine V.iastore dX12_test_100 rfl (Or.inl ⟨rfl, SHL_lt rfl⟩) b35 ?_
  refine V.nameH (fun g36 eg36 => ?_)
  replace hf := lt_el hf g36 eg36
  have srg36 : SR h0 g36 := by rw [eg36]; exact srh.I _ _ _
  refine V.aload_n dX12_test_101 rfl rfl rfl ?_
  obtain ⟨h38, q37, hf2⟩ := bd_el hf
  replace hf := hf2
  clear hf2
  refine V.callVV dX12_test_102 ml_X12_157 mo_X12_onward mv_X12_onward rfl (fun q hq => by cases hq; rfl) (by decide) (Or.inl ⟨rfl, SHL_lt rfl⟩) (th_X12_onward (srg36.ly ly) q37) rfl rfl ⟨Nat.le_of_ble_eq_true rfl, Nat.le_of_ble_eq_true rfl, fun _ => ⟨rfl, rfl⟩⟩ (Nat.le_of_ble_eq_true rfl) (Or.inl rfl) (post_V (fun sq => ?_))
  have srh38 : SR h0 h38 := srg36.trans sq
  clear sq q37
  refine V.aload_n dX12_test_105 rfl rfl rfl ?_
  refine V.iload_n dX12_test_106 rfl rfl ?_
  refine V.iconst (v := 1) dX12_test_107 rfl ?_
  refine V.iadd dX12_test_108 ?_
  refine V.iconst (v := 0) dX12_test_109 rfl ?_
  refine V.bipush (v := 30) dX12_test_110 rfl ?_
  obtain ⟨r41, h40, q39, hf2⟩ := bd2_el hf
  replace hf := hf2
  clear hf2
  refine V.callVI dX12_test_112 ml_X12_187 mo_X12_number mv_X12_number rfl (fun q hq => by cases hq; rfl) (by decide) (Or.inl ⟨rfl, SHL_lt rfl⟩) (th_X12_number (srh38.ly ly) q39) rfl rfl ⟨Nat.le_of_ble_eq_true rfl, Nat.le_of_ble_eq_true rfl, fun _ => ⟨rfl, rfl⟩⟩ (Nat.le_of_ble_eq_true rfl) rfl (post_I (fun sq => ?_))
  have srh40 : SR h0 h40 := srh38.trans sq
  clear sq q39
  obtain ⟨b42, hf2⟩ := gd_el hf
  replace hf := hf2
  clear hf2
  refine V.ireturn dX12_test_115 rfl (narB b42) ⟨rfl, rfl⟩ ly.1 ?_
  exact ret_I hf srh40
set_option maxRecDepth 100000 in
theorem th_X12_test {h : HP} (ly : Lay h) {a1 : Int32} {rr : Int32} {hh : HP} (hf : f_X12_test h a1 = some (rr, hh)) : Spec yX12_test cX12_test miX12_test [.ref 113, .int a1] h (pI fun r' h' => (r' = rr ∧ h' = hh) ∧ SR h hh) := by
  refine Spec.of (ls0 := [.ref 113, .int a1, .null]) mo_X12_test (Nat.le_of_ble_eq_true rfl) rfl ?_
  rw [ly.1]
  have srh : SR h h := SR.refl h
  unfold f_X12_test at hf
  refine V.aload_n dX12_test_0 rfl rfl rfl ?_
  refine V.ldcS (i := 1) (by decide) dX12_test_1 rfl rfl ?_
  obtain ⟨r3, h2, q1, hf2⟩ := bd2_el hf
  replace hf := hf2
  clear hf2
  refine V.callVI dX12_test_3 ml_X12_166 mo_X12_inWords mv_X12_inWords rfl (fun q hq => by cases hq; rfl) (by decide) (Or.inl ⟨rfl, SHL_lt rfl⟩) (th_X12_inWords (srh.ly ly) q1) rfl rfl ⟨Nat.le_of_ble_eq_true rfl, Nat.le_of_ble_eq_true rfl, fun _ => ⟨rfl, rfl⟩⟩ (Nat.le_of_ble_eq_true rfl) rfl (post_I (fun sq => ?_))
  have srh2 : SR h h2 := srh.trans sq
  clear sq q1
  refine V.istore_n (ls' := [.ref 113, .int a1, .int r3]) dX12_test_6 rfl (by decide) rfl ?_
  refine V.iload_n dX12_test_7 rfl rfl ?_
  refine V.bipush (v := 19) dX12_test_8 rfl ?_
  refine V.icmp_ge (tgt := 19) dX12_test_10 (by decide) (fun c4 => ?_) (fun c4 => ?_)
  · replace hf := ite_p hf c4
    refine V.aload_n dX12_test_19 rfl rfl rfl ?_
    refine V.getR (r := 114) dX12_test_20 fl_X12_7 rfl (Or.inl ⟨rfl, SHL_lt rfl⟩) rfl (ly_113_0 (srh2.ly ly)) ?_
    refine V.iload_n dX12_test_23 rfl rfl ?_
    refine V.sipush (v := 1500) dX12_test_24 rfl ?_
    refine V.iload_n dX12_test_27 rfl rfl ?_
    refine V.iadd dX12_test_28 ?_
    obtain ⟨b5, hf2⟩ := gdi_el hf
    replace hf := hf2
    clear hf2
    refine V.iastore dX12_test_29 rfl (Or.inl ⟨rfl, SHL_lt rfl⟩) b5 ?_
    refine V.nameH (fun g6 eg6 => ?_)
    replace hf := lt_el hf g6 eg6
    have srg6 : SR h g6 := by rw [eg6]; exact srh2.I _ _ _
    refine V.aload_n dX12_test_30 rfl rfl rfl ?_
    obtain ⟨h8, q7, hf2⟩ := bd_el hf
    replace hf := hf2
    clear hf2
    refine V.callVV dX12_test_31 ml_X12_157 mo_X12_onward mv_X12_onward rfl (fun q hq => by cases hq; rfl) (by decide) (Or.inl ⟨rfl, SHL_lt rfl⟩) (th_X12_onward (srg6.ly ly) q7) rfl rfl ⟨Nat.le_of_ble_eq_true rfl, Nat.le_of_ble_eq_true rfl, fun _ => ⟨rfl, rfl⟩⟩ (Nat.le_of_ble_eq_true rfl) (Or.inl rfl) (post_V (fun sq => ?_))
    have srh8 : SR h h8 := srg6.trans sq
    clear sq q7
    refine V.iload_n dX12_test_34 rfl rfl ?_
    refine V.bipush (v := 21) dX12_test_35 rfl ?_
    refine V.icmp_ne (tgt := 42) dX12_test_37 (by decide) (fun c9 => ?_) (fun c9 => ?_)
    · replace hf := ite_n hf c9
      refine V.iload_n dX12_test_42 rfl rfl ?_
      refine V.bipush (v := 20) dX12_test_43 rfl ?_
      refine V.icmp_ne (tgt := 56) dX12_test_45 (by decide) (fun c10 => ?_) (fun c10 => ?_)
      · replace hf := ite_n hf c10
        refine V.aload_n dX12_test_56 rfl rfl rfl ?_
        refine V.bipush (v := 60) dX12_test_57 rfl ?_
        obtain ⟨r13, h12, q11, hf2⟩ := bd2_el hf
        replace hf := hf2
        clear hf2
        refine V.callVI dX12_test_59 ml_X12_160 mo_X12_isSign mv_X12_isSign rfl (fun q hq => by cases hq; rfl) (by decide) (Or.inl ⟨rfl, SHL_lt rfl⟩) (th_X12_isSign (srh8.ly ly) q11) rfl rfl ⟨Nat.le_of_ble_eq_true rfl, Nat.le_of_ble_eq_true rfl, fun _ => ⟨rfl, rfl⟩⟩ (Nat.le_of_ble_eq_true rfl) rfl (post_I (fun sq => ?_))
        have srh12 : SR h h12 := srh8.trans sq
        clear sq q11
        refine V.if_ne (tgt := 89) dX12_test_62 (by decide) (fun c14 => ?_) (fun c14 => ?_)
        · replace hf := ite_n hf c14
          refine V.less (ls' := [.ref 113, .int a1, .null]) ⟨Or.inr rfl, Or.inr rfl, Or.inl rfl, trivial⟩ ?_
          exact th_X12_test_89 ly a1 h12 srh12 hf
        · replace hf := ite_p hf c14
          refine V.aload_n dX12_test_65 rfl rfl rfl ?_
          refine V.bipush (v := 62) dX12_test_66 rfl ?_
          obtain ⟨r17, h16, q15, hf2⟩ := bd2_el hf
          replace hf := hf2
          clear hf2
          refine V.callVI dX12_test_68 ml_X12_160 mo_X12_isSign mv_X12_isSign rfl (fun q hq => by cases hq; rfl) (by decide) (Or.inl ⟨rfl, SHL_lt rfl⟩) (th_X12_isSign (srh12.ly ly) q15) rfl rfl ⟨Nat.le_of_ble_eq_true rfl, Nat.le_of_ble_eq_true rfl, fun _ => ⟨rfl, rfl⟩⟩ (Nat.le_of_ble_eq_true rfl) rfl (post_I (fun sq => ?_))
          have srh16 : SR h h16 := srh12.trans sq
          clear sq q15
          refine V.if_ne (tgt := 89) dX12_test_71 (by decide) (fun c18 => ?_) (fun c18 => ?_)
          · replace hf := ite_n hf c18
            refine V.less (ls' := [.ref 113, .int a1, .null]) ⟨Or.inr rfl, Or.inr rfl, Or.inl rfl, trivial⟩ ?_
            exact th_X12_test_89 ly a1 h16 srh16 hf
          · replace hf := ite_p hf c18
            refine V.aload_n dX12_test_74 rfl rfl rfl ?_
            refine V.bipush (v := 61) dX12_test_75 rfl ?_
            obtain ⟨r21, h20, q19, hf2⟩ := bd2_el hf
            replace hf := hf2
            clear hf2
            refine V.callVI dX12_test_77 ml_X12_160 mo_X12_isSign mv_X12_isSign rfl (fun q hq => by cases hq; rfl) (by decide) (Or.inl ⟨rfl, SHL_lt rfl⟩) (th_X12_isSign (srh16.ly ly) q19) rfl rfl ⟨Nat.le_of_ble_eq_true rfl, Nat.le_of_ble_eq_true rfl, fun _ => ⟨rfl, rfl⟩⟩ (Nat.le_of_ble_eq_true rfl) rfl (post_I (fun sq => ?_))
            have srh20 : SR h h20 := srh16.trans sq
            clear sq q19
            refine V.if_ne (tgt := 89) dX12_test_80 (by decide) (fun c22 => ?_) (fun c22 => ?_)
            · replace hf := ite_n hf c22
              refine V.less (ls' := [.ref 113, .int a1, .null]) ⟨Or.inr rfl, Or.inr rfl, Or.inl rfl, trivial⟩ ?_
              exact th_X12_test_89 ly a1 h20 srh20 hf
            · replace hf := ite_p hf c22
              refine V.aload_n dX12_test_83 rfl rfl rfl ?_
              refine V.iconst (v := 2) dX12_test_84 rfl ?_
              obtain ⟨r25, h24, q23, hf2⟩ := bd2_el hf
              replace hf := hf2
              clear hf2
              refine V.callVI dX12_test_85 ml_X12_163 mo_X12_fails mv_X12_fails rfl (fun q hq => by cases hq; rfl) (by decide) (Or.inl ⟨rfl, SHL_lt rfl⟩) (th_X12_fails (srh20.ly ly) q23) rfl rfl ⟨Nat.le_of_ble_eq_true rfl, Nat.le_of_ble_eq_true rfl, fun _ => ⟨rfl, rfl⟩⟩ (Nat.le_of_ble_eq_true rfl) rfl (post_I (fun sq => ?_))
              have srh24 : SR h h24 := srh20.trans sq
              clear sq q23
              obtain ⟨b26, hf2⟩ := gd_el hf
              replace hf := hf2
              clear hf2
              refine V.ireturn dX12_test_88 rfl (narB b26) ⟨rfl, rfl⟩ ly.1 ?_
              exact ret_I hf srh24
      · replace hf := ite_p hf c10
        refine V.aload_n dX12_test_48 rfl rfl rfl ?_
        refine V.iload_n dX12_test_49 rfl rfl ?_
        refine V.iconst (v := 1) dX12_test_50 rfl ?_
        refine V.iadd dX12_test_51 ?_
        obtain ⟨r29, h28, q27, hf2⟩ := bd2_el hf
        replace hf := hf2
        clear hf2
        refine V.callVI dX12_test_52 ml_X12_232 mo_X12_placeTo mv_X12_placeTo rfl (fun q hq => by cases hq; rfl) (by decide) (Or.inl ⟨rfl, SHL_lt rfl⟩) (th_X12_placeTo (srh8.ly ly) q27) rfl rfl ⟨Nat.le_of_ble_eq_true rfl, Nat.le_of_ble_eq_true rfl, fun _ => ⟨rfl, rfl⟩⟩ (Nat.le_of_ble_eq_true rfl) rfl (post_I (fun sq => ?_))
        have srh28 : SR h h28 := srh8.trans sq
        clear sq q27
        obtain ⟨b30, hf2⟩ := gd_el hf
        replace hf := hf2
        clear hf2
        refine V.ireturn dX12_test_55 rfl (narB b30) ⟨rfl, rfl⟩ ly.1 ?_
        exact ret_I hf srh28
    · replace hf := ite_p hf c9
      refine V.iconst (v := 1) dX12_test_40 rfl ?_
      refine V.ireturn dX12_test_41 rfl rfl ⟨rfl, rfl⟩ ly.1 ?_
      exact ret_I hf srh8
  · replace hf := ite_n hf c4
    refine V.aload_n dX12_test_13 rfl rfl rfl ?_
    refine V.iconst (v := 2) dX12_test_14 rfl ?_
    obtain ⟨r33, h32, q31, hf2⟩ := bd2_el hf
    replace hf := hf2
    clear hf2
    refine V.callVI dX12_test_15 ml_X12_163 mo_X12_fails mv_X12_fails rfl (fun q hq => by cases hq; rfl) (by decide) (Or.inl ⟨rfl, SHL_lt rfl⟩) (th_X12_fails (srh2.ly ly) q31) rfl rfl ⟨Nat.le_of_ble_eq_true rfl, Nat.le_of_ble_eq_true rfl, fun _ => ⟨rfl, rfl⟩⟩ (Nat.le_of_ble_eq_true rfl) rfl (post_I (fun sq => ?_))
    have srh32 : SR h h32 := srh2.trans sq
    clear sq q31
    obtain ⟨b34, hf2⟩ := gd_el hf
    replace hf := hf2
    clear hf2
    refine V.ireturn dX12_test_18 rfl (narB b34) ⟨rfl, rfl⟩ ly.1 ?_
    exact ret_I hf srh32
set_option maxRecDepth 100000 in
theorem th_X12_yearOrder {h : HP} (ly : Lay h) {a1 : Int32} {a2 : Int32} {rr : Int32} {hh : HP} (hf : f_X12_yearOrder h a1 a2 = some (rr, hh)) : Spec yX12_yearOrder cX12_yearOrder miX12_yearOrder [.ref 113, .int a1, .int a2] h (pI fun r' h' => (r' = rr ∧ h' = hh) ∧ SR h hh) := by
  refine Spec.of (ls0 := [.ref 113, .int a1, .int a2]) mo_X12_yearOrder (Nat.le_of_ble_eq_true rfl) rfl ?_
  rw [ly.1]
  have srh : SR h h := SR.refl h
  unfold f_X12_yearOrder at hf
  refine V.iload_n dX12_yearOrder_0 rfl rfl ?_
  by_cases c1 : a1 = 9
  · replace hf := ite_p hf c1
    refine V.tableIn (tgt := 48) dX12_yearOrder_1 (by rw [c1]; decide) (by rw [c1]; decide) (by rw [c1]; rfl) (by decide) ?_
    refine V.aload_n dX12_yearOrder_48 rfl rfl rfl ?_
    refine V.iload_n dX12_yearOrder_49 rfl rfl ?_
    refine V.iconst (v := 1) dX12_yearOrder_50 rfl ?_
    refine V.iadd dX12_yearOrder_51 ?_
    refine V.iconst (v := 1) dX12_yearOrder_52 rfl ?_
    refine V.bipush (v := 99) dX12_yearOrder_53 rfl ?_
    obtain ⟨r4, h3, q2, hf2⟩ := bd2_el hf
    replace hf := hf2
    clear hf2
    refine V.callVI dX12_yearOrder_55 ml_X12_187 mo_X12_number mv_X12_number rfl (fun q hq => by cases hq; rfl) (by decide) (Or.inl ⟨rfl, SHL_lt rfl⟩) (th_X12_number (srh.ly ly) q2) rfl rfl ⟨Nat.le_of_ble_eq_true rfl, Nat.le_of_ble_eq_true rfl, fun _ => ⟨rfl, rfl⟩⟩ (Nat.le_of_ble_eq_true rfl) rfl (post_I (fun sq => ?_))
    have srh3 : SR h h3 := srh.trans sq
    clear sq q2
    obtain ⟨b5, hf2⟩ := gd_el hf
    replace hf := hf2
    clear hf2
    refine V.ireturn dX12_yearOrder_58 rfl (narB b5) ⟨rfl, rfl⟩ ly.1 ?_
    exact ret_I hf srh3
  replace hf := ite_n hf c1
  by_cases c6 : a1 = 10
  · replace hf := ite_p hf c6
    refine V.tableIn (tgt := 59) dX12_yearOrder_1 (by rw [c6]; decide) (by rw [c6]; decide) (by rw [c6]; rfl) (by decide) ?_
    refine V.aload_n dX12_yearOrder_59 rfl rfl rfl ?_
    refine V.iload_n dX12_yearOrder_60 rfl rfl ?_
    refine V.iconst (v := 1) dX12_yearOrder_61 rfl ?_
    refine V.iadd dX12_yearOrder_62 ?_
    obtain ⟨r9, h8, q7, hf2⟩ := bd2_el hf
    replace hf := hf2
    clear hf2
    refine V.callVI dX12_yearOrder_63 ml_X12_232 mo_X12_placeTo mv_X12_placeTo rfl (fun q hq => by cases hq; rfl) (by decide) (Or.inl ⟨rfl, SHL_lt rfl⟩) (th_X12_placeTo (srh.ly ly) q7) rfl rfl ⟨Nat.le_of_ble_eq_true rfl, Nat.le_of_ble_eq_true rfl, fun _ => ⟨rfl, rfl⟩⟩ (Nat.le_of_ble_eq_true rfl) rfl (post_I (fun sq => ?_))
    have srh8 : SR h h8 := srh.trans sq
    clear sq q7
    obtain ⟨b10, hf2⟩ := gd_el hf
    replace hf := hf2
    clear hf2
    refine V.ireturn dX12_yearOrder_66 rfl (narB b10) ⟨rfl, rfl⟩ ly.1 ?_
    exact ret_I hf srh8
  replace hf := ite_n hf c6
  by_cases c11 : a1 = 11
  · replace hf := ite_p hf c11
    refine V.tableIn (tgt := 67) dX12_yearOrder_1 (by rw [c11]; decide) (by rw [c11]; decide) (by rw [c11]; rfl) (by decide) ?_
    refine V.aload_n dX12_yearOrder_67 rfl rfl rfl ?_
    refine V.iload_n dX12_yearOrder_68 rfl rfl ?_
    refine V.iconst (v := 1) dX12_yearOrder_69 rfl ?_
    refine V.iadd dX12_yearOrder_70 ?_
    obtain ⟨r14, h13, q12, hf2⟩ := bd2_el hf
    replace hf := hf2
    clear hf2
    refine V.callVI dX12_yearOrder_71 ml_X12_235 mo_X12_oldRule mv_X12_oldRule rfl (fun q hq => by cases hq; rfl) (by decide) (Or.inl ⟨rfl, SHL_lt rfl⟩) (th_X12_oldRule (srh.ly ly) q12) rfl rfl ⟨Nat.le_of_ble_eq_true rfl, Nat.le_of_ble_eq_true rfl, fun _ => ⟨rfl, rfl⟩⟩ (Nat.le_of_ble_eq_true rfl) rfl (post_I (fun sq => ?_))
    have srh13 : SR h h13 := srh.trans sq
    clear sq q12
    obtain ⟨b15, hf2⟩ := gd_el hf
    replace hf := hf2
    clear hf2
    refine V.ireturn dX12_yearOrder_74 rfl (narB b15) ⟨rfl, rfl⟩ ly.1 ?_
    exact ret_I hf srh13
  replace hf := ite_n hf c11
  by_cases c16 : a1 = 12
  · replace hf := ite_p hf c16
    refine V.tableIn (tgt := 92) dX12_yearOrder_1 (by rw [c16]; decide) (by rw [c16]; decide) (by rw [c16]; rfl) (by decide) ?_
    refine V.iconst (v := 1) dX12_yearOrder_92 rfl ?_
    refine V.ireturn dX12_yearOrder_93 rfl rfl ⟨rfl, rfl⟩ ly.1 ?_
    exact ret_I hf srh
  replace hf := ite_n hf c16
  by_cases c17 : a1 = 13
  · replace hf := ite_p hf c17
    refine V.tableIn (tgt := 75) dX12_yearOrder_1 (by rw [c17]; decide) (by rw [c17]; decide) (by rw [c17]; rfl) (by decide) ?_
    refine V.aload_n dX12_yearOrder_75 rfl rfl rfl ?_
    refine V.iload_n dX12_yearOrder_76 rfl rfl ?_
    refine V.iconst (v := 1) dX12_yearOrder_77 rfl ?_
    refine V.iadd dX12_yearOrder_78 ?_
    refine V.iconst (v := 0) dX12_yearOrder_79 rfl ?_
    refine V.bipush (v := 16) dX12_yearOrder_80 rfl ?_
    obtain ⟨r20, h19, q18, hf2⟩ := bd2_el hf
    replace hf := hf2
    clear hf2
    refine V.callVI dX12_yearOrder_82 ml_X12_187 mo_X12_number mv_X12_number rfl (fun q hq => by cases hq; rfl) (by decide) (Or.inl ⟨rfl, SHL_lt rfl⟩) (th_X12_number (srh.ly ly) q18) rfl rfl ⟨Nat.le_of_ble_eq_true rfl, Nat.le_of_ble_eq_true rfl, fun _ => ⟨rfl, rfl⟩⟩ (Nat.le_of_ble_eq_true rfl) rfl (post_I (fun sq => ?_))
    have srh19 : SR h h19 := srh.trans sq
    clear sq q18
    obtain ⟨b21, hf2⟩ := gd_el hf
    replace hf := hf2
    clear hf2
    refine V.ireturn dX12_yearOrder_85 rfl (narB b21) ⟨rfl, rfl⟩ ly.1 ?_
    exact ret_I hf srh19
  replace hf := ite_n hf c17
  by_cases c22 : a1 = 14
  · replace hf := ite_p hf c22
    refine V.tableIn (tgt := 92) dX12_yearOrder_1 (by rw [c22]; decide) (by rw [c22]; decide) (by rw [c22]; rfl) (by decide) ?_
    refine V.iconst (v := 1) dX12_yearOrder_92 rfl ?_
    refine V.ireturn dX12_yearOrder_93 rfl rfl ⟨rfl, rfl⟩ ly.1 ?_
    exact ret_I hf srh
  replace hf := ite_n hf c22
  by_cases c23 : a1 = 15
  · replace hf := ite_p hf c23
    refine V.tableIn (tgt := 86) dX12_yearOrder_1 (by rw [c23]; decide) (by rw [c23]; decide) (by rw [c23]; rfl) (by decide) ?_
    refine V.aload_n dX12_yearOrder_86 rfl rfl rfl ?_
    refine V.iload_n dX12_yearOrder_87 rfl rfl ?_
    obtain ⟨r26, h25, q24, hf2⟩ := bd2_el hf
    replace hf := hf2
    clear hf2
    refine V.callVI dX12_yearOrder_88 ml_X12_238 mo_X12_test mv_X12_test rfl (fun q hq => by cases hq; rfl) (by decide) (Or.inl ⟨rfl, SHL_lt rfl⟩) (th_X12_test (srh.ly ly) q24) rfl rfl ⟨Nat.le_of_ble_eq_true rfl, Nat.le_of_ble_eq_true rfl, fun _ => ⟨rfl, rfl⟩⟩ (Nat.le_of_ble_eq_true rfl) rfl (post_I (fun sq => ?_))
    have srh25 : SR h h25 := srh.trans sq
    clear sq q24
    obtain ⟨b27, hf2⟩ := gd_el hf
    replace hf := hf2
    clear hf2
    refine V.ireturn dX12_yearOrder_91 rfl (narB b27) ⟨rfl, rfl⟩ ly.1 ?_
    exact ret_I hf srh25
  replace hf := ite_n hf c23
  by_cases c28 : a1 = 16
  · replace hf := ite_p hf c28
    refine V.tableIn (tgt := 48) dX12_yearOrder_1 (by rw [c28]; decide) (by rw [c28]; decide) (by rw [c28]; rfl) (by decide) ?_
    refine V.aload_n dX12_yearOrder_48 rfl rfl rfl ?_
    refine V.iload_n dX12_yearOrder_49 rfl rfl ?_
    refine V.iconst (v := 1) dX12_yearOrder_50 rfl ?_
    refine V.iadd dX12_yearOrder_51 ?_
    refine V.iconst (v := 1) dX12_yearOrder_52 rfl ?_
    refine V.bipush (v := 99) dX12_yearOrder_53 rfl ?_
    obtain ⟨r31, h30, q29, hf2⟩ := bd2_el hf
    replace hf := hf2
    clear hf2
    refine V.callVI dX12_yearOrder_55 ml_X12_187 mo_X12_number mv_X12_number rfl (fun q hq => by cases hq; rfl) (by decide) (Or.inl ⟨rfl, SHL_lt rfl⟩) (th_X12_number (srh.ly ly) q29) rfl rfl ⟨Nat.le_of_ble_eq_true rfl, Nat.le_of_ble_eq_true rfl, fun _ => ⟨rfl, rfl⟩⟩ (Nat.le_of_ble_eq_true rfl) rfl (post_I (fun sq => ?_))
    have srh30 : SR h h30 := srh.trans sq
    clear sq q29
    obtain ⟨b32, hf2⟩ := gd_el hf
    replace hf := hf2
    clear hf2
    refine V.ireturn dX12_yearOrder_58 rfl (narB b32) ⟨rfl, rfl⟩ ly.1 ?_
    exact ret_I hf srh30
  replace hf := ite_n hf c28
  have nc1 := lv_neT c1 (a := 9) rfl
  have nc6 := lv_neT c6 (a := 10) rfl
  have nc11 := lv_neT c11 (a := 11) rfl
  have nc16 := lv_neT c16 (a := 12) rfl
  have nc17 := lv_neT c17 (a := 13) rfl
  have nc22 := lv_neT c22 (a := 14) rfl
  have nc23 := lv_neT c23 (a := 15) rfl
  have nc28 := lv_neT c28 (a := 16) rfl
  refine V.tableOut (tgt := 92) dX12_yearOrder_1 (by omega) (by decide) ?_
  refine V.iconst (v := 1) dX12_yearOrder_92 rfl ?_
  refine V.ireturn dX12_yearOrder_93 rfl rfl ⟨rfl, rfl⟩ ly.1 ?_
  exact ret_I hf srh
set_option maxRecDepth 100000 in
theorem th_X12_yearStep_222 {h0 : HP} (ly : Lay h0) {rr : Int32} {hh : HP}  : ∀ (l1 : Int32) (l2 : Int32) (l3 : Int32) (h : HP), SR h0 h → f_X12_yearStep_222 l1 l2 l3 h = some (rr, hh) → V cX12_yearStep miX12_yearStep (ZI h0 miX12_yearStep rr hh) 130 222 [.ref 113, .int l1, .int l2, .int l3, .null, .null] [] h := by
  intro l1 l2 l3 h srh hf
  unfold f_X12_yearStep_222 at hf
  refine V.iload_n dX12_yearStep_222 rfl rfl ?_
  refine V.bipush (v := 17) dX12_yearStep_223 rfl ?_
  refine V.icmp_ne (tgt := 279) dX12_yearStep_225 (by decide) (fun c64 => ?_) (fun c64 => ?_)
  · replace hf := ite_n hf c64
    refine V.aload_n dX12_yearStep_279 rfl rfl rfl ?_
    refine V.bipush (v := 59) dX12_yearStep_280 rfl ?_
    obtain ⟨r67, h66, q65, hf2⟩ := bd2_el hf
    replace hf := hf2
    clear hf2
    refine V.callVI dX12_yearStep_282 ml_X12_194 mo_X12_wantSign mv_X12_wantSign rfl (fun q hq => by cases hq; rfl) (by decide) (Or.inl ⟨rfl, SHL_lt rfl⟩) (th_X12_wantSign (srh.ly ly) q65) rfl rfl ⟨Nat.le_of_ble_eq_true rfl, Nat.le_of_ble_eq_true rfl, fun _ => ⟨rfl, rfl⟩⟩ (Nat.le_of_ble_eq_true rfl) rfl (post_I (fun sq => ?_))
    have srh66 : SR h0 h66 := srh.trans sq
    clear sq q65
    obtain ⟨b68, hf2⟩ := gd_el hf
    replace hf := hf2
    clear hf2
    refine V.ireturn dX12_yearStep_285 rfl (narB b68) ⟨rfl, rfl⟩ ly.1 ?_
    exact ret_I hf srh66
  · replace hf := ite_p hf c64
    refine V.aload_n dX12_yearStep_228 rfl rfl rfl ?_
    refine V.dup dX12_yearStep_229 rfl ?_
    refine V.getI dX12_yearStep_230 fl_X12_241 rfl (Or.inl ⟨rfl, SHL_lt rfl⟩) rfl rfl ?_
    refine V.iconst (v := 1) dX12_yearStep_233 rfl ?_
    refine V.isub dX12_yearStep_234 ?_
    refine V.putI dX12_yearStep_235 fl_X12_241 rfl (Or.inl ⟨rfl, SHL_lt rfl⟩) rfl (fun q hq => by cases hq; rfl) ⟨rfl, rfl⟩ ?_
    refine V.nameH (fun g69 eg69 => ?_)
    replace hf := lt_el hf g69 eg69
    have srg69 : SR h0 g69 := by rw [eg69]; exact srh.I _ _ _
    refine V.aload_n dX12_yearStep_238 rfl rfl rfl ?_
    refine V.getR (r := 114) dX12_yearStep_239 fl_X12_7 rfl (Or.inl ⟨rfl, SHL_lt rfl⟩) rfl (ly_113_0 (srg69.ly ly)) ?_
    refine V.iload_n dX12_yearStep_242 rfl rfl ?_
    refine V.iconst (v := 4) dX12_yearStep_243 rfl ?_
    refine V.iadd dX12_yearStep_244 ?_
    refine V.aload_n dX12_yearStep_245 rfl rfl rfl ?_
    refine V.getR (r := 121) dX12_yearStep_246 fl_X12_44 rfl (Or.inl ⟨rfl, SHL_lt rfl⟩) rfl (ly_113_20 (srg69.ly ly)) ?_
    refine V.aload_n dX12_yearStep_249 rfl rfl rfl ?_
    refine V.getI dX12_yearStep_250 fl_X12_241 rfl (Or.inl ⟨rfl, SHL_lt rfl⟩) rfl rfl ?_
    obtain ⟨b70, hf2⟩ := gdi_el hf
    replace hf := hf2
    clear hf2
    refine V.iaload dX12_yearStep_253 rfl (Or.inl ⟨rfl, SHL_lt rfl⟩) b70 ?_
    obtain ⟨b71, hf2⟩ := gdi_el hf
    replace hf := hf2
    clear hf2
    refine V.iastore dX12_yearStep_254 rfl (Or.inl ⟨rfl, SHL_lt rfl⟩) b71 ?_
    refine V.nameH (fun g72 eg72 => ?_)
    replace hf := lt_el hf g72 eg72
    have srg72 : SR h0 g72 := by rw [eg72]; exact srg69.I _ _ _
    refine V.aload_n dX12_yearStep_255 rfl rfl rfl ?_
    refine V.getR (r := 114) dX12_yearStep_256 fl_X12_7 rfl (Or.inl ⟨rfl, SHL_lt rfl⟩) rfl (ly_113_0 (srg72.ly ly)) ?_
    refine V.sipush (v := 1684) dX12_yearStep_259 rfl ?_
    refine V.bipush (v := 6) dX12_yearStep_262 rfl ?_
    refine V.aload_n dX12_yearStep_264 rfl rfl rfl ?_
    refine V.getR (r := 121) dX12_yearStep_265 fl_X12_44 rfl (Or.inl ⟨rfl, SHL_lt rfl⟩) rfl (ly_113_20 (srg72.ly ly)) ?_
    refine V.aload_n dX12_yearStep_268 rfl rfl rfl ?_
    refine V.getI dX12_yearStep_269 fl_X12_241 rfl (Or.inl ⟨rfl, SHL_lt rfl⟩) rfl rfl ?_
    obtain ⟨b73, hf2⟩ := gdi_el hf
    replace hf := hf2
    clear hf2
    refine V.iaload dX12_yearStep_272 rfl (Or.inl ⟨rfl, SHL_lt rfl⟩) b73 ?_
    refine V.imul dX12_yearStep_273 ?_
    refine V.iadd dX12_yearStep_274 ?_
    refine V.iconst (v := 4) dX12_yearStep_275 rfl ?_
    refine V.iadd dX12_yearStep_276 ?_
    refine V.iload_n dX12_yearStep_277 rfl rfl ?_
    obtain ⟨b74, hf2⟩ := gdi_el hf
    replace hf := hf2
    clear hf2
    refine V.iastore dX12_yearStep_278 rfl (Or.inl ⟨rfl, SHL_lt rfl⟩) b74 ?_
    refine V.nameH (fun g75 eg75 => ?_)
    replace hf := lt_el hf g75 eg75
    have srg75 : SR h0 g75 := by rw [eg75]; exact srg72.I _ _ _
    refine V.aload_n dX12_yearStep_279 rfl rfl rfl ?_
    refine V.bipush (v := 59) dX12_yearStep_280 rfl ?_
    obtain ⟨r78, h77, q76, hf2⟩ := bd2_el hf
    replace hf := hf2
    clear hf2
    refine V.callVI dX12_yearStep_282 ml_X12_194 mo_X12_wantSign mv_X12_wantSign rfl (fun q hq => by cases hq; rfl) (by decide) (Or.inl ⟨rfl, SHL_lt rfl⟩) (th_X12_wantSign (srg75.ly ly) q76) rfl rfl ⟨Nat.le_of_ble_eq_true rfl, Nat.le_of_ble_eq_true rfl, fun _ => ⟨rfl, rfl⟩⟩ (Nat.le_of_ble_eq_true rfl) rfl (post_I (fun sq => ?_))
    have srh77 : SR h0 h77 := srg75.trans sq
    clear sq q76
    obtain ⟨b79, hf2⟩ := gd_el hf
    replace hf := hf2
    clear hf2
    refine V.ireturn dX12_yearStep_285 rfl (narB b79) ⟨rfl, rfl⟩ ly.1 ?_
    exact ret_I hf srh77
set_option maxRecDepth 100000 in
theorem th_X12_yearStep_147 {h0 : HP} (ly : Lay h0) {rr : Int32} {hh : HP}  : ∀ (n : Nat) (l1 : Int32) (l2 : Int32) (l3 : Int32) (l4 : Int32) (l5 : Int32) (h : HP), SR h0 h → f_X12_yearStep_147 n l1 l2 l3 l4 l5 h = some (rr, hh) → V cX12_yearStep miX12_yearStep (ZI h0 miX12_yearStep rr hh) 130 147 [.ref 113, .int l1, .int l2, .int l3, .int l4, .int l5] [] h := by
  intro n
  induction n with
  | zero => intro l1 l2 l3 l4 l5 h srh hf; exact absurd hf (by unfold f_X12_yearStep_147; simp)
  | succ n ih =>
    intro l1 l2 l3 l4 l5 h srh hf
    unfold f_X12_yearStep_147 at hf
    refine V.iload dX12_yearStep_147 rfl ?_
    refine V.bipush (v := 6) dX12_yearStep_149 rfl ?_
    refine V.icmp_ge (tgt := 170) dX12_yearStep_151 (by decide) (fun c49 => ?_) (fun c49 => ?_)
    · replace hf := ite_p hf c49
      refine V.aload_n dX12_yearStep_170 rfl rfl rfl ?_
      refine V.getR (r := 114) dX12_yearStep_171 fl_X12_7 rfl (Or.inl ⟨rfl, SHL_lt rfl⟩) rfl (ly_113_0 (srh.ly ly)) ?_
      refine V.sipush (v := 1651) dX12_yearStep_174 rfl ?_
      refine V.dup2 dX12_yearStep_177 rfl rfl ?_
      refine V.iaload dX12_yearStep_178 rfl (Or.inl ⟨rfl, SHL_lt rfl⟩) (vp_lit (by decide)) ?_
      rw [show Int32.toNatClampNeg 1651 = 1651 from rfl]
      refine V.iconst (v := 1) dX12_yearStep_179 rfl ?_
      refine V.iadd dX12_yearStep_180 ?_
      refine V.iastore dX12_yearStep_181 rfl (Or.inl ⟨rfl, SHL_lt rfl⟩) (vp_lit (by decide)) ?_
      rw [show Int32.toNatClampNeg 1651 = 1651 from rfl]
      refine V.nameH (fun g50 eg50 => ?_)
      replace hf := lt_el hf g50 eg50
      have srg50 : SR h0 g50 := by rw [eg50]; exact srh.I _ _ _
      refine V.aload_n dX12_yearStep_182 rfl rfl rfl ?_
      obtain ⟨h52, q51, hf2⟩ := bd_el hf
      replace hf := hf2
      clear hf2
      refine V.callVV dX12_yearStep_183 ml_X12_157 mo_X12_onward mv_X12_onward rfl (fun q hq => by cases hq; rfl) (by decide) (Or.inl ⟨rfl, SHL_lt rfl⟩) (th_X12_onward (srg50.ly ly) q51) rfl rfl ⟨Nat.le_of_ble_eq_true rfl, Nat.le_of_ble_eq_true rfl, fun _ => ⟨rfl, rfl⟩⟩ (Nat.le_of_ble_eq_true rfl) (Or.inl rfl) (post_V (fun sq => ?_))
      have srh52 : SR h0 h52 := srg50.trans sq
      clear sq q51
      refine V.aload_n dX12_yearStep_186 rfl rfl rfl ?_
      refine V.iload_n dX12_yearStep_187 rfl rfl ?_
      refine V.iload_n dX12_yearStep_188 rfl rfl ?_
      obtain ⟨r55, h54, q53, hf2⟩ := bd2_el hf
      replace hf := hf2
      clear hf2
      refine V.callVI dX12_yearStep_189 ml_X12_247 mo_X12_yearOrder mv_X12_yearOrder rfl (fun q hq => by cases hq; rfl) (by decide) (Or.inl ⟨rfl, SHL_lt rfl⟩) (th_X12_yearOrder (srh52.ly ly) q53) rfl rfl ⟨Nat.le_of_ble_eq_true rfl, Nat.le_of_ble_eq_true rfl, fun _ => ⟨rfl, rfl⟩⟩ (Nat.le_of_ble_eq_true rfl) rfl (post_I (fun sq => ?_))
      have srh54 : SR h0 h54 := srh52.trans sq
      clear sq q53
      refine V.if_ne (tgt := 197) dX12_yearStep_192 (by decide) (fun c56 => ?_) (fun c56 => ?_)
      · replace hf := ite_n hf c56
        refine V.iload dX12_yearStep_197 rfl ?_
        refine V.if_eq (tgt := 222) dX12_yearStep_199 (by decide) (fun c57 => ?_) (fun c57 => ?_)
        · replace hf := ite_p hf c57
          refine V.less (ls' := [.ref 113, .int l1, .int l2, .int l3, .null, .null]) ⟨Or.inr rfl, Or.inr rfl, Or.inr rfl, Or.inr rfl, Or.inl rfl, Or.inl rfl, trivial⟩ ?_
          exact th_X12_yearStep_222 ly l1 l2 l3 h54 srh54 hf
        · replace hf := ite_n hf c57
          refine V.aload_n dX12_yearStep_202 rfl rfl rfl ?_
          refine V.getR (r := 121) dX12_yearStep_203 fl_X12_44 rfl (Or.inl ⟨rfl, SHL_lt rfl⟩) rfl (ly_113_20 (srh54.ly ly)) ?_
          refine V.aload_n dX12_yearStep_206 rfl rfl rfl ?_
          refine V.getI dX12_yearStep_207 fl_X12_241 rfl (Or.inl ⟨rfl, SHL_lt rfl⟩) rfl rfl ?_
          refine V.iload_n dX12_yearStep_210 rfl rfl ?_
          obtain ⟨b58, hf2⟩ := gdi_el hf
          replace hf := hf2
          clear hf2
          refine V.iastore dX12_yearStep_211 rfl (Or.inl ⟨rfl, SHL_lt rfl⟩) b58 ?_
          refine V.nameH (fun g59 eg59 => ?_)
          replace hf := lt_el hf g59 eg59
          have srg59 : SR h0 g59 := by rw [eg59]; exact srh54.I _ _ _
          refine V.aload_n dX12_yearStep_212 rfl rfl rfl ?_
          refine V.dup dX12_yearStep_213 rfl ?_
          refine V.getI dX12_yearStep_214 fl_X12_241 rfl (Or.inl ⟨rfl, SHL_lt rfl⟩) rfl rfl ?_
          refine V.iconst (v := 1) dX12_yearStep_217 rfl ?_
          refine V.iadd dX12_yearStep_218 ?_
          refine V.putI dX12_yearStep_219 fl_X12_241 rfl (Or.inl ⟨rfl, SHL_lt rfl⟩) rfl (fun q hq => by cases hq; rfl) ⟨rfl, rfl⟩ ?_
          refine V.nameH (fun g60 eg60 => ?_)
          replace hf := lt_el hf g60 eg60
          have srg60 : SR h0 g60 := by rw [eg60]; exact srg59.I _ _ _
          refine V.less (ls' := [.ref 113, .int l1, .int l2, .int l3, .null, .null]) ⟨Or.inr rfl, Or.inr rfl, Or.inr rfl, Or.inr rfl, Or.inl rfl, Or.inl rfl, trivial⟩ ?_
          exact th_X12_yearStep_222 ly l1 l2 l3 g60 srg60 hf
      · replace hf := ite_p hf c56
        refine V.iconst (v := 0) dX12_yearStep_195 rfl ?_
        refine V.ireturn dX12_yearStep_196 rfl rfl ⟨rfl, rfl⟩ ly.1 ?_
        exact ret_I hf srh54
    · replace hf := ite_n hf c49
      refine V.aload_n dX12_yearStep_154 rfl rfl rfl ?_
      refine V.getR (r := 114) dX12_yearStep_155 fl_X12_7 rfl (Or.inl ⟨rfl, SHL_lt rfl⟩) rfl (ly_113_0 (srh.ly ly)) ?_
      refine V.iload_n dX12_yearStep_158 rfl rfl ?_
      refine V.iload dX12_yearStep_159 rfl ?_
      refine V.iadd dX12_yearStep_161 ?_
      refine V.iconst (v := 0) dX12_yearStep_162 rfl ?_
      obtain ⟨b61, hf2⟩ := gdi_el hf
      replace hf := hf2
      clear hf2
      refine V.iastore dX12_yearStep_163 rfl (Or.inl ⟨rfl, SHL_lt rfl⟩) b61 ?_
      refine V.nameH (fun g62 eg62 => ?_)
      replace hf := lt_el hf g62 eg62
      have srg62 : SR h0 g62 := by rw [eg62]; exact srh.I _ _ _
      obtain ⟨x63, ex63⟩ : ∃ y : Int32, y = l5 + 1 := ⟨_, rfl⟩
      replace hf := lt_el hf x63 ex63
      refine V.iinc (v := x63) (ls' := [.ref 113, .int l1, .int l2, .int l3, .int l4, .int x63]) dX12_yearStep_164 rfl (by decide) ex63.symm rfl ?_
      refine V.goto (tgt := 147) dX12_yearStep_167 (by decide) ?_
      exact ih l1 l2 l3 l4 x63 g62 srg62 hf
set_option maxRecDepth 100000 in
theorem th_X12_yearStep_117 {h0 : HP} (ly : Lay h0) {rr : Int32} {hh : HP}  : ∀ (l1 : Int32) (l2 : Int32) (l3 : Int32) (l4 : Int32) (h : HP), SR h0 h → f_X12_yearStep_117 l1 l2 l3 l4 h = some (rr, hh) → V cX12_yearStep miX12_yearStep (ZI h0 miX12_yearStep rr hh) 130 117 [.ref 113, .int l1, .int l2, .int l3, .int l4, .null] [] h := by
  intro l1 l2 l3 l4 h srh hf
  unfold f_X12_yearStep_117 at hf
  refine V.aload_n dX12_yearStep_117 rfl rfl rfl ?_
  refine V.dup dX12_yearStep_118 rfl ?_
  refine V.getI dX12_yearStep_119 fl_X12_244 rfl (Or.inl ⟨rfl, SHL_lt rfl⟩) rfl rfl ?_
  refine V.iload_n dX12_yearStep_122 rfl rfl ?_
  refine V.bipush (v := 17) dX12_yearStep_123 rfl ?_
  refine V.icmp_ne (tgt := 132) dX12_yearStep_125 (by decide) (fun c42 => ?_) (fun c42 => ?_)
  · replace hf := ite_n hf c42
    refine V.iconst (v := 1) dX12_yearStep_132 rfl ?_
    refine V.iadd dX12_yearStep_133 ?_
    refine V.putI dX12_yearStep_134 fl_X12_244 rfl (Or.inl ⟨rfl, SHL_lt rfl⟩) rfl (fun q hq => by cases hq; rfl) ⟨rfl, rfl⟩ ?_
    refine V.nameH (fun g43 eg43 => ?_)
    replace hf := lt_el hf g43 eg43
    have srg43 : SR h0 g43 := by rw [eg43]; exact srh.I _ _ _
    refine V.aload_n dX12_yearStep_137 rfl rfl rfl ?_
    refine V.getR (r := 114) dX12_yearStep_138 fl_X12_7 rfl (Or.inl ⟨rfl, SHL_lt rfl⟩) rfl (ly_113_0 (srg43.ly ly)) ?_
    refine V.iload_n dX12_yearStep_141 rfl rfl ?_
    refine V.iload_n dX12_yearStep_142 rfl rfl ?_
    obtain ⟨b44, hf2⟩ := gdi_el hf
    replace hf := hf2
    clear hf2
    refine V.iastore dX12_yearStep_143 rfl (Or.inl ⟨rfl, SHL_lt rfl⟩) b44 ?_
    refine V.nameH (fun g45 eg45 => ?_)
    replace hf := lt_el hf g45 eg45
    have srg45 : SR h0 g45 := by rw [eg45]; exact srg43.I _ _ _
    refine V.iconst (v := 1) dX12_yearStep_144 rfl ?_
    refine V.istore (ls' := [.ref 113, .int l1, .int l2, .int l3, .int l4, .int 1]) dX12_yearStep_145 (by decide) rfl ?_
    exact th_X12_yearStep_147 ly FU l1 l2 l3 l4 1 g45 srg45 hf
  · replace hf := ite_p hf c42
    refine V.iconst (v := 0) dX12_yearStep_128 rfl ?_
    refine V.goto (tgt := 133) dX12_yearStep_129 (by decide) ?_
    refine V.iadd dX12_yearStep_133 ?_
    refine V.putI dX12_yearStep_134 fl_X12_244 rfl (Or.inl ⟨rfl, SHL_lt rfl⟩) rfl (fun q hq => by cases hq; rfl) ⟨rfl, rfl⟩ ?_
    refine V.nameH (fun g46 eg46 => ?_)
    replace hf := lt_el hf g46 eg46
    have srg46 : SR h0 g46 := by rw [eg46]; exact srh.I _ _ _
    refine V.aload_n dX12_yearStep_137 rfl rfl rfl ?_
    refine V.getR (r := 114) dX12_yearStep_138 fl_X12_7 rfl (Or.inl ⟨rfl, SHL_lt rfl⟩) rfl (ly_113_0 (srg46.ly ly)) ?_
    refine V.iload_n dX12_yearStep_141 rfl rfl ?_
    refine V.iload_n dX12_yearStep_142 rfl rfl ?_
    obtain ⟨b47, hf2⟩ := gdi_el hf
    replace hf := hf2
    clear hf2
    refine V.iastore dX12_yearStep_143 rfl (Or.inl ⟨rfl, SHL_lt rfl⟩) b47 ?_
    refine V.nameH (fun g48 eg48 => ?_)
    replace hf := lt_el hf g48 eg48
    have srg48 : SR h0 g48 := by rw [eg48]; exact srg46.I _ _ _
    refine V.iconst (v := 1) dX12_yearStep_144 rfl ?_
    refine V.istore (ls' := [.ref 113, .int l1, .int l2, .int l3, .int l4, .int 1]) dX12_yearStep_145 (by decide) rfl ?_
    exact th_X12_yearStep_147 ly FU l1 l2 l3 l4 1 g48 srg48 hf
set_option maxRecDepth 100000 in
theorem th_X12_yearStep_75 {h0 : HP} (ly : Lay h0) {rr : Int32} {hh : HP}  : ∀ (l1 : Int32) (l2 : Int32) (l3 : Int32) (l4 : Int32) (h : HP), SR h0 h → f_X12_yearStep_75 l1 l2 l3 l4 h = some (rr, hh) → V cX12_yearStep miX12_yearStep (ZI h0 miX12_yearStep rr hh) 130 75 [.ref 113, .int l1, .int l2, .int l3, .int l4, .null] [] h := by
  intro l1 l2 l3 l4 h srh hf
  unfold f_X12_yearStep_75 at hf
  refine V.iload_n dX12_yearStep_75 rfl rfl ?_
  refine V.bipush (v := 17) dX12_yearStep_76 rfl ?_
  refine V.icmp_eq (tgt := 97) dX12_yearStep_78 (by decide) (fun c24 => ?_) (fun c24 => ?_)
  · replace hf := ite_p hf c24
    refine V.iload dX12_yearStep_97 rfl ?_
    refine V.if_eq (tgt := 117) dX12_yearStep_99 (by decide) (fun c25 => ?_) (fun c25 => ?_)
    · replace hf := ite_p hf c25
      exact th_X12_yearStep_117 ly l1 l2 l3 l4 h srh hf
    · replace hf := ite_n hf c25
      refine V.aload_n dX12_yearStep_102 rfl rfl rfl ?_
      refine V.getI dX12_yearStep_103 fl_X12_241 rfl (Or.inl ⟨rfl, SHL_lt rfl⟩) rfl rfl ?_
      refine V.iconst (v := 3) dX12_yearStep_106 rfl ?_
      refine V.icmp_ne (tgt := 117) dX12_yearStep_107 (by decide) (fun c26 => ?_) (fun c26 => ?_)
      · replace hf := ite_n hf c26
        exact th_X12_yearStep_117 ly l1 l2 l3 l4 h srh hf
      · replace hf := ite_p hf c26
        refine V.aload_n dX12_yearStep_110 rfl rfl rfl ?_
        refine V.bipush (v := 7) dX12_yearStep_111 rfl ?_
        obtain ⟨r29, h28, q27, hf2⟩ := bd2_el hf
        replace hf := hf2
        clear hf2
        refine V.callVI dX12_yearStep_113 ml_X12_163 mo_X12_fails mv_X12_fails rfl (fun q hq => by cases hq; rfl) (by decide) (Or.inl ⟨rfl, SHL_lt rfl⟩) (th_X12_fails (srh.ly ly) q27) rfl rfl ⟨Nat.le_of_ble_eq_true rfl, Nat.le_of_ble_eq_true rfl, fun _ => ⟨rfl, rfl⟩⟩ (Nat.le_of_ble_eq_true rfl) rfl (post_I (fun sq => ?_))
        have srh28 : SR h0 h28 := srh.trans sq
        clear sq q27
        obtain ⟨b30, hf2⟩ := gd_el hf
        replace hf := hf2
        clear hf2
        refine V.ireturn dX12_yearStep_116 rfl (narB b30) ⟨rfl, rfl⟩ ly.1 ?_
        exact ret_I hf srh28
  · replace hf := ite_n hf c24
    refine V.aload_n dX12_yearStep_81 rfl rfl rfl ?_
    refine V.getI dX12_yearStep_82 fl_X12_244 rfl (Or.inl ⟨rfl, SHL_lt rfl⟩) rfl rfl ?_
    refine V.bipush (v := 30) dX12_yearStep_85 rfl ?_
    refine V.icmp_ne (tgt := 97) dX12_yearStep_87 (by decide) (fun c31 => ?_) (fun c31 => ?_)
    · replace hf := ite_n hf c31
      refine V.iload dX12_yearStep_97 rfl ?_
      refine V.if_eq (tgt := 117) dX12_yearStep_99 (by decide) (fun c32 => ?_) (fun c32 => ?_)
      · replace hf := ite_p hf c32
        exact th_X12_yearStep_117 ly l1 l2 l3 l4 h srh hf
      · replace hf := ite_n hf c32
        refine V.aload_n dX12_yearStep_102 rfl rfl rfl ?_
        refine V.getI dX12_yearStep_103 fl_X12_241 rfl (Or.inl ⟨rfl, SHL_lt rfl⟩) rfl rfl ?_
        refine V.iconst (v := 3) dX12_yearStep_106 rfl ?_
        refine V.icmp_ne (tgt := 117) dX12_yearStep_107 (by decide) (fun c33 => ?_) (fun c33 => ?_)
        · replace hf := ite_n hf c33
          exact th_X12_yearStep_117 ly l1 l2 l3 l4 h srh hf
        · replace hf := ite_p hf c33
          refine V.aload_n dX12_yearStep_110 rfl rfl rfl ?_
          refine V.bipush (v := 7) dX12_yearStep_111 rfl ?_
          obtain ⟨r36, h35, q34, hf2⟩ := bd2_el hf
          replace hf := hf2
          clear hf2
          refine V.callVI dX12_yearStep_113 ml_X12_163 mo_X12_fails mv_X12_fails rfl (fun q hq => by cases hq; rfl) (by decide) (Or.inl ⟨rfl, SHL_lt rfl⟩) (th_X12_fails (srh.ly ly) q34) rfl rfl ⟨Nat.le_of_ble_eq_true rfl, Nat.le_of_ble_eq_true rfl, fun _ => ⟨rfl, rfl⟩⟩ (Nat.le_of_ble_eq_true rfl) rfl (post_I (fun sq => ?_))
          have srh35 : SR h0 h35 := srh.trans sq
          clear sq q34
          obtain ⟨b37, hf2⟩ := gd_el hf
          replace hf := hf2
          clear hf2
          refine V.ireturn dX12_yearStep_116 rfl (narB b37) ⟨rfl, rfl⟩ ly.1 ?_
          exact ret_I hf srh35
    · replace hf := ite_p hf c31
      refine V.aload_n dX12_yearStep_90 rfl rfl rfl ?_
      refine V.bipush (v := 6) dX12_yearStep_91 rfl ?_
      obtain ⟨r40, h39, q38, hf2⟩ := bd2_el hf
      replace hf := hf2
      clear hf2
      refine V.callVI dX12_yearStep_93 ml_X12_163 mo_X12_fails mv_X12_fails rfl (fun q hq => by cases hq; rfl) (by decide) (Or.inl ⟨rfl, SHL_lt rfl⟩) (th_X12_fails (srh.ly ly) q38) rfl rfl ⟨Nat.le_of_ble_eq_true rfl, Nat.le_of_ble_eq_true rfl, fun _ => ⟨rfl, rfl⟩⟩ (Nat.le_of_ble_eq_true rfl) rfl (post_I (fun sq => ?_))
      have srh39 : SR h0 h39 := srh.trans sq
      clear sq q38
      obtain ⟨b41, hf2⟩ := gd_el hf
      replace hf := hf2
      clear hf2
      refine V.ireturn dX12_yearStep_96 rfl (narB b41) ⟨rfl, rfl⟩ ly.1 ?_
      exact ret_I hf srh39
set_option maxRecDepth 100000 in
theorem th_X12_yearStep_42 {h0 : HP} (ly : Lay h0) {rr : Int32} {hh : HP}  : ∀ (l1 : Int32) (l2 : Int32) (l3 : Int32) (s0 : Int32) (h : HP), SR h0 h → f_X12_yearStep_42 l1 l2 l3 s0 h = some (rr, hh) → V cX12_yearStep miX12_yearStep (ZI h0 miX12_yearStep rr hh) 130 42 [.ref 113, .int l1, .int l2, .int l3, .null, .null] [.int s0] h := by
  intro l1 l2 l3 s0 h srh hf
  unfold f_X12_yearStep_42 at hf
  refine V.istore (ls' := [.ref 113, .int l1, .int l2, .int l3, .int s0, .null]) dX12_yearStep_42 (by decide) rfl ?_
  refine V.iload_n dX12_yearStep_44 rfl rfl ?_
  refine V.bipush (v := 9) dX12_yearStep_45 rfl ?_
  refine V.icmp_lt (tgt := 69) dX12_yearStep_47 (by decide) (fun c8 => ?_) (fun c8 => ?_)
  · replace hf := ite_p hf c8
    refine V.aload_n dX12_yearStep_69 rfl rfl rfl ?_
    refine V.iconst (v := 2) dX12_yearStep_70 rfl ?_
    obtain ⟨r11, h10, q9, hf2⟩ := bd2_el hf
    replace hf := hf2
    clear hf2
    refine V.callVI dX12_yearStep_71 ml_X12_163 mo_X12_fails mv_X12_fails rfl (fun q hq => by cases hq; rfl) (by decide) (Or.inl ⟨rfl, SHL_lt rfl⟩) (th_X12_fails (srh.ly ly) q9) rfl rfl ⟨Nat.le_of_ble_eq_true rfl, Nat.le_of_ble_eq_true rfl, fun _ => ⟨rfl, rfl⟩⟩ (Nat.le_of_ble_eq_true rfl) rfl (post_I (fun sq => ?_))
    have srh10 : SR h0 h10 := srh.trans sq
    clear sq q9
    obtain ⟨b12, hf2⟩ := gd_el hf
    replace hf := hf2
    clear hf2
    refine V.ireturn dX12_yearStep_74 rfl (narB b12) ⟨rfl, rfl⟩ ly.1 ?_
    exact ret_I hf srh10
  · replace hf := ite_n hf c8
    refine V.iload_n dX12_yearStep_50 rfl rfl ?_
    refine V.bipush (v := 18) dX12_yearStep_51 rfl ?_
    refine V.icmp_gt (tgt := 69) dX12_yearStep_53 (by decide) (fun c13 => ?_) (fun c13 => ?_)
    · replace hf := ite_p hf c13
      refine V.aload_n dX12_yearStep_69 rfl rfl rfl ?_
      refine V.iconst (v := 2) dX12_yearStep_70 rfl ?_
      obtain ⟨r16, h15, q14, hf2⟩ := bd2_el hf
      replace hf := hf2
      clear hf2
      refine V.callVI dX12_yearStep_71 ml_X12_163 mo_X12_fails mv_X12_fails rfl (fun q hq => by cases hq; rfl) (by decide) (Or.inl ⟨rfl, SHL_lt rfl⟩) (th_X12_fails (srh.ly ly) q14) rfl rfl ⟨Nat.le_of_ble_eq_true rfl, Nat.le_of_ble_eq_true rfl, fun _ => ⟨rfl, rfl⟩⟩ (Nat.le_of_ble_eq_true rfl) rfl (post_I (fun sq => ?_))
      have srh15 : SR h0 h15 := srh.trans sq
      clear sq q14
      obtain ⟨b17, hf2⟩ := gd_el hf
      replace hf := hf2
      clear hf2
      refine V.ireturn dX12_yearStep_74 rfl (narB b17) ⟨rfl, rfl⟩ ly.1 ?_
      exact ret_I hf srh15
    · replace hf := ite_n hf c13
      refine V.iload_n dX12_yearStep_56 rfl rfl ?_
      refine V.bipush (v := 17) dX12_yearStep_57 rfl ?_
      refine V.icmp_ne (tgt := 75) dX12_yearStep_59 (by decide) (fun c18 => ?_) (fun c18 => ?_)
      · replace hf := ite_n hf c18
        exact th_X12_yearStep_75 ly l1 l2 l3 s0 h srh hf
      · replace hf := ite_p hf c18
        refine V.aload_n dX12_yearStep_62 rfl rfl rfl ?_
        refine V.getI dX12_yearStep_63 fl_X12_241 rfl (Or.inl ⟨rfl, SHL_lt rfl⟩) rfl rfl ?_
        refine V.if_ne (tgt := 75) dX12_yearStep_66 (by decide) (fun c19 => ?_) (fun c19 => ?_)
        · replace hf := ite_n hf c19
          exact th_X12_yearStep_75 ly l1 l2 l3 s0 h srh hf
        · replace hf := ite_p hf c19
          refine V.aload_n dX12_yearStep_69 rfl rfl rfl ?_
          refine V.iconst (v := 2) dX12_yearStep_70 rfl ?_
          obtain ⟨r22, h21, q20, hf2⟩ := bd2_el hf
          replace hf := hf2
          clear hf2
          refine V.callVI dX12_yearStep_71 ml_X12_163 mo_X12_fails mv_X12_fails rfl (fun q hq => by cases hq; rfl) (by decide) (Or.inl ⟨rfl, SHL_lt rfl⟩) (th_X12_fails (srh.ly ly) q20) rfl rfl ⟨Nat.le_of_ble_eq_true rfl, Nat.le_of_ble_eq_true rfl, fun _ => ⟨rfl, rfl⟩⟩ (Nat.le_of_ble_eq_true rfl) rfl (post_I (fun sq => ?_))
          have srh21 : SR h0 h21 := srh.trans sq
          clear sq q20
          obtain ⟨b23, hf2⟩ := gd_el hf
          replace hf := hf2
          clear hf2
          refine V.ireturn dX12_yearStep_74 rfl (narB b23) ⟨rfl, rfl⟩ ly.1 ?_
          exact ret_I hf srh21
set_option maxRecDepth 100000 in
theorem th_X12_yearStep {h : HP} (ly : Lay h)  {rr : Int32} {hh : HP} (hf : f_X12_yearStep h = some (rr, hh)) : Spec yX12_yearStep cX12_yearStep miX12_yearStep [.ref 113] h (pI fun r' h' => (r' = rr ∧ h' = hh) ∧ SR h hh) := by
  refine Spec.of (ls0 := [.ref 113, .null, .null, .null, .null, .null]) mo_X12_yearStep (Nat.le_of_ble_eq_true rfl) rfl ?_
  rw [ly.1]
  have srh : SR h h := SR.refl h
  unfold f_X12_yearStep at hf
  refine V.aload_n dX12_yearStep_0 rfl rfl rfl ?_
  refine V.ldcS (i := 1) (by decide) dX12_yearStep_1 rfl rfl ?_
  obtain ⟨r3, h2, q1, hf2⟩ := bd2_el hf
  replace hf := hf2
  clear hf2
  refine V.callVI dX12_yearStep_3 ml_X12_166 mo_X12_inWords mv_X12_inWords rfl (fun q hq => by cases hq; rfl) (by decide) (Or.inl ⟨rfl, SHL_lt rfl⟩) (th_X12_inWords (srh.ly ly) q1) rfl rfl ⟨Nat.le_of_ble_eq_true rfl, Nat.le_of_ble_eq_true rfl, fun _ => ⟨rfl, rfl⟩⟩ (Nat.le_of_ble_eq_true rfl) rfl (post_I (fun sq => ?_))
  have srh2 : SR h h2 := srh.trans sq
  clear sq q1
  refine V.istore_n (ls' := [.ref 113, .int r3, .null, .null, .null, .null]) dX12_yearStep_6 rfl (by decide) rfl ?_
  refine V.aload_n dX12_yearStep_7 rfl rfl rfl ?_
  refine V.getR (r := 114) dX12_yearStep_8 fl_X12_7 rfl (Or.inl ⟨rfl, SHL_lt rfl⟩) rfl (ly_113_0 (srh2.ly ly)) ?_
  refine V.sipush (v := 1651) dX12_yearStep_11 rfl ?_
  refine V.iaload dX12_yearStep_14 rfl (Or.inl ⟨rfl, SHL_lt rfl⟩) (vp_lit (by decide)) ?_
  rw [show Int32.toNatClampNeg 1651 = 1651 from rfl]
  refine V.nmi (fun x4 ex4 => ?_)
  replace hf := lt_el hf x4 ex4
  refine V.istore_n (ls' := [.ref 113, .int r3, .int x4, .null, .null, .null]) dX12_yearStep_15 rfl (by decide) rfl ?_
  refine V.sipush (v := 1684) dX12_yearStep_16 rfl ?_
  refine V.bipush (v := 6) dX12_yearStep_19 rfl ?_
  refine V.iload_n dX12_yearStep_21 rfl rfl ?_
  refine V.imul dX12_yearStep_22 ?_
  refine V.iadd dX12_yearStep_23 ?_
  refine V.nmi (fun x5 ex5 => ?_)
  replace hf := lt_el hf x5 ex5
  refine V.istore_n (ls' := [.ref 113, .int r3, .int x4, .int x5, .null, .null]) dX12_yearStep_24 rfl (by decide) rfl ?_
  refine V.iload_n dX12_yearStep_25 rfl rfl ?_
  refine V.bipush (v := 15) dX12_yearStep_26 rfl ?_
  refine V.icmp_eq (tgt := 37) dX12_yearStep_28 (by decide) (fun c6 => ?_) (fun c6 => ?_)
  · replace hf := ite_p hf c6
    refine V.iconst (v := 1) dX12_yearStep_37 rfl ?_
    refine V.goto (tgt := 42) dX12_yearStep_38 (by decide) ?_
    exact th_X12_yearStep_42 ly r3 x4 x5 1 h2 srh2 hf
  · replace hf := ite_n hf c6
    refine V.iload_n dX12_yearStep_31 rfl rfl ?_
    refine V.bipush (v := 16) dX12_yearStep_32 rfl ?_
    refine V.icmp_ne (tgt := 41) dX12_yearStep_34 (by decide) (fun c7 => ?_) (fun c7 => ?_)
    · replace hf := ite_n hf c7
      refine V.iconst (v := 0) dX12_yearStep_41 rfl ?_
      exact th_X12_yearStep_42 ly r3 x4 x5 0 h2 srh2 hf
    · replace hf := ite_p hf c7
      refine V.iconst (v := 1) dX12_yearStep_37 rfl ?_
      refine V.goto (tgt := 42) dX12_yearStep_38 (by decide) ?_
      exact th_X12_yearStep_42 ly r3 x4 x5 1 h2 srh2 hf
set_option maxRecDepth 100000 in
theorem th_X12_year_102 {h0 : HP} (ly : Lay h0) {rr : Int32} {hh : HP}  : ∀ (n : Nat) (l3 : Int32) (h : HP), SR h0 h → f_X12_year_102 n l3 h = some (rr, hh) → V cX12_year miX12_year (ZI h0 miX12_year rr hh) 130 102 [.ref 113, .null, .null, .int l3] [] h := by
  intro n
  induction n with
  | zero => intro l3 h srh hf; exact absurd hf (by unfold f_X12_year_102; simp)
  | succ n ih =>
    intro l3 h srh hf
    unfold f_X12_year_102 at hf
    refine V.iload_n dX12_year_102 rfl rfl ?_
    refine V.sipush (v := 405) dX12_year_103 rfl ?_
    refine V.icmp_ge (tgt := 131) dX12_year_106 (by decide) (fun c31 => ?_) (fun c31 => ?_)
    · replace hf := ite_p hf c31
      refine V.aload_n dX12_year_131 rfl rfl rfl ?_
      refine V.aload_n dX12_year_132 rfl rfl rfl ?_
      refine V.getI dX12_year_133 fl_X12_244 rfl (Or.inl ⟨rfl, SHL_lt rfl⟩) rfl rfl ?_
      obtain ⟨r34, h33, q32, hf2⟩ := bd2_el hf
      replace hf := hf2
      clear hf2
      refine V.callVI dX12_year_136 ml_X12_229 mo_X12_taken mv_X12_taken rfl (fun q hq => by cases hq; rfl) (by decide) (Or.inl ⟨rfl, SHL_lt rfl⟩) (th_X12_taken (srh.ly ly) q32) rfl rfl ⟨Nat.le_of_ble_eq_true rfl, Nat.le_of_ble_eq_true rfl, fun _ => ⟨rfl, rfl⟩⟩ (Nat.le_of_ble_eq_true rfl) rfl (post_I (fun sq => ?_))
      have srh33 : SR h0 h33 := srh.trans sq
      clear sq q32
      refine V.ireturn dX12_year_139 rfl rfl ⟨rfl, rfl⟩ ly.1 ?_
      exact ret_I hf srh33
    · replace hf := ite_n hf c31
      refine V.aload_n dX12_year_109 rfl rfl rfl ?_
      refine V.getR (r := 114) dX12_year_110 fl_X12_7 rfl (Or.inl ⟨rfl, SHL_lt rfl⟩) rfl (ly_113_0 (srh.ly ly)) ?_
      refine V.iload_n dX12_year_113 rfl rfl ?_
      refine V.aload_n dX12_year_114 rfl rfl rfl ?_
      refine V.getR (r := 114) dX12_year_115 fl_X12_7 rfl (Or.inl ⟨rfl, SHL_lt rfl⟩) rfl (ly_113_0 (srh.ly ly)) ?_
      refine V.sipush (v := 1640) dX12_year_118 rfl ?_
      refine V.iload_n dX12_year_121 rfl rfl ?_
      refine V.iadd dX12_year_122 ?_
      obtain ⟨b35, hf2⟩ := gdi_el hf
      replace hf := hf2
      clear hf2
      refine V.iaload dX12_year_123 rfl (Or.inl ⟨rfl, SHL_lt rfl⟩) b35 ?_
      obtain ⟨b36, hf2⟩ := gdi_el hf
      replace hf := hf2
      clear hf2
      refine V.iastore dX12_year_124 rfl (Or.inl ⟨rfl, SHL_lt rfl⟩) b36 ?_
      refine V.nameH (fun g37 eg37 => ?_)
      replace hf := lt_el hf g37 eg37
      have srg37 : SR h0 g37 := by rw [eg37]; exact srh.I _ _ _
      obtain ⟨x38, ex38⟩ : ∃ y : Int32, y = l3 + 1 := ⟨_, rfl⟩
      replace hf := lt_el hf x38 ex38
      refine V.iinc (v := x38) (ls' := [.ref 113, .null, .null, .int x38]) dX12_year_125 rfl (by decide) ex38.symm rfl ?_
      refine V.goto (tgt := 102) dX12_year_128 (by decide) ?_
      exact ih x38 g37 srg37 hf
set_option maxRecDepth 100000 in
theorem th_X12_year_77 {h0 : HP} (ly : Lay h0) {rr : Int32} {hh : HP}  : ∀  (h : HP), SR h0 h → f_X12_year_77 h = some (rr, hh) → V cX12_year miX12_year (ZI h0 miX12_year rr hh) 130 77 [.ref 113, .null, .null, .null] [] h := by
  intro  h srh hf
  unfold f_X12_year_77 at hf
  refine V.aload_n dX12_year_77 rfl rfl rfl ?_
  refine V.getI dX12_year_78 fl_X12_151 rfl (Or.inl ⟨rfl, SHL_lt rfl⟩) rfl rfl ?_
  refine V.if_ne (tgt := 131) dX12_year_81 (by decide) (fun c26 => ?_) (fun c26 => ?_)
  · replace hf := ite_n hf c26
    refine V.aload_n dX12_year_131 rfl rfl rfl ?_
    refine V.aload_n dX12_year_132 rfl rfl rfl ?_
    refine V.getI dX12_year_133 fl_X12_244 rfl (Or.inl ⟨rfl, SHL_lt rfl⟩) rfl rfl ?_
    obtain ⟨r29, h28, q27, hf2⟩ := bd2_el hf
    replace hf := hf2
    clear hf2
    refine V.callVI dX12_year_136 ml_X12_229 mo_X12_taken mv_X12_taken rfl (fun q hq => by cases hq; rfl) (by decide) (Or.inl ⟨rfl, SHL_lt rfl⟩) (th_X12_taken (srh.ly ly) q27) rfl rfl ⟨Nat.le_of_ble_eq_true rfl, Nat.le_of_ble_eq_true rfl, fun _ => ⟨rfl, rfl⟩⟩ (Nat.le_of_ble_eq_true rfl) rfl (post_I (fun sq => ?_))
    have srh28 : SR h0 h28 := srh.trans sq
    clear sq q27
    refine V.ireturn dX12_year_139 rfl rfl ⟨rfl, rfl⟩ ly.1 ?_
    exact ret_I hf srh28
  · replace hf := ite_p hf c26
    refine V.aload_n dX12_year_84 rfl rfl rfl ?_
    refine V.getR (r := 114) dX12_year_85 fl_X12_7 rfl (Or.inl ⟨rfl, SHL_lt rfl⟩) rfl (ly_113_0 (srh.ly ly)) ?_
    refine V.bipush (v := 11) dX12_year_88 rfl ?_
    refine V.aload_n dX12_year_90 rfl rfl rfl ?_
    refine V.getR (r := 114) dX12_year_91 fl_X12_7 rfl (Or.inl ⟨rfl, SHL_lt rfl⟩) rfl (ly_113_0 (srh.ly ly)) ?_
    refine V.sipush (v := 1651) dX12_year_94 rfl ?_
    refine V.iaload dX12_year_97 rfl (Or.inl ⟨rfl, SHL_lt rfl⟩) (vp_lit (by decide)) ?_
    rw [show Int32.toNatClampNeg 1651 = 1651 from rfl]
    refine V.iastore dX12_year_98 rfl (Or.inl ⟨rfl, SHL_lt rfl⟩) (vp_lit (by decide)) ?_
    rw [show Int32.toNatClampNeg 11 = 11 from rfl]
    refine V.nameH (fun g30 eg30 => ?_)
    replace hf := lt_el hf g30 eg30
    have srg30 : SR h0 g30 := by rw [eg30]; exact srh.I _ _ _
    refine V.bipush (v := 44) dX12_year_99 rfl ?_
    refine V.istore_n (ls' := [.ref 113, .null, .null, .int 44]) dX12_year_101 rfl (by decide) rfl ?_
    exact th_X12_year_102 ly FU 44 g30 srg30 hf
set_option maxRecDepth 100000 in
theorem th_X12_year_38 {h0 : HP} (ly : Lay h0) {rr : Int32} {hh : HP}  : ∀ (n : Nat) (l2 : Int32) (h : HP), SR h0 h → f_X12_year_38 n l2 h = some (rr, hh) → V cX12_year miX12_year (ZI h0 miX12_year rr hh) 130 38 [.ref 113, .null, .int l2, .null] [] h := by
  intro n
  induction n with
  | zero => intro l2 h srh hf; exact absurd hf (by unfold f_X12_year_38; simp)
  | succ n ih =>
    intro l2 h srh hf
    unfold f_X12_year_38 at hf
    refine V.iload_n dX12_year_38 rfl rfl ?_
    refine V.if_eq (tgt := 57) dX12_year_39 (by decide) (fun c11 => ?_) (fun c11 => ?_)
    · replace hf := ite_p hf c11
      refine V.aload_n dX12_year_57 rfl rfl rfl ?_
      refine V.getI dX12_year_58 fl_X12_151 rfl (Or.inl ⟨rfl, SHL_lt rfl⟩) rfl rfl ?_
      refine V.if_ne (tgt := 77) dX12_year_61 (by decide) (fun c12 => ?_) (fun c12 => ?_)
      · replace hf := ite_n hf c12
        refine V.less (ls' := [.ref 113, .null, .null, .null]) ⟨Or.inr rfl, Or.inl rfl, Or.inl rfl, Or.inl rfl, trivial⟩ ?_
        exact th_X12_year_77 ly h srh hf
      · replace hf := ite_p hf c12
        refine V.aload_n dX12_year_64 rfl rfl rfl ?_
        refine V.getI dX12_year_65 fl_X12_241 rfl (Or.inl ⟨rfl, SHL_lt rfl⟩) rfl rfl ?_
        refine V.if_le (tgt := 77) dX12_year_68 (by decide) (fun c13 => ?_) (fun c13 => ?_)
        · replace hf := ite_p hf c13
          refine V.less (ls' := [.ref 113, .null, .null, .null]) ⟨Or.inr rfl, Or.inl rfl, Or.inl rfl, Or.inl rfl, trivial⟩ ?_
          exact th_X12_year_77 ly h srh hf
        · replace hf := ite_n hf c13
          refine V.aload_n dX12_year_71 rfl rfl rfl ?_
          refine V.iconst (v := 2) dX12_year_72 rfl ?_
          obtain ⟨r16, h15, q14, hf2⟩ := bd2_el hf
          replace hf := hf2
          clear hf2
          refine V.callVI dX12_year_73 ml_X12_163 mo_X12_fails mv_X12_fails rfl (fun q hq => by cases hq; rfl) (by decide) (Or.inl ⟨rfl, SHL_lt rfl⟩) (th_X12_fails (srh.ly ly) q14) rfl rfl ⟨Nat.le_of_ble_eq_true rfl, Nat.le_of_ble_eq_true rfl, fun _ => ⟨rfl, rfl⟩⟩ (Nat.le_of_ble_eq_true rfl) rfl (post_I (fun sq => ?_))
          have srh15 : SR h0 h15 := srh.trans sq
          clear sq q14
          refine V.pop dX12_year_76 rfl ?_
          refine V.less (ls' := [.ref 113, .null, .null, .null]) ⟨Or.inr rfl, Or.inl rfl, Or.inl rfl, Or.inl rfl, trivial⟩ ?_
          exact th_X12_year_77 ly h15 srh15 hf
    · replace hf := ite_n hf c11
      refine V.aload_n dX12_year_42 rfl rfl rfl ?_
      refine V.getI dX12_year_43 fl_X12_126 rfl (Or.inl ⟨rfl, SHL_lt rfl⟩) rfl rfl ?_
      refine V.if_eq (tgt := 57) dX12_year_46 (by decide) (fun c17 => ?_) (fun c17 => ?_)
      · replace hf := ite_p hf c17
        refine V.aload_n dX12_year_57 rfl rfl rfl ?_
        refine V.getI dX12_year_58 fl_X12_151 rfl (Or.inl ⟨rfl, SHL_lt rfl⟩) rfl rfl ?_
        refine V.if_ne (tgt := 77) dX12_year_61 (by decide) (fun c18 => ?_) (fun c18 => ?_)
        · replace hf := ite_n hf c18
          refine V.less (ls' := [.ref 113, .null, .null, .null]) ⟨Or.inr rfl, Or.inl rfl, Or.inl rfl, Or.inl rfl, trivial⟩ ?_
          exact th_X12_year_77 ly h srh hf
        · replace hf := ite_p hf c18
          refine V.aload_n dX12_year_64 rfl rfl rfl ?_
          refine V.getI dX12_year_65 fl_X12_241 rfl (Or.inl ⟨rfl, SHL_lt rfl⟩) rfl rfl ?_
          refine V.if_le (tgt := 77) dX12_year_68 (by decide) (fun c19 => ?_) (fun c19 => ?_)
          · replace hf := ite_p hf c19
            refine V.less (ls' := [.ref 113, .null, .null, .null]) ⟨Or.inr rfl, Or.inl rfl, Or.inl rfl, Or.inl rfl, trivial⟩ ?_
            exact th_X12_year_77 ly h srh hf
          · replace hf := ite_n hf c19
            refine V.aload_n dX12_year_71 rfl rfl rfl ?_
            refine V.iconst (v := 2) dX12_year_72 rfl ?_
            obtain ⟨r22, h21, q20, hf2⟩ := bd2_el hf
            replace hf := hf2
            clear hf2
            refine V.callVI dX12_year_73 ml_X12_163 mo_X12_fails mv_X12_fails rfl (fun q hq => by cases hq; rfl) (by decide) (Or.inl ⟨rfl, SHL_lt rfl⟩) (th_X12_fails (srh.ly ly) q20) rfl rfl ⟨Nat.le_of_ble_eq_true rfl, Nat.le_of_ble_eq_true rfl, fun _ => ⟨rfl, rfl⟩⟩ (Nat.le_of_ble_eq_true rfl) rfl (post_I (fun sq => ?_))
            have srh21 : SR h0 h21 := srh.trans sq
            clear sq q20
            refine V.pop dX12_year_76 rfl ?_
            refine V.less (ls' := [.ref 113, .null, .null, .null]) ⟨Or.inr rfl, Or.inl rfl, Or.inl rfl, Or.inl rfl, trivial⟩ ?_
            exact th_X12_year_77 ly h21 srh21 hf
      · replace hf := ite_n hf c17
        refine V.aload_n dX12_year_49 rfl rfl rfl ?_
        obtain ⟨r25, h24, q23, hf2⟩ := bd2_el hf
        replace hf := hf2
        clear hf2
        refine V.callVI dX12_year_50 ml_X12_250 mo_X12_yearStep mv_X12_yearStep rfl (fun q hq => by cases hq; rfl) (by decide) (Or.inl ⟨rfl, SHL_lt rfl⟩) (th_X12_yearStep (srh.ly ly) q23) rfl rfl ⟨Nat.le_of_ble_eq_true rfl, Nat.le_of_ble_eq_true rfl, fun _ => ⟨rfl, rfl⟩⟩ (Nat.le_of_ble_eq_true rfl) rfl (post_I (fun sq => ?_))
        have srh24 : SR h0 h24 := srh.trans sq
        clear sq q23
        refine V.istore_n (ls' := [.ref 113, .null, .int r25, .null]) dX12_year_53 rfl (by decide) rfl ?_
        refine V.goto (tgt := 38) dX12_year_54 (by decide) ?_
        exact ih r25 h24 srh24 hf
set_option maxRecDepth 100000 in
theorem th_X12_year {h : HP} (ly : Lay h) {a1 : Int32} {rr : Int32} {hh : HP} (hf : f_X12_year h a1 = some (rr, hh)) : Spec yX12_year cX12_year miX12_year [.ref 113, .int a1] h (pI fun r' h' => (r' = rr ∧ h' = hh) ∧ SR h hh) := by
  refine Spec.of (ls0 := [.ref 113, .int a1, .null, .null]) mo_X12_year (Nat.le_of_ble_eq_true rfl) rfl ?_
  rw [ly.1]
  have srh : SR h h := SR.refl h
  unfold f_X12_year at hf
  refine V.aload_n dX12_year_0 rfl rfl rfl ?_
  refine V.iload_n dX12_year_1 rfl rfl ?_
  refine V.sipush (v := 300) dX12_year_2 rfl ?_
  obtain ⟨r3, h2, q1, hf2⟩ := bd2_el hf
  replace hf := hf2
  clear hf2
  refine V.callVI dX12_year_5 ml_X12_213 mo_X12_begins mv_X12_begins rfl (fun q hq => by cases hq; rfl) (by decide) (Or.inl ⟨rfl, SHL_lt rfl⟩) (th_X12_begins (srh.ly ly) q1) rfl rfl ⟨Nat.le_of_ble_eq_true rfl, Nat.le_of_ble_eq_true rfl, fun _ => ⟨rfl, rfl⟩⟩ (Nat.le_of_ble_eq_true rfl) rfl (post_I (fun sq => ?_))
  have srh2 : SR h h2 := srh.trans sq
  clear sq q1
  refine V.if_ne (tgt := 17) dX12_year_8 (by decide) (fun c4 => ?_) (fun c4 => ?_)
  · replace hf := ite_n hf c4
    refine V.aload_n dX12_year_17 rfl rfl rfl ?_
    refine V.getR (r := 114) dX12_year_18 fl_X12_7 rfl (Or.inl ⟨rfl, SHL_lt rfl⟩) rfl (ly_113_0 (srh2.ly ly)) ?_
    refine V.sipush (v := 1651) dX12_year_21 rfl ?_
    refine V.iconst (v := 0) dX12_year_24 rfl ?_
    refine V.iastore dX12_year_25 rfl (Or.inl ⟨rfl, SHL_lt rfl⟩) (vp_lit (by decide)) ?_
    rw [show Int32.toNatClampNeg 1651 = 1651 from rfl]
    refine V.nameH (fun g5 eg5 => ?_)
    replace hf := lt_el hf g5 eg5
    have srg5 : SR h g5 := by rw [eg5]; exact srh2.I _ _ _
    refine V.aload_n dX12_year_26 rfl rfl rfl ?_
    refine V.iconst (v := 0) dX12_year_27 rfl ?_
    refine V.putI dX12_year_28 fl_X12_241 rfl (Or.inl ⟨rfl, SHL_lt rfl⟩) rfl (fun q hq => by cases hq; rfl) ⟨rfl, rfl⟩ ?_
    refine V.nameH (fun g6 eg6 => ?_)
    replace hf := lt_el hf g6 eg6
    have srg6 : SR h g6 := by rw [eg6]; exact srg5.I _ _ _
    refine V.aload_n dX12_year_31 rfl rfl rfl ?_
    refine V.iconst (v := 0) dX12_year_32 rfl ?_
    refine V.putI dX12_year_33 fl_X12_244 rfl (Or.inl ⟨rfl, SHL_lt rfl⟩) rfl (fun q hq => by cases hq; rfl) ⟨rfl, rfl⟩ ?_
    refine V.nameH (fun g7 eg7 => ?_)
    replace hf := lt_el hf g7 eg7
    have srg7 : SR h g7 := by rw [eg7]; exact srg6.I _ _ _
    refine V.iconst (v := 1) dX12_year_36 rfl ?_
    refine V.istore_n (ls' := [.ref 113, .int a1, .int 1, .null]) dX12_year_37 rfl (by decide) rfl ?_
    refine V.less (ls' := [.ref 113, .null, .int 1, .null]) ⟨Or.inr rfl, Or.inl rfl, Or.inr rfl, Or.inl rfl, trivial⟩ ?_
    exact th_X12_year_38 ly FU 1 g7 srg7 hf
  · replace hf := ite_p hf c4
    refine V.aload_n dX12_year_11 rfl rfl rfl ?_
    refine V.iconst (v := 1) dX12_year_12 rfl ?_
    obtain ⟨r10, h9, q8, hf2⟩ := bd2_el hf
    replace hf := hf2
    clear hf2
    refine V.callVI dX12_year_13 ml_X12_81 mo_X12_refuse mv_X12_refuse rfl (fun q hq => by cases hq; rfl) (by decide) (Or.inl ⟨rfl, SHL_lt rfl⟩) (th_X12_refuse (srh2.ly ly) q8) rfl rfl ⟨Nat.le_of_ble_eq_true rfl, Nat.le_of_ble_eq_true rfl, fun _ => ⟨rfl, rfl⟩⟩ (Nat.le_of_ble_eq_true rfl) rfl (post_I (fun sq => ?_))
    have srh9 : SR h h9 := srh2.trans sq
    clear sq q8
    refine V.ireturn dX12_year_16 rfl rfl ⟨rfl, rfl⟩ ly.1 ?_
    exact ret_I hf srh9
