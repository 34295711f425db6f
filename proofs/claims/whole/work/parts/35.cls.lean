set_option maxRecDepth 100000 in
theorem th_X5_after_83 {h0 : HP} (ly : Lay h0) {t : Nat} (hT : isT t) {rr : Int32} {hh : HP} {K26 : Int32 → Int32 → Int32 → Int32 → Int32 → Int32 → Int32 → Int32 → HP → Option (Int32 × HP)} (kok26 : ∀ (l2 : Int32) (l3 : Int32) (l4 : Int32) (l5 : Int32) (l6 : Int32) (l7 : Int32) (l8 : Int32) (l9 : Int32) (g : HP), SR h0 g → K26 l2 l3 l4 l5 l6 l7 l8 l9 g = some (rr, hh) → V cX5_after miX5_after (ZI h0 miX5_after rr hh) 130 26 [.ref t, .null, .int l2, .int l3, .int l4, .int l5, .int l6, .int l7, .int l8, .int l9, .null] [] g) : ∀ (l2 : Int32) (l3 : Int32) (l4 : Int32) (l5 : Int32) (l6 : Int32) (l7 : Int32) (l8 : Int32) (l9 : Int32) (l10 : Int32) (h : HP), SR h0 h → f_X5_after_83 t K26 l2 l3 l4 l5 l6 l7 l8 l9 l10 h = some (rr, hh) → V cX5_after miX5_after (ZI h0 miX5_after rr hh) 130 83 [.ref t, .null, .int l2, .int l3, .int l4, .int l5, .int l6, .int l7, .int l8, .int l9, .int l10] [] h := by
  intro l2 l3 l4 l5 l6 l7 l8 l9 l10 h srh hf
  unfold f_X5_after_83 at hf
  refine V.iload dX5_after_83 rfl ?_
  refine V.iload dX5_after_85 rfl ?_
  refine V.icmp_ne (tgt := 104) dX5_after_87 (by decide) (fun c17 => ?_) (fun c17 => ?_)
  · replace hf := ite_n hf c17
    obtain ⟨x18, ex18⟩ : ∃ y : Int32, y = l9 + 1 := ⟨_, rfl⟩
    replace hf := lt_el hf x18 ex18
    refine V.iinc (v := x18) (ls' := [.ref t, .null, .int l2, .int l3, .int l4, .int l5, .int l6, .int l7, .int l8, .int x18, .int l10]) dX5_after_104 rfl (by decide) ex18.symm rfl ?_
    refine V.goto (tgt := 26) dX5_after_107 (by decide) ?_
    refine V.less (ls' := [.ref t, .null, .int l2, .int l3, .int l4, .int l5, .int l6, .int l7, .int l8, .int x18, .null]) ⟨Or.inr rfl, Or.inl rfl, Or.inr rfl, Or.inr rfl, Or.inr rfl, Or.inr rfl, Or.inr rfl, Or.inr rfl, Or.inr rfl, Or.inr rfl, Or.inl rfl, trivial⟩ ?_
    exact kok26 l2 l3 l4 l5 l6 l7 l8 x18 h srh hf
  · replace hf := ite_p hf c17
    refine V.iload dX5_after_90 rfl ?_
    refine V.istore (ls' := [.ref t, .null, .int l2, .int l3, .int l4, .int l5, .int l5, .int l7, .int l8, .int l9, .int l10]) dX5_after_92 (by decide) rfl ?_
    refine V.iload dX5_after_94 rfl ?_
    refine V.istore (ls' := [.ref t, .null, .int l2, .int l3, .int l4, .int l5, .int l5, .int l9, .int l8, .int l9, .int l10]) dX5_after_96 (by decide) rfl ?_
    refine V.iload dX5_after_98 rfl ?_
    refine V.iconst (v := 2) dX5_after_100 rfl ?_
    refine V.imul dX5_after_101 ?_
    refine V.nmi (fun x19 ex19 => ?_)
    replace hf := lt_el hf x19 ex19
    refine V.istore (ls' := [.ref t, .null, .int l2, .int l3, .int l4, .int l5, .int l5, .int l9, .int x19, .int l9, .int l10]) dX5_after_102 (by decide) rfl ?_
    obtain ⟨x20, ex20⟩ : ∃ y : Int32, y = l9 + 1 := ⟨_, rfl⟩
    replace hf := lt_el hf x20 ex20
    refine V.iinc (v := x20) (ls' := [.ref t, .null, .int l2, .int l3, .int l4, .int l5, .int l5, .int l9, .int x19, .int x20, .int l10]) dX5_after_104 rfl (by decide) ex20.symm rfl ?_
    refine V.goto (tgt := 26) dX5_after_107 (by decide) ?_
    refine V.less (ls' := [.ref t, .null, .int l2, .int l3, .int l4, .int l5, .int l5, .int l9, .int x19, .int x20, .null]) ⟨Or.inr rfl, Or.inl rfl, Or.inr rfl, Or.inr rfl, Or.inr rfl, Or.inr rfl, Or.inr rfl, Or.inr rfl, Or.inr rfl, Or.inr rfl, Or.inl rfl, trivial⟩ ?_
    exact kok26 l2 l3 l4 l5 l5 l9 x19 x20 h srh hf
set_option maxRecDepth 100000 in
theorem th_X5_after_26 {h0 : HP} (ly : Lay h0) {t : Nat} (hT : isT t) {rr : Int32} {hh : HP}  : ∀ (n : Nat) (l2 : Int32) (l3 : Int32) (l4 : Int32) (l5 : Int32) (l6 : Int32) (l7 : Int32) (l8 : Int32) (l9 : Int32) (h : HP), SR h0 h → f_X5_after_26 t n l2 l3 l4 l5 l6 l7 l8 l9 h = some (rr, hh) → V cX5_after miX5_after (ZI h0 miX5_after rr hh) 130 26 [.ref t, .null, .int l2, .int l3, .int l4, .int l5, .int l6, .int l7, .int l8, .int l9, .null] [] h := by
  intro n
  induction n with
  | zero => intro l2 l3 l4 l5 l6 l7 l8 l9 h srh hf; exact absurd hf (by unfold f_X5_after_26; simp)
  | succ n ih =>
    intro l2 l3 l4 l5 l6 l7 l8 l9 h srh hf
    unfold f_X5_after_26 at hf
    refine V.iload dX5_after_26 rfl ?_
    refine V.iload_n dX5_after_28 rfl rfl ?_
    refine V.icmp_gt (tgt := 110) dX5_after_29 (by decide) (fun c7 => ?_) (fun c7 => ?_)
    · replace hf := ite_p hf c7
      refine V.iload dX5_after_110 rfl ?_
      refine V.ireturn dX5_after_112 rfl rfl ⟨rfl, rfl⟩ ly.1 ?_
      exact ret_I hf srh
    · replace hf := ite_n hf c7
      refine V.aload_n dX5_after_32 rfl rfl (sT0 hT) ?_
      refine V.getR (r := t + 1) dX5_after_33 fl_X5_12 (sT0 hT) (Or.inl ⟨rfl, SHL_lt (sT0 hT)⟩) rfl (rT_hill (srh.ly ly) hT) ?_
      refine V.iload dX5_after_36 rfl ?_
      refine V.iload_n dX5_after_38 rfl rfl ?_
      refine V.iload dX5_after_39 rfl ?_
      obtain ⟨r10, h9, q8, hf2⟩ := bd2_el hf
      replace hf := hf2
      clear hf2
      refine V.callVI dX5_after_41 ml_X5_126 mo_X1_step mv_X1_step (sH0 hT.H) (fun q hq => by cases hq; rfl) (by decide) (Or.inl ⟨rfl, SHL_lt (sH0 hT.H)⟩) (th_X1_step (srh.ly ly) hT.H q8) rfl rfl ⟨Nat.le_of_ble_eq_true rfl, Nat.le_of_ble_eq_true rfl, fun _ => ⟨rfl, rfl⟩⟩ (Nat.le_of_ble_eq_true rfl) rfl (post_I (fun sq => ?_))
      have srh9 : SR h0 h9 := srh.trans sq
      clear sq q8
      refine V.istore (ls' := [.ref t, .null, .int l2, .int l3, .int l4, .int r10, .int l6, .int l7, .int l8, .int l9, .null]) dX5_after_44 (by decide) rfl ?_
      refine V.iload dX5_after_46 rfl ?_
      refine V.iload dX5_after_48 rfl ?_
      refine V.isub dX5_after_50 ?_
      refine V.nmi (fun x11 ex11 => ?_)
      replace hf := lt_el hf x11 ex11
      refine V.istore (ls' := [.ref t, .null, .int l2, .int l3, .int l4, .int r10, .int l6, .int l7, .int l8, .int l9, .int x11]) dX5_after_51 (by decide) rfl ?_
      refine V.iload dX5_after_53 rfl ?_
      refine V.iload dX5_after_55 rfl ?_
      refine V.icmp_ne (tgt := 83) dX5_after_57 (by decide) (fun c12 => ?_) (fun c12 => ?_)
      · replace hf := ite_n hf c12
        exact th_X5_after_83 ly hT ih l2 l3 l4 r10 l6 l7 l8 l9 x11 h9 srh9 hf
      · replace hf := ite_p hf c12
        refine V.iload dX5_after_60 rfl ?_
        refine V.if_le (tgt := 83) dX5_after_62 (by decide) (fun c13 => ?_) (fun c13 => ?_)
        · replace hf := ite_p hf c13
          exact th_X5_after_83 ly hT ih l2 l3 l4 r10 l6 l7 l8 l9 x11 h9 srh9 hf
        · replace hf := ite_n hf c13
          refine V.iload dX5_after_65 rfl ?_
          refine V.iload_n dX5_after_67 rfl rfl ?_
          refine V.iload dX5_after_68 rfl ?_
          refine V.isub dX5_after_70 ?_
          refine V.iload dX5_after_71 rfl ?_
          obtain ⟨b14, hf2⟩ := gd_el hf
          replace hf := hf2
          clear hf2
          refine V.idiv dX5_after_73 b14 ?_
          refine V.iload dX5_after_74 rfl ?_
          refine V.imul dX5_after_76 ?_
          refine V.iadd dX5_after_77 ?_
          refine V.nmi (fun x15 ex15 => ?_)
          replace hf := lt_el hf x15 ex15
          refine V.istore (ls' := [.ref t, .null, .int l2, .int l3, .int l4, .int r10, .int l6, .int l7, .int l8, .int x15, .int x11]) dX5_after_78 (by decide) rfl ?_
          refine V.goto (tgt := 104) dX5_after_80 (by decide) ?_
          obtain ⟨x16, ex16⟩ : ∃ y : Int32, y = x15 + 1 := ⟨_, rfl⟩
          replace hf := lt_el hf x16 ex16
          refine V.iinc (v := x16) (ls' := [.ref t, .null, .int l2, .int l3, .int l4, .int r10, .int l6, .int l7, .int l8, .int x16, .int x11]) dX5_after_104 rfl (by decide) ex16.symm rfl ?_
          refine V.goto (tgt := 26) dX5_after_107 (by decide) ?_
          refine V.less (ls' := [.ref t, .null, .int l2, .int l3, .int l4, .int r10, .int l6, .int l7, .int l8, .int x16, .null]) ⟨Or.inr rfl, Or.inl rfl, Or.inr rfl, Or.inr rfl, Or.inr rfl, Or.inr rfl, Or.inr rfl, Or.inr rfl, Or.inr rfl, Or.inr rfl, Or.inl rfl, trivial⟩ ?_
          exact ih l2 l3 l4 r10 l6 l7 l8 x16 h9 srh9 hf
set_option maxRecDepth 100000 in
theorem th_X5_after {h : HP} (ly : Lay h) {t : Nat} (hT : isT t) {a1 : Int32} {a2 : Int32} {rr : Int32} {hh : HP} (hf : f_X5_after h t a1 a2 = some (rr, hh)) : Spec yX5_after cX5_after miX5_after [.ref t, .int a1, .int a2] h (pI fun r' h' => (r' = rr ∧ h' = hh) ∧ SR h hh) := by
  refine Spec.of (ls0 := [.ref t, .int a1, .int a2, .null, .null, .null, .null, .null, .null, .null, .null]) mo_X5_after (Nat.le_of_ble_eq_true rfl) rfl ?_
  rw [ly.1]
  have srh : SR h h := SR.refl h
  unfold f_X5_after at hf
  refine V.aload_n dX5_after_0 rfl rfl (sT0 hT) ?_
  obtain ⟨r3, h2, q1, hf2⟩ := bd2_el hf
  replace hf := hf2
  clear hf2
  refine V.callVI dX5_after_1 ml_X5_119 mo_X5_bornNow mv_X5_bornNow (sT0 hT) (fun q hq => by cases hq; rfl) (by decide) (Or.inl ⟨rfl, SHL_lt (sT0 hT)⟩) (th_X5_bornNow (srh.ly ly) hT q1) rfl rfl ⟨Nat.le_of_ble_eq_true rfl, Nat.le_of_ble_eq_true rfl, fun _ => ⟨rfl, rfl⟩⟩ (Nat.le_of_ble_eq_true rfl) rfl (post_I (fun sq => ?_))
  have srh2 : SR h h2 := srh.trans sq
  clear sq q1
  refine V.istore_n (ls' := [.ref t, .int a1, .int a2, .int r3, .null, .null, .null, .null, .null, .null, .null]) dX5_after_4 rfl (by decide) rfl ?_
  refine V.aload_n dX5_after_5 rfl rfl (sT0 hT) ?_
  obtain ⟨r6, h5, q4, hf2⟩ := bd2_el hf
  replace hf := hf2
  clear hf2
  refine V.callVI dX5_after_6 ml_X5_123 mo_X5_staysNow mv_X5_staysNow (sT0 hT) (fun q hq => by cases hq; rfl) (by decide) (Or.inl ⟨rfl, SHL_lt (sT0 hT)⟩) (th_X5_staysNow (srh2.ly ly) hT q4) rfl rfl ⟨Nat.le_of_ble_eq_true rfl, Nat.le_of_ble_eq_true rfl, fun _ => ⟨rfl, rfl⟩⟩ (Nat.le_of_ble_eq_true rfl) rfl (post_I (fun sq => ?_))
  have srh5 : SR h h5 := srh2.trans sq
  clear sq q4
  refine V.istore (ls' := [.ref t, .int a1, .int a2, .int r3, .int r6, .null, .null, .null, .null, .null, .null]) dX5_after_9 (by decide) rfl ?_
  refine V.iload_n dX5_after_11 rfl rfl ?_
  refine V.istore (ls' := [.ref t, .int a1, .int a2, .int r3, .int r6, .int a1, .null, .null, .null, .null, .null]) dX5_after_12 (by decide) rfl ?_
  refine V.iload_n dX5_after_14 rfl rfl ?_
  refine V.istore (ls' := [.ref t, .int a1, .int a2, .int r3, .int r6, .int a1, .int a1, .null, .null, .null, .null]) dX5_after_15 (by decide) rfl ?_
  refine V.iconst (v := 0) dX5_after_17 rfl ?_
  refine V.istore (ls' := [.ref t, .int a1, .int a2, .int r3, .int r6, .int a1, .int a1, .int 0, .null, .null, .null]) dX5_after_18 (by decide) rfl ?_
  refine V.iconst (v := 1) dX5_after_20 rfl ?_
  refine V.istore (ls' := [.ref t, .int a1, .int a2, .int r3, .int r6, .int a1, .int a1, .int 0, .int 1, .null, .null]) dX5_after_21 (by decide) rfl ?_
  refine V.iconst (v := 1) dX5_after_23 rfl ?_
  refine V.istore (ls' := [.ref t, .int a1, .int a2, .int r3, .int r6, .int a1, .int a1, .int 0, .int 1, .int 1, .null]) dX5_after_24 (by decide) rfl ?_
  refine V.less (ls' := [.ref t, .null, .int a2, .int r3, .int r6, .int a1, .int a1, .int 0, .int 1, .int 1, .null]) ⟨Or.inr rfl, Or.inl rfl, Or.inr rfl, Or.inr rfl, Or.inr rfl, Or.inr rfl, Or.inr rfl, Or.inr rfl, Or.inr rfl, Or.inr rfl, Or.inl rfl, trivial⟩ ?_
  exact th_X5_after_26 ly hT FU a2 r3 r6 a1 a1 0 1 1 h5 srh5 hf
set_option maxRecDepth 100000 in
theorem th_X5_passNight_83 {h0 : HP} (ly : Lay h0) {t : Nat} (hT : isT t) {hh : HP} {K27 : Int32 → Int32 → Int32 → Int32 → HP → Option HP} (kok27 : ∀ (l1 : Int32) (l2 : Int32) (l3 : Int32) (l4 : Int32) (g : HP), SR h0 g → K27 l1 l2 l3 l4 g = some hh → V cX5_passNight miX5_passNight (ZV h0 miX5_passNight hh) 130 27 [.ref t, .int l1, .int l2, .int l3, .int l4, .null] [] g) : ∀ (l1 : Int32) (l2 : Int32) (l3 : Int32) (l4 : Int32) (l5 : Int32) (h : HP), SR h0 h → f_X5_passNight_83 t K27 l1 l2 l3 l4 l5 h = some hh → V cX5_passNight miX5_passNight (ZV h0 miX5_passNight hh) 130 83 [.ref t, .int l1, .int l2, .int l3, .int l4, .int l5] [] h := by
  intro l1 l2 l3 l4 l5 h srh hf
  unfold f_X5_passNight_83 at hf
  refine V.iload dX5_passNight_83 rfl ?_
  refine V.aload_n dX5_passNight_85 rfl rfl (sT0 hT) ?_
  refine V.getI dX5_passNight_86 fl_X5_78 (sT0 hT) (Or.inl ⟨rfl, SHL_lt (sT0 hT)⟩) rfl rfl ?_
  refine V.iand dX5_passNight_89 ?_
  refine V.if_eq (tgt := 113) dX5_passNight_90 (by decide) (fun c22 => ?_) (fun c22 => ?_)
  · replace hf := ite_p hf c22
    obtain ⟨x23, ex23⟩ : ∃ y : Int32, y = l4 + 1 := ⟨_, rfl⟩
    replace hf := lt_el hf x23 ex23
    refine V.iinc (v := x23) (ls' := [.ref t, .int l1, .int l2, .int l3, .int x23, .int l5]) dX5_passNight_113 rfl (by decide) ex23.symm rfl ?_
    refine V.goto (tgt := 27) dX5_passNight_116 (by decide) ?_
    refine V.less (ls' := [.ref t, .int l1, .int l2, .int l3, .int x23, .null]) ⟨Or.inr rfl, Or.inr rfl, Or.inr rfl, Or.inr rfl, Or.inr rfl, Or.inl rfl, trivial⟩ ?_
    exact kok27 l1 l2 l3 x23 h srh hf
  · replace hf := ite_n hf c22
    refine V.aload_n dX5_passNight_93 rfl rfl (sT0 hT) ?_
    refine V.getR (r := t + 15) dX5_passNight_94 fl_X5_45 (sT0 hT) (Or.inl ⟨rfl, SHL_lt (sT0 hT)⟩) rfl (rT_seen (srh.ly ly) hT) ?_
    refine V.iconst (v := 5) dX5_passNight_97 rfl ?_
    refine V.iload dX5_passNight_98 rfl ?_
    refine V.iadd dX5_passNight_100 ?_
    refine V.nmi (fun x24 ex24 => ?_)
    replace hf := lt_el hf x24 ex24
    refine V.dup2 dX5_passNight_101 rfl rfl ?_
    obtain ⟨b25, hf2⟩ := gdi_el hf
    replace hf := hf2
    clear hf2
    refine V.iaload dX5_passNight_102 (sT15 hT) (Or.inl ⟨rfl, SHL_lt (sT15 hT)⟩) b25 ?_
    refine V.iconst (v := 1) dX5_passNight_103 rfl ?_
    refine V.iload_n dX5_passNight_104 rfl rfl ?_
    refine V.iload dX5_passNight_105 rfl ?_
    refine V.ishr dX5_passNight_107 ?_
    refine V.iconst (v := 1) dX5_passNight_108 rfl ?_
    refine V.iand dX5_passNight_109 ?_
    refine V.ishl dX5_passNight_110 ?_
    refine V.ior dX5_passNight_111 ?_
    obtain ⟨b26, hf2⟩ := gdi_el hf
    replace hf := hf2
    clear hf2
    refine V.iastore dX5_passNight_112 (sT15 hT) (Or.inl ⟨rfl, SHL_lt (sT15 hT)⟩) b26 ?_
    refine V.nameH (fun g27 eg27 => ?_)
    replace hf := lt_el hf g27 eg27
    have srg27 : SR h0 g27 := by rw [eg27]; exact srh.I _ _ _
    obtain ⟨x28, ex28⟩ : ∃ y : Int32, y = l4 + 1 := ⟨_, rfl⟩
    replace hf := lt_el hf x28 ex28
    refine V.iinc (v := x28) (ls' := [.ref t, .int l1, .int l2, .int l3, .int x28, .int l5]) dX5_passNight_113 rfl (by decide) ex28.symm rfl ?_
    refine V.goto (tgt := 27) dX5_passNight_116 (by decide) ?_
    refine V.less (ls' := [.ref t, .int l1, .int l2, .int l3, .int x28, .null]) ⟨Or.inr rfl, Or.inr rfl, Or.inr rfl, Or.inr rfl, Or.inr rfl, Or.inl rfl, trivial⟩ ?_
    exact kok27 l1 l2 l3 x28 g27 srg27 hf
set_option maxRecDepth 100000 in
theorem th_X5_passNight_27 {h0 : HP} (ly : Lay h0) {t : Nat} (hT : isT t) {hh : HP}  : ∀ (n : Nat) (l1 : Int32) (l2 : Int32) (l3 : Int32) (l4 : Int32) (h : HP), SR h0 h → f_X5_passNight_27 t n l1 l2 l3 l4 h = some hh → V cX5_passNight miX5_passNight (ZV h0 miX5_passNight hh) 130 27 [.ref t, .int l1, .int l2, .int l3, .int l4, .null] [] h := by
  intro n
  induction n with
  | zero => intro l1 l2 l3 l4 h srh hf; exact absurd hf (by unfold f_X5_passNight_27; simp)
  | succ n ih =>
    intro l1 l2 l3 l4 h srh hf
    unfold f_X5_passNight_27 at hf
    refine V.iload dX5_passNight_27 rfl ?_
    refine V.iconst (v := 5) dX5_passNight_29 rfl ?_
    refine V.icmp_ge (tgt := 119) dX5_passNight_30 (by decide) (fun c10 => ?_) (fun c10 => ?_)
    · replace hf := ite_p hf c10
      refine V.aload_n dX5_passNight_119 rfl rfl (sT0 hT) ?_
      refine V.dup dX5_passNight_120 rfl ?_
      refine V.getI dX5_passNight_121 fl_X5_84 (sT0 hT) (Or.inl ⟨rfl, SHL_lt (sT0 hT)⟩) rfl rfl ?_
      refine V.aload_n dX5_passNight_124 rfl rfl (sT0 hT) ?_
      refine V.getI dX5_passNight_125 fl_X5_78 (sT0 hT) (Or.inl ⟨rfl, SHL_lt (sT0 hT)⟩) rfl rfl ?_
      obtain ⟨r13, h12, q11, hf2⟩ := bd2_el hf
      replace hf := hf2
      clear hf2
      refine V.callSI dX5_passNight_128 ml_X5_130 mo_J6_bitCount_0f7a4 ms_J6_bitCount_0f7a4 (th_J6_bitCount_0f7a4 (srh.ly ly) q11) rfl rfl ⟨Nat.le_of_ble_eq_true rfl, Nat.le_of_ble_eq_true rfl, fun _ => ⟨rfl, rfl⟩⟩ (Nat.le_of_ble_eq_true rfl) rfl (post_I (fun sq => ?_))
      have srh12 : SR h0 h12 := srh.trans sq
      clear sq q11
      refine V.iadd dX5_passNight_131 ?_
      refine V.putI dX5_passNight_132 fl_X5_84 (sT0 hT) (Or.inl ⟨rfl, SHL_lt (sT0 hT)⟩) rfl (fun q hq => by cases hq; rfl) ⟨rfl, rfl⟩ ?_
      refine V.nameH (fun g14 eg14 => ?_)
      replace hf := lt_el hf g14 eg14
      have srg14 : SR h0 g14 := by rw [eg14]; exact srh12.I _ _ _
      refine V.aload_n dX5_passNight_135 rfl rfl (sT0 hT) ?_
      refine V.iload_n dX5_passNight_136 rfl rfl ?_
      refine V.putI dX5_passNight_137 fl_X5_78 (sT0 hT) (Or.inl ⟨rfl, SHL_lt (sT0 hT)⟩) rfl (fun q hq => by cases hq; rfl) ⟨rfl, rfl⟩ ?_
      refine V.nameH (fun g15 eg15 => ?_)
      replace hf := lt_el hf g15 eg15
      have srg15 : SR h0 g15 := by rw [eg15]; exact srg14.I _ _ _
      refine V.vreturn' dX5_passNight_140 rfl ly.1 (Or.inl ⟨rfl, rfl⟩) ?_
      exact ret_V hf srg15
    · replace hf := ite_n hf c10
      refine V.aload_n dX5_passNight_33 rfl rfl (sT0 hT) ?_
      refine V.getR (r := t + 1) dX5_passNight_34 fl_X5_12 (sT0 hT) (Or.inl ⟨rfl, SHL_lt (sT0 hT)⟩) rfl (rT_hill (srh.ly ly) hT) ?_
      refine V.getR (r := t + 1 + 1) dX5_passNight_37 fl_X5_139 (sH0 hT.H) (Or.inl ⟨rfl, SHL_lt (sH0 hT.H)⟩) rfl (rH_withLit (srh.ly ly) hT.H) ?_
      refine V.iload dX5_passNight_40 rfl ?_
      obtain ⟨b16, hf2⟩ := gdi_el hf
      replace hf := hf2
      clear hf2
      refine V.iaload dX5_passNight_42 (sH1 hT.H) (Or.inl ⟨rfl, SHL_lt (sH1 hT.H)⟩) b16 ?_
      refine V.aload_n dX5_passNight_43 rfl rfl (sT0 hT) ?_
      refine V.getR (r := t + 1) dX5_passNight_44 fl_X5_12 (sT0 hT) (Or.inl ⟨rfl, SHL_lt (sT0 hT)⟩) rfl (rT_hill (srh.ly ly) hT) ?_
      refine V.getI dX5_passNight_47 fl_X5_96 (sH0 hT.H) (Or.inl ⟨rfl, SHL_lt (sH0 hT.H)⟩) rfl rfl ?_
      refine V.iand dX5_passNight_50 ?_
      refine V.nmi (fun x17 ex17 => ?_)
      replace hf := lt_el hf x17 ex17
      refine V.istore (ls' := [.ref t, .int l1, .int l2, .int l3, .int l4, .int x17]) dX5_passNight_51 (by decide) rfl ?_
      refine V.iload dX5_passNight_53 rfl ?_
      refine V.aload_n dX5_passNight_55 rfl rfl (sT0 hT) ?_
      refine V.getI dX5_passNight_56 fl_X5_78 (sT0 hT) (Or.inl ⟨rfl, SHL_lt (sT0 hT)⟩) rfl rfl ?_
      refine V.iconst (v := (-1)) dX5_passNight_59 rfl ?_
      refine V.ixor dX5_passNight_60 ?_
      refine V.iand dX5_passNight_61 ?_
      refine V.if_eq (tgt := 83) dX5_passNight_62 (by decide) (fun c18 => ?_) (fun c18 => ?_)
      · replace hf := ite_p hf c18
        exact th_X5_passNight_83 ly hT ih l1 l2 l3 l4 x17 h srh hf
      · replace hf := ite_n hf c18
        refine V.aload_n dX5_passNight_65 rfl rfl (sT0 hT) ?_
        refine V.getR (r := t + 15) dX5_passNight_66 fl_X5_45 (sT0 hT) (Or.inl ⟨rfl, SHL_lt (sT0 hT)⟩) rfl (rT_seen (srh.ly ly) hT) ?_
        refine V.iload dX5_passNight_69 rfl ?_
        refine V.dup2 dX5_passNight_71 rfl rfl ?_
        obtain ⟨b19, hf2⟩ := gdi_el hf
        replace hf := hf2
        clear hf2
        refine V.iaload dX5_passNight_72 (sT15 hT) (Or.inl ⟨rfl, SHL_lt (sT15 hT)⟩) b19 ?_
        refine V.iconst (v := 1) dX5_passNight_73 rfl ?_
        refine V.iload_n dX5_passNight_74 rfl rfl ?_
        refine V.iload dX5_passNight_75 rfl ?_
        refine V.ishr dX5_passNight_77 ?_
        refine V.iconst (v := 1) dX5_passNight_78 rfl ?_
        refine V.iand dX5_passNight_79 ?_
        refine V.ishl dX5_passNight_80 ?_
        refine V.ior dX5_passNight_81 ?_
        obtain ⟨b20, hf2⟩ := gdi_el hf
        replace hf := hf2
        clear hf2
        refine V.iastore dX5_passNight_82 (sT15 hT) (Or.inl ⟨rfl, SHL_lt (sT15 hT)⟩) b20 ?_
        refine V.nameH (fun g21 eg21 => ?_)
        replace hf := lt_el hf g21 eg21
        have srg21 : SR h0 g21 := by rw [eg21]; exact srh.I _ _ _
        exact th_X5_passNight_83 ly hT ih l1 l2 l3 l4 x17 g21 srg21 hf
set_option maxRecDepth 100000 in
theorem th_X5_passNight {h : HP} (ly : Lay h) {t : Nat} (hT : isT t)  {hh : HP} (hf : f_X5_passNight h t = some hh) : Spec yX5_passNight cX5_passNight miX5_passNight [.ref t] h (pV fun h' => h' = hh ∧ SR h hh) := by
  refine Spec.of (ls0 := [.ref t, .null, .null, .null, .null, .null]) mo_X5_passNight (Nat.le_of_ble_eq_true rfl) rfl ?_
  rw [ly.1]
  have srh : SR h h := SR.refl h
  unfold f_X5_passNight at hf
  refine V.aload_n dX5_passNight_0 rfl rfl (sT0 hT) ?_
  obtain ⟨r3, h2, q1, hf2⟩ := bd2_el hf
  replace hf := hf2
  clear hf2
  refine V.callVI dX5_passNight_1 ml_X5_119 mo_X5_bornNow mv_X5_bornNow (sT0 hT) (fun q hq => by cases hq; rfl) (by decide) (Or.inl ⟨rfl, SHL_lt (sT0 hT)⟩) (th_X5_bornNow (srh.ly ly) hT q1) rfl rfl ⟨Nat.le_of_ble_eq_true rfl, Nat.le_of_ble_eq_true rfl, fun _ => ⟨rfl, rfl⟩⟩ (Nat.le_of_ble_eq_true rfl) rfl (post_I (fun sq => ?_))
  have srh2 : SR h h2 := srh.trans sq
  clear sq q1
  refine V.istore_n (ls' := [.ref t, .int r3, .null, .null, .null, .null]) dX5_passNight_4 rfl (by decide) rfl ?_
  refine V.aload_n dX5_passNight_5 rfl rfl (sT0 hT) ?_
  obtain ⟨r6, h5, q4, hf2⟩ := bd2_el hf
  replace hf := hf2
  clear hf2
  refine V.callVI dX5_passNight_6 ml_X5_123 mo_X5_staysNow mv_X5_staysNow (sT0 hT) (fun q hq => by cases hq; rfl) (by decide) (Or.inl ⟨rfl, SHL_lt (sT0 hT)⟩) (th_X5_staysNow (srh2.ly ly) hT q4) rfl rfl ⟨Nat.le_of_ble_eq_true rfl, Nat.le_of_ble_eq_true rfl, fun _ => ⟨rfl, rfl⟩⟩ (Nat.le_of_ble_eq_true rfl) rfl (post_I (fun sq => ?_))
  have srh5 : SR h h5 := srh2.trans sq
  clear sq q4
  refine V.istore_n (ls' := [.ref t, .int r3, .int r6, .null, .null, .null]) dX5_passNight_9 rfl (by decide) rfl ?_
  refine V.aload_n dX5_passNight_10 rfl rfl (sT0 hT) ?_
  refine V.getR (r := t + 1) dX5_passNight_11 fl_X5_12 (sT0 hT) (Or.inl ⟨rfl, SHL_lt (sT0 hT)⟩) rfl (rT_hill (srh5.ly ly) hT) ?_
  refine V.aload_n dX5_passNight_14 rfl rfl (sT0 hT) ?_
  refine V.getI dX5_passNight_15 fl_X5_78 (sT0 hT) (Or.inl ⟨rfl, SHL_lt (sT0 hT)⟩) rfl rfl ?_
  refine V.iload_n dX5_passNight_18 rfl rfl ?_
  refine V.iload_n dX5_passNight_19 rfl rfl ?_
  obtain ⟨r9, h8, q7, hf2⟩ := bd2_el hf
  replace hf := hf2
  clear hf2
  refine V.callVI dX5_passNight_20 ml_X5_126 mo_X1_step mv_X1_step (sH0 hT.H) (fun q hq => by cases hq; rfl) (by decide) (Or.inl ⟨rfl, SHL_lt (sH0 hT.H)⟩) (th_X1_step (srh5.ly ly) hT.H q7) rfl rfl ⟨Nat.le_of_ble_eq_true rfl, Nat.le_of_ble_eq_true rfl, fun _ => ⟨rfl, rfl⟩⟩ (Nat.le_of_ble_eq_true rfl) rfl (post_I (fun sq => ?_))
  have srh8 : SR h h8 := srh5.trans sq
  clear sq q7
  refine V.istore_n (ls' := [.ref t, .int r3, .int r6, .int r9, .null, .null]) dX5_passNight_23 rfl (by decide) rfl ?_
  refine V.iconst (v := 0) dX5_passNight_24 rfl ?_
  refine V.istore (ls' := [.ref t, .int r3, .int r6, .int r9, .int 0, .null]) dX5_passNight_25 (by decide) rfl ?_
  exact th_X5_passNight_27 ly hT FU r3 r6 r9 0 h8 srh8 hf
set_option maxRecDepth 100000 in
theorem th_X5_passNights_89 {h0 : HP} (ly : Lay h0) {t : Nat} (hT : isT t) {hh : HP} {K19 : Int32 → Int32 → Int32 → Int32 → Int32 → Int32 → HP → Option HP} (kok19 : ∀ (l1 : Int32) (l2 : Int32) (l3 : Int32) (l4 : Int32) (l5 : Int32) (l6 : Int32) (g : HP), SR h0 g → K19 l1 l2 l3 l4 l5 l6 g = some hh → V cX5_passNights miX5_passNights (ZV h0 miX5_passNights hh) 130 19 [.ref t, .int l1, .int l2, .int l3, .int l4, .int l5, .int l6, .null, .null] [] g) : ∀ (l1 : Int32) (l2 : Int32) (l3 : Int32) (l4 : Int32) (l5 : Int32) (l6 : Int32) (l7 : Int32) (h : HP), SR h0 h → f_X5_passNights_89 t K19 l1 l2 l3 l4 l5 l6 l7 h = some hh → V cX5_passNights miX5_passNights (ZV h0 miX5_passNights hh) 130 89 [.ref t, .int l1, .int l2, .int l3, .int l4, .int l5, .int l6, .int l7, .null] [] h := by
  intro l1 l2 l3 l4 l5 l6 l7 h srh hf
  unfold f_X5_passNights_89 at hf
  refine V.iload dX5_passNights_89 rfl ?_
  refine V.iload dX5_passNights_91 rfl ?_
  refine V.icmp_ne (tgt := 116) dX5_passNights_93 (by decide) (fun c15 => ?_) (fun c15 => ?_)
  · replace hf := ite_n hf c15
    obtain ⟨x16, ex16⟩ : ∃ y : Int32, y = l6 + 1 := ⟨_, rfl⟩
    replace hf := lt_el hf x16 ex16
    refine V.iinc (v := x16) (ls' := [.ref t, .int l1, .int l2, .int l3, .int l4, .int l5, .int x16, .int l7, .null]) dX5_passNights_116 rfl (by decide) ex16.symm rfl ?_
    refine V.goto (tgt := 19) dX5_passNights_119 (by decide) ?_
    refine V.less (ls' := [.ref t, .int l1, .int l2, .int l3, .int l4, .int l5, .int x16, .null, .null]) ⟨Or.inr rfl, Or.inr rfl, Or.inr rfl, Or.inr rfl, Or.inr rfl, Or.inr rfl, Or.inr rfl, Or.inl rfl, Or.inl rfl, trivial⟩ ?_
    exact kok19 l1 l2 l3 l4 l5 x16 h srh hf
  · replace hf := ite_p hf c15
    refine V.aload_n dX5_passNights_96 rfl rfl (sT0 hT) ?_
    refine V.getI dX5_passNights_97 fl_X5_78 (sT0 hT) (Or.inl ⟨rfl, SHL_lt (sT0 hT)⟩) rfl rfl ?_
    refine V.nmi (fun x17 ex17 => ?_)
    replace hf := lt_el hf x17 ex17
    refine V.istore_n (ls' := [.ref t, .int l1, .int x17, .int l3, .int l4, .int l5, .int l6, .int l7, .null]) dX5_passNights_100 rfl (by decide) rfl ?_
    refine V.iload dX5_passNights_101 rfl ?_
    refine V.istore_n (ls' := [.ref t, .int l1, .int x17, .int l6, .int l4, .int l5, .int l6, .int l7, .null]) dX5_passNights_103 rfl (by decide) rfl ?_
    refine V.aload_n dX5_passNights_104 rfl rfl (sT0 hT) ?_
    refine V.getI dX5_passNights_105 fl_X5_84 (sT0 hT) (Or.inl ⟨rfl, SHL_lt (sT0 hT)⟩) rfl rfl ?_
    refine V.nmi (fun x18 ex18 => ?_)
    replace hf := lt_el hf x18 ex18
    refine V.istore (ls' := [.ref t, .int l1, .int x17, .int l6, .int x18, .int l5, .int l6, .int l7, .null]) dX5_passNights_108 (by decide) rfl ?_
    refine V.iload dX5_passNights_110 rfl ?_
    refine V.iconst (v := 2) dX5_passNights_112 rfl ?_
    refine V.imul dX5_passNights_113 ?_
    refine V.nmi (fun x19 ex19 => ?_)
    replace hf := lt_el hf x19 ex19
    refine V.istore (ls' := [.ref t, .int l1, .int x17, .int l6, .int x18, .int x19, .int l6, .int l7, .null]) dX5_passNights_114 (by decide) rfl ?_
    obtain ⟨x20, ex20⟩ : ∃ y : Int32, y = l6 + 1 := ⟨_, rfl⟩
    replace hf := lt_el hf x20 ex20
    refine V.iinc (v := x20) (ls' := [.ref t, .int l1, .int x17, .int l6, .int x18, .int x19, .int x20, .int l7, .null]) dX5_passNights_116 rfl (by decide) ex20.symm rfl ?_
    refine V.goto (tgt := 19) dX5_passNights_119 (by decide) ?_
    refine V.less (ls' := [.ref t, .int l1, .int x17, .int l6, .int x18, .int x19, .int x20, .null, .null]) ⟨Or.inr rfl, Or.inr rfl, Or.inr rfl, Or.inr rfl, Or.inr rfl, Or.inr rfl, Or.inr rfl, Or.inl rfl, Or.inl rfl, trivial⟩ ?_
    exact kok19 l1 x17 l6 x18 x19 x20 h srh hf
set_option maxRecDepth 100000 in
theorem th_X5_passNights_19 {h0 : HP} (ly : Lay h0) {t : Nat} (hT : isT t) {hh : HP}  : ∀ (n : Nat) (l1 : Int32) (l2 : Int32) (l3 : Int32) (l4 : Int32) (l5 : Int32) (l6 : Int32) (h : HP), SR h0 h → f_X5_passNights_19 t n l1 l2 l3 l4 l5 l6 h = some hh → V cX5_passNights miX5_passNights (ZV h0 miX5_passNights hh) 130 19 [.ref t, .int l1, .int l2, .int l3, .int l4, .int l5, .int l6, .null, .null] [] h := by
  intro n
  induction n with
  | zero => intro l1 l2 l3 l4 l5 l6 h srh hf; exact absurd hf (by unfold f_X5_passNights_19; simp)
  | succ n ih =>
    intro l1 l2 l3 l4 l5 l6 h srh hf
    unfold f_X5_passNights_19 at hf
    refine V.iload dX5_passNights_19 rfl ?_
    refine V.iload_n dX5_passNights_21 rfl rfl ?_
    refine V.icmp_gt (tgt := 122) dX5_passNights_22 (by decide) (fun c3 => ?_) (fun c3 => ?_)
    · replace hf := ite_p hf c3
      refine V.aload_n dX5_passNights_122 rfl rfl (sT0 hT) ?_
      refine V.dup dX5_passNights_123 rfl ?_
      refine V.getI dX5_passNights_124 fl_X5_81 (sT0 hT) (Or.inl ⟨rfl, SHL_lt (sT0 hT)⟩) rfl rfl ?_
      refine V.iload_n dX5_passNights_127 rfl rfl ?_
      refine V.iadd dX5_passNights_128 ?_
      refine V.putI dX5_passNights_129 fl_X5_81 (sT0 hT) (Or.inl ⟨rfl, SHL_lt (sT0 hT)⟩) rfl (fun q hq => by cases hq; rfl) ⟨rfl, rfl⟩ ?_
      refine V.nameH (fun g4 eg4 => ?_)
      replace hf := lt_el hf g4 eg4
      have srg4 : SR h0 g4 := by rw [eg4]; exact srh.I _ _ _
      refine V.vreturn' dX5_passNights_132 rfl ly.1 (Or.inl ⟨rfl, rfl⟩) ?_
      exact ret_V hf srg4
    · replace hf := ite_n hf c3
      refine V.aload_n dX5_passNights_25 rfl rfl (sT0 hT) ?_
      obtain ⟨h6, q5, hf2⟩ := bd_el hf
      replace hf := hf2
      clear hf2
      refine V.callVV dX5_passNights_26 ml_X5_136 mo_X5_passNight mv_X5_passNight (sT0 hT) (fun q hq => by cases hq; rfl) (by decide) (Or.inl ⟨rfl, SHL_lt (sT0 hT)⟩) (th_X5_passNight (srh.ly ly) hT q5) rfl rfl ⟨Nat.le_of_ble_eq_true rfl, Nat.le_of_ble_eq_true rfl, fun _ => ⟨rfl, rfl⟩⟩ (Nat.le_of_ble_eq_true rfl) (Or.inl rfl) (post_V (fun sq => ?_))
      have srh6 : SR h0 h6 := srh.trans sq
      clear sq q5
      refine V.iload dX5_passNights_29 rfl ?_
      refine V.iload_n dX5_passNights_31 rfl rfl ?_
      refine V.isub dX5_passNights_32 ?_
      refine V.nmi (fun x7 ex7 => ?_)
      replace hf := lt_el hf x7 ex7
      refine V.istore (ls' := [.ref t, .int l1, .int l2, .int l3, .int l4, .int l5, .int l6, .int x7, .null]) dX5_passNights_33 (by decide) rfl ?_
      refine V.aload_n dX5_passNights_35 rfl rfl (sT0 hT) ?_
      refine V.getI dX5_passNights_36 fl_X5_78 (sT0 hT) (Or.inl ⟨rfl, SHL_lt (sT0 hT)⟩) rfl rfl ?_
      refine V.iload_n dX5_passNights_39 rfl rfl ?_
      refine V.icmp_ne (tgt := 89) dX5_passNights_40 (by decide) (fun c8 => ?_) (fun c8 => ?_)
      · replace hf := ite_n hf c8
        exact th_X5_passNights_89 ly hT ih l1 l2 l3 l4 l5 l6 x7 h6 srh6 hf
      · replace hf := ite_p hf c8
        refine V.iload dX5_passNights_43 rfl ?_
        refine V.if_le (tgt := 89) dX5_passNights_45 (by decide) (fun c9 => ?_) (fun c9 => ?_)
        · replace hf := ite_p hf c9
          exact th_X5_passNights_89 ly hT ih l1 l2 l3 l4 l5 l6 x7 h6 srh6 hf
        · replace hf := ite_n hf c9
          refine V.iload_n dX5_passNights_48 rfl rfl ?_
          refine V.iload dX5_passNights_49 rfl ?_
          refine V.isub dX5_passNights_51 ?_
          refine V.iload dX5_passNights_52 rfl ?_
          obtain ⟨b10, hf2⟩ := gd_el hf
          replace hf := hf2
          clear hf2
          refine V.idiv dX5_passNights_54 b10 ?_
          refine V.nmi (fun x11 ex11 => ?_)
          replace hf := lt_el hf x11 ex11
          refine V.istore (ls' := [.ref t, .int l1, .int l2, .int l3, .int l4, .int l5, .int l6, .int x7, .int x11]) dX5_passNights_55 (by decide) rfl ?_
          refine V.aload_n dX5_passNights_57 rfl rfl (sT0 hT) ?_
          refine V.dup dX5_passNights_58 rfl ?_
          refine V.getI dX5_passNights_59 fl_X5_84 (sT0 hT) (Or.inl ⟨rfl, SHL_lt (sT0 hT)⟩) rfl rfl ?_
          refine V.iload dX5_passNights_62 rfl ?_
          refine V.aload_n dX5_passNights_64 rfl rfl (sT0 hT) ?_
          refine V.getI dX5_passNights_65 fl_X5_84 (sT0 hT) (Or.inl ⟨rfl, SHL_lt (sT0 hT)⟩) rfl rfl ?_
          refine V.iload dX5_passNights_68 rfl ?_
          refine V.isub dX5_passNights_70 ?_
          refine V.imul dX5_passNights_71 ?_
          refine V.iadd dX5_passNights_72 ?_
          refine V.putI dX5_passNights_73 fl_X5_84 (sT0 hT) (Or.inl ⟨rfl, SHL_lt (sT0 hT)⟩) rfl (fun q hq => by cases hq; rfl) ⟨rfl, rfl⟩ ?_
          refine V.nameH (fun g12 eg12 => ?_)
          replace hf := lt_el hf g12 eg12
          have srg12 : SR h0 g12 := by rw [eg12]; exact srh6.I _ _ _
          refine V.iload dX5_passNights_76 rfl ?_
          refine V.iload dX5_passNights_78 rfl ?_
          refine V.iload dX5_passNights_80 rfl ?_
          refine V.imul dX5_passNights_82 ?_
          refine V.iadd dX5_passNights_83 ?_
          refine V.nmi (fun x13 ex13 => ?_)
          replace hf := lt_el hf x13 ex13
          refine V.istore (ls' := [.ref t, .int l1, .int l2, .int l3, .int l4, .int l5, .int x13, .int x7, .int x11]) dX5_passNights_84 (by decide) rfl ?_
          refine V.goto (tgt := 116) dX5_passNights_86 (by decide) ?_
          obtain ⟨x14, ex14⟩ : ∃ y : Int32, y = x13 + 1 := ⟨_, rfl⟩
          replace hf := lt_el hf x14 ex14
          refine V.iinc (v := x14) (ls' := [.ref t, .int l1, .int l2, .int l3, .int l4, .int l5, .int x14, .int x7, .int x11]) dX5_passNights_116 rfl (by decide) ex14.symm rfl ?_
          refine V.goto (tgt := 19) dX5_passNights_119 (by decide) ?_
          refine V.less (ls' := [.ref t, .int l1, .int l2, .int l3, .int l4, .int l5, .int x14, .null, .null]) ⟨Or.inr rfl, Or.inr rfl, Or.inr rfl, Or.inr rfl, Or.inr rfl, Or.inr rfl, Or.inr rfl, Or.inl rfl, Or.inl rfl, trivial⟩ ?_
          exact ih l1 l2 l3 l4 l5 x14 g12 srg12 hf
set_option maxRecDepth 100000 in
theorem th_X5_passNights {h : HP} (ly : Lay h) {t : Nat} (hT : isT t) {a1 : Int32} {hh : HP} (hf : f_X5_passNights h t a1 = some hh) : Spec yX5_passNights cX5_passNights miX5_passNights [.ref t, .int a1] h (pV fun h' => h' = hh ∧ SR h hh) := by
  refine Spec.of (ls0 := [.ref t, .int a1, .null, .null, .null, .null, .null, .null, .null]) mo_X5_passNights (Nat.le_of_ble_eq_true rfl) rfl ?_
  rw [ly.1]
  have srh : SR h h := SR.refl h
  unfold f_X5_passNights at hf
  refine V.aload_n dX5_passNights_0 rfl rfl (sT0 hT) ?_
  refine V.getI dX5_passNights_1 fl_X5_78 (sT0 hT) (Or.inl ⟨rfl, SHL_lt (sT0 hT)⟩) rfl rfl ?_
  refine V.nmi (fun x1 ex1 => ?_)
  replace hf := lt_el hf x1 ex1
  refine V.istore_n (ls' := [.ref t, .int a1, .int x1, .null, .null, .null, .null, .null, .null]) dX5_passNights_4 rfl (by decide) rfl ?_
  refine V.iconst (v := 0) dX5_passNights_5 rfl ?_
  refine V.istore_n (ls' := [.ref t, .int a1, .int x1, .int 0, .null, .null, .null, .null, .null]) dX5_passNights_6 rfl (by decide) rfl ?_
  refine V.aload_n dX5_passNights_7 rfl rfl (sT0 hT) ?_
  refine V.getI dX5_passNights_8 fl_X5_84 (sT0 hT) (Or.inl ⟨rfl, SHL_lt (sT0 hT)⟩) rfl rfl ?_
  refine V.nmi (fun x2 ex2 => ?_)
  replace hf := lt_el hf x2 ex2
  refine V.istore (ls' := [.ref t, .int a1, .int x1, .int 0, .int x2, .null, .null, .null, .null]) dX5_passNights_11 (by decide) rfl ?_
  refine V.iconst (v := 1) dX5_passNights_13 rfl ?_
  refine V.istore (ls' := [.ref t, .int a1, .int x1, .int 0, .int x2, .int 1, .null, .null, .null]) dX5_passNights_14 (by decide) rfl ?_
  refine V.iconst (v := 1) dX5_passNights_16 rfl ?_
  refine V.istore (ls' := [.ref t, .int a1, .int x1, .int 0, .int x2, .int 1, .int 1, .null, .null]) dX5_passNights_17 (by decide) rfl ?_
  exact th_X5_passNights_19 ly hT FU a1 x1 0 x2 1 1 h srh hf
set_option maxRecDepth 100000 in
theorem th_X5_lookAtRules_2 {h0 : HP} (ly : Lay h0) {t : Nat} (hT : isT t) {hh : HP}  : ∀ (n : Nat) (l1 : Int32) (h : HP), SR h0 h → f_X5_lookAtRules_2 t n l1 h = some hh → V cX5_lookAtRules miX5_lookAtRules (ZV h0 miX5_lookAtRules hh) 130 2 [.ref t, .int l1] [] h := by
  intro n
  induction n with
  | zero => intro l1 h srh hf; exact absurd hf (by unfold f_X5_lookAtRules_2; simp)
  | succ n ih =>
    intro l1 h srh hf
    unfold f_X5_lookAtRules_2 at hf
    refine V.iload_n dX5_lookAtRules_2 rfl rfl ?_
    refine V.aload_n dX5_lookAtRules_3 rfl rfl (sT0 hT) ?_
    refine V.getI dX5_lookAtRules_4 fl_X5_68 (sT0 hT) (Or.inl ⟨rfl, SHL_lt (sT0 hT)⟩) rfl rfl ?_
    refine V.icmp_ge (tgt := 48) dX5_lookAtRules_7 (by decide) (fun c1 => ?_) (fun c1 => ?_)
    · replace hf := ite_p hf c1
      refine V.vreturn' dX5_lookAtRules_48 rfl ly.1 (Or.inl ⟨rfl, rfl⟩) ?_
      exact ret_V hf srh
    · replace hf := ite_n hf c1
      refine V.aload_n dX5_lookAtRules_10 rfl rfl (sT0 hT) ?_
      refine V.getR (r := t + 16) dX5_lookAtRules_11 fl_X5_48 (sT0 hT) (Or.inl ⟨rfl, SHL_lt (sT0 hT)⟩) rfl (rT_litBy (srh.ly ly) hT) ?_
      refine V.iload_n dX5_lookAtRules_14 rfl rfl ?_
      refine V.aload_n dX5_lookAtRules_15 rfl rfl (sT0 hT) ?_
      refine V.getR (r := t + 1) dX5_lookAtRules_16 fl_X5_12 (sT0 hT) (Or.inl ⟨rfl, SHL_lt (sT0 hT)⟩) rfl (rT_hill (srh.ly ly) hT) ?_
      refine V.aload_n dX5_lookAtRules_19 rfl rfl (sT0 hT) ?_
      refine V.getI dX5_lookAtRules_20 fl_X5_78 (sT0 hT) (Or.inl ⟨rfl, SHL_lt (sT0 hT)⟩) rfl rfl ?_
      refine V.aload_n dX5_lookAtRules_23 rfl rfl (sT0 hT) ?_
      refine V.getR (r := t + 10) dX5_lookAtRules_24 fl_X5_29 (sT0 hT) (Or.inl ⟨rfl, SHL_lt (sT0 hT)⟩) rfl (rT_bornBy (srh.ly ly) hT) ?_
      refine V.iload_n dX5_lookAtRules_27 rfl rfl ?_
      obtain ⟨b2, hf2⟩ := gdi_el hf
      replace hf := hf2
      clear hf2
      refine V.iaload dX5_lookAtRules_28 (sT10 hT) (Or.inl ⟨rfl, SHL_lt (sT10 hT)⟩) b2 ?_
      refine V.aload_n dX5_lookAtRules_29 rfl rfl (sT0 hT) ?_
      refine V.getR (r := t + 11) dX5_lookAtRules_30 fl_X5_33 (sT0 hT) (Or.inl ⟨rfl, SHL_lt (sT0 hT)⟩) rfl (rT_staysBy (srh.ly ly) hT) ?_
      refine V.iload_n dX5_lookAtRules_33 rfl rfl ?_
      obtain ⟨b3, hf2⟩ := gdi_el hf
      replace hf := hf2
      clear hf2
      refine V.iaload dX5_lookAtRules_34 (sT11 hT) (Or.inl ⟨rfl, SHL_lt (sT11 hT)⟩) b3 ?_
      obtain ⟨r6, h5, q4, hf2⟩ := bd2_el hf
      replace hf := hf2
      clear hf2
      refine V.callVI dX5_lookAtRules_35 ml_X5_126 mo_X1_step mv_X1_step (sH0 hT.H) (fun q hq => by cases hq; rfl) (by decide) (Or.inl ⟨rfl, SHL_lt (sH0 hT.H)⟩) (th_X1_step (srh.ly ly) hT.H q4) rfl rfl ⟨Nat.le_of_ble_eq_true rfl, Nat.le_of_ble_eq_true rfl, fun _ => ⟨rfl, rfl⟩⟩ (Nat.le_of_ble_eq_true rfl) rfl (post_I (fun sq => ?_))
      have srh5 : SR h0 h5 := srh.trans sq
      clear sq q4
      obtain ⟨r9, h8, q7, hf2⟩ := bd2_el hf
      replace hf := hf2
      clear hf2
      refine V.callSI dX5_lookAtRules_38 ml_X5_130 mo_J6_bitCount_0f7a4 ms_J6_bitCount_0f7a4 (th_J6_bitCount_0f7a4 (srh5.ly ly) q7) rfl rfl ⟨Nat.le_of_ble_eq_true rfl, Nat.le_of_ble_eq_true rfl, fun _ => ⟨rfl, rfl⟩⟩ (Nat.le_of_ble_eq_true rfl) rfl (post_I (fun sq => ?_))
      have srh8 : SR h0 h8 := srh5.trans sq
      clear sq q7
      obtain ⟨b10, hf2⟩ := gdi_el hf
      replace hf := hf2
      clear hf2
      refine V.iastore dX5_lookAtRules_41 (sT16 hT) (Or.inl ⟨rfl, SHL_lt (sT16 hT)⟩) b10 ?_
      refine V.nameH (fun g11 eg11 => ?_)
      replace hf := lt_el hf g11 eg11
      have srg11 : SR h0 g11 := by rw [eg11]; exact srh8.I _ _ _
      obtain ⟨x12, ex12⟩ : ∃ y : Int32, y = l1 + 1 := ⟨_, rfl⟩
      replace hf := lt_el hf x12 ex12
      refine V.iinc (v := x12) (ls' := [.ref t, .int x12]) dX5_lookAtRules_42 rfl (by decide) ex12.symm rfl ?_
      refine V.goto (tgt := 2) dX5_lookAtRules_45 (by decide) ?_
      exact ih x12 g11 srg11 hf
set_option maxRecDepth 100000 in
theorem th_X5_lookAtRules {h : HP} (ly : Lay h) {t : Nat} (hT : isT t)  {hh : HP} (hf : f_X5_lookAtRules h t = some hh) : Spec yX5_lookAtRules cX5_lookAtRules miX5_lookAtRules [.ref t] h (pV fun h' => h' = hh ∧ SR h hh) := by
  refine Spec.of (ls0 := [.ref t, .null]) mo_X5_lookAtRules (Nat.le_of_ble_eq_true rfl) rfl ?_
  rw [ly.1]
  have srh : SR h h := SR.refl h
  unfold f_X5_lookAtRules at hf
  refine V.iconst (v := 0) dX5_lookAtRules_0 rfl ?_
  refine V.istore_n (ls' := [.ref t, .int 0]) dX5_lookAtRules_1 rfl (by decide) rfl ?_
  exact th_X5_lookAtRules_2 ly hT FU 0 h srh hf
set_option maxRecDepth 100000 in
theorem th_X5_holdElection_26 {h0 : HP} (ly : Lay h0) {t : Nat} (hT : isT t) {rr : Int32} {hh : HP}  : ∀ (n : Nat) (l1 : Int32) (l2 : Int32) (l3 : Int32) (h : HP), SR h0 h → f_X5_holdElection_26 t n l1 l2 l3 h = some (rr, hh) → V cX5_holdElection miX5_holdElection (ZI h0 miX5_holdElection rr hh) 130 26 [.ref t, .int l1, .int l2, .int l3, .null] [] h := by
  intro n
  induction n with
  | zero => intro l1 l2 l3 h srh hf; exact absurd hf (by unfold f_X5_holdElection_26; simp)
  | succ n ih =>
    intro l1 l2 l3 h srh hf
    unfold f_X5_holdElection_26 at hf
    refine V.iload_n dX5_holdElection_26 rfl rfl ?_
    refine V.aload_n dX5_holdElection_27 rfl rfl (sT0 hT) ?_
    refine V.getI dX5_holdElection_28 fl_X5_68 (sT0 hT) (Or.inl ⟨rfl, SHL_lt (sT0 hT)⟩) rfl rfl ?_
    refine V.icmp_ge (tgt := 58) dX5_holdElection_31 (by decide) (fun c5 => ?_) (fun c5 => ?_)
    · replace hf := ite_p hf c5
      refine V.aload_n dX5_holdElection_58 rfl rfl (sT0 hT) ?_
      refine V.iload_n dX5_holdElection_59 rfl rfl ?_
      refine V.putI dX5_holdElection_60 fl_X5_75 (sT0 hT) (Or.inl ⟨rfl, SHL_lt (sT0 hT)⟩) rfl (fun q hq => by cases hq; rfl) ⟨rfl, rfl⟩ ?_
      refine V.nameH (fun g6 eg6 => ?_)
      replace hf := lt_el hf g6 eg6
      have srg6 : SR h0 g6 := by rw [eg6]; exact srh.I _ _ _
      refine V.iconst (v := 1) dX5_holdElection_63 rfl ?_
      refine V.ireturn dX5_holdElection_64 rfl rfl ⟨rfl, rfl⟩ ly.1 ?_
      exact ret_I hf srg6
    · replace hf := ite_n hf c5
      refine V.aload_n dX5_holdElection_34 rfl rfl (sT0 hT) ?_
      refine V.iload_n dX5_holdElection_35 rfl rfl ?_
      obtain ⟨r9, h8, q7, hf2⟩ := bd2_el hf
      replace hf := hf2
      clear hf2
      refine V.callVI dX5_holdElection_36 ml_X5_158 mo_X5_countVotes mv_X5_countVotes (sT0 hT) (fun q hq => by cases hq; rfl) (by decide) (Or.inl ⟨rfl, SHL_lt (sT0 hT)⟩) (th_X5_countVotes (srh.ly ly) hT q7) rfl rfl ⟨Nat.le_of_ble_eq_true rfl, Nat.le_of_ble_eq_true rfl, fun _ => ⟨rfl, rfl⟩⟩ (Nat.le_of_ble_eq_true rfl) rfl (post_I (fun sq => ?_))
      have srh8 : SR h0 h8 := srh.trans sq
      clear sq q7
      refine V.istore (ls' := [.ref t, .int l1, .int l2, .int l3, .int r9]) dX5_holdElection_39 (by decide) rfl ?_
      refine V.iload dX5_holdElection_41 rfl ?_
      refine V.iload_n dX5_holdElection_43 rfl rfl ?_
      refine V.icmp_le (tgt := 52) dX5_holdElection_44 (by decide) (fun c10 => ?_) (fun c10 => ?_)
      · replace hf := ite_p hf c10
        obtain ⟨x11, ex11⟩ : ∃ y : Int32, y = l3 + 1 := ⟨_, rfl⟩
        replace hf := lt_el hf x11 ex11
        refine V.iinc (v := x11) (ls' := [.ref t, .int l1, .int l2, .int x11, .int r9]) dX5_holdElection_52 rfl (by decide) ex11.symm rfl ?_
        refine V.goto (tgt := 26) dX5_holdElection_55 (by decide) ?_
        refine V.less (ls' := [.ref t, .int l1, .int l2, .int x11, .null]) ⟨Or.inr rfl, Or.inr rfl, Or.inr rfl, Or.inr rfl, Or.inl rfl, trivial⟩ ?_
        exact ih l1 l2 x11 h8 srh8 hf
      · replace hf := ite_n hf c10
        refine V.iload dX5_holdElection_47 rfl ?_
        refine V.istore_n (ls' := [.ref t, .int l1, .int r9, .int l3, .int r9]) dX5_holdElection_49 rfl (by decide) rfl ?_
        refine V.iload_n dX5_holdElection_50 rfl rfl ?_
        refine V.istore_n (ls' := [.ref t, .int l3, .int r9, .int l3, .int r9]) dX5_holdElection_51 rfl (by decide) rfl ?_
        obtain ⟨x12, ex12⟩ : ∃ y : Int32, y = l3 + 1 := ⟨_, rfl⟩
        replace hf := lt_el hf x12 ex12
        refine V.iinc (v := x12) (ls' := [.ref t, .int l3, .int r9, .int x12, .int r9]) dX5_holdElection_52 rfl (by decide) ex12.symm rfl ?_
        refine V.goto (tgt := 26) dX5_holdElection_55 (by decide) ?_
        refine V.less (ls' := [.ref t, .int l3, .int r9, .int x12, .null]) ⟨Or.inr rfl, Or.inr rfl, Or.inr rfl, Or.inr rfl, Or.inl rfl, trivial⟩ ?_
        exact ih l3 r9 x12 h8 srh8 hf
set_option maxRecDepth 100000 in
theorem th_X5_holdElection {h : HP} (ly : Lay h) {t : Nat} (hT : isT t)  {rr : Int32} {hh : HP} (hf : f_X5_holdElection h t = some (rr, hh)) : Spec yX5_holdElection cX5_holdElection miX5_holdElection [.ref t] h (pI fun r' h' => (r' = rr ∧ h' = hh) ∧ SR h hh) := by
  refine Spec.of (ls0 := [.ref t, .null, .null, .null, .null]) mo_X5_holdElection (Nat.le_of_ble_eq_true rfl) rfl ?_
  rw [ly.1]
  have srh : SR h h := SR.refl h
  unfold f_X5_holdElection at hf
  refine V.aload_n dX5_holdElection_0 rfl rfl (sT0 hT) ?_
  refine V.getI dX5_holdElection_1 fl_X5_68 (sT0 hT) (Or.inl ⟨rfl, SHL_lt (sT0 hT)⟩) rfl rfl ?_
  refine V.if_eq (tgt := 14) dX5_holdElection_4 (by decide) (fun c1 => ?_) (fun c1 => ?_)
  · replace hf := ite_p hf c1
    refine V.iconst (v := 0) dX5_holdElection_14 rfl ?_
    refine V.ireturn dX5_holdElection_15 rfl rfl ⟨rfl, rfl⟩ ly.1 ?_
    exact ret_I hf srh
  · replace hf := ite_n hf c1
    refine V.aload_n dX5_holdElection_7 rfl rfl (sT0 hT) ?_
    refine V.getI dX5_holdElection_8 fl_X5_72 (sT0 hT) (Or.inl ⟨rfl, SHL_lt (sT0 hT)⟩) rfl rfl ?_
    refine V.if_ne (tgt := 16) dX5_holdElection_11 (by decide) (fun c2 => ?_) (fun c2 => ?_)
    · replace hf := ite_n hf c2
      refine V.aload_n dX5_holdElection_16 rfl rfl (sT0 hT) ?_
      obtain ⟨h4, q3, hf2⟩ := bd_el hf
      replace hf := hf2
      clear hf2
      refine V.callVV dX5_holdElection_17 ml_X5_155 mo_X5_lookAtRules mv_X5_lookAtRules (sT0 hT) (fun q hq => by cases hq; rfl) (by decide) (Or.inl ⟨rfl, SHL_lt (sT0 hT)⟩) (th_X5_lookAtRules (srh.ly ly) hT q3) rfl rfl ⟨Nat.le_of_ble_eq_true rfl, Nat.le_of_ble_eq_true rfl, fun _ => ⟨rfl, rfl⟩⟩ (Nat.le_of_ble_eq_true rfl) (Or.inl rfl) (post_V (fun sq => ?_))
      have srh4 : SR h h4 := srh.trans sq
      clear sq q3
      refine V.iconst (v := 0) dX5_holdElection_20 rfl ?_
      refine V.istore_n (ls' := [.ref t, .int 0, .null, .null, .null]) dX5_holdElection_21 rfl (by decide) rfl ?_
      refine V.iconst (v := (-1)) dX5_holdElection_22 rfl ?_
      refine V.istore_n (ls' := [.ref t, .int 0, .int ((-1)), .null, .null]) dX5_holdElection_23 rfl (by decide) rfl ?_
      refine V.iconst (v := 0) dX5_holdElection_24 rfl ?_
      refine V.istore_n (ls' := [.ref t, .int 0, .int ((-1)), .int 0, .null]) dX5_holdElection_25 rfl (by decide) rfl ?_
      exact th_X5_holdElection_26 ly hT FU 0 (-1) 0 h4 srh4 hf
    · replace hf := ite_p hf c2
      refine V.iconst (v := 0) dX5_holdElection_14 rfl ?_
      refine V.ireturn dX5_holdElection_15 rfl rfl ⟨rfl, rfl⟩ ly.1 ?_
      exact ret_I hf srh
set_option maxRecDepth 100000 in
theorem th_X10_takeRest {h : HP} (ly : Lay h) {t : Nat} (hT : isT t) {y : Nat} (hY : isY y) {a3 : Int32} {rr : Int32} {hh : HP} (hf : f_X10_takeRest h t y a3 = some (rr, hh)) : Spec yX10_takeRest cX10_takeRest miX10_takeRest [.ref 5, .ref t, .ref y, .int a3] h (pI fun r' h' => (r' = rr ∧ h' = hh) ∧ SR h hh) := by
  refine Spec.of (ls0 := [.ref 5, .ref t, .ref y, .int a3]) mo_X10_takeRest (Nat.le_of_ble_eq_true rfl) rfl ?_
  rw [ly.1]
  have srh : SR h h := SR.refl h
  unfold f_X10_takeRest at hf
  refine V.aload_n dX10_takeRest_0 rfl rfl (sY0 hY) ?_
  refine V.getR (r := y + 1) dX10_takeRest_1 fl_X10_72 (sY0 hY) (Or.inl ⟨rfl, SHL_lt (sY0 hY)⟩) rfl (rY_words (srh.ly ly) hY) ?_
  refine V.iload_n dX10_takeRest_4 rfl rfl ?_
  obtain ⟨b1, hf2⟩ := gdi_el hf
  replace hf := hf2
  clear hf2
  refine V.iaload dX10_takeRest_5 (sY1 hY) (Or.inl ⟨rfl, SHL_lt (sY1 hY)⟩) b1 ?_
  refine V.nmi (fun x2 ex2 => ?_)
  replace hf := lt_el hf x2 ex2
  by_cases c3 : x2 = 9
  · replace hf := ite_p hf c3
    refine V.tableIn (tgt := 64) dX10_takeRest_6 (by rw [c3]; decide) (by rw [c3]; decide) (by rw [c3]; rfl) (by decide) ?_
    refine V.aload_n dX10_takeRest_64 rfl rfl rfl ?_
    refine V.aload_n dX10_takeRest_65 rfl rfl (sY0 hY) ?_
    refine V.iload_n dX10_takeRest_66 rfl rfl ?_
    refine V.iconst (v := 1) dX10_takeRest_67 rfl ?_
    refine V.bipush (v := 99) dX10_takeRest_68 rfl ?_
    obtain ⟨r6, h5, q4, hf2⟩ := bd2_el hf
    replace hf := hf2
    clear hf2
    refine V.callSI dX10_takeRest_70 ml_X10_75 mo_X10_takeFirst ms_X10_takeFirst (th_X10_takeFirst (srh.ly ly) hY q4) rfl rfl ⟨Nat.le_of_ble_eq_true rfl, Nat.le_of_ble_eq_true rfl, fun _ => ⟨rfl, rfl⟩⟩ (Nat.le_of_ble_eq_true rfl) rfl (post_I (fun sq => ?_))
    have srh5 : SR h h5 := srh.trans sq
    clear sq q4
    obtain ⟨b7, hf2⟩ := gd_el hf
    replace hf := hf2
    clear hf2
    refine V.ireturn dX10_takeRest_73 rfl (narB b7) ⟨rfl, rfl⟩ ly.1 ?_
    exact ret_I hf srh5
  replace hf := ite_n hf c3
  by_cases c8 : x2 = 10
  · replace hf := ite_p hf c8
    refine V.tableIn (tgt := 84) dX10_takeRest_6 (by rw [c8]; decide) (by rw [c8]; decide) (by rw [c8]; rfl) (by decide) ?_
    refine V.aload_n dX10_takeRest_84 rfl rfl rfl ?_
    refine V.aload_n dX10_takeRest_85 rfl rfl (sT0 hT) ?_
    refine V.aload_n dX10_takeRest_86 rfl rfl (sY0 hY) ?_
    refine V.iload_n dX10_takeRest_87 rfl rfl ?_
    obtain ⟨r11, h10, q9, hf2⟩ := bd2_el hf
    replace hf := hf2
    clear hf2
    refine V.callSI dX10_takeRest_88 ml_X10_79 mo_X10_takePlace ms_X10_takePlace (th_X10_takePlace (srh.ly ly) hT hY q9) rfl rfl ⟨Nat.le_of_ble_eq_true rfl, Nat.le_of_ble_eq_true rfl, fun _ => ⟨rfl, rfl⟩⟩ (Nat.le_of_ble_eq_true rfl) rfl (post_I (fun sq => ?_))
    have srh10 : SR h h10 := srh.trans sq
    clear sq q9
    obtain ⟨b12, hf2⟩ := gd_el hf
    replace hf := hf2
    clear hf2
    refine V.ireturn dX10_takeRest_91 rfl (narB b12) ⟨rfl, rfl⟩ ly.1 ?_
    exact ret_I hf srh10
  replace hf := ite_n hf c8
  by_cases c13 : x2 = 11
  · replace hf := ite_p hf c13
    refine V.tableIn (tgt := 92) dX10_takeRest_6 (by rw [c13]; decide) (by rw [c13]; decide) (by rw [c13]; rfl) (by decide) ?_
    refine V.aload_n dX10_takeRest_92 rfl rfl rfl ?_
    refine V.aload_n dX10_takeRest_93 rfl rfl (sT0 hT) ?_
    refine V.aload_n dX10_takeRest_94 rfl rfl (sY0 hY) ?_
    refine V.iload_n dX10_takeRest_95 rfl rfl ?_
    obtain ⟨r16, h15, q14, hf2⟩ := bd2_el hf
    replace hf := hf2
    clear hf2
    refine V.callSI dX10_takeRest_96 ml_X10_82 mo_X10_takeRuleName ms_X10_takeRuleName (th_X10_takeRuleName (srh.ly ly) hT hY q14) rfl rfl ⟨Nat.le_of_ble_eq_true rfl, Nat.le_of_ble_eq_true rfl, fun _ => ⟨rfl, rfl⟩⟩ (Nat.le_of_ble_eq_true rfl) rfl (post_I (fun sq => ?_))
    have srh15 : SR h h15 := srh.trans sq
    clear sq q14
    obtain ⟨b17, hf2⟩ := gd_el hf
    replace hf := hf2
    clear hf2
    refine V.ireturn dX10_takeRest_99 rfl (narB b17) ⟨rfl, rfl⟩ ly.1 ?_
    exact ret_I hf srh15
  replace hf := ite_n hf c13
  by_cases c18 : x2 = 12
  · replace hf := ite_p hf c18
    refine V.tableIn (tgt := 108) dX10_takeRest_6 (by rw [c18]; decide) (by rw [c18]; decide) (by rw [c18]; rfl) (by decide) ?_
    refine V.iconst (v := 1) dX10_takeRest_108 rfl ?_
    refine V.ireturn dX10_takeRest_109 rfl rfl ⟨rfl, rfl⟩ ly.1 ?_
    exact ret_I hf srh
  replace hf := ite_n hf c18
  by_cases c19 : x2 = 13
  · replace hf := ite_p hf c19
    refine V.tableIn (tgt := 74) dX10_takeRest_6 (by rw [c19]; decide) (by rw [c19]; decide) (by rw [c19]; rfl) (by decide) ?_
    refine V.aload_n dX10_takeRest_74 rfl rfl rfl ?_
    refine V.aload_n dX10_takeRest_75 rfl rfl (sY0 hY) ?_
    refine V.iload_n dX10_takeRest_76 rfl rfl ?_
    refine V.iconst (v := 0) dX10_takeRest_77 rfl ?_
    refine V.bipush (v := 16) dX10_takeRest_78 rfl ?_
    obtain ⟨r22, h21, q20, hf2⟩ := bd2_el hf
    replace hf := hf2
    clear hf2
    refine V.callSI dX10_takeRest_80 ml_X10_75 mo_X10_takeFirst ms_X10_takeFirst (th_X10_takeFirst (srh.ly ly) hY q20) rfl rfl ⟨Nat.le_of_ble_eq_true rfl, Nat.le_of_ble_eq_true rfl, fun _ => ⟨rfl, rfl⟩⟩ (Nat.le_of_ble_eq_true rfl) rfl (post_I (fun sq => ?_))
    have srh21 : SR h h21 := srh.trans sq
    clear sq q20
    obtain ⟨b23, hf2⟩ := gd_el hf
    replace hf := hf2
    clear hf2
    refine V.ireturn dX10_takeRest_83 rfl (narB b23) ⟨rfl, rfl⟩ ly.1 ?_
    exact ret_I hf srh21
  replace hf := ite_n hf c19
  by_cases c24 : x2 = 14
  · replace hf := ite_p hf c24
    refine V.tableIn (tgt := 108) dX10_takeRest_6 (by rw [c24]; decide) (by rw [c24]; decide) (by rw [c24]; rfl) (by decide) ?_
    refine V.iconst (v := 1) dX10_takeRest_108 rfl ?_
    refine V.ireturn dX10_takeRest_109 rfl rfl ⟨rfl, rfl⟩ ly.1 ?_
    exact ret_I hf srh
  replace hf := ite_n hf c24
  by_cases c25 : x2 = 15
  · replace hf := ite_p hf c25
    refine V.tableIn (tgt := 100) dX10_takeRest_6 (by rw [c25]; decide) (by rw [c25]; decide) (by rw [c25]; rfl) (by decide) ?_
    refine V.aload_n dX10_takeRest_100 rfl rfl rfl ?_
    refine V.aload_n dX10_takeRest_101 rfl rfl (sT0 hT) ?_
    refine V.aload_n dX10_takeRest_102 rfl rfl (sY0 hY) ?_
    refine V.iload_n dX10_takeRest_103 rfl rfl ?_
    obtain ⟨r28, h27, q26, hf2⟩ := bd2_el hf
    replace hf := hf2
    clear hf2
    refine V.callSI dX10_takeRest_104 ml_X10_85 mo_X10_takeTest ms_X10_takeTest (th_X10_takeTest (srh.ly ly) hT hY q26) rfl rfl ⟨Nat.le_of_ble_eq_true rfl, Nat.le_of_ble_eq_true rfl, fun _ => ⟨rfl, rfl⟩⟩ (Nat.le_of_ble_eq_true rfl) rfl (post_I (fun sq => ?_))
    have srh27 : SR h h27 := srh.trans sq
    clear sq q26
    obtain ⟨b29, hf2⟩ := gd_el hf
    replace hf := hf2
    clear hf2
    refine V.ireturn dX10_takeRest_107 rfl (narB b29) ⟨rfl, rfl⟩ ly.1 ?_
    exact ret_I hf srh27
  replace hf := ite_n hf c25
  by_cases c30 : x2 = 16
  · replace hf := ite_p hf c30
    refine V.tableIn (tgt := 108) dX10_takeRest_6 (by rw [c30]; decide) (by rw [c30]; decide) (by rw [c30]; rfl) (by decide) ?_
    refine V.iconst (v := 1) dX10_takeRest_108 rfl ?_
    refine V.ireturn dX10_takeRest_109 rfl rfl ⟨rfl, rfl⟩ ly.1 ?_
    exact ret_I hf srh
  replace hf := ite_n hf c30
  by_cases c31 : x2 = 17
  · replace hf := ite_p hf c31
    refine V.tableIn (tgt := 108) dX10_takeRest_6 (by rw [c31]; decide) (by rw [c31]; decide) (by rw [c31]; rfl) (by decide) ?_
    refine V.iconst (v := 1) dX10_takeRest_108 rfl ?_
    refine V.ireturn dX10_takeRest_109 rfl rfl ⟨rfl, rfl⟩ ly.1 ?_
    exact ret_I hf srh
  replace hf := ite_n hf c31
  by_cases c32 : x2 = 18
  · replace hf := ite_p hf c32
    refine V.tableIn (tgt := 108) dX10_takeRest_6 (by rw [c32]; decide) (by rw [c32]; decide) (by rw [c32]; rfl) (by decide) ?_
    refine V.iconst (v := 1) dX10_takeRest_108 rfl ?_
    refine V.ireturn dX10_takeRest_109 rfl rfl ⟨rfl, rfl⟩ ly.1 ?_
    exact ret_I hf srh
  replace hf := ite_n hf c32
  by_cases c33 : x2 = 19
  · replace hf := ite_p hf c33
    refine V.tableIn (tgt := 64) dX10_takeRest_6 (by rw [c33]; decide) (by rw [c33]; decide) (by rw [c33]; rfl) (by decide) ?_
    refine V.aload_n dX10_takeRest_64 rfl rfl rfl ?_
    refine V.aload_n dX10_takeRest_65 rfl rfl (sY0 hY) ?_
    refine V.iload_n dX10_takeRest_66 rfl rfl ?_
    refine V.iconst (v := 1) dX10_takeRest_67 rfl ?_
    refine V.bipush (v := 99) dX10_takeRest_68 rfl ?_
    obtain ⟨r36, h35, q34, hf2⟩ := bd2_el hf
    replace hf := hf2
    clear hf2
    refine V.callSI dX10_takeRest_70 ml_X10_75 mo_X10_takeFirst ms_X10_takeFirst (th_X10_takeFirst (srh.ly ly) hY q34) rfl rfl ⟨Nat.le_of_ble_eq_true rfl, Nat.le_of_ble_eq_true rfl, fun _ => ⟨rfl, rfl⟩⟩ (Nat.le_of_ble_eq_true rfl) rfl (post_I (fun sq => ?_))
    have srh35 : SR h h35 := srh.trans sq
    clear sq q34
    obtain ⟨b37, hf2⟩ := gd_el hf
    replace hf := hf2
    clear hf2
    refine V.ireturn dX10_takeRest_73 rfl (narB b37) ⟨rfl, rfl⟩ ly.1 ?_
    exact ret_I hf srh35
  replace hf := ite_n hf c33
  have nc3 := lv_neT c3 (a := 9) rfl
  have nc8 := lv_neT c8 (a := 10) rfl
  have nc13 := lv_neT c13 (a := 11) rfl
  have nc18 := lv_neT c18 (a := 12) rfl
  have nc19 := lv_neT c19 (a := 13) rfl
  have nc24 := lv_neT c24 (a := 14) rfl
  have nc25 := lv_neT c25 (a := 15) rfl
  have nc30 := lv_neT c30 (a := 16) rfl
  have nc31 := lv_neT c31 (a := 17) rfl
  have nc32 := lv_neT c32 (a := 18) rfl
  have nc33 := lv_neT c33 (a := 19) rfl
  refine V.tableOut (tgt := 108) dX10_takeRest_6 (by omega) (by decide) ?_
  refine V.iconst (v := 1) dX10_takeRest_108 rfl ?_
  refine V.ireturn dX10_takeRest_109 rfl rfl ⟨rfl, rfl⟩ ly.1 ?_
  exact ret_I hf srh
set_option maxRecDepth 100000 in
theorem th_X10_takeStepWord_65 {h0 : HP} (ly : Lay h0) {y : Nat} (hY : isY y) {rr : Int32} {hh : HP}  : ∀ (l2 : Int32) (h : HP), SR h0 h → f_X10_takeStepWord_65 y l2 h = some (rr, hh) → V cX10_takeStepWord miX10_takeStepWord (ZI h0 miX10_takeStepWord rr hh) 130 65 [.ref 5, .ref y, .int l2] [] h := by
  intro l2 h srh hf
  unfold f_X10_takeStepWord_65 at hf
  refine V.aload_n dX10_takeStepWord_65 rfl rfl (sY0 hY) ?_
  refine V.iload_n dX10_takeStepWord_66 rfl rfl ?_
  obtain ⟨h35, q34, hf2⟩ := bd_el hf
  replace hf := hf2
  clear hf2
  refine V.callVV dX10_takeStepWord_67 ml_X10_49 mo_X9_add mv_X9_add (sY0 hY) (fun q hq => by cases hq; rfl) (by decide) (Or.inl ⟨rfl, SHL_lt (sY0 hY)⟩) (th_X9_add (srh.ly ly) hY q34) rfl rfl ⟨Nat.le_of_ble_eq_true rfl, Nat.le_of_ble_eq_true rfl, fun _ => ⟨rfl, rfl⟩⟩ (Nat.le_of_ble_eq_true rfl) (Or.inl rfl) (post_V (fun sq => ?_))
  have srh35 : SR h0 h35 := srh.trans sq
  clear sq q34
  refine V.aload_n dX10_takeStepWord_70 rfl rfl (sY0 hY) ?_
  refine V.dup dX10_takeStepWord_71 rfl ?_
  refine V.getI dX10_takeStepWord_72 fl_X10_66 (sY0 hY) (Or.inl ⟨rfl, SHL_lt (sY0 hY)⟩) rfl rfl ?_
  refine V.iconst (v := 1) dX10_takeStepWord_75 rfl ?_
  refine V.iadd dX10_takeStepWord_76 ?_
  refine V.putI dX10_takeStepWord_77 fl_X10_66 (sY0 hY) (Or.inl ⟨rfl, SHL_lt (sY0 hY)⟩) rfl (fun q hq => by cases hq; rfl) ⟨rfl, rfl⟩ ?_
  refine V.nameH (fun g36 eg36 => ?_)
  replace hf := lt_el hf g36 eg36
  have srg36 : SR h0 g36 := by rw [eg36]; exact srh35.I _ _ _
  refine V.aload_n dX10_takeStepWord_80 rfl rfl rfl ?_
  obtain ⟨h38, q37, hf2⟩ := bd_el hf
  replace hf := hf2
  clear hf2
  refine V.callVV dX10_takeStepWord_81 ml_X10_57 mo_X4_advance mv_X4_advance rfl (fun q hq => by cases hq; rfl) (by decide) (Or.inl ⟨rfl, SHL_lt rfl⟩) (th_X4_advance (srg36.ly ly) q37) rfl rfl ⟨Nat.le_of_ble_eq_true rfl, Nat.le_of_ble_eq_true rfl, fun _ => ⟨rfl, rfl⟩⟩ (Nat.le_of_ble_eq_true rfl) (Or.inl rfl) (post_V (fun sq => ?_))
  have srh38 : SR h0 h38 := srg36.trans sq
  clear sq q37
  refine V.iconst (v := 1) dX10_takeStepWord_84 rfl ?_
  refine V.ireturn dX10_takeStepWord_85 rfl rfl ⟨rfl, rfl⟩ ly.1 ?_
  exact ret_I hf srh38
set_option maxRecDepth 100000 in
theorem th_X10_takeStepWord {h : HP} (ly : Lay h) {y : Nat} (hY : isY y)  {rr : Int32} {hh : HP} (hf : f_X10_takeStepWord h y = some (rr, hh)) : Spec yX10_takeStepWord cX10_takeStepWord miX10_takeStepWord [.ref 5, .ref y] h (pI fun r' h' => (r' = rr ∧ h' = hh) ∧ SR h hh) := by
  refine Spec.of (ls0 := [.ref 5, .ref y, .null]) mo_X10_takeStepWord (Nat.le_of_ble_eq_true rfl) rfl ?_
  rw [ly.1]
  have srh : SR h h := SR.refl h
  unfold f_X10_takeStepWord at hf
  refine V.aload_n dX10_takeStepWord_0 rfl rfl rfl ?_
  obtain ⟨r3, h2, q1, hf2⟩ := bd2_el hf
  replace hf := hf2
  clear hf2
  refine V.callVI dX10_takeStepWord_1 ml_X10_60 mo_X4_wordNumber mv_X4_wordNumber rfl (fun q hq => by cases hq; rfl) (by decide) (Or.inl ⟨rfl, SHL_lt rfl⟩) (th_X4_wordNumber (srh.ly ly) q1) rfl rfl ⟨Nat.le_of_ble_eq_true rfl, Nat.le_of_ble_eq_true rfl, fun _ => ⟨rfl, rfl⟩⟩ (Nat.le_of_ble_eq_true rfl) rfl (post_I (fun sq => ?_))
  have srh2 : SR h h2 := srh.trans sq
  clear sq q1
  refine V.istore_n (ls' := [.ref 5, .ref y, .int r3]) dX10_takeStepWord_4 rfl (by decide) rfl ?_
  refine V.iload_n dX10_takeStepWord_5 rfl rfl ?_
  obtain ⟨r6, h5, q4, hf2⟩ := bd2_el hf
  replace hf := hf2
  clear hf2
  refine V.callSI dX10_takeStepWord_6 ml_X10_63 mo_X10_isStep ms_X10_isStep (th_X10_isStep (srh2.ly ly) q4) rfl rfl ⟨Nat.le_of_ble_eq_true rfl, Nat.le_of_ble_eq_true rfl, fun _ => ⟨rfl, rfl⟩⟩ (Nat.le_of_ble_eq_true rfl) rfl (post_I (fun sq => ?_))
  have srh5 : SR h h5 := srh2.trans sq
  clear sq q4
  refine V.if_ne (tgt := 18) dX10_takeStepWord_9 (by decide) (fun c7 => ?_) (fun c7 => ?_)
  · replace hf := ite_n hf c7
    refine V.aload_n dX10_takeStepWord_18 rfl rfl (sY0 hY) ?_
    refine V.getI dX10_takeStepWord_19 fl_X10_66 (sY0 hY) (Or.inl ⟨rfl, SHL_lt (sY0 hY)⟩) rfl rfl ?_
    refine V.bipush (v := 30) dX10_takeStepWord_22 rfl ?_
    refine V.icmp_ge (tgt := 36) dX10_takeStepWord_24 (by decide) (fun c8 => ?_) (fun c8 => ?_)
    · replace hf := ite_p hf c8
      refine V.aload_n dX10_takeStepWord_36 rfl rfl rfl ?_
      refine V.bipush (v := 6) dX10_takeStepWord_37 rfl ?_
      obtain ⟨r11, h10, q9, hf2⟩ := bd2_el hf
      replace hf := hf2
      clear hf2
      refine V.callVI dX10_takeStepWord_39 ml_X10_43 mo_X4_fail mv_X4_fail rfl (fun q hq => by cases hq; rfl) (by decide) (Or.inl ⟨rfl, SHL_lt rfl⟩) (th_X4_fail (srh5.ly ly) q9) rfl rfl ⟨Nat.le_of_ble_eq_true rfl, Nat.le_of_ble_eq_true rfl, fun _ => ⟨rfl, rfl⟩⟩ (Nat.le_of_ble_eq_true rfl) rfl (post_I (fun sq => ?_))
      have srh10 : SR h h10 := srh5.trans sq
      clear sq q9
      obtain ⟨b12, hf2⟩ := gd_el hf
      replace hf := hf2
      clear hf2
      refine V.ireturn dX10_takeStepWord_42 rfl (narB b12) ⟨rfl, rfl⟩ ly.1 ?_
      exact ret_I hf srh10
    · replace hf := ite_n hf c8
      refine V.aload_n dX10_takeStepWord_27 rfl rfl (sY0 hY) ?_
      refine V.getI dX10_takeStepWord_28 fl_X10_15 (sY0 hY) (Or.inl ⟨rfl, SHL_lt (sY0 hY)⟩) rfl rfl ?_
      refine V.bipush (v := 60) dX10_takeStepWord_31 rfl ?_
      refine V.icmp_lt (tgt := 43) dX10_takeStepWord_33 (by decide) (fun c13 => ?_) (fun c13 => ?_)
      · replace hf := ite_p hf c13
        refine V.iload_n dX10_takeStepWord_43 rfl rfl ?_
        obtain ⟨r16, h15, q14, hf2⟩ := bd2_el hf
        replace hf := hf2
        clear hf2
        refine V.callSI dX10_takeStepWord_44 ml_X10_69 mo_X9_isBlock ms_X9_isBlock (th_X9_isBlock (srh5.ly ly) q14) rfl rfl ⟨Nat.le_of_ble_eq_true rfl, Nat.le_of_ble_eq_true rfl, fun _ => ⟨rfl, rfl⟩⟩ (Nat.le_of_ble_eq_true rfl) rfl (post_I (fun sq => ?_))
        have srh15 : SR h h15 := srh5.trans sq
        clear sq q14
        refine V.if_eq (tgt := 65) dX10_takeStepWord_47 (by decide) (fun c17 => ?_) (fun c17 => ?_)
        · replace hf := ite_p hf c17
          exact th_X10_takeStepWord_65 ly hY r3 h15 srh15 hf
        · replace hf := ite_n hf c17
          refine V.aload_n dX10_takeStepWord_50 rfl rfl (sY0 hY) ?_
          obtain ⟨r20, h19, q18, hf2⟩ := bd2_el hf
          replace hf := hf2
          clear hf2
          refine V.callVI dX10_takeStepWord_51 ml_X10_39 mo_X9_countOpen mv_X9_countOpen (sY0 hY) (fun q hq => by cases hq; rfl) (by decide) (Or.inl ⟨rfl, SHL_lt (sY0 hY)⟩) (th_X9_countOpen (srh15.ly ly) hY q18) rfl rfl ⟨Nat.le_of_ble_eq_true rfl, Nat.le_of_ble_eq_true rfl, fun _ => ⟨rfl, rfl⟩⟩ (Nat.le_of_ble_eq_true rfl) rfl (post_I (fun sq => ?_))
          have srh19 : SR h h19 := srh15.trans sq
          clear sq q18
          refine V.iconst (v := 3) dX10_takeStepWord_54 rfl ?_
          refine V.icmp_lt (tgt := 65) dX10_takeStepWord_55 (by decide) (fun c21 => ?_) (fun c21 => ?_)
          · replace hf := ite_p hf c21
            exact th_X10_takeStepWord_65 ly hY r3 h19 srh19 hf
          · replace hf := ite_n hf c21
            refine V.aload_n dX10_takeStepWord_58 rfl rfl rfl ?_
            refine V.bipush (v := 7) dX10_takeStepWord_59 rfl ?_
            obtain ⟨r24, h23, q22, hf2⟩ := bd2_el hf
            replace hf := hf2
            clear hf2
            refine V.callVI dX10_takeStepWord_61 ml_X10_43 mo_X4_fail mv_X4_fail rfl (fun q hq => by cases hq; rfl) (by decide) (Or.inl ⟨rfl, SHL_lt rfl⟩) (th_X4_fail (srh19.ly ly) q22) rfl rfl ⟨Nat.le_of_ble_eq_true rfl, Nat.le_of_ble_eq_true rfl, fun _ => ⟨rfl, rfl⟩⟩ (Nat.le_of_ble_eq_true rfl) rfl (post_I (fun sq => ?_))
            have srh23 : SR h h23 := srh19.trans sq
            clear sq q22
            obtain ⟨b25, hf2⟩ := gd_el hf
            replace hf := hf2
            clear hf2
            refine V.ireturn dX10_takeStepWord_64 rfl (narB b25) ⟨rfl, rfl⟩ ly.1 ?_
            exact ret_I hf srh23
      · replace hf := ite_n hf c13
        refine V.aload_n dX10_takeStepWord_36 rfl rfl rfl ?_
        refine V.bipush (v := 6) dX10_takeStepWord_37 rfl ?_
        obtain ⟨r28, h27, q26, hf2⟩ := bd2_el hf
        replace hf := hf2
        clear hf2
        refine V.callVI dX10_takeStepWord_39 ml_X10_43 mo_X4_fail mv_X4_fail rfl (fun q hq => by cases hq; rfl) (by decide) (Or.inl ⟨rfl, SHL_lt rfl⟩) (th_X4_fail (srh5.ly ly) q26) rfl rfl ⟨Nat.le_of_ble_eq_true rfl, Nat.le_of_ble_eq_true rfl, fun _ => ⟨rfl, rfl⟩⟩ (Nat.le_of_ble_eq_true rfl) rfl (post_I (fun sq => ?_))
        have srh27 : SR h h27 := srh5.trans sq
        clear sq q26
        obtain ⟨b29, hf2⟩ := gd_el hf
        replace hf := hf2
        clear hf2
        refine V.ireturn dX10_takeStepWord_42 rfl (narB b29) ⟨rfl, rfl⟩ ly.1 ?_
        exact ret_I hf srh27
  · replace hf := ite_p hf c7
    refine V.aload_n dX10_takeStepWord_12 rfl rfl rfl ?_
    refine V.iconst (v := 2) dX10_takeStepWord_13 rfl ?_
    obtain ⟨r32, h31, q30, hf2⟩ := bd2_el hf
    replace hf := hf2
    clear hf2
    refine V.callVI dX10_takeStepWord_14 ml_X10_43 mo_X4_fail mv_X4_fail rfl (fun q hq => by cases hq; rfl) (by decide) (Or.inl ⟨rfl, SHL_lt rfl⟩) (th_X4_fail (srh5.ly ly) q30) rfl rfl ⟨Nat.le_of_ble_eq_true rfl, Nat.le_of_ble_eq_true rfl, fun _ => ⟨rfl, rfl⟩⟩ (Nat.le_of_ble_eq_true rfl) rfl (post_I (fun sq => ?_))
    have srh31 : SR h h31 := srh5.trans sq
    clear sq q30
    obtain ⟨b33, hf2⟩ := gd_el hf
    replace hf := hf2
    clear hf2
    refine V.ireturn dX10_takeStepWord_17 rfl (narB b33) ⟨rfl, rfl⟩ ly.1 ?_
    exact ret_I hf srh31
set_option maxRecDepth 100000 in
theorem th_X10_takeEnd {h : HP} (ly : Lay h) {y : Nat} (hY : isY y)  {rr : Int32} {hh : HP} (hf : f_X10_takeEnd h y = some (rr, hh)) : Spec yX10_takeEnd cX10_takeEnd miX10_takeEnd [.ref 5, .ref y] h (pI fun r' h' => (r' = rr ∧ h' = hh) ∧ SR h hh) := by
  refine Spec.of (ls0 := [.ref 5, .ref y, .null, .null]) mo_X10_takeEnd (Nat.le_of_ble_eq_true rfl) rfl ?_
  rw [ly.1]
  have srh : SR h h := SR.refl h
  unfold f_X10_takeEnd at hf
  refine V.aload_n dX10_takeEnd_0 rfl rfl (sY0 hY) ?_
  obtain ⟨r3, h2, q1, hf2⟩ := bd2_el hf
  replace hf := hf2
  clear hf2
  refine V.callVI dX10_takeEnd_1 ml_X10_46 mo_X9_openEntry mv_X9_openEntry (sY0 hY) (fun q hq => by cases hq; rfl) (by decide) (Or.inl ⟨rfl, SHL_lt (sY0 hY)⟩) (th_X9_openEntry (srh.ly ly) hY q1) rfl rfl ⟨Nat.le_of_ble_eq_true rfl, Nat.le_of_ble_eq_true rfl, fun _ => ⟨rfl, rfl⟩⟩ (Nat.le_of_ble_eq_true rfl) rfl (post_I (fun sq => ?_))
  have srh2 : SR h h2 := srh.trans sq
  clear sq q1
  refine V.istore_n (ls' := [.ref 5, .ref y, .int r3, .null]) dX10_takeEnd_4 rfl (by decide) rfl ?_
  refine V.aload_n dX10_takeEnd_5 rfl rfl (sY0 hY) ?_
  refine V.getI dX10_takeEnd_6 fl_X10_15 (sY0 hY) (Or.inl ⟨rfl, SHL_lt (sY0 hY)⟩) rfl rfl ?_
  refine V.nmi (fun x4 ex4 => ?_)
  replace hf := lt_el hf x4 ex4
  refine V.istore_n (ls' := [.ref 5, .ref y, .int r3, .int x4]) dX10_takeEnd_9 rfl (by decide) rfl ?_
  refine V.iload_n dX10_takeEnd_10 rfl rfl ?_
  refine V.if_lt (tgt := 20) dX10_takeEnd_11 (by decide) (fun c5 => ?_) (fun c5 => ?_)
  · replace hf := ite_p hf c5
    refine V.aload_n dX10_takeEnd_20 rfl rfl rfl ?_
    refine V.iconst (v := 2) dX10_takeEnd_21 rfl ?_
    obtain ⟨r8, h7, q6, hf2⟩ := bd2_el hf
    replace hf := hf2
    clear hf2
    refine V.callVI dX10_takeEnd_22 ml_X10_43 mo_X4_fail mv_X4_fail rfl (fun q hq => by cases hq; rfl) (by decide) (Or.inl ⟨rfl, SHL_lt rfl⟩) (th_X4_fail (srh2.ly ly) q6) rfl rfl ⟨Nat.le_of_ble_eq_true rfl, Nat.le_of_ble_eq_true rfl, fun _ => ⟨rfl, rfl⟩⟩ (Nat.le_of_ble_eq_true rfl) rfl (post_I (fun sq => ?_))
    have srh7 : SR h h7 := srh2.trans sq
    clear sq q6
    obtain ⟨b9, hf2⟩ := gd_el hf
    replace hf := hf2
    clear hf2
    refine V.ireturn dX10_takeEnd_25 rfl (narB b9) ⟨rfl, rfl⟩ ly.1 ?_
    exact ret_I hf srh7
  · replace hf := ite_n hf c5
    refine V.iload_n dX10_takeEnd_14 rfl rfl ?_
    refine V.bipush (v := 60) dX10_takeEnd_15 rfl ?_
    refine V.icmp_lt (tgt := 26) dX10_takeEnd_17 (by decide) (fun c10 => ?_) (fun c10 => ?_)
    · replace hf := ite_p hf c10
      refine V.aload_n dX10_takeEnd_26 rfl rfl (sY0 hY) ?_
      refine V.bipush (v := 20) dX10_takeEnd_27 rfl ?_
      obtain ⟨h12, q11, hf2⟩ := bd_el hf
      replace hf := hf2
      clear hf2
      refine V.callVV dX10_takeEnd_29 ml_X10_49 mo_X9_add mv_X9_add (sY0 hY) (fun q hq => by cases hq; rfl) (by decide) (Or.inl ⟨rfl, SHL_lt (sY0 hY)⟩) (th_X9_add (srh2.ly ly) hY q11) rfl rfl ⟨Nat.le_of_ble_eq_true rfl, Nat.le_of_ble_eq_true rfl, fun _ => ⟨rfl, rfl⟩⟩ (Nat.le_of_ble_eq_true rfl) (Or.inl rfl) (post_V (fun sq => ?_))
      have srh12 : SR h h12 := srh2.trans sq
      clear sq q11
      refine V.aload_n dX10_takeEnd_32 rfl rfl (sY0 hY) ?_
      refine V.getR (r := y + 5) dX10_takeEnd_33 fl_X10_53 (sY0 hY) (Or.inl ⟨rfl, SHL_lt (sY0 hY)⟩) rfl (rY_partners (srh12.ly ly) hY) ?_
      refine V.iload_n dX10_takeEnd_36 rfl rfl ?_
      refine V.iload_n dX10_takeEnd_37 rfl rfl ?_
      obtain ⟨b13, hf2⟩ := gdi_el hf
      replace hf := hf2
      clear hf2
      refine V.iastore dX10_takeEnd_38 (sY5 hY) (Or.inl ⟨rfl, SHL_lt (sY5 hY)⟩) b13 ?_
      refine V.nameH (fun g14 eg14 => ?_)
      replace hf := lt_el hf g14 eg14
      have srg14 : SR h g14 := by rw [eg14]; exact srh12.I _ _ _
      refine V.aload_n dX10_takeEnd_39 rfl rfl (sY0 hY) ?_
      refine V.getR (r := y + 5) dX10_takeEnd_40 fl_X10_53 (sY0 hY) (Or.inl ⟨rfl, SHL_lt (sY0 hY)⟩) rfl (rY_partners (srg14.ly ly) hY) ?_
      refine V.iload_n dX10_takeEnd_43 rfl rfl ?_
      refine V.iload_n dX10_takeEnd_44 rfl rfl ?_
      obtain ⟨b15, hf2⟩ := gdi_el hf
      replace hf := hf2
      clear hf2
      refine V.iastore dX10_takeEnd_45 (sY5 hY) (Or.inl ⟨rfl, SHL_lt (sY5 hY)⟩) b15 ?_
      refine V.nameH (fun g16 eg16 => ?_)
      replace hf := lt_el hf g16 eg16
      have srg16 : SR h g16 := by rw [eg16]; exact srg14.I _ _ _
      refine V.aload_n dX10_takeEnd_46 rfl rfl rfl ?_
      obtain ⟨h18, q17, hf2⟩ := bd_el hf
      replace hf := hf2
      clear hf2
      refine V.callVV dX10_takeEnd_47 ml_X10_57 mo_X4_advance mv_X4_advance rfl (fun q hq => by cases hq; rfl) (by decide) (Or.inl ⟨rfl, SHL_lt rfl⟩) (th_X4_advance (srg16.ly ly) q17) rfl rfl ⟨Nat.le_of_ble_eq_true rfl, Nat.le_of_ble_eq_true rfl, fun _ => ⟨rfl, rfl⟩⟩ (Nat.le_of_ble_eq_true rfl) (Or.inl rfl) (post_V (fun sq => ?_))
      have srh18 : SR h h18 := srg16.trans sq
      clear sq q17
      refine V.iconst (v := 1) dX10_takeEnd_50 rfl ?_
      refine V.ireturn dX10_takeEnd_51 rfl rfl ⟨rfl, rfl⟩ ly.1 ?_
      exact ret_I hf srh18
    · replace hf := ite_n hf c10
      refine V.aload_n dX10_takeEnd_20 rfl rfl rfl ?_
      refine V.iconst (v := 2) dX10_takeEnd_21 rfl ?_
      obtain ⟨r21, h20, q19, hf2⟩ := bd2_el hf
      replace hf := hf2
      clear hf2
      refine V.callVI dX10_takeEnd_22 ml_X10_43 mo_X4_fail mv_X4_fail rfl (fun q hq => by cases hq; rfl) (by decide) (Or.inl ⟨rfl, SHL_lt rfl⟩) (th_X4_fail (srh2.ly ly) q19) rfl rfl ⟨Nat.le_of_ble_eq_true rfl, Nat.le_of_ble_eq_true rfl, fun _ => ⟨rfl, rfl⟩⟩ (Nat.le_of_ble_eq_true rfl) rfl (post_I (fun sq => ?_))
      have srh20 : SR h h20 := srh2.trans sq
      clear sq q19
      obtain ⟨b22, hf2⟩ := gd_el hf
      replace hf := hf2
      clear hf2
      refine V.ireturn dX10_takeEnd_25 rfl (narB b22) ⟨rfl, rfl⟩ ly.1 ?_
      exact ret_I hf srh20
set_option maxRecDepth 100000 in
theorem th_X10_takeYear_62 {h0 : HP} (ly : Lay h0) {t : Nat} (hT : isT t) {y : Nat} (hY : isY y) {rr : Int32} {hh : HP} {K2 : Int32 → HP → Option (Int32 × HP)} (kok2 : ∀ (l3 : Int32) (g : HP), SR h0 g → K2 l3 g = some (rr, hh) → V cX10_takeYear miX10_takeYear (ZI h0 miX10_takeYear rr hh) 130 2 [.ref 5, .ref t, .ref y, .int l3, .null, .null] [] g) : ∀ (l3 : Int32) (s0 : Int32) (h : HP), SR h0 h → f_X10_takeYear_62 t y K2 l3 s0 h = some (rr, hh) → V cX10_takeYear miX10_takeYear (ZI h0 miX10_takeYear rr hh) 130 62 [.ref 5, .ref t, .ref y, .int l3, .null, .null] [.int s0] h := by
  intro l3 s0 h srh hf
  unfold f_X10_takeYear_62 at hf
  refine V.istore (ls' := [.ref 5, .ref t, .ref y, .int l3, .null, .int s0]) dX10_takeYear_62 (by decide) rfl ?_
  refine V.iload dX10_takeYear_64 rfl ?_
  refine V.if_eq (tgt := 78) dX10_takeYear_66 (by decide) (fun c22 => ?_) (fun c22 => ?_)
  · replace hf := ite_p hf c22
    refine V.iconst (v := 0) dX10_takeYear_78 rfl ?_
    refine V.ireturn dX10_takeYear_79 rfl rfl ⟨rfl, rfl⟩ ly.1 ?_
    exact ret_I hf srh
  · replace hf := ite_n hf c22
    refine V.aload_n dX10_takeYear_69 rfl rfl rfl ?_
    refine V.bipush (v := 59) dX10_takeYear_70 rfl ?_
    obtain ⟨r25, h24, q23, hf2⟩ := bd2_el hf
    replace hf := hf2
    clear hf2
    refine V.callVI dX10_takeYear_72 ml_X10_36 mo_X4_takeSign mv_X4_takeSign rfl (fun q hq => by cases hq; rfl) (by decide) (Or.inl ⟨rfl, SHL_lt rfl⟩) (th_X4_takeSign (srh.ly ly) q23) rfl rfl ⟨Nat.le_of_ble_eq_true rfl, Nat.le_of_ble_eq_true rfl, fun _ => ⟨rfl, rfl⟩⟩ (Nat.le_of_ble_eq_true rfl) rfl (post_I (fun sq => ?_))
    have srh24 : SR h0 h24 := srh.trans sq
    clear sq q23
    refine V.if_ne (tgt := 80) dX10_takeYear_75 (by decide) (fun c26 => ?_) (fun c26 => ?_)
    · replace hf := ite_n hf c26
      obtain ⟨x27, ex27⟩ : ∃ y : Int32, y = l3 + 1 := ⟨_, rfl⟩
      replace hf := lt_el hf x27 ex27
      refine V.iinc (v := x27) (ls' := [.ref 5, .ref t, .ref y, .int x27, .null, .int s0]) dX10_takeYear_80 rfl (by decide) ex27.symm rfl ?_
      refine V.goto (tgt := 2) dX10_takeYear_83 (by decide) ?_
      refine V.less (ls' := [.ref 5, .ref t, .ref y, .int x27, .null, .null]) ⟨Or.inr rfl, Or.inr rfl, Or.inr rfl, Or.inr rfl, Or.inl rfl, Or.inl rfl, trivial⟩ ?_
      exact kok2 x27 h24 srh24 hf
    · replace hf := ite_p hf c26
      refine V.iconst (v := 0) dX10_takeYear_78 rfl ?_
      refine V.ireturn dX10_takeYear_79 rfl rfl ⟨rfl, rfl⟩ ly.1 ?_
      exact ret_I hf srh24
set_option maxRecDepth 100000 in
theorem th_X10_takeYear_86 {h0 : HP} (ly : Lay h0) {t : Nat} (hT : isT t) {y : Nat} (hY : isY y) {rr : Int32} {hh : HP}  : ∀  (h : HP), SR h0 h → f_X10_takeYear_86 t y h = some (rr, hh) → V cX10_takeYear miX10_takeYear (ZI h0 miX10_takeYear rr hh) 130 86 [.ref 5, .null, .ref y, .null, .null, .null] [] h := by
  intro  h srh hf
  unfold f_X10_takeYear_86 at hf
  refine V.aload_n dX10_takeYear_86 rfl rfl (sY0 hY) ?_
  obtain ⟨r30, h29, q28, hf2⟩ := bd2_el hf
  replace hf := hf2
  clear hf2
  refine V.callVI dX10_takeYear_87 ml_X10_39 mo_X9_countOpen mv_X9_countOpen (sY0 hY) (fun q hq => by cases hq; rfl) (by decide) (Or.inl ⟨rfl, SHL_lt (sY0 hY)⟩) (th_X9_countOpen (srh.ly ly) hY q28) rfl rfl ⟨Nat.le_of_ble_eq_true rfl, Nat.le_of_ble_eq_true rfl, fun _ => ⟨rfl, rfl⟩⟩ (Nat.le_of_ble_eq_true rfl) rfl (post_I (fun sq => ?_))
  have srh29 : SR h0 h29 := srh.trans sq
  clear sq q28
  refine V.if_eq (tgt := 101) dX10_takeYear_90 (by decide) (fun c31 => ?_) (fun c31 => ?_)
  · replace hf := ite_p hf c31
    refine V.iconst (v := 1) dX10_takeYear_101 rfl ?_
    refine V.goto (tgt := 106) dX10_takeYear_102 (by decide) ?_
    refine V.ireturn dX10_takeYear_106 rfl rfl ⟨rfl, rfl⟩ ly.1 ?_
    exact ret_I hf srh29
  · replace hf := ite_n hf c31
    refine V.aload_n dX10_takeYear_93 rfl rfl rfl ?_
    refine V.iconst (v := 2) dX10_takeYear_94 rfl ?_
    obtain ⟨r34, h33, q32, hf2⟩ := bd2_el hf
    replace hf := hf2
    clear hf2
    refine V.callVI dX10_takeYear_95 ml_X10_43 mo_X4_fail mv_X4_fail rfl (fun q hq => by cases hq; rfl) (by decide) (Or.inl ⟨rfl, SHL_lt rfl⟩) (th_X4_fail (srh29.ly ly) q32) rfl rfl ⟨Nat.le_of_ble_eq_true rfl, Nat.le_of_ble_eq_true rfl, fun _ => ⟨rfl, rfl⟩⟩ (Nat.le_of_ble_eq_true rfl) rfl (post_I (fun sq => ?_))
    have srh33 : SR h0 h33 := srh29.trans sq
    clear sq q32
    refine V.if_eq (tgt := 105) dX10_takeYear_98 (by decide) (fun c35 => ?_) (fun c35 => ?_)
    · replace hf := ite_p hf c35
      refine V.iconst (v := 0) dX10_takeYear_105 rfl ?_
      refine V.ireturn dX10_takeYear_106 rfl rfl ⟨rfl, rfl⟩ ly.1 ?_
      exact ret_I hf srh33
    · replace hf := ite_n hf c35
      refine V.iconst (v := 1) dX10_takeYear_101 rfl ?_
      refine V.goto (tgt := 106) dX10_takeYear_102 (by decide) ?_
      refine V.ireturn dX10_takeYear_106 rfl rfl ⟨rfl, rfl⟩ ly.1 ?_
      exact ret_I hf srh33
set_option maxRecDepth 100000 in
theorem th_X10_takeYear_2 {h0 : HP} (ly : Lay h0) {t : Nat} (hT : isT t) {y : Nat} (hY : isY y) {rr : Int32} {hh : HP}  : ∀ (n : Nat) (l3 : Int32) (h : HP), SR h0 h → f_X10_takeYear_2 t y n l3 h = some (rr, hh) → V cX10_takeYear miX10_takeYear (ZI h0 miX10_takeYear rr hh) 130 2 [.ref 5, .ref t, .ref y, .int l3, .null, .null] [] h := by
  intro n
  induction n with
  | zero => intro l3 h srh hf; exact absurd hf (by unfold f_X10_takeYear_2; simp)
  | succ n ih =>
    intro l3 h srh hf
    unfold f_X10_takeYear_2 at hf
    refine V.iload_n dX10_takeYear_2 rfl rfl ?_
    refine V.bipush (v := 60) dX10_takeYear_3 rfl ?_
    refine V.icmp_gt (tgt := 86) dX10_takeYear_5 (by decide) (fun c1 => ?_) (fun c1 => ?_)
    · replace hf := ite_p hf c1
      refine V.less (ls' := [.ref 5, .null, .ref y, .null, .null, .null]) ⟨Or.inr rfl, Or.inl rfl, Or.inr rfl, Or.inl rfl, Or.inl rfl, Or.inl rfl, trivial⟩ ?_
      exact th_X10_takeYear_86 ly hT hY h srh hf
    · replace hf := ite_n hf c1
      refine V.aload_n dX10_takeYear_8 rfl rfl rfl ?_
      obtain ⟨r4, h3, q2, hf2⟩ := bd2_el hf
      replace hf := hf2
      clear hf2
      refine V.callVI dX10_takeYear_9 ml_X10_9 mo_X4_isEnd mv_X4_isEnd rfl (fun q hq => by cases hq; rfl) (by decide) (Or.inl ⟨rfl, SHL_lt rfl⟩) (th_X4_isEnd (srh.ly ly) q2) rfl rfl ⟨Nat.le_of_ble_eq_true rfl, Nat.le_of_ble_eq_true rfl, fun _ => ⟨rfl, rfl⟩⟩ (Nat.le_of_ble_eq_true rfl) rfl (post_I (fun sq => ?_))
      have srh3 : SR h0 h3 := srh.trans sq
      clear sq q2
      refine V.if_ne (tgt := 86) dX10_takeYear_12 (by decide) (fun c5 => ?_) (fun c5 => ?_)
      · replace hf := ite_n hf c5
        refine V.less (ls' := [.ref 5, .null, .ref y, .null, .null, .null]) ⟨Or.inr rfl, Or.inl rfl, Or.inr rfl, Or.inl rfl, Or.inl rfl, Or.inl rfl, trivial⟩ ?_
        exact th_X10_takeYear_86 ly hT hY h3 srh3 hf
      · replace hf := ite_p hf c5
        refine V.aload_n dX10_takeYear_15 rfl rfl (sY0 hY) ?_
        refine V.getI dX10_takeYear_16 fl_X10_15 (sY0 hY) (Or.inl ⟨rfl, SHL_lt (sY0 hY)⟩) rfl rfl ?_
        refine V.nmi (fun x6 ex6 => ?_)
        replace hf := lt_el hf x6 ex6
        refine V.istore (ls' := [.ref 5, .ref t, .ref y, .int l3, .int x6, .null]) dX10_takeYear_19 (by decide) rfl ?_
        refine V.aload_n dX10_takeYear_21 rfl rfl rfl ?_
        refine V.bipush (v := 20) dX10_takeYear_22 rfl ?_
        obtain ⟨r9, h8, q7, hf2⟩ := bd2_el hf
        replace hf := hf2
        clear hf2
        refine V.callVI dX10_takeYear_24 ml_X10_19 mo_X4_isWord mv_X4_isWord rfl (fun q hq => by cases hq; rfl) (by decide) (Or.inl ⟨rfl, SHL_lt rfl⟩) (th_X4_isWord (srh3.ly ly) q7) rfl rfl ⟨Nat.le_of_ble_eq_true rfl, Nat.le_of_ble_eq_true rfl, fun _ => ⟨rfl, rfl⟩⟩ (Nat.le_of_ble_eq_true rfl) rfl (post_I (fun sq => ?_))
        have srh8 : SR h0 h8 := srh3.trans sq
        clear sq q7
        refine V.if_eq (tgt := 38) dX10_takeYear_27 (by decide) (fun c10 => ?_) (fun c10 => ?_)
        · replace hf := ite_p hf c10
          refine V.aload_n dX10_takeYear_38 rfl rfl rfl ?_
          refine V.aload_n dX10_takeYear_39 rfl rfl (sY0 hY) ?_
          obtain ⟨r13, h12, q11, hf2⟩ := bd2_el hf
          replace hf := hf2
          clear hf2
          refine V.callSI dX10_takeYear_40 ml_X10_29 mo_X10_takeStepWord ms_X10_takeStepWord (th_X10_takeStepWord (srh8.ly ly) hY q11) rfl rfl ⟨Nat.le_of_ble_eq_true rfl, Nat.le_of_ble_eq_true rfl, fun _ => ⟨rfl, rfl⟩⟩ (Nat.le_of_ble_eq_true rfl) rfl (post_I (fun sq => ?_))
          have srh12 : SR h0 h12 := srh8.trans sq
          clear sq q11
          refine V.if_eq (tgt := 61) dX10_takeYear_43 (by decide) (fun c14 => ?_) (fun c14 => ?_)
          · replace hf := ite_p hf c14
            refine V.iconst (v := 0) dX10_takeYear_61 rfl ?_
            refine V.less (ls' := [.ref 5, .ref t, .ref y, .int l3, .null, .null]) ⟨Or.inr rfl, Or.inr rfl, Or.inr rfl, Or.inr rfl, Or.inl rfl, Or.inl rfl, trivial⟩ ?_
            exact th_X10_takeYear_62 ly hT hY ih l3 0 h12 srh12 hf
          · replace hf := ite_n hf c14
            refine V.aload_n dX10_takeYear_46 rfl rfl rfl ?_
            refine V.aload_n dX10_takeYear_47 rfl rfl (sT0 hT) ?_
            refine V.aload_n dX10_takeYear_48 rfl rfl (sY0 hY) ?_
            refine V.iload dX10_takeYear_49 rfl ?_
            obtain ⟨r17, h16, q15, hf2⟩ := bd2_el hf
            replace hf := hf2
            clear hf2
            refine V.callSI dX10_takeYear_51 ml_X10_32 mo_X10_takeRest ms_X10_takeRest (th_X10_takeRest (srh12.ly ly) hT hY q15) rfl rfl ⟨Nat.le_of_ble_eq_true rfl, Nat.le_of_ble_eq_true rfl, fun _ => ⟨rfl, rfl⟩⟩ (Nat.le_of_ble_eq_true rfl) rfl (post_I (fun sq => ?_))
            have srh16 : SR h0 h16 := srh12.trans sq
            clear sq q15
            refine V.if_eq (tgt := 61) dX10_takeYear_54 (by decide) (fun c18 => ?_) (fun c18 => ?_)
            · replace hf := ite_p hf c18
              refine V.iconst (v := 0) dX10_takeYear_61 rfl ?_
              refine V.less (ls' := [.ref 5, .ref t, .ref y, .int l3, .null, .null]) ⟨Or.inr rfl, Or.inr rfl, Or.inr rfl, Or.inr rfl, Or.inl rfl, Or.inl rfl, trivial⟩ ?_
              exact th_X10_takeYear_62 ly hT hY ih l3 0 h16 srh16 hf
            · replace hf := ite_n hf c18
              refine V.iconst (v := 1) dX10_takeYear_57 rfl ?_
              refine V.goto (tgt := 62) dX10_takeYear_58 (by decide) ?_
              refine V.less (ls' := [.ref 5, .ref t, .ref y, .int l3, .null, .null]) ⟨Or.inr rfl, Or.inr rfl, Or.inr rfl, Or.inr rfl, Or.inl rfl, Or.inl rfl, trivial⟩ ?_
              exact th_X10_takeYear_62 ly hT hY ih l3 1 h16 srh16 hf
        · replace hf := ite_n hf c10
          refine V.aload_n dX10_takeYear_30 rfl rfl rfl ?_
          refine V.aload_n dX10_takeYear_31 rfl rfl (sY0 hY) ?_
          obtain ⟨r21, h20, q19, hf2⟩ := bd2_el hf
          replace hf := hf2
          clear hf2
          refine V.callSI dX10_takeYear_32 ml_X10_23 mo_X10_takeEnd ms_X10_takeEnd (th_X10_takeEnd (srh8.ly ly) hY q19) rfl rfl ⟨Nat.le_of_ble_eq_true rfl, Nat.le_of_ble_eq_true rfl, fun _ => ⟨rfl, rfl⟩⟩ (Nat.le_of_ble_eq_true rfl) rfl (post_I (fun sq => ?_))
          have srh20 : SR h0 h20 := srh8.trans sq
          clear sq q19
          refine V.goto (tgt := 62) dX10_takeYear_35 (by decide) ?_
          refine V.less (ls' := [.ref 5, .ref t, .ref y, .int l3, .null, .null]) ⟨Or.inr rfl, Or.inr rfl, Or.inr rfl, Or.inr rfl, Or.inl rfl, Or.inl rfl, trivial⟩ ?_
          exact th_X10_takeYear_62 ly hT hY ih l3 r21 h20 srh20 hf
set_option maxRecDepth 100000 in
theorem th_X10_takeYear {h : HP} (ly : Lay h) {t : Nat} (hT : isT t) {y : Nat} (hY : isY y)  {rr : Int32} {hh : HP} (hf : f_X10_takeYear h t y = some (rr, hh)) : Spec yX10_takeYear cX10_takeYear miX10_takeYear [.ref 5, .ref t, .ref y] h (pI fun r' h' => (r' = rr ∧ h' = hh) ∧ SR h hh) := by
  refine Spec.of (ls0 := [.ref 5, .ref t, .ref y, .null, .null, .null]) mo_X10_takeYear (Nat.le_of_ble_eq_true rfl) rfl ?_
  rw [ly.1]
  have srh : SR h h := SR.refl h
  unfold f_X10_takeYear at hf
  refine V.iconst (v := 0) dX10_takeYear_0 rfl ?_
  refine V.istore_n (ls' := [.ref 5, .ref t, .ref y, .int 0, .null, .null]) dX10_takeYear_1 rfl (by decide) rfl ?_
  exact th_X10_takeYear_2 ly hT hY FU 0 h srh hf
set_option maxRecDepth 100000 in
theorem th_X2_draw {h : HP} (ly : Lay h) {v : Nat} (hV : isV v) {a1 : Int32} {rr : Int32} {hh : HP} (hf : f_X2_draw h v a1 = some (rr, hh)) : Spec yX2_draw cX2_draw miX2_draw [.ref v, .int a1] h (pI fun r' h' => (r' = rr ∧ h' = hh) ∧ SR h hh) := by
  refine Spec.of (ls0 := [.ref v, .int a1]) mo_X2_draw (Nat.le_of_ble_eq_true rfl) rfl ?_
  rw [ly.1]
  have srh : SR h h := SR.refl h
  unfold f_X2_draw at hf
  refine V.aload_n dX2_draw_0 rfl rfl (sV0 hV) ?_
  refine V.aload_n dX2_draw_1 rfl rfl (sV0 hV) ?_
  refine V.getI dX2_draw_2 fl_X2_21 (sV0 hV) (Or.inl ⟨rfl, SHL_lt (sV0 hV)⟩) rfl rfl ?_
  refine V.sipush (v := 2879) dX2_draw_5 rfl ?_
  refine V.imul dX2_draw_8 ?_
  refine V.sipush (v := 11083) dX2_draw_9 rfl ?_
  refine V.iadd dX2_draw_12 ?_
  refine V.ldc (v := 65536) dX2_draw_13 kc_X2_122 ?_
  refine V.irem dX2_draw_15 (by decide) ?_
  refine V.putI dX2_draw_16 fl_X2_21 (sV0 hV) (Or.inl ⟨rfl, SHL_lt (sV0 hV)⟩) rfl (fun q hq => by cases hq; rfl) ⟨rfl, rfl⟩ ?_
  refine V.nameH (fun g1 eg1 => ?_)
  replace hf := lt_el hf g1 eg1
  have srg1 : SR h g1 := by rw [eg1]; exact srh.I _ _ _
  refine V.iload_n dX2_draw_19 rfl rfl ?_
  refine V.if_le (tgt := 35) dX2_draw_20 (by decide) (fun c2 => ?_) (fun c2 => ?_)
  · replace hf := ite_p hf c2
    refine V.iconst (v := 0) dX2_draw_35 rfl ?_
    refine V.ireturn dX2_draw_36 rfl rfl ⟨rfl, rfl⟩ ly.1 ?_
    exact ret_I hf srg1
  · replace hf := ite_n hf c2
    refine V.aload_n dX2_draw_23 rfl rfl (sV0 hV) ?_
    refine V.getI dX2_draw_24 fl_X2_21 (sV0 hV) (Or.inl ⟨rfl, SHL_lt (sV0 hV)⟩) rfl rfl ?_
    refine V.bipush (v := 8) dX2_draw_27 rfl ?_
    refine V.idiv dX2_draw_29 (by decide) ?_
    refine V.iload_n dX2_draw_30 rfl rfl ?_
    obtain ⟨b3, hf2⟩ := gd_el hf
    replace hf := hf2
    clear hf2
    refine V.irem dX2_draw_31 b3 ?_
    refine V.goto (tgt := 36) dX2_draw_32 (by decide) ?_
    refine V.ireturn dX2_draw_36 rfl rfl ⟨rfl, rfl⟩ ly.1 ?_
    exact ret_I hf srg1
set_option maxRecDepth 100000 in
theorem th_X2_turnLamp {h : HP} (ly : Lay h) {v : Nat} (hV : isV v) {t : Nat} (hT : isT t) {a2 : Int32} {a3 : Int32} {hh : HP} (hf : f_X2_turnLamp h v t a2 a3 = some hh) : Spec yX2_turnLamp cX2_turnLamp miX2_turnLamp [.ref v, .ref t, .int a2, .int a3] h (pV fun h' => h' = hh ∧ SR h hh) := by
  refine Spec.of (ls0 := [.ref v, .ref t, .int a2, .int a3, .null]) mo_X2_turnLamp (Nat.le_of_ble_eq_true rfl) rfl ?_
  rw [ly.1]
  have srh : SR h h := SR.refl h
  unfold f_X2_turnLamp at hf
  refine V.iconst (v := 1) dX2_turnLamp_0 rfl ?_
  refine V.aload_n dX2_turnLamp_1 rfl rfl (sT0 hT) ?_
  refine V.getR (r := t + 1) dX2_turnLamp_2 fl_X2_112 (sT0 hT) (Or.inl ⟨rfl, SHL_lt (sT0 hT)⟩) rfl (rT_hill (srh.ly ly) hT) ?_
  refine V.iload_n dX2_turnLamp_5 rfl rfl ?_
  refine V.iload_n dX2_turnLamp_6 rfl rfl ?_
  obtain ⟨r3, h2, q1, hf2⟩ := bd2_el hf
  replace hf := hf2
  clear hf2
  refine V.callVI dX2_turnLamp_7 ml_X2_116 mo_X1_placeOf mv_X1_placeOf (sH0 hT.H) (fun q hq => by cases hq; rfl) (by decide) (Or.inl ⟨rfl, SHL_lt (sH0 hT.H)⟩) (th_X1_placeOf (srh.ly ly) hT.H q1) rfl rfl ⟨Nat.le_of_ble_eq_true rfl, Nat.le_of_ble_eq_true rfl, fun _ => ⟨rfl, rfl⟩⟩ (Nat.le_of_ble_eq_true rfl) rfl (post_I (fun sq => ?_))
  have srh2 : SR h h2 := srh.trans sq
  clear sq q1
  refine V.ishl dX2_turnLamp_10 ?_
  refine V.nmi (fun x4 ex4 => ?_)
  replace hf := lt_el hf x4 ex4
  refine V.istore (ls' := [.ref v, .ref t, .int a2, .int a3, .int x4]) dX2_turnLamp_11 (by decide) rfl ?_
  refine V.aload_n dX2_turnLamp_13 rfl rfl (sT0 hT) ?_
  refine V.getR (r := t + 1) dX2_turnLamp_14 fl_X2_112 (sT0 hT) (Or.inl ⟨rfl, SHL_lt (sT0 hT)⟩) rfl (rT_hill (srh2.ly ly) hT) ?_
  refine V.getI dX2_turnLamp_17 fl_X2_123 (sH0 hT.H) (Or.inl ⟨rfl, SHL_lt (sH0 hT.H)⟩) rfl rfl ?_
  refine V.iload dX2_turnLamp_20 rfl ?_
  refine V.iand dX2_turnLamp_22 ?_
  refine V.if_ne (tgt := 39) dX2_turnLamp_23 (by decide) (fun c5 => ?_) (fun c5 => ?_)
  · replace hf := ite_n hf c5
    refine V.aload_n dX2_turnLamp_39 rfl rfl (sT0 hT) ?_
    refine V.dup dX2_turnLamp_40 rfl ?_
    refine V.getI dX2_turnLamp_41 fl_X2_97 (sT0 hT) (Or.inl ⟨rfl, SHL_lt (sT0 hT)⟩) rfl rfl ?_
    refine V.iload dX2_turnLamp_44 rfl ?_
    refine V.ixor dX2_turnLamp_46 ?_
    refine V.putI dX2_turnLamp_47 fl_X2_97 (sT0 hT) (Or.inl ⟨rfl, SHL_lt (sT0 hT)⟩) rfl (fun q hq => by cases hq; rfl) ⟨rfl, rfl⟩ ?_
    refine V.nameH (fun g6 eg6 => ?_)
    replace hf := lt_el hf g6 eg6
    have srg6 : SR h g6 := by rw [eg6]; exact srh2.I _ _ _
    refine V.vreturn' dX2_turnLamp_50 rfl ly.1 (Or.inl ⟨rfl, rfl⟩) ?_
    exact ret_V hf srg6
  · replace hf := ite_p hf c5
    refine V.aload_n dX2_turnLamp_26 rfl rfl (sV0 hV) ?_
    refine V.dup dX2_turnLamp_27 rfl ?_
    refine V.getI dX2_turnLamp_28 fl_X2_28 (sV0 hV) (Or.inl ⟨rfl, SHL_lt (sV0 hV)⟩) rfl rfl ?_
    refine V.iconst (v := 1) dX2_turnLamp_31 rfl ?_
    refine V.iadd dX2_turnLamp_32 ?_
    refine V.putI dX2_turnLamp_33 fl_X2_28 (sV0 hV) (Or.inl ⟨rfl, SHL_lt (sV0 hV)⟩) rfl (fun q hq => by cases hq; rfl) ⟨rfl, rfl⟩ ?_
    refine V.nameH (fun g7 eg7 => ?_)
    replace hf := lt_el hf g7 eg7
    have srg7 : SR h g7 := by rw [eg7]; exact srh2.I _ _ _
    refine V.goto (tgt := 50) dX2_turnLamp_36 (by decide) ?_
    refine V.vreturn' dX2_turnLamp_50 rfl ly.1 (Or.inl ⟨rfl, rfl⟩) ?_
    exact ret_V hf srg7
set_option maxRecDepth 100000 in
theorem th_X2_blow_16 {h0 : HP} (ly : Lay h0) {v : Nat} (hV : isV v) {t : Nat} (hT : isT t) {hh : HP}  : ∀ (n : Nat) (l2 : Int32) (l3 : Int32) (l4 : Int32) (h : HP), SR h0 h → f_X2_blow_16 v t n l2 l3 l4 h = some hh → V cX2_blow miX2_blow (ZV h0 miX2_blow hh) 130 16 [.ref v, .ref t, .int l2, .int l3, .int l4, .null] [] h := by
  intro n
  induction n with
  | zero => intro l2 l3 l4 h srh hf; exact absurd hf (by unfold f_X2_blow_16; simp)
  | succ n ih =>
    intro l2 l3 l4 h srh hf
    unfold f_X2_blow_16 at hf
    refine V.iload dX2_blow_16 rfl ?_
    refine V.bipush (v := 30) dX2_blow_18 rfl ?_
    refine V.icmp_ge (tgt := 75) dX2_blow_20 (by decide) (fun c2 => ?_) (fun c2 => ?_)
    · replace hf := ite_p hf c2
      refine V.vreturn' dX2_blow_75 rfl ly.1 (Or.inl ⟨rfl, rfl⟩) ?_
      exact ret_V hf srh
    · replace hf := ite_n hf c2
      refine V.iconst (v := 1) dX2_blow_23 rfl ?_
      refine V.iload dX2_blow_24 rfl ?_
      refine V.ishl dX2_blow_26 ?_
      refine V.nmi (fun x3 ex3 => ?_)
      replace hf := lt_el hf x3 ex3
      refine V.istore (ls' := [.ref v, .ref t, .int l2, .int l3, .int l4, .int x3]) dX2_blow_27 (by decide) rfl ?_
      refine V.iload_n dX2_blow_29 rfl rfl ?_
      refine V.iload dX2_blow_30 rfl ?_
      refine V.iand dX2_blow_32 ?_
      refine V.if_eq (tgt := 69) dX2_blow_33 (by decide) (fun c4 => ?_) (fun c4 => ?_)
      · replace hf := ite_p hf c4
        obtain ⟨x5, ex5⟩ : ∃ y : Int32, y = l4 + 1 := ⟨_, rfl⟩
        replace hf := lt_el hf x5 ex5
        refine V.iinc (v := x5) (ls' := [.ref v, .ref t, .int l2, .int l3, .int x5, .int x3]) dX2_blow_69 rfl (by decide) ex5.symm rfl ?_
        refine V.goto (tgt := 16) dX2_blow_72 (by decide) ?_
        refine V.less (ls' := [.ref v, .ref t, .int l2, .int l3, .int x5, .null]) ⟨Or.inr rfl, Or.inr rfl, Or.inr rfl, Or.inr rfl, Or.inr rfl, Or.inl rfl, trivial⟩ ?_
        exact ih l2 l3 x5 h srh hf
      · replace hf := ite_n hf c4
        refine V.aload_n dX2_blow_36 rfl rfl (sV0 hV) ?_
        refine V.bipush (v := 16) dX2_blow_37 rfl ?_
        obtain ⟨r8, h7, q6, hf2⟩ := bd2_el hf
        replace hf := hf2
        clear hf2
        refine V.callVI dX2_blow_39 ml_X2_126 mo_X2_draw mv_X2_draw (sV0 hV) (fun q hq => by cases hq; rfl) (by decide) (Or.inl ⟨rfl, SHL_lt (sV0 hV)⟩) (th_X2_draw (srh.ly ly) hV q6) rfl rfl ⟨Nat.le_of_ble_eq_true rfl, Nat.le_of_ble_eq_true rfl, fun _ => ⟨rfl, rfl⟩⟩ (Nat.le_of_ble_eq_true rfl) rfl (post_I (fun sq => ?_))
        have srh7 : SR h0 h7 := srh.trans sq
        clear sq q6
        refine V.iload_n dX2_blow_42 rfl rfl ?_
        refine V.icmp_ge (tgt := 69) dX2_blow_43 (by decide) (fun c9 => ?_) (fun c9 => ?_)
        · replace hf := ite_p hf c9
          obtain ⟨x10, ex10⟩ : ∃ y : Int32, y = l4 + 1 := ⟨_, rfl⟩
          replace hf := lt_el hf x10 ex10
          refine V.iinc (v := x10) (ls' := [.ref v, .ref t, .int l2, .int l3, .int x10, .int x3]) dX2_blow_69 rfl (by decide) ex10.symm rfl ?_
          refine V.goto (tgt := 16) dX2_blow_72 (by decide) ?_
          refine V.less (ls' := [.ref v, .ref t, .int l2, .int l3, .int x10, .null]) ⟨Or.inr rfl, Or.inr rfl, Or.inr rfl, Or.inr rfl, Or.inr rfl, Or.inl rfl, trivial⟩ ?_
          exact ih l2 l3 x10 h7 srh7 hf
        · replace hf := ite_n hf c9
          refine V.aload_n dX2_blow_46 rfl rfl (sT0 hT) ?_
          refine V.dup dX2_blow_47 rfl ?_
          refine V.getI dX2_blow_48 fl_X2_97 (sT0 hT) (Or.inl ⟨rfl, SHL_lt (sT0 hT)⟩) rfl rfl ?_
          refine V.iload dX2_blow_51 rfl ?_
          refine V.iconst (v := (-1)) dX2_blow_53 rfl ?_
          refine V.ixor dX2_blow_54 ?_
          refine V.iand dX2_blow_55 ?_
          refine V.putI dX2_blow_56 fl_X2_97 (sT0 hT) (Or.inl ⟨rfl, SHL_lt (sT0 hT)⟩) rfl (fun q hq => by cases hq; rfl) ⟨rfl, rfl⟩ ?_
          refine V.nameH (fun g11 eg11 => ?_)
          replace hf := lt_el hf g11 eg11
          have srg11 : SR h0 g11 := by rw [eg11]; exact srh7.I _ _ _
          refine V.aload_n dX2_blow_59 rfl rfl (sV0 hV) ?_
          refine V.dup dX2_blow_60 rfl ?_
          refine V.getI dX2_blow_61 fl_X2_34 (sV0 hV) (Or.inl ⟨rfl, SHL_lt (sV0 hV)⟩) rfl rfl ?_
          refine V.iconst (v := 1) dX2_blow_64 rfl ?_
          refine V.iadd dX2_blow_65 ?_
          refine V.putI dX2_blow_66 fl_X2_34 (sV0 hV) (Or.inl ⟨rfl, SHL_lt (sV0 hV)⟩) rfl (fun q hq => by cases hq; rfl) ⟨rfl, rfl⟩ ?_
          refine V.nameH (fun g12 eg12 => ?_)
          replace hf := lt_el hf g12 eg12
          have srg12 : SR h0 g12 := by rw [eg12]; exact srg11.I _ _ _
          obtain ⟨x13, ex13⟩ : ∃ y : Int32, y = l4 + 1 := ⟨_, rfl⟩
          replace hf := lt_el hf x13 ex13
          refine V.iinc (v := x13) (ls' := [.ref v, .ref t, .int l2, .int l3, .int x13, .int x3]) dX2_blow_69 rfl (by decide) ex13.symm rfl ?_
          refine V.goto (tgt := 16) dX2_blow_72 (by decide) ?_
          refine V.less (ls' := [.ref v, .ref t, .int l2, .int l3, .int x13, .null]) ⟨Or.inr rfl, Or.inr rfl, Or.inr rfl, Or.inr rfl, Or.inr rfl, Or.inl rfl, trivial⟩ ?_
          exact ih l2 l3 x13 g12 srg12 hf
set_option maxRecDepth 100000 in
theorem th_X2_blow {h : HP} (ly : Lay h) {v : Nat} (hV : isV v) {t : Nat} (hT : isT t) {a2 : Int32} {hh : HP} (hf : f_X2_blow h v t a2 = some hh) : Spec yX2_blow cX2_blow miX2_blow [.ref v, .ref t, .int a2] h (pV fun h' => h' = hh ∧ SR h hh) := by
  refine Spec.of (ls0 := [.ref v, .ref t, .int a2, .null, .null, .null]) mo_X2_blow (Nat.le_of_ble_eq_true rfl) rfl ?_
  rw [ly.1]
  have srh : SR h h := SR.refl h
  unfold f_X2_blow at hf
  refine V.aload_n dX2_blow_0 rfl rfl (sT0 hT) ?_
  refine V.getI dX2_blow_1 fl_X2_97 (sT0 hT) (Or.inl ⟨rfl, SHL_lt (sT0 hT)⟩) rfl rfl ?_
  refine V.aload_n dX2_blow_4 rfl rfl (sT0 hT) ?_
  refine V.getR (r := t + 1) dX2_blow_5 fl_X2_112 (sT0 hT) (Or.inl ⟨rfl, SHL_lt (sT0 hT)⟩) rfl (rT_hill (srh.ly ly) hT) ?_
  refine V.getI dX2_blow_8 fl_X2_123 (sH0 hT.H) (Or.inl ⟨rfl, SHL_lt (sH0 hT.H)⟩) rfl rfl ?_
  refine V.iand dX2_blow_11 ?_
  refine V.nmi (fun x1 ex1 => ?_)
  replace hf := lt_el hf x1 ex1
  refine V.istore_n (ls' := [.ref v, .ref t, .int a2, .int x1, .null, .null]) dX2_blow_12 rfl (by decide) rfl ?_
  refine V.iconst (v := 0) dX2_blow_13 rfl ?_
  refine V.istore (ls' := [.ref v, .ref t, .int a2, .int x1, .int 0, .null]) dX2_blow_14 (by decide) rfl ?_
  exact th_X2_blow_16 ly hV hT FU a2 x1 0 h srh hf
set_option maxRecDepth 100000 in
theorem th_X2_bear {h : HP} (ly : Lay h) {v : Nat} (hV : isV v) {t : Nat} (hT : isT t)  {hh : HP} (hf : f_X2_bear h v t = some hh) : Spec yX2_bear cX2_bear miX2_bear [.ref v, .ref t] h (pV fun h' => h' = hh ∧ SR h hh) := by
  refine Spec.of (ls0 := [.ref v, .ref t, .null, .null, .null]) mo_X2_bear (Nat.le_of_ble_eq_true rfl) rfl ?_
  rw [ly.1]
  have srh : SR h h := SR.refl h
  unfold f_X2_bear at hf
  refine V.aload_n dX2_bear_0 rfl rfl (sV0 hV) ?_
  refine V.aload_n dX2_bear_1 rfl rfl (sT0 hT) ?_
  refine V.getR (r := t + 1) dX2_bear_2 fl_X2_112 (sT0 hT) (Or.inl ⟨rfl, SHL_lt (sT0 hT)⟩) rfl (rT_hill (srh.ly ly) hT) ?_
  refine V.getI dX2_bear_5 fl_X2_129 (sH0 hT.H) (Or.inl ⟨rfl, SHL_lt (sH0 hT.H)⟩) rfl rfl ?_
  obtain ⟨r3, h2, q1, hf2⟩ := bd2_el hf
  replace hf := hf2
  clear hf2
  refine V.callVI dX2_bear_8 ml_X2_126 mo_X2_draw mv_X2_draw (sV0 hV) (fun q hq => by cases hq; rfl) (by decide) (Or.inl ⟨rfl, SHL_lt (sV0 hV)⟩) (th_X2_draw (srh.ly ly) hV q1) rfl rfl ⟨Nat.le_of_ble_eq_true rfl, Nat.le_of_ble_eq_true rfl, fun _ => ⟨rfl, rfl⟩⟩ (Nat.le_of_ble_eq_true rfl) rfl (post_I (fun sq => ?_))
  have srh2 : SR h h2 := srh.trans sq
  clear sq q1
  refine V.istore_n (ls' := [.ref v, .ref t, .int r3, .null, .null]) dX2_bear_11 rfl (by decide) rfl ?_
  refine V.aload_n dX2_bear_12 rfl rfl (sV0 hV) ?_
  refine V.aload_n dX2_bear_13 rfl rfl (sT0 hT) ?_
  refine V.getR (r := t + 1) dX2_bear_14 fl_X2_112 (sT0 hT) (Or.inl ⟨rfl, SHL_lt (sT0 hT)⟩) rfl (rT_hill (srh2.ly ly) hT) ?_
  refine V.getI dX2_bear_17 fl_X2_132 (sH0 hT.H) (Or.inl ⟨rfl, SHL_lt (sH0 hT.H)⟩) rfl rfl ?_
  obtain ⟨r6, h5, q4, hf2⟩ := bd2_el hf
  replace hf := hf2
  clear hf2
  refine V.callVI dX2_bear_20 ml_X2_126 mo_X2_draw mv_X2_draw (sV0 hV) (fun q hq => by cases hq; rfl) (by decide) (Or.inl ⟨rfl, SHL_lt (sV0 hV)⟩) (th_X2_draw (srh2.ly ly) hV q4) rfl rfl ⟨Nat.le_of_ble_eq_true rfl, Nat.le_of_ble_eq_true rfl, fun _ => ⟨rfl, rfl⟩⟩ (Nat.le_of_ble_eq_true rfl) rfl (post_I (fun sq => ?_))
  have srh5 : SR h h5 := srh2.trans sq
  clear sq q4
  refine V.istore_n (ls' := [.ref v, .ref t, .int r3, .int r6, .null]) dX2_bear_23 rfl (by decide) rfl ?_
  refine V.iconst (v := 1) dX2_bear_24 rfl ?_
  refine V.aload_n dX2_bear_25 rfl rfl (sT0 hT) ?_
  refine V.getR (r := t + 1) dX2_bear_26 fl_X2_112 (sT0 hT) (Or.inl ⟨rfl, SHL_lt (sT0 hT)⟩) rfl (rT_hill (srh5.ly ly) hT) ?_
  refine V.iload_n dX2_bear_29 rfl rfl ?_
  refine V.iload_n dX2_bear_30 rfl rfl ?_
  obtain ⟨r9, h8, q7, hf2⟩ := bd2_el hf
  replace hf := hf2
  clear hf2
  refine V.callVI dX2_bear_31 ml_X2_116 mo_X1_placeOf mv_X1_placeOf (sH0 hT.H) (fun q hq => by cases hq; rfl) (by decide) (Or.inl ⟨rfl, SHL_lt (sH0 hT.H)⟩) (th_X1_placeOf (srh5.ly ly) hT.H q7) rfl rfl ⟨Nat.le_of_ble_eq_true rfl, Nat.le_of_ble_eq_true rfl, fun _ => ⟨rfl, rfl⟩⟩ (Nat.le_of_ble_eq_true rfl) rfl (post_I (fun sq => ?_))
  have srh8 : SR h h8 := srh5.trans sq
  clear sq q7
  refine V.ishl dX2_bear_34 ?_
  refine V.nmi (fun x10 ex10 => ?_)
  replace hf := lt_el hf x10 ex10
  refine V.istore (ls' := [.ref v, .ref t, .int r3, .int r6, .int x10]) dX2_bear_35 (by decide) rfl ?_
  refine V.aload_n dX2_bear_37 rfl rfl (sT0 hT) ?_
  refine V.getR (r := t + 1) dX2_bear_38 fl_X2_112 (sT0 hT) (Or.inl ⟨rfl, SHL_lt (sT0 hT)⟩) rfl (rT_hill (srh8.ly ly) hT) ?_
  refine V.getI dX2_bear_41 fl_X2_123 (sH0 hT.H) (Or.inl ⟨rfl, SHL_lt (sH0 hT.H)⟩) rfl rfl ?_
  refine V.aload_n dX2_bear_44 rfl rfl (sT0 hT) ?_
  refine V.getI dX2_bear_45 fl_X2_97 (sT0 hT) (Or.inl ⟨rfl, SHL_lt (sT0 hT)⟩) rfl rfl ?_
  refine V.iconst (v := (-1)) dX2_bear_48 rfl ?_
  refine V.ixor dX2_bear_49 ?_
  refine V.iand dX2_bear_50 ?_
  refine V.iload dX2_bear_51 rfl ?_
  refine V.iand dX2_bear_53 ?_
  refine V.if_ne (tgt := 70) dX2_bear_54 (by decide) (fun c11 => ?_) (fun c11 => ?_)
  · replace hf := ite_n hf c11
    refine V.aload_n dX2_bear_70 rfl rfl (sT0 hT) ?_
    refine V.dup dX2_bear_71 rfl ?_
    refine V.getI dX2_bear_72 fl_X2_97 (sT0 hT) (Or.inl ⟨rfl, SHL_lt (sT0 hT)⟩) rfl rfl ?_
    refine V.iload dX2_bear_75 rfl ?_
    refine V.ior dX2_bear_77 ?_
    refine V.putI dX2_bear_78 fl_X2_97 (sT0 hT) (Or.inl ⟨rfl, SHL_lt (sT0 hT)⟩) rfl (fun q hq => by cases hq; rfl) ⟨rfl, rfl⟩ ?_
    refine V.nameH (fun g12 eg12 => ?_)
    replace hf := lt_el hf g12 eg12
    have srg12 : SR h g12 := by rw [eg12]; exact srh8.I _ _ _
    refine V.aload_n dX2_bear_81 rfl rfl (sV0 hV) ?_
    refine V.dup dX2_bear_82 rfl ?_
    refine V.getI dX2_bear_83 fl_X2_37 (sV0 hV) (Or.inl ⟨rfl, SHL_lt (sV0 hV)⟩) rfl rfl ?_
    refine V.iconst (v := 1) dX2_bear_86 rfl ?_
    refine V.iadd dX2_bear_87 ?_
    refine V.putI dX2_bear_88 fl_X2_37 (sV0 hV) (Or.inl ⟨rfl, SHL_lt (sV0 hV)⟩) rfl (fun q hq => by cases hq; rfl) ⟨rfl, rfl⟩ ?_
    refine V.nameH (fun g13 eg13 => ?_)
    replace hf := lt_el hf g13 eg13
    have srg13 : SR h g13 := by rw [eg13]; exact srg12.I _ _ _
    refine V.vreturn' dX2_bear_91 rfl ly.1 (Or.inl ⟨rfl, rfl⟩) ?_
    exact ret_V hf srg13
  · replace hf := ite_p hf c11
    refine V.aload_n dX2_bear_57 rfl rfl (sV0 hV) ?_
    refine V.dup dX2_bear_58 rfl ?_
    refine V.getI dX2_bear_59 fl_X2_28 (sV0 hV) (Or.inl ⟨rfl, SHL_lt (sV0 hV)⟩) rfl rfl ?_
    refine V.iconst (v := 1) dX2_bear_62 rfl ?_
    refine V.iadd dX2_bear_63 ?_
    refine V.putI dX2_bear_64 fl_X2_28 (sV0 hV) (Or.inl ⟨rfl, SHL_lt (sV0 hV)⟩) rfl (fun q hq => by cases hq; rfl) ⟨rfl, rfl⟩ ?_
    refine V.nameH (fun g14 eg14 => ?_)
    replace hf := lt_el hf g14 eg14
    have srg14 : SR h g14 := by rw [eg14]; exact srh8.I _ _ _
    refine V.goto (tgt := 91) dX2_bear_67 (by decide) ?_
    refine V.vreturn' dX2_bear_91 rfl ly.1 (Or.inl ⟨rfl, rfl⟩) ?_
    exact ret_V hf srg14
set_option maxRecDepth 100000 in
theorem th_X2_isTrue {h : HP} (ly : Lay h) {v : Nat} (hV : isV v) {t : Nat} (hT : isT t) {a2 : Int32} {rr : Int32} {hh : HP} (hf : f_X2_isTrue h v t a2 = some (rr, hh)) : Spec yX2_isTrue cX2_isTrue miX2_isTrue [.ref v, .ref t, .int a2] h (pI fun r' h' => (r' = rr ∧ h' = hh) ∧ SR h hh) := by
  refine Spec.of (ls0 := [.ref v, .ref t, .int a2, .null, .null, .null]) mo_X2_isTrue (Nat.le_of_ble_eq_true rfl) rfl ?_
  rw [ly.1]
  have srh : SR h h := SR.refl h
  unfold f_X2_isTrue at hf
  refine V.aload_n dX2_isTrue_0 rfl rfl (sT0 hT) ?_
  refine V.getR (r := t + 3) dX2_isTrue_1 fl_X2_15 (sT0 hT) (Or.inl ⟨rfl, SHL_lt (sT0 hT)⟩) rfl (rT_year (srh.ly ly) hT) ?_
  refine V.astore_n (ls' := [.ref v, .ref t, .int a2, .ref (t + 3), .null, .null]) dX2_isTrue_4 rfl (by decide) (sY0 hT.Y) rfl ?_
  refine V.aload_n dX2_isTrue_5 rfl rfl (sY0 hT.Y) ?_
  refine V.getR (r := t + 3 + 3) dX2_isTrue_6 fl_X2_64 (sY0 hT.Y) (Or.inl ⟨rfl, SHL_lt (sY0 hT.Y)⟩) rfl (rY_firsts (srh.ly ly) hT.Y) ?_
  refine V.iload_n dX2_isTrue_9 rfl rfl ?_
  obtain ⟨b1, hf2⟩ := gdi_el hf
  replace hf := hf2
  clear hf2
  refine V.iaload dX2_isTrue_10 (sY3 hT.Y) (Or.inl ⟨rfl, SHL_lt (sY3 hT.Y)⟩) b1 ?_
  refine V.nmi (fun x2 ex2 => ?_)
  replace hf := lt_el hf x2 ex2
  refine V.istore (ls' := [.ref v, .ref t, .int a2, .ref (t + 3), .int x2, .null]) dX2_isTrue_11 (by decide) rfl ?_
  refine V.aload_n dX2_isTrue_13 rfl rfl (sT0 hT) ?_
  refine V.getI dX2_isTrue_14 fl_X2_97 (sT0 hT) (Or.inl ⟨rfl, SHL_lt (sT0 hT)⟩) rfl rfl ?_
  obtain ⟨r5, h4, q3, hf2⟩ := bd2_el hf
  replace hf := hf2
  clear hf2
  refine V.callSI dX2_isTrue_17 ml_X2_100 mo_J6_bitCount_0f7a4 ms_J6_bitCount_0f7a4 (th_J6_bitCount_0f7a4 (srh.ly ly) q3) rfl rfl ⟨Nat.le_of_ble_eq_true rfl, Nat.le_of_ble_eq_true rfl, fun _ => ⟨rfl, rfl⟩⟩ (Nat.le_of_ble_eq_true rfl) rfl (post_I (fun sq => ?_))
  have srh4 : SR h h4 := srh.trans sq
  clear sq q3
  refine V.istore (ls' := [.ref v, .ref t, .int a2, .ref (t + 3), .int x2, .int r5]) dX2_isTrue_20 (by decide) rfl ?_
  refine V.aload_n dX2_isTrue_22 rfl rfl (sY0 hT.Y) ?_
  refine V.getR (r := t + 3 + 2) dX2_isTrue_23 fl_X2_106 (sY0 hT.Y) (Or.inl ⟨rfl, SHL_lt (sY0 hT.Y)⟩) rfl (rY_tests (srh4.ly ly) hT.Y) ?_
  refine V.iload_n dX2_isTrue_26 rfl rfl ?_
  obtain ⟨b6, hf2⟩ := gdi_el hf
  replace hf := hf2
  clear hf2
  refine V.iaload dX2_isTrue_27 (sY2 hT.Y) (Or.inl ⟨rfl, SHL_lt (sY2 hT.Y)⟩) b6 ?_
  refine V.nmi (fun x7 ex7 => ?_)
  replace hf := lt_el hf x7 ex7
  by_cases c8 : x7 = 17
  · replace hf := ite_p hf c8
    refine V.lookup (tgt := 77) dX2_isTrue_28 (by decide) (by rw [c8]; try rfl) (by decide) ?_
    refine V.aload_n dX2_isTrue_77 rfl rfl (sT0 hT) ?_
    refine V.getI dX2_isTrue_78 fl_X2_97 (sT0 hT) (Or.inl ⟨rfl, SHL_lt (sT0 hT)⟩) rfl rfl ?_
    refine V.aload_n dX2_isTrue_81 rfl rfl (sT0 hT) ?_
    refine V.getR (r := t + 1) dX2_isTrue_82 fl_X2_112 (sT0 hT) (Or.inl ⟨rfl, SHL_lt (sT0 hT)⟩) rfl (rT_hill (srh4.ly ly) hT) ?_
    refine V.iload dX2_isTrue_85 rfl ?_
    refine V.aload_n dX2_isTrue_87 rfl rfl (sY0 hT.Y) ?_
    refine V.getR (r := t + 3 + 4) dX2_isTrue_88 fl_X2_71 (sY0 hT.Y) (Or.inl ⟨rfl, SHL_lt (sY0 hT.Y)⟩) rfl (rY_seconds (srh4.ly ly) hT.Y) ?_
    refine V.iload_n dX2_isTrue_91 rfl rfl ?_
    obtain ⟨b9, hf2⟩ := gdi_el hf
    replace hf := hf2
    clear hf2
    refine V.iaload dX2_isTrue_92 (sY4 hT.Y) (Or.inl ⟨rfl, SHL_lt (sY4 hT.Y)⟩) b9 ?_
    obtain ⟨r12, h11, q10, hf2⟩ := bd2_el hf
    replace hf := hf2
    clear hf2
    refine V.callVI dX2_isTrue_93 ml_X2_116 mo_X1_placeOf mv_X1_placeOf (sH0 hT.H) (fun q hq => by cases hq; rfl) (by decide) (Or.inl ⟨rfl, SHL_lt (sH0 hT.H)⟩) (th_X1_placeOf (srh4.ly ly) hT.H q10) rfl rfl ⟨Nat.le_of_ble_eq_true rfl, Nat.le_of_ble_eq_true rfl, fun _ => ⟨rfl, rfl⟩⟩ (Nat.le_of_ble_eq_true rfl) rfl (post_I (fun sq => ?_))
    have srh11 : SR h h11 := srh4.trans sq
    clear sq q10
    refine V.ishr dX2_isTrue_96 ?_
    refine V.iconst (v := 1) dX2_isTrue_97 rfl ?_
    refine V.iand dX2_isTrue_98 ?_
    refine V.if_eq (tgt := 106) dX2_isTrue_99 (by decide) (fun c13 => ?_) (fun c13 => ?_)
    · replace hf := ite_p hf c13
      refine V.iconst (v := 0) dX2_isTrue_106 rfl ?_
      refine V.ireturn dX2_isTrue_107 rfl rfl ⟨rfl, rfl⟩ ly.1 ?_
      exact ret_I hf srh11
    · replace hf := ite_n hf c13
      refine V.iconst (v := 1) dX2_isTrue_102 rfl ?_
      refine V.goto (tgt := 107) dX2_isTrue_103 (by decide) ?_
      refine V.ireturn dX2_isTrue_107 rfl rfl ⟨rfl, rfl⟩ ly.1 ?_
      exact ret_I hf srh11
  replace hf := ite_n hf c8
  by_cases c14 : x7 = 18
  · replace hf := ite_p hf c14
    refine V.lookup (tgt := 72) dX2_isTrue_28 (by decide) (by rw [c14]; try rfl) (by decide) ?_
    refine V.aload_n dX2_isTrue_72 rfl rfl (sT0 hT) ?_
    obtain ⟨r17, h16, q15, hf2⟩ := bd2_el hf
    replace hf := hf2
    clear hf2
    refine V.callVI dX2_isTrue_73 ml_X2_109 mo_X5_isStill mv_X5_isStill (sT0 hT) (fun q hq => by cases hq; rfl) (by decide) (Or.inl ⟨rfl, SHL_lt (sT0 hT)⟩) (th_X5_isStill (srh4.ly ly) hT q15) rfl rfl ⟨Nat.le_of_ble_eq_true rfl, Nat.le_of_ble_eq_true rfl, fun _ => ⟨rfl, rfl⟩⟩ (Nat.le_of_ble_eq_true rfl) rfl (post_I (fun sq => ?_))
    have srh16 : SR h h16 := srh4.trans sq
    clear sq q15
    obtain ⟨b18, hf2⟩ := gd_el hf
    replace hf := hf2
    clear hf2
    refine V.ireturn dX2_isTrue_76 rfl (narB b18) ⟨rfl, rfl⟩ ly.1 ?_
    exact ret_I hf srh16
  replace hf := ite_n hf c14
  by_cases c19 : x7 = 60
  · replace hf := ite_p hf c19
    refine V.lookup (tgt := 108) dX2_isTrue_28 (by decide) (by rw [c19]; try rfl) (by decide) ?_
    refine V.iload dX2_isTrue_108 rfl ?_
    refine V.iload dX2_isTrue_110 rfl ?_
    refine V.icmp_ge (tgt := 119) dX2_isTrue_112 (by decide) (fun c20 => ?_) (fun c20 => ?_)
    · replace hf := ite_p hf c20
      refine V.iconst (v := 0) dX2_isTrue_119 rfl ?_
      refine V.ireturn dX2_isTrue_120 rfl rfl ⟨rfl, rfl⟩ ly.1 ?_
      exact ret_I hf srh4
    · replace hf := ite_n hf c20
      refine V.iconst (v := 1) dX2_isTrue_115 rfl ?_
      refine V.goto (tgt := 120) dX2_isTrue_116 (by decide) ?_
      refine V.ireturn dX2_isTrue_120 rfl rfl ⟨rfl, rfl⟩ ly.1 ?_
      exact ret_I hf srh4
  replace hf := ite_n hf c19
  by_cases c21 : x7 = 62
  · replace hf := ite_p hf c21
    refine V.lookup (tgt := 121) dX2_isTrue_28 (by decide) (by rw [c21]; try rfl) (by decide) ?_
    refine V.iload dX2_isTrue_121 rfl ?_
    refine V.iload dX2_isTrue_123 rfl ?_
    refine V.icmp_le (tgt := 132) dX2_isTrue_125 (by decide) (fun c22 => ?_) (fun c22 => ?_)
    · replace hf := ite_p hf c22
      refine V.iconst (v := 0) dX2_isTrue_132 rfl ?_
      refine V.ireturn dX2_isTrue_133 rfl rfl ⟨rfl, rfl⟩ ly.1 ?_
      exact ret_I hf srh4
    · replace hf := ite_n hf c22
      refine V.iconst (v := 1) dX2_isTrue_128 rfl ?_
      refine V.goto (tgt := 133) dX2_isTrue_129 (by decide) ?_
      refine V.ireturn dX2_isTrue_133 rfl rfl ⟨rfl, rfl⟩ ly.1 ?_
      exact ret_I hf srh4
  replace hf := ite_n hf c21
  have nc8 := lv_neT c8 (a := 17) rfl
  have nc14 := lv_neT c14 (a := 18) rfl
  have nc19 := lv_neT c19 (a := 60) rfl
  have nc21 := lv_neT c21 (a := 62) rfl
  refine V.lookup (tgt := 134) dX2_isTrue_28 (by decide) (lk_dflt (by intro q hq; simp at hq; rcases hq with rfl | rfl | rfl | rfl <;> simp <;> omega)) (by decide) ?_
  refine V.iload dX2_isTrue_134 rfl ?_
  refine V.iload dX2_isTrue_136 rfl ?_
  refine V.icmp_ne (tgt := 145) dX2_isTrue_138 (by decide) (fun c23 => ?_) (fun c23 => ?_)
  · replace hf := ite_n hf c23
    refine V.iconst (v := 0) dX2_isTrue_145 rfl ?_
    refine V.ireturn dX2_isTrue_146 rfl rfl ⟨rfl, rfl⟩ ly.1 ?_
    exact ret_I hf srh4
  · replace hf := ite_p hf c23
    refine V.iconst (v := 1) dX2_isTrue_141 rfl ?_
    refine V.goto (tgt := 146) dX2_isTrue_142 (by decide) ?_
    refine V.ireturn dX2_isTrue_146 rfl rfl ⟨rfl, rfl⟩ ly.1 ?_
    exact ret_I hf srh4
set_option maxRecDepth 100000 in
theorem th_X2_leaveBlock {h : HP} (ly : Lay h) {v : Nat} (hV : isV v) {y : Nat} (hY : isY y) {a2 : Int32} {rr : Int32} {hh : HP} (hf : f_X2_leaveBlock h v y a2 = some (rr, hh)) : Spec yX2_leaveBlock cX2_leaveBlock miX2_leaveBlock [.ref v, .ref y, .int a2] h (pI fun r' h' => (r' = rr ∧ h' = hh) ∧ SR h hh) := by
  refine Spec.of (ls0 := [.ref v, .ref y, .int a2, .null]) mo_X2_leaveBlock (Nat.le_of_ble_eq_true rfl) rfl ?_
  rw [ly.1]
  have srh : SR h h := SR.refl h
  unfold f_X2_leaveBlock at hf
  refine V.aload_n dX2_leaveBlock_0 rfl rfl (sY0 hY) ?_
  refine V.getR (r := y + 5) dX2_leaveBlock_1 fl_X2_61 (sY0 hY) (Or.inl ⟨rfl, SHL_lt (sY0 hY)⟩) rfl (rY_partners (srh.ly ly) hY) ?_
  refine V.iload_n dX2_leaveBlock_4 rfl rfl ?_
  obtain ⟨b1, hf2⟩ := gdi_el hf
  replace hf := hf2
  clear hf2
  refine V.iaload dX2_leaveBlock_5 (sY5 hY) (Or.inl ⟨rfl, SHL_lt (sY5 hY)⟩) b1 ?_
  refine V.nmi (fun x2 ex2 => ?_)
  replace hf := lt_el hf x2 ex2
  refine V.istore_n (ls' := [.ref v, .ref y, .int a2, .int x2]) dX2_leaveBlock_6 rfl (by decide) rfl ?_
  refine V.aload_n dX2_leaveBlock_7 rfl rfl (sY0 hY) ?_
  refine V.getR (r := y + 1) dX2_leaveBlock_8 fl_X2_48 (sY0 hY) (Or.inl ⟨rfl, SHL_lt (sY0 hY)⟩) rfl (rY_words (srh.ly ly) hY) ?_
  refine V.iload_n dX2_leaveBlock_11 rfl rfl ?_
  obtain ⟨b3, hf2⟩ := gdi_el hf
  replace hf := hf2
  clear hf2
  refine V.iaload dX2_leaveBlock_12 (sY1 hY) (Or.inl ⟨rfl, SHL_lt (sY1 hY)⟩) b3 ?_
  refine V.bipush (v := 19) dX2_leaveBlock_13 rfl ?_
  refine V.icmp_ne (tgt := 41) dX2_leaveBlock_15 (by decide) (fun c4 => ?_) (fun c4 => ?_)
  · replace hf := ite_n hf c4
    refine V.iload_n dX2_leaveBlock_41 rfl rfl ?_
    refine V.iconst (v := 1) dX2_leaveBlock_42 rfl ?_
    refine V.iadd dX2_leaveBlock_43 ?_
    refine V.ireturn dX2_leaveBlock_44 rfl rfl ⟨rfl, rfl⟩ ly.1 ?_
    exact ret_I hf srh
  · replace hf := ite_p hf c4
    refine V.aload_n dX2_leaveBlock_18 rfl rfl (sV0 hV) ?_
    refine V.getR (r := v + 1) dX2_leaveBlock_19 fl_X2_9 (sV0 hV) (Or.inl ⟨rfl, SHL_lt (sV0 hV)⟩) rfl (rV_roundsLeft (srh.ly ly) hV) ?_
    refine V.iload_n dX2_leaveBlock_22 rfl rfl ?_
    refine V.dup2 dX2_leaveBlock_23 rfl rfl ?_
    obtain ⟨b5, hf2⟩ := gdi_el hf
    replace hf := hf2
    clear hf2
    refine V.iaload dX2_leaveBlock_24 (sV1 hV) (Or.inl ⟨rfl, SHL_lt (sV1 hV)⟩) b5 ?_
    refine V.iconst (v := 1) dX2_leaveBlock_25 rfl ?_
    refine V.isub dX2_leaveBlock_26 ?_
    obtain ⟨b6, hf2⟩ := gdi_el hf
    replace hf := hf2
    clear hf2
    refine V.iastore dX2_leaveBlock_27 (sV1 hV) (Or.inl ⟨rfl, SHL_lt (sV1 hV)⟩) b6 ?_
    refine V.nameH (fun g7 eg7 => ?_)
    replace hf := lt_el hf g7 eg7
    have srg7 : SR h g7 := by rw [eg7]; exact srh.I _ _ _
    refine V.aload_n dX2_leaveBlock_28 rfl rfl (sV0 hV) ?_
    refine V.getR (r := v + 1) dX2_leaveBlock_29 fl_X2_9 (sV0 hV) (Or.inl ⟨rfl, SHL_lt (sV0 hV)⟩) rfl (rV_roundsLeft (srg7.ly ly) hV) ?_
    refine V.iload_n dX2_leaveBlock_32 rfl rfl ?_
    obtain ⟨b8, hf2⟩ := gdi_el hf
    replace hf := hf2
    clear hf2
    refine V.iaload dX2_leaveBlock_33 (sV1 hV) (Or.inl ⟨rfl, SHL_lt (sV1 hV)⟩) b8 ?_
    refine V.if_le (tgt := 41) dX2_leaveBlock_34 (by decide) (fun c9 => ?_) (fun c9 => ?_)
    · replace hf := ite_p hf c9
      refine V.iload_n dX2_leaveBlock_41 rfl rfl ?_
      refine V.iconst (v := 1) dX2_leaveBlock_42 rfl ?_
      refine V.iadd dX2_leaveBlock_43 ?_
      refine V.ireturn dX2_leaveBlock_44 rfl rfl ⟨rfl, rfl⟩ ly.1 ?_
      exact ret_I hf srg7
    · replace hf := ite_n hf c9
      refine V.iload_n dX2_leaveBlock_37 rfl rfl ?_
      refine V.iconst (v := 1) dX2_leaveBlock_38 rfl ?_
      refine V.iadd dX2_leaveBlock_39 ?_
      refine V.ireturn dX2_leaveBlock_40 rfl rfl ⟨rfl, rfl⟩ ly.1 ?_
      exact ret_I hf srg7
set_option maxRecDepth 100000 in
theorem th_X2_doStep_203 {h0 : HP} (ly : Lay h0) {v : Nat} (hV : isV v) {t : Nat} (hT : isT t) {rr : Int32} {hh : HP}  : ∀ (l2 : Int32) (h : HP), SR h0 h → f_X2_doStep_203 v t l2 h = some (rr, hh) → V cX2_doStep miX2_doStep (ZI h0 miX2_doStep rr hh) 130 203 [.null, .null, .int l2, .null, .null] [] h := by
  intro l2 h srh hf
  unfold f_X2_doStep_203 at hf
  refine V.iload_n dX2_doStep_203 rfl rfl ?_
  refine V.iconst (v := 1) dX2_doStep_204 rfl ?_
  refine V.iadd dX2_doStep_205 ?_
  refine V.ireturn dX2_doStep_206 rfl rfl ⟨rfl, rfl⟩ ly.1 ?_
  exact ret_I hf srh
set_option maxRecDepth 100000 in
theorem th_X2_doStep {h : HP} (ly : Lay h) {v : Nat} (hV : isV v) {t : Nat} (hT : isT t) {a2 : Int32} {rr : Int32} {hh : HP} (hf : f_X2_doStep h v t a2 = some (rr, hh)) : Spec yX2_doStep cX2_doStep miX2_doStep [.ref v, .ref t, .int a2] h (pI fun r' h' => (r' = rr ∧ h' = hh) ∧ SR h hh) := by
  refine Spec.of (ls0 := [.ref v, .ref t, .int a2, .null, .null]) mo_X2_doStep (Nat.le_of_ble_eq_true rfl) rfl ?_
  rw [ly.1]
  have srh : SR h h := SR.refl h
  unfold f_X2_doStep at hf
  refine V.aload_n dX2_doStep_0 rfl rfl (sT0 hT) ?_
  refine V.getR (r := t + 3) dX2_doStep_1 fl_X2_15 (sT0 hT) (Or.inl ⟨rfl, SHL_lt (sT0 hT)⟩) rfl (rT_year (srh.ly ly) hT) ?_
  refine V.astore_n (ls' := [.ref v, .ref t, .int a2, .ref (t + 3), .null]) dX2_doStep_4 rfl (by decide) (sY0 hT.Y) rfl ?_
  refine V.aload_n dX2_doStep_5 rfl rfl (sY0 hT.Y) ?_
  refine V.getR (r := t + 3 + 3) dX2_doStep_6 fl_X2_64 (sY0 hT.Y) (Or.inl ⟨rfl, SHL_lt (sY0 hT.Y)⟩) rfl (rY_firsts (srh.ly ly) hT.Y) ?_
  refine V.iload_n dX2_doStep_9 rfl rfl ?_
  obtain ⟨b1, hf2⟩ := gdi_el hf
  replace hf := hf2
  clear hf2
  refine V.iaload dX2_doStep_10 (sY3 hT.Y) (Or.inl ⟨rfl, SHL_lt (sY3 hT.Y)⟩) b1 ?_
  refine V.nmi (fun x2 ex2 => ?_)
  replace hf := lt_el hf x2 ex2
  refine V.istore (ls' := [.ref v, .ref t, .int a2, .ref (t + 3), .int x2]) dX2_doStep_11 (by decide) rfl ?_
  refine V.aload_n dX2_doStep_13 rfl rfl (sY0 hT.Y) ?_
  refine V.getR (r := t + 3 + 1) dX2_doStep_14 fl_X2_48 (sY0 hT.Y) (Or.inl ⟨rfl, SHL_lt (sY0 hT.Y)⟩) rfl (rY_words (srh.ly ly) hT.Y) ?_
  refine V.iload_n dX2_doStep_17 rfl rfl ?_
  obtain ⟨b3, hf2⟩ := gdi_el hf
  replace hf := hf2
  clear hf2
  refine V.iaload dX2_doStep_18 (sY1 hT.Y) (Or.inl ⟨rfl, SHL_lt (sY1 hT.Y)⟩) b3 ?_
  refine V.nmi (fun x4 ex4 => ?_)
  replace hf := lt_el hf x4 ex4
  by_cases c5 : x4 = 9
  · replace hf := ite_p hf c5
    refine V.tableIn (tgt := 76) dX2_doStep_19 (by rw [c5]; decide) (by rw [c5]; decide) (by rw [c5]; rfl) (by decide) ?_
    refine V.aload_n dX2_doStep_76 rfl rfl (sT0 hT) ?_
    refine V.iload dX2_doStep_77 rfl ?_
    obtain ⟨h7, q6, hf2⟩ := bd_el hf
    replace hf := hf2
    clear hf2
    refine V.callVV dX2_doStep_79 ml_X2_67 mo_X5_passNights mv_X5_passNights (sT0 hT) (fun q hq => by cases hq; rfl) (by decide) (Or.inl ⟨rfl, SHL_lt (sT0 hT)⟩) (th_X5_passNights (srh.ly ly) hT q6) rfl rfl ⟨Nat.le_of_ble_eq_true rfl, Nat.le_of_ble_eq_true rfl, fun _ => ⟨rfl, rfl⟩⟩ (Nat.le_of_ble_eq_true rfl) (Or.inl rfl) (post_V (fun sq => ?_))
    have srh7 : SR h h7 := srh.trans sq
    clear sq q6
    refine V.aload_n dX2_doStep_82 rfl rfl (sV0 hV) ?_
    refine V.dup dX2_doStep_83 rfl ?_
    refine V.getI dX2_doStep_84 fl_X2_31 (sV0 hV) (Or.inl ⟨rfl, SHL_lt (sV0 hV)⟩) rfl rfl ?_
    refine V.iload dX2_doStep_87 rfl ?_
    refine V.iadd dX2_doStep_89 ?_
    refine V.putI dX2_doStep_90 fl_X2_31 (sV0 hV) (Or.inl ⟨rfl, SHL_lt (sV0 hV)⟩) rfl (fun q hq => by cases hq; rfl) ⟨rfl, rfl⟩ ?_
    refine V.nameH (fun g8 eg8 => ?_)
    replace hf := lt_el hf g8 eg8
    have srg8 : SR h g8 := by rw [eg8]; exact srh7.I _ _ _
    refine V.goto (tgt := 203) dX2_doStep_93 (by decide) ?_
    refine V.less (ls' := [.null, .null, .int a2, .null, .null]) ⟨Or.inl rfl, Or.inl rfl, Or.inr rfl, Or.inl rfl, Or.inl rfl, trivial⟩ ?_
    exact th_X2_doStep_203 ly hV hT a2 g8 srg8 hf
  replace hf := ite_n hf c5
  by_cases c9 : x4 = 10
  · replace hf := ite_p hf c9
    refine V.tableIn (tgt := 96) dX2_doStep_19 (by rw [c9]; decide) (by rw [c9]; decide) (by rw [c9]; rfl) (by decide) ?_
    refine V.aload_n dX2_doStep_96 rfl rfl (sV0 hV) ?_
    refine V.aload_n dX2_doStep_97 rfl rfl (sT0 hT) ?_
    refine V.iload dX2_doStep_98 rfl ?_
    refine V.aload_n dX2_doStep_100 rfl rfl (sY0 hT.Y) ?_
    refine V.getR (r := t + 3 + 4) dX2_doStep_101 fl_X2_71 (sY0 hT.Y) (Or.inl ⟨rfl, SHL_lt (sY0 hT.Y)⟩) rfl (rY_seconds (srh.ly ly) hT.Y) ?_
    refine V.iload_n dX2_doStep_104 rfl rfl ?_
    obtain ⟨b10, hf2⟩ := gdi_el hf
    replace hf := hf2
    clear hf2
    refine V.iaload dX2_doStep_105 (sY4 hT.Y) (Or.inl ⟨rfl, SHL_lt (sY4 hT.Y)⟩) b10 ?_
    obtain ⟨h12, q11, hf2⟩ := bd_el hf
    replace hf := hf2
    clear hf2
    refine V.callVV dX2_doStep_106 ml_X2_74 mo_X2_turnLamp mv_X2_turnLamp (sV0 hV) (fun q hq => by cases hq; rfl) (by decide) (Or.inl ⟨rfl, SHL_lt (sV0 hV)⟩) (th_X2_turnLamp (srh.ly ly) hV hT q11) rfl rfl ⟨Nat.le_of_ble_eq_true rfl, Nat.le_of_ble_eq_true rfl, fun _ => ⟨rfl, rfl⟩⟩ (Nat.le_of_ble_eq_true rfl) (Or.inl rfl) (post_V (fun sq => ?_))
    have srh12 : SR h h12 := srh.trans sq
    clear sq q11
    refine V.goto (tgt := 203) dX2_doStep_109 (by decide) ?_
    refine V.less (ls' := [.null, .null, .int a2, .null, .null]) ⟨Or.inl rfl, Or.inl rfl, Or.inr rfl, Or.inl rfl, Or.inl rfl, trivial⟩ ?_
    exact th_X2_doStep_203 ly hV hT a2 h12 srh12 hf
  replace hf := ite_n hf c9
  by_cases c13 : x4 = 11
  · replace hf := ite_p hf c13
    refine V.tableIn (tgt := 112) dX2_doStep_19 (by rw [c13]; decide) (by rw [c13]; decide) (by rw [c13]; rfl) (by decide) ?_
    refine V.aload_n dX2_doStep_112 rfl rfl (sT0 hT) ?_
    refine V.iload dX2_doStep_113 rfl ?_
    refine V.putI dX2_doStep_115 fl_X2_78 (sT0 hT) (Or.inl ⟨rfl, SHL_lt (sT0 hT)⟩) rfl (fun q hq => by cases hq; rfl) ⟨rfl, rfl⟩ ?_
    refine V.nameH (fun g14 eg14 => ?_)
    replace hf := lt_el hf g14 eg14
    have srg14 : SR h g14 := by rw [eg14]; exact srh.I _ _ _
    refine V.goto (tgt := 203) dX2_doStep_118 (by decide) ?_
    refine V.less (ls' := [.null, .null, .int a2, .null, .null]) ⟨Or.inl rfl, Or.inl rfl, Or.inr rfl, Or.inl rfl, Or.inl rfl, trivial⟩ ?_
    exact th_X2_doStep_203 ly hV hT a2 g14 srg14 hf
  replace hf := ite_n hf c13
  by_cases c15 : x4 = 12
  · replace hf := ite_p hf c15
    refine V.tableIn (tgt := 121) dX2_doStep_19 (by rw [c15]; decide) (by rw [c15]; decide) (by rw [c15]; rfl) (by decide) ?_
    refine V.aload_n dX2_doStep_121 rfl rfl (sV0 hV) ?_
    refine V.dup dX2_doStep_122 rfl ?_
    refine V.getI dX2_doStep_123 fl_X2_28 (sV0 hV) (Or.inl ⟨rfl, SHL_lt (sV0 hV)⟩) rfl rfl ?_
    refine V.aload_n dX2_doStep_126 rfl rfl (sT0 hT) ?_
    obtain ⟨r18, h17, q16, hf2⟩ := bd2_el hf
    replace hf := hf2
    clear hf2
    refine V.callVI dX2_doStep_127 ml_X2_81 mo_X5_holdElection mv_X5_holdElection (sT0 hT) (fun q hq => by cases hq; rfl) (by decide) (Or.inl ⟨rfl, SHL_lt (sT0 hT)⟩) (th_X5_holdElection (srh.ly ly) hT q16) rfl rfl ⟨Nat.le_of_ble_eq_true rfl, Nat.le_of_ble_eq_true rfl, fun _ => ⟨rfl, rfl⟩⟩ (Nat.le_of_ble_eq_true rfl) rfl (post_I (fun sq => ?_))
    have srh17 : SR h h17 := srh.trans sq
    clear sq q16
    refine V.if_eq (tgt := 137) dX2_doStep_130 (by decide) (fun c19 => ?_) (fun c19 => ?_)
    · replace hf := ite_p hf c19
      refine V.iconst (v := 1) dX2_doStep_137 rfl ?_
      refine V.iadd dX2_doStep_138 ?_
      refine V.putI dX2_doStep_139 fl_X2_28 (sV0 hV) (Or.inl ⟨rfl, SHL_lt (sV0 hV)⟩) rfl (fun q hq => by cases hq; rfl) ⟨rfl, rfl⟩ ?_
      refine V.nameH (fun g20 eg20 => ?_)
      replace hf := lt_el hf g20 eg20
      have srg20 : SR h g20 := by rw [eg20]; exact srh17.I _ _ _
      refine V.goto (tgt := 203) dX2_doStep_142 (by decide) ?_
      refine V.less (ls' := [.null, .null, .int a2, .null, .null]) ⟨Or.inl rfl, Or.inl rfl, Or.inr rfl, Or.inl rfl, Or.inl rfl, trivial⟩ ?_
      exact th_X2_doStep_203 ly hV hT a2 g20 srg20 hf
    · replace hf := ite_n hf c19
      refine V.iconst (v := 0) dX2_doStep_133 rfl ?_
      refine V.goto (tgt := 138) dX2_doStep_134 (by decide) ?_
      refine V.iadd dX2_doStep_138 ?_
      refine V.putI dX2_doStep_139 fl_X2_28 (sV0 hV) (Or.inl ⟨rfl, SHL_lt (sV0 hV)⟩) rfl (fun q hq => by cases hq; rfl) ⟨rfl, rfl⟩ ?_
      refine V.nameH (fun g21 eg21 => ?_)
      replace hf := lt_el hf g21 eg21
      have srg21 : SR h g21 := by rw [eg21]; exact srh17.I _ _ _
      refine V.goto (tgt := 203) dX2_doStep_142 (by decide) ?_
      refine V.less (ls' := [.null, .null, .int a2, .null, .null]) ⟨Or.inl rfl, Or.inl rfl, Or.inr rfl, Or.inl rfl, Or.inl rfl, trivial⟩ ?_
      exact th_X2_doStep_203 ly hV hT a2 g21 srg21 hf
  replace hf := ite_n hf c15
  by_cases c22 : x4 = 13
  · replace hf := ite_p hf c22
    refine V.tableIn (tgt := 145) dX2_doStep_19 (by rw [c22]; decide) (by rw [c22]; decide) (by rw [c22]; rfl) (by decide) ?_
    refine V.aload_n dX2_doStep_145 rfl rfl (sV0 hV) ?_
    refine V.aload_n dX2_doStep_146 rfl rfl (sT0 hT) ?_
    refine V.iload dX2_doStep_147 rfl ?_
    obtain ⟨h24, q23, hf2⟩ := bd_el hf
    replace hf := hf2
    clear hf2
    refine V.callVV dX2_doStep_149 ml_X2_85 mo_X2_blow mv_X2_blow (sV0 hV) (fun q hq => by cases hq; rfl) (by decide) (Or.inl ⟨rfl, SHL_lt (sV0 hV)⟩) (th_X2_blow (srh.ly ly) hV hT q23) rfl rfl ⟨Nat.le_of_ble_eq_true rfl, Nat.le_of_ble_eq_true rfl, fun _ => ⟨rfl, rfl⟩⟩ (Nat.le_of_ble_eq_true rfl) (Or.inl rfl) (post_V (fun sq => ?_))
    have srh24 : SR h h24 := srh.trans sq
    clear sq q23
    refine V.goto (tgt := 203) dX2_doStep_152 (by decide) ?_
    refine V.less (ls' := [.null, .null, .int a2, .null, .null]) ⟨Or.inl rfl, Or.inl rfl, Or.inr rfl, Or.inl rfl, Or.inl rfl, trivial⟩ ?_
    exact th_X2_doStep_203 ly hV hT a2 h24 srh24 hf
  replace hf := ite_n hf c22
  by_cases c25 : x4 = 14
  · replace hf := ite_p hf c25
    refine V.tableIn (tgt := 155) dX2_doStep_19 (by rw [c25]; decide) (by rw [c25]; decide) (by rw [c25]; rfl) (by decide) ?_
    refine V.aload_n dX2_doStep_155 rfl rfl (sV0 hV) ?_
    refine V.aload_n dX2_doStep_156 rfl rfl (sT0 hT) ?_
    obtain ⟨h27, q26, hf2⟩ := bd_el hf
    replace hf := hf2
    clear hf2
    refine V.callVV dX2_doStep_157 ml_X2_89 mo_X2_bear mv_X2_bear (sV0 hV) (fun q hq => by cases hq; rfl) (by decide) (Or.inl ⟨rfl, SHL_lt (sV0 hV)⟩) (th_X2_bear (srh.ly ly) hV hT q26) rfl rfl ⟨Nat.le_of_ble_eq_true rfl, Nat.le_of_ble_eq_true rfl, fun _ => ⟨rfl, rfl⟩⟩ (Nat.le_of_ble_eq_true rfl) (Or.inl rfl) (post_V (fun sq => ?_))
    have srh27 : SR h h27 := srh.trans sq
    clear sq q26
    refine V.goto (tgt := 203) dX2_doStep_160 (by decide) ?_
    refine V.less (ls' := [.null, .null, .int a2, .null, .null]) ⟨Or.inl rfl, Or.inl rfl, Or.inr rfl, Or.inl rfl, Or.inl rfl, trivial⟩ ?_
    exact th_X2_doStep_203 ly hV hT a2 h27 srh27 hf
  replace hf := ite_n hf c25
  by_cases c28 : x4 = 15
  · replace hf := ite_p hf c28
    refine V.tableIn (tgt := 163) dX2_doStep_19 (by rw [c28]; decide) (by rw [c28]; decide) (by rw [c28]; rfl) (by decide) ?_
    refine V.aload_n dX2_doStep_163 rfl rfl (sV0 hV) ?_
    refine V.aload_n dX2_doStep_164 rfl rfl (sT0 hT) ?_
    refine V.iload_n dX2_doStep_165 rfl rfl ?_
    obtain ⟨r31, h30, q29, hf2⟩ := bd2_el hf
    replace hf := hf2
    clear hf2
    refine V.callVI dX2_doStep_166 ml_X2_93 mo_X2_isTrue mv_X2_isTrue (sV0 hV) (fun q hq => by cases hq; rfl) (by decide) (Or.inl ⟨rfl, SHL_lt (sV0 hV)⟩) (th_X2_isTrue (srh.ly ly) hV hT q29) rfl rfl ⟨Nat.le_of_ble_eq_true rfl, Nat.le_of_ble_eq_true rfl, fun _ => ⟨rfl, rfl⟩⟩ (Nat.le_of_ble_eq_true rfl) rfl (post_I (fun sq => ?_))
    have srh30 : SR h h30 := srh.trans sq
    clear sq q29
    refine V.if_eq (tgt := 178) dX2_doStep_169 (by decide) (fun c32 => ?_) (fun c32 => ?_)
    · replace hf := ite_p hf c32
      refine V.aload_n dX2_doStep_178 rfl rfl (sY0 hT.Y) ?_
      refine V.getR (r := t + 3 + 5) dX2_doStep_179 fl_X2_61 (sY0 hT.Y) (Or.inl ⟨rfl, SHL_lt (sY0 hT.Y)⟩) rfl (rY_partners (srh30.ly ly) hT.Y) ?_
      refine V.iload_n dX2_doStep_182 rfl rfl ?_
      obtain ⟨b33, hf2⟩ := gdi_el hf
      replace hf := hf2
      clear hf2
      refine V.iaload dX2_doStep_183 (sY5 hT.Y) (Or.inl ⟨rfl, SHL_lt (sY5 hT.Y)⟩) b33 ?_
      refine V.iconst (v := 1) dX2_doStep_184 rfl ?_
      refine V.iadd dX2_doStep_185 ?_
      refine V.ireturn dX2_doStep_186 rfl rfl ⟨rfl, rfl⟩ ly.1 ?_
      exact ret_I hf srh30
    · replace hf := ite_n hf c32
      refine V.iload_n dX2_doStep_172 rfl rfl ?_
      refine V.iconst (v := 1) dX2_doStep_173 rfl ?_
      refine V.iadd dX2_doStep_174 ?_
      refine V.goto (tgt := 186) dX2_doStep_175 (by decide) ?_
      refine V.ireturn dX2_doStep_186 rfl rfl ⟨rfl, rfl⟩ ly.1 ?_
      exact ret_I hf srh30
  replace hf := ite_n hf c28
  by_cases c34 : x4 = 16
  · replace hf := ite_p hf c34
    refine V.tableIn (tgt := 198) dX2_doStep_19 (by rw [c34]; decide) (by rw [c34]; decide) (by rw [c34]; rfl) (by decide) ?_
    refine V.aload_n dX2_doStep_198 rfl rfl (sY0 hT.Y) ?_
    refine V.getI dX2_doStep_199 fl_X2_45 (sY0 hT.Y) (Or.inl ⟨rfl, SHL_lt (sY0 hT.Y)⟩) rfl rfl ?_
    refine V.ireturn dX2_doStep_202 rfl rfl ⟨rfl, rfl⟩ ly.1 ?_
    exact ret_I hf srh
  replace hf := ite_n hf c34
  by_cases c35 : x4 = 17
  · replace hf := ite_p hf c35
    refine V.tableIn (tgt := 198) dX2_doStep_19 (by rw [c35]; decide) (by rw [c35]; decide) (by rw [c35]; rfl) (by decide) ?_
    refine V.aload_n dX2_doStep_198 rfl rfl (sY0 hT.Y) ?_
    refine V.getI dX2_doStep_199 fl_X2_45 (sY0 hT.Y) (Or.inl ⟨rfl, SHL_lt (sY0 hT.Y)⟩) rfl rfl ?_
    refine V.ireturn dX2_doStep_202 rfl rfl ⟨rfl, rfl⟩ ly.1 ?_
    exact ret_I hf srh
  replace hf := ite_n hf c35
  by_cases c36 : x4 = 18
  · replace hf := ite_p hf c36
    refine V.tableIn (tgt := 198) dX2_doStep_19 (by rw [c36]; decide) (by rw [c36]; decide) (by rw [c36]; rfl) (by decide) ?_
    refine V.aload_n dX2_doStep_198 rfl rfl (sY0 hT.Y) ?_
    refine V.getI dX2_doStep_199 fl_X2_45 (sY0 hT.Y) (Or.inl ⟨rfl, SHL_lt (sY0 hT.Y)⟩) rfl rfl ?_
    refine V.ireturn dX2_doStep_202 rfl rfl ⟨rfl, rfl⟩ ly.1 ?_
    exact ret_I hf srh
  replace hf := ite_n hf c36
  by_cases c37 : x4 = 19
  · replace hf := ite_p hf c37
    refine V.tableIn (tgt := 187) dX2_doStep_19 (by rw [c37]; decide) (by rw [c37]; decide) (by rw [c37]; rfl) (by decide) ?_
    refine V.aload_n dX2_doStep_187 rfl rfl (sV0 hV) ?_
    refine V.getR (r := v + 1) dX2_doStep_188 fl_X2_9 (sV0 hV) (Or.inl ⟨rfl, SHL_lt (sV0 hV)⟩) rfl (rV_roundsLeft (srh.ly ly) hV) ?_
    refine V.iload_n dX2_doStep_191 rfl rfl ?_
    refine V.iload dX2_doStep_192 rfl ?_
    obtain ⟨b38, hf2⟩ := gdi_el hf
    replace hf := hf2
    clear hf2
    refine V.iastore dX2_doStep_194 (sV1 hV) (Or.inl ⟨rfl, SHL_lt (sV1 hV)⟩) b38 ?_
    refine V.nameH (fun g39 eg39 => ?_)
    replace hf := lt_el hf g39 eg39
    have srg39 : SR h g39 := by rw [eg39]; exact srh.I _ _ _
    refine V.goto (tgt := 203) dX2_doStep_195 (by decide) ?_
    refine V.less (ls' := [.null, .null, .int a2, .null, .null]) ⟨Or.inl rfl, Or.inl rfl, Or.inr rfl, Or.inl rfl, Or.inl rfl, trivial⟩ ?_
    exact th_X2_doStep_203 ly hV hT a2 g39 srg39 hf
  replace hf := ite_n hf c37
  have nc5 := lv_neT c5 (a := 9) rfl
  have nc9 := lv_neT c9 (a := 10) rfl
  have nc13 := lv_neT c13 (a := 11) rfl
  have nc15 := lv_neT c15 (a := 12) rfl
  have nc22 := lv_neT c22 (a := 13) rfl
  have nc25 := lv_neT c25 (a := 14) rfl
  have nc28 := lv_neT c28 (a := 15) rfl
  have nc34 := lv_neT c34 (a := 16) rfl
  have nc35 := lv_neT c35 (a := 17) rfl
  have nc36 := lv_neT c36 (a := 18) rfl
  have nc37 := lv_neT c37 (a := 19) rfl
  refine V.tableOut (tgt := 198) dX2_doStep_19 (by omega) (by decide) ?_
  refine V.aload_n dX2_doStep_198 rfl rfl (sY0 hT.Y) ?_
  refine V.getI dX2_doStep_199 fl_X2_45 (sY0 hT.Y) (Or.inl ⟨rfl, SHL_lt (sY0 hT.Y)⟩) rfl rfl ?_
  refine V.ireturn dX2_doStep_202 rfl rfl ⟨rfl, rfl⟩ ly.1 ?_
  exact ret_I hf srh
set_option maxRecDepth 100000 in
theorem th_X2_liveBy_46 {h0 : HP} (ly : Lay h0) {v : Nat} (hV : isV v) {t : Nat} (hT : isT t) {hh : HP}  : ∀ (n : Nat) (l4 : Int32) (l5 : Int32) (h : HP), SR h0 h → f_X2_liveBy_46 v t n l4 l5 h = some hh → V cX2_liveBy miX2_liveBy (ZV h0 miX2_liveBy hh) 130 46 [.ref v, .ref t, .null, .ref (t + 3), .int l4, .int l5] [] h := by
  intro n
  induction n with
  | zero => intro l4 l5 h srh hf; exact absurd hf (by unfold f_X2_liveBy_46; simp)
  | succ n ih =>
    intro l4 l5 h srh hf
    unfold f_X2_liveBy_46 at hf
    refine V.iload dX2_liveBy_46 rfl ?_
    refine V.ldc (v := 100000) dX2_liveBy_48 kc_X2_44 ?_
    refine V.icmp_ge (tgt := 132) dX2_liveBy_50 (by decide) (fun c8 => ?_) (fun c8 => ?_)
    · replace hf := ite_p hf c8
      refine V.vreturn' dX2_liveBy_132 rfl ly.1 (Or.inl ⟨rfl, rfl⟩) ?_
      exact ret_V hf srh
    · replace hf := ite_n hf c8
      refine V.iload dX2_liveBy_53 rfl ?_
      refine V.aload_n dX2_liveBy_55 rfl rfl (sY0 hT.Y) ?_
      refine V.getI dX2_liveBy_56 fl_X2_45 (sY0 hT.Y) (Or.inl ⟨rfl, SHL_lt (sY0 hT.Y)⟩) rfl rfl ?_
      refine V.icmp_ge (tgt := 132) dX2_liveBy_59 (by decide) (fun c9 => ?_) (fun c9 => ?_)
      · replace hf := ite_p hf c9
        refine V.vreturn' dX2_liveBy_132 rfl ly.1 (Or.inl ⟨rfl, rfl⟩) ?_
        exact ret_V hf srh
      · replace hf := ite_n hf c9
        refine V.aload_n dX2_liveBy_62 rfl rfl (sY0 hT.Y) ?_
        refine V.getR (r := t + 3 + 1) dX2_liveBy_63 fl_X2_48 (sY0 hT.Y) (Or.inl ⟨rfl, SHL_lt (sY0 hT.Y)⟩) rfl (rY_words (srh.ly ly) hT.Y) ?_
        refine V.iload dX2_liveBy_66 rfl ?_
        obtain ⟨b10, hf2⟩ := gdi_el hf
        replace hf := hf2
        clear hf2
        refine V.iaload dX2_liveBy_68 (sY1 hT.Y) (Or.inl ⟨rfl, SHL_lt (sY1 hT.Y)⟩) b10 ?_
        refine V.bipush (v := 20) dX2_liveBy_69 rfl ?_
        refine V.icmp_ne (tgt := 86) dX2_liveBy_71 (by decide) (fun c11 => ?_) (fun c11 => ?_)
        · replace hf := ite_n hf c11
          refine V.aload_n dX2_liveBy_86 rfl rfl (sV0 hV) ?_
          refine V.getI dX2_liveBy_87 fl_X2_25 (sV0 hV) (Or.inl ⟨rfl, SHL_lt (sV0 hV)⟩) rfl rfl ?_
          refine V.sipush (v := 300) dX2_liveBy_90 rfl ?_
          refine V.icmp_ge (tgt := 118) dX2_liveBy_93 (by decide) (fun c12 => ?_) (fun c12 => ?_)
          · replace hf := ite_p hf c12
            refine V.aload_n dX2_liveBy_118 rfl rfl (sV0 hV) ?_
            refine V.iconst (v := 1) dX2_liveBy_119 rfl ?_
            refine V.putI dX2_liveBy_120 fl_X2_40 (sV0 hV) (Or.inl ⟨rfl, SHL_lt (sV0 hV)⟩) rfl (fun q hq => by cases hq; rfl) ⟨rfl, rfl⟩ ?_
            refine V.nameH (fun g13 eg13 => ?_)
            replace hf := lt_el hf g13 eg13
            have srg13 : SR h0 g13 := by rw [eg13]; exact srh.I _ _ _
            refine V.goto (tgt := 132) dX2_liveBy_123 (by decide) ?_
            refine V.vreturn' dX2_liveBy_132 rfl ly.1 (Or.inl ⟨rfl, rfl⟩) ?_
            exact ret_V hf srg13
          · replace hf := ite_n hf c12
            refine V.aload_n dX2_liveBy_96 rfl rfl (sV0 hV) ?_
            refine V.dup dX2_liveBy_97 rfl ?_
            refine V.getI dX2_liveBy_98 fl_X2_25 (sV0 hV) (Or.inl ⟨rfl, SHL_lt (sV0 hV)⟩) rfl rfl ?_
            refine V.iconst (v := 1) dX2_liveBy_101 rfl ?_
            refine V.iadd dX2_liveBy_102 ?_
            refine V.putI dX2_liveBy_103 fl_X2_25 (sV0 hV) (Or.inl ⟨rfl, SHL_lt (sV0 hV)⟩) rfl (fun q hq => by cases hq; rfl) ⟨rfl, rfl⟩ ?_
            refine V.nameH (fun g14 eg14 => ?_)
            replace hf := lt_el hf g14 eg14
            have srg14 : SR h0 g14 := by rw [eg14]; exact srh.I _ _ _
            refine V.aload_n dX2_liveBy_106 rfl rfl (sV0 hV) ?_
            refine V.aload_n dX2_liveBy_107 rfl rfl (sT0 hT) ?_
            refine V.iload dX2_liveBy_108 rfl ?_
            obtain ⟨r17, h16, q15, hf2⟩ := bd2_el hf
            replace hf := hf2
            clear hf2
            refine V.callVI dX2_liveBy_110 ml_X2_57 mo_X2_doStep mv_X2_doStep (sV0 hV) (fun q hq => by cases hq; rfl) (by decide) (Or.inl ⟨rfl, SHL_lt (sV0 hV)⟩) (th_X2_doStep (srg14.ly ly) hV hT q15) rfl rfl ⟨Nat.le_of_ble_eq_true rfl, Nat.le_of_ble_eq_true rfl, fun _ => ⟨rfl, rfl⟩⟩ (Nat.le_of_ble_eq_true rfl) rfl (post_I (fun sq => ?_))
            have srh16 : SR h0 h16 := srg14.trans sq
            clear sq q15
            refine V.istore (ls' := [.ref v, .ref t, .null, .ref (t + 3), .int r17, .int l5]) dX2_liveBy_113 (by decide) rfl ?_
            refine V.goto (tgt := 126) dX2_liveBy_115 (by decide) ?_
            obtain ⟨x18, ex18⟩ : ∃ y : Int32, y = l5 + 1 := ⟨_, rfl⟩
            replace hf := lt_el hf x18 ex18
            refine V.iinc (v := x18) (ls' := [.ref v, .ref t, .null, .ref (t + 3), .int r17, .int x18]) dX2_liveBy_126 rfl (by decide) ex18.symm rfl ?_
            refine V.goto (tgt := 46) dX2_liveBy_129 (by decide) ?_
            exact ih r17 x18 h16 srh16 hf
        · replace hf := ite_p hf c11
          refine V.aload_n dX2_liveBy_74 rfl rfl (sV0 hV) ?_
          refine V.aload_n dX2_liveBy_75 rfl rfl (sY0 hT.Y) ?_
          refine V.iload dX2_liveBy_76 rfl ?_
          obtain ⟨r21, h20, q19, hf2⟩ := bd2_el hf
          replace hf := hf2
          clear hf2
          refine V.callVI dX2_liveBy_78 ml_X2_53 mo_X2_leaveBlock mv_X2_leaveBlock (sV0 hV) (fun q hq => by cases hq; rfl) (by decide) (Or.inl ⟨rfl, SHL_lt (sV0 hV)⟩) (th_X2_leaveBlock (srh.ly ly) hV hT.Y q19) rfl rfl ⟨Nat.le_of_ble_eq_true rfl, Nat.le_of_ble_eq_true rfl, fun _ => ⟨rfl, rfl⟩⟩ (Nat.le_of_ble_eq_true rfl) rfl (post_I (fun sq => ?_))
          have srh20 : SR h0 h20 := srh.trans sq
          clear sq q19
          refine V.istore (ls' := [.ref v, .ref t, .null, .ref (t + 3), .int r21, .int l5]) dX2_liveBy_81 (by decide) rfl ?_
          refine V.goto (tgt := 126) dX2_liveBy_83 (by decide) ?_
          obtain ⟨x22, ex22⟩ : ∃ y : Int32, y = l5 + 1 := ⟨_, rfl⟩
          replace hf := lt_el hf x22 ex22
          refine V.iinc (v := x22) (ls' := [.ref v, .ref t, .null, .ref (t + 3), .int r21, .int x22]) dX2_liveBy_126 rfl (by decide) ex22.symm rfl ?_
          refine V.goto (tgt := 46) dX2_liveBy_129 (by decide) ?_
          exact ih r21 x22 h20 srh20 hf
set_option maxRecDepth 100000 in
theorem th_X2_liveBy {h : HP} (ly : Lay h) {v : Nat} (hV : isV v) {t : Nat} (hT : isT t) {a2 : Int32} {hh : HP} (hf : f_X2_liveBy h v t a2 = some hh) : Spec yX2_liveBy cX2_liveBy miX2_liveBy [.ref v, .ref t, .int a2] h (pV fun h' => h' = hh ∧ SR h hh) := by
  refine Spec.of (ls0 := [.ref v, .ref t, .int a2, .null, .null, .null]) mo_X2_liveBy (Nat.le_of_ble_eq_true rfl) rfl ?_
  rw [ly.1]
  have srh : SR h h := SR.refl h
  unfold f_X2_liveBy at hf
  refine V.aload_n dX2_liveBy_0 rfl rfl (sT0 hT) ?_
  refine V.getR (r := t + 3) dX2_liveBy_1 fl_X2_15 (sT0 hT) (Or.inl ⟨rfl, SHL_lt (sT0 hT)⟩) rfl (rT_year (srh.ly ly) hT) ?_
  refine V.astore_n (ls' := [.ref v, .ref t, .int a2, .ref (t + 3), .null, .null]) dX2_liveBy_4 rfl (by decide) (sY0 hT.Y) rfl ?_
  refine V.aload_n dX2_liveBy_5 rfl rfl (sV0 hV) ?_
  refine V.iload_n dX2_liveBy_6 rfl rfl ?_
  refine V.putI dX2_liveBy_7 fl_X2_21 (sV0 hV) (Or.inl ⟨rfl, SHL_lt (sV0 hV)⟩) rfl (fun q hq => by cases hq; rfl) ⟨rfl, rfl⟩ ?_
  refine V.nameH (fun g1 eg1 => ?_)
  replace hf := lt_el hf g1 eg1
  have srg1 : SR h g1 := by rw [eg1]; exact srh.I _ _ _
  refine V.aload_n dX2_liveBy_10 rfl rfl (sV0 hV) ?_
  refine V.iconst (v := 0) dX2_liveBy_11 rfl ?_
  refine V.putI dX2_liveBy_12 fl_X2_25 (sV0 hV) (Or.inl ⟨rfl, SHL_lt (sV0 hV)⟩) rfl (fun q hq => by cases hq; rfl) ⟨rfl, rfl⟩ ?_
  refine V.nameH (fun g2 eg2 => ?_)
  replace hf := lt_el hf g2 eg2
  have srg2 : SR h g2 := by rw [eg2]; exact srg1.I _ _ _
  refine V.aload_n dX2_liveBy_15 rfl rfl (sV0 hV) ?_
  refine V.iconst (v := 0) dX2_liveBy_16 rfl ?_
  refine V.putI dX2_liveBy_17 fl_X2_28 (sV0 hV) (Or.inl ⟨rfl, SHL_lt (sV0 hV)⟩) rfl (fun q hq => by cases hq; rfl) ⟨rfl, rfl⟩ ?_
  refine V.nameH (fun g3 eg3 => ?_)
  replace hf := lt_el hf g3 eg3
  have srg3 : SR h g3 := by rw [eg3]; exact srg2.I _ _ _
  refine V.aload_n dX2_liveBy_20 rfl rfl (sV0 hV) ?_
  refine V.iconst (v := 0) dX2_liveBy_21 rfl ?_
  refine V.putI dX2_liveBy_22 fl_X2_31 (sV0 hV) (Or.inl ⟨rfl, SHL_lt (sV0 hV)⟩) rfl (fun q hq => by cases hq; rfl) ⟨rfl, rfl⟩ ?_
  refine V.nameH (fun g4 eg4 => ?_)
  replace hf := lt_el hf g4 eg4
  have srg4 : SR h g4 := by rw [eg4]; exact srg3.I _ _ _
  refine V.aload_n dX2_liveBy_25 rfl rfl (sV0 hV) ?_
  refine V.iconst (v := 0) dX2_liveBy_26 rfl ?_
  refine V.putI dX2_liveBy_27 fl_X2_34 (sV0 hV) (Or.inl ⟨rfl, SHL_lt (sV0 hV)⟩) rfl (fun q hq => by cases hq; rfl) ⟨rfl, rfl⟩ ?_
  refine V.nameH (fun g5 eg5 => ?_)
  replace hf := lt_el hf g5 eg5
  have srg5 : SR h g5 := by rw [eg5]; exact srg4.I _ _ _
  refine V.aload_n dX2_liveBy_30 rfl rfl (sV0 hV) ?_
  refine V.iconst (v := 0) dX2_liveBy_31 rfl ?_
  refine V.putI dX2_liveBy_32 fl_X2_37 (sV0 hV) (Or.inl ⟨rfl, SHL_lt (sV0 hV)⟩) rfl (fun q hq => by cases hq; rfl) ⟨rfl, rfl⟩ ?_
  refine V.nameH (fun g6 eg6 => ?_)
  replace hf := lt_el hf g6 eg6
  have srg6 : SR h g6 := by rw [eg6]; exact srg5.I _ _ _
  refine V.aload_n dX2_liveBy_35 rfl rfl (sV0 hV) ?_
  refine V.iconst (v := 0) dX2_liveBy_36 rfl ?_
  refine V.putI dX2_liveBy_37 fl_X2_40 (sV0 hV) (Or.inl ⟨rfl, SHL_lt (sV0 hV)⟩) rfl (fun q hq => by cases hq; rfl) ⟨rfl, rfl⟩ ?_
  refine V.nameH (fun g7 eg7 => ?_)
  replace hf := lt_el hf g7 eg7
  have srg7 : SR h g7 := by rw [eg7]; exact srg6.I _ _ _
  refine V.iconst (v := 0) dX2_liveBy_40 rfl ?_
  refine V.istore (ls' := [.ref v, .ref t, .int a2, .ref (t + 3), .int 0, .null]) dX2_liveBy_41 (by decide) rfl ?_
  refine V.iconst (v := 0) dX2_liveBy_43 rfl ?_
  refine V.istore (ls' := [.ref v, .ref t, .int a2, .ref (t + 3), .int 0, .int 0]) dX2_liveBy_44 (by decide) rfl ?_
  refine V.less (ls' := [.ref v, .ref t, .null, .ref (t + 3), .int 0, .int 0]) ⟨Or.inr rfl, Or.inr rfl, Or.inl rfl, Or.inr rfl, Or.inr rfl, Or.inr rfl, trivial⟩ ?_
  exact th_X2_liveBy_46 ly hV hT FU 0 0 g7 srg7 hf
set_option maxRecDepth 100000 in
theorem th_X3_moveToCorner_64 {h0 : HP} (ly : Lay h0) {hill : Nat} (hH : isH hill) {hh : HP}  : ∀ (n : Nat)  (h : HP), SR h0 h → f_X3_moveToCorner_64 hill n h = some hh → V cX3_moveToCorner miX3_moveToCorner (ZV h0 miX3_moveToCorner hh) 130 64 [.ref 72, .ref hill, .null] [] h := by
  intro n
  induction n with
  | zero => intro  h srh hf; exact absurd hf (by unfold f_X3_moveToCorner_64; simp)
  | succ n ih =>
    intro  h srh hf
    unfold f_X3_moveToCorner_64 at hf
    refine V.aload_n dX3_moveToCorner_64 rfl rfl rfl ?_
    refine V.getI dX3_moveToCorner_65 fl_X3_44 rfl (Or.inl ⟨rfl, SHL_lt rfl⟩) rfl rfl ?_
    refine V.aload_n dX3_moveToCorner_68 rfl rfl (sH0 hH) ?_
    refine V.getI dX3_moveToCorner_69 fl_X3_68 (sH0 hH) (Or.inl ⟨rfl, SHL_lt (sH0 hH)⟩) rfl rfl ?_
    refine V.icmp_ge (tgt := 110) dX3_moveToCorner_72 (by decide) (fun c11 => ?_) (fun c11 => ?_)
    · replace hf := ite_p hf c11
      refine V.vreturn' dX3_moveToCorner_110 rfl ly.1 (Or.inl ⟨rfl, rfl⟩) ?_
      exact ret_V hf srh
    · replace hf := ite_n hf c11
      refine V.aload_n dX3_moveToCorner_75 rfl rfl rfl ?_
      refine V.getI dX3_moveToCorner_76 fl_X3_41 rfl (Or.inl ⟨rfl, SHL_lt rfl⟩) rfl rfl ?_
      refine V.aload_n dX3_moveToCorner_79 rfl rfl (sH0 hH) ?_
      refine V.getI dX3_moveToCorner_80 fl_X3_71 (sH0 hH) (Or.inl ⟨rfl, SHL_lt (sH0 hH)⟩) rfl rfl ?_
      refine V.iand dX3_moveToCorner_83 ?_
      refine V.if_ne (tgt := 110) dX3_moveToCorner_84 (by decide) (fun c12 => ?_) (fun c12 => ?_)
      · replace hf := ite_n hf c12
        refine V.vreturn' dX3_moveToCorner_110 rfl ly.1 (Or.inl ⟨rfl, rfl⟩) ?_
        exact ret_V hf srh
      · replace hf := ite_p hf c12
        refine V.aload_n dX3_moveToCorner_87 rfl rfl rfl ?_
        refine V.dup dX3_moveToCorner_88 rfl ?_
        refine V.getI dX3_moveToCorner_89 fl_X3_41 rfl (Or.inl ⟨rfl, SHL_lt rfl⟩) rfl rfl ?_
        refine V.iconst (v := 1) dX3_moveToCorner_92 rfl ?_
        refine V.ishr dX3_moveToCorner_93 ?_
        refine V.putI dX3_moveToCorner_94 fl_X3_41 rfl (Or.inl ⟨rfl, SHL_lt rfl⟩) rfl (fun q hq => by cases hq; rfl) ⟨rfl, rfl⟩ ?_
        refine V.nameH (fun g13 eg13 => ?_)
        replace hf := lt_el hf g13 eg13
        have srg13 : SR h0 g13 := by rw [eg13]; exact srh.I _ _ _
        refine V.aload_n dX3_moveToCorner_97 rfl rfl rfl ?_
        refine V.dup dX3_moveToCorner_98 rfl ?_
        refine V.getI dX3_moveToCorner_99 fl_X3_44 rfl (Or.inl ⟨rfl, SHL_lt rfl⟩) rfl rfl ?_
        refine V.iconst (v := 1) dX3_moveToCorner_102 rfl ?_
        refine V.iadd dX3_moveToCorner_103 ?_
        refine V.putI dX3_moveToCorner_104 fl_X3_44 rfl (Or.inl ⟨rfl, SHL_lt rfl⟩) rfl (fun q hq => by cases hq; rfl) ⟨rfl, rfl⟩ ?_
        refine V.nameH (fun g14 eg14 => ?_)
        replace hf := lt_el hf g14 eg14
        have srg14 : SR h0 g14 := by rw [eg14]; exact srg13.I _ _ _
        refine V.goto (tgt := 64) dX3_moveToCorner_107 (by decide) ?_
        exact ih g14 srg14 hf
set_option maxRecDepth 100000 in
theorem th_X3_moveToCorner_15 {h0 : HP} (ly : Lay h0) {hill : Nat} (hH : isH hill) {hh : HP}  : ∀ (n : Nat)  (h : HP), SR h0 h → f_X3_moveToCorner_15 hill n h = some hh → V cX3_moveToCorner miX3_moveToCorner (ZV h0 miX3_moveToCorner hh) 130 15 [.ref 72, .ref hill, .null] [] h := by
  intro n
  induction n with
  | zero => intro  h srh hf; exact absurd hf (by unfold f_X3_moveToCorner_15; simp)
  | succ n ih =>
    intro  h srh hf
    unfold f_X3_moveToCorner_15 at hf
    refine V.aload_n dX3_moveToCorner_15 rfl rfl rfl ?_
    refine V.getI dX3_moveToCorner_16 fl_X3_47 rfl (Or.inl ⟨rfl, SHL_lt rfl⟩) rfl rfl ?_
    refine V.aload_n dX3_moveToCorner_19 rfl rfl (sH0 hH) ?_
    refine V.getI dX3_moveToCorner_20 fl_X3_59 (sH0 hH) (Or.inl ⟨rfl, SHL_lt (sH0 hH)⟩) rfl rfl ?_
    refine V.icmp_ge (tgt := 64) dX3_moveToCorner_23 (by decide) (fun c4 => ?_) (fun c4 => ?_)
    · replace hf := ite_p hf c4
      exact th_X3_moveToCorner_64 ly hH FU h srh hf
    · replace hf := ite_n hf c4
      refine V.aload_n dX3_moveToCorner_26 rfl rfl rfl ?_
      refine V.getI dX3_moveToCorner_27 fl_X3_41 rfl (Or.inl ⟨rfl, SHL_lt rfl⟩) rfl rfl ?_
      refine V.aload_n dX3_moveToCorner_30 rfl rfl (sH0 hH) ?_
      obtain ⟨r7, h6, q5, hf2⟩ := bd2_el hf
      replace hf := hf2
      clear hf2
      refine V.callVI dX3_moveToCorner_31 ml_X3_64 mo_X1_rowMask mv_X1_rowMask (sH0 hH) (fun q hq => by cases hq; rfl) (by decide) (Or.inl ⟨rfl, SHL_lt (sH0 hH)⟩) (th_X1_rowMask (srh.ly ly) hH q5) rfl rfl ⟨Nat.le_of_ble_eq_true rfl, Nat.le_of_ble_eq_true rfl, fun _ => ⟨rfl, rfl⟩⟩ (Nat.le_of_ble_eq_true rfl) rfl (post_I (fun sq => ?_))
      have srh6 : SR h0 h6 := srh.trans sq
      clear sq q5
      refine V.iand dX3_moveToCorner_34 ?_
      refine V.if_ne (tgt := 64) dX3_moveToCorner_35 (by decide) (fun c8 => ?_) (fun c8 => ?_)
      · replace hf := ite_n hf c8
        exact th_X3_moveToCorner_64 ly hH FU h6 srh6 hf
      · replace hf := ite_p hf c8
        refine V.aload_n dX3_moveToCorner_38 rfl rfl rfl ?_
        refine V.dup dX3_moveToCorner_39 rfl ?_
        refine V.getI dX3_moveToCorner_40 fl_X3_41 rfl (Or.inl ⟨rfl, SHL_lt rfl⟩) rfl rfl ?_
        refine V.aload_n dX3_moveToCorner_43 rfl rfl (sH0 hH) ?_
        refine V.getI dX3_moveToCorner_44 fl_X3_68 (sH0 hH) (Or.inl ⟨rfl, SHL_lt (sH0 hH)⟩) rfl rfl ?_
        refine V.ishr dX3_moveToCorner_47 ?_
        refine V.putI dX3_moveToCorner_48 fl_X3_41 rfl (Or.inl ⟨rfl, SHL_lt rfl⟩) rfl (fun q hq => by cases hq; rfl) ⟨rfl, rfl⟩ ?_
        refine V.nameH (fun g9 eg9 => ?_)
        replace hf := lt_el hf g9 eg9
        have srg9 : SR h0 g9 := by rw [eg9]; exact srh6.I _ _ _
        refine V.aload_n dX3_moveToCorner_51 rfl rfl rfl ?_
        refine V.dup dX3_moveToCorner_52 rfl ?_
        refine V.getI dX3_moveToCorner_53 fl_X3_47 rfl (Or.inl ⟨rfl, SHL_lt rfl⟩) rfl rfl ?_
        refine V.iconst (v := 1) dX3_moveToCorner_56 rfl ?_
        refine V.iadd dX3_moveToCorner_57 ?_
        refine V.putI dX3_moveToCorner_58 fl_X3_47 rfl (Or.inl ⟨rfl, SHL_lt rfl⟩) rfl (fun q hq => by cases hq; rfl) ⟨rfl, rfl⟩ ?_
        refine V.nameH (fun g10 eg10 => ?_)
        replace hf := lt_el hf g10 eg10
        have srg10 : SR h0 g10 := by rw [eg10]; exact srg9.I _ _ _
        refine V.goto (tgt := 15) dX3_moveToCorner_61 (by decide) ?_
        exact ih g10 srg10 hf
set_option maxRecDepth 100000 in
theorem th_X3_moveToCorner {h : HP} (ly : Lay h) {hill : Nat} (hH : isH hill) {a2 : Int32} {hh : HP} (hf : f_X3_moveToCorner h hill a2 = some hh) : Spec yX3_moveToCorner cX3_moveToCorner miX3_moveToCorner [.ref 72, .ref hill, .int a2] h (pV fun h' => h' = hh ∧ SR h hh) := by
  refine Spec.of (ls0 := [.ref 72, .ref hill, .int a2]) mo_X3_moveToCorner (Nat.le_of_ble_eq_true rfl) rfl ?_
  rw [ly.1]
  have srh : SR h h := SR.refl h
  unfold f_X3_moveToCorner at hf
  refine V.aload_n dX3_moveToCorner_0 rfl rfl rfl ?_
  refine V.iload_n dX3_moveToCorner_1 rfl rfl ?_
  refine V.putI dX3_moveToCorner_2 fl_X3_41 rfl (Or.inl ⟨rfl, SHL_lt rfl⟩) rfl (fun q hq => by cases hq; rfl) ⟨rfl, rfl⟩ ?_
  refine V.nameH (fun g1 eg1 => ?_)
  replace hf := lt_el hf g1 eg1
  have srg1 : SR h g1 := by rw [eg1]; exact srh.I _ _ _
  refine V.aload_n dX3_moveToCorner_5 rfl rfl rfl ?_
  refine V.iconst (v := 0) dX3_moveToCorner_6 rfl ?_
  refine V.putI dX3_moveToCorner_7 fl_X3_44 rfl (Or.inl ⟨rfl, SHL_lt rfl⟩) rfl (fun q hq => by cases hq; rfl) ⟨rfl, rfl⟩ ?_
  refine V.nameH (fun g2 eg2 => ?_)
  replace hf := lt_el hf g2 eg2
  have srg2 : SR h g2 := by rw [eg2]; exact srg1.I _ _ _
  refine V.aload_n dX3_moveToCorner_10 rfl rfl rfl ?_
  refine V.iconst (v := 0) dX3_moveToCorner_11 rfl ?_
  refine V.putI dX3_moveToCorner_12 fl_X3_47 rfl (Or.inl ⟨rfl, SHL_lt rfl⟩) rfl (fun q hq => by cases hq; rfl) ⟨rfl, rfl⟩ ?_
  refine V.nameH (fun g3 eg3 => ?_)
  replace hf := lt_el hf g3 eg3
  have srg3 : SR h g3 := by rw [eg3]; exact srg2.I _ _ _
  refine V.less (ls' := [.ref 72, .ref hill, .null]) ⟨Or.inr rfl, Or.inr rfl, Or.inl rfl, trivial⟩ ?_
  exact th_X3_moveToCorner_15 ly hH FU g3 srg3 hf
set_option maxRecDepth 100000 in
theorem th_X3_findRoundLength_57 {h0 : HP} (ly : Lay h0) {t : Nat} (hT : isT t) {rr : Int32} {hh : HP} {K22 : Int32 → Int32 → Int32 → Int32 → HP → Option (Int32 × HP)} (kok22 : ∀ (l2 : Int32) (l3 : Int32) (l4 : Int32) (l5 : Int32) (g : HP), SR h0 g → K22 l2 l3 l4 l5 g = some (rr, hh) → V cX3_findRoundLength miX3_findRoundLength (ZI h0 miX3_findRoundLength rr hh) 130 22 [.ref 72, .ref t, .int l2, .int l3, .int l4, .int l5] [] g) : ∀ (l2 : Int32) (l3 : Int32) (l4 : Int32) (l5 : Int32) (h : HP), SR h0 h → f_X3_findRoundLength_57 t K22 l2 l3 l4 l5 h = some (rr, hh) → V cX3_findRoundLength miX3_findRoundLength (ZI h0 miX3_findRoundLength rr hh) 130 57 [.ref 72, .ref t, .int l2, .int l3, .int l4, .int l5] [] h := by
  intro l2 l3 l4 l5 h srh hf
  unfold f_X3_findRoundLength_57 at hf
  refine V.aload_n dX3_findRoundLength_57 rfl rfl (sT0 hT) ?_
  refine V.iload_n dX3_findRoundLength_58 rfl rfl ?_
  obtain ⟨r15, h14, q13, hf2⟩ := bd2_el hf
  replace hf := hf2
  clear hf2
  refine V.callVI dX3_findRoundLength_59 ml_X3_29 mo_X5_nextOf mv_X5_nextOf (sT0 hT) (fun q hq => by cases hq; rfl) (by decide) (Or.inl ⟨rfl, SHL_lt (sT0 hT)⟩) (th_X5_nextOf (srh.ly ly) hT q13) rfl rfl ⟨Nat.le_of_ble_eq_true rfl, Nat.le_of_ble_eq_true rfl, fun _ => ⟨rfl, rfl⟩⟩ (Nat.le_of_ble_eq_true rfl) rfl (post_I (fun sq => ?_))
  have srh14 : SR h0 h14 := srh.trans sq
  clear sq q13
  refine V.istore_n (ls' := [.ref 72, .ref t, .int l2, .int r15, .int l4, .int l5]) dX3_findRoundLength_62 rfl (by decide) rfl ?_
  refine V.aload_n dX3_findRoundLength_63 rfl rfl rfl ?_
  refine V.dup dX3_findRoundLength_64 rfl ?_
  refine V.getI dX3_findRoundLength_65 fl_X3_19 rfl (Or.inl ⟨rfl, SHL_lt rfl⟩) rfl rfl ?_
  refine V.iconst (v := 1) dX3_findRoundLength_68 rfl ?_
  refine V.iadd dX3_findRoundLength_69 ?_
  refine V.putI dX3_findRoundLength_70 fl_X3_19 rfl (Or.inl ⟨rfl, SHL_lt rfl⟩) rfl (fun q hq => by cases hq; rfl) ⟨rfl, rfl⟩ ?_
  refine V.nameH (fun g16 eg16 => ?_)
  replace hf := lt_el hf g16 eg16
  have srg16 : SR h0 g16 := by rw [eg16]; exact srh14.I _ _ _
  obtain ⟨x17, ex17⟩ : ∃ y : Int32, y = l5 + 1 := ⟨_, rfl⟩
  replace hf := lt_el hf x17 ex17
  refine V.iinc (v := x17) (ls' := [.ref 72, .ref t, .int l2, .int r15, .int l4, .int x17]) dX3_findRoundLength_73 rfl (by decide) ex17.symm rfl ?_
  refine V.goto (tgt := 22) dX3_findRoundLength_76 (by decide) ?_
  exact kok22 l2 r15 l4 x17 g16 srg16 hf
set_option maxRecDepth 100000 in
theorem th_X3_findRoundLength_22 {h0 : HP} (ly : Lay h0) {t : Nat} (hT : isT t) {rr : Int32} {hh : HP}  : ∀ (n : Nat) (l2 : Int32) (l3 : Int32) (l4 : Int32) (l5 : Int32) (h : HP), SR h0 h → f_X3_findRoundLength_22 t n l2 l3 l4 l5 h = some (rr, hh) → V cX3_findRoundLength miX3_findRoundLength (ZI h0 miX3_findRoundLength rr hh) 130 22 [.ref 72, .ref t, .int l2, .int l3, .int l4, .int l5] [] h := by
  intro n
  induction n with
  | zero => intro l2 l3 l4 l5 h srh hf; exact absurd hf (by unfold f_X3_findRoundLength_22; simp)
  | succ n ih =>
    intro l2 l3 l4 l5 h srh hf
    unfold f_X3_findRoundLength_22 at hf
    refine V.iload dX3_findRoundLength_22 rfl ?_
    refine V.sipush (v := 8192) dX3_findRoundLength_24 rfl ?_
    refine V.icmp_ge (tgt := 79) dX3_findRoundLength_27 (by decide) (fun c6 => ?_) (fun c6 => ?_)
    · replace hf := ite_p hf c6
      refine V.iload_n dX3_findRoundLength_79 rfl rfl ?_
      refine V.iload_n dX3_findRoundLength_80 rfl rfl ?_
      refine V.icmp_ne (tgt := 88) dX3_findRoundLength_81 (by decide) (fun c7 => ?_) (fun c7 => ?_)
      · replace hf := ite_n hf c7
        refine V.iconst (v := 0) dX3_findRoundLength_88 rfl ?_
        refine V.ireturn dX3_findRoundLength_89 rfl rfl ⟨rfl, rfl⟩ ly.1 ?_
        exact ret_I hf srh
      · replace hf := ite_p hf c7
        refine V.iconst (v := 1) dX3_findRoundLength_84 rfl ?_
        refine V.goto (tgt := 89) dX3_findRoundLength_85 (by decide) ?_
        refine V.ireturn dX3_findRoundLength_89 rfl rfl ⟨rfl, rfl⟩ ly.1 ?_
        exact ret_I hf srh
    · replace hf := ite_n hf c6
      refine V.iload_n dX3_findRoundLength_30 rfl rfl ?_
      refine V.iload_n dX3_findRoundLength_31 rfl rfl ?_
      refine V.icmp_eq (tgt := 79) dX3_findRoundLength_32 (by decide) (fun c8 => ?_) (fun c8 => ?_)
      · replace hf := ite_p hf c8
        refine V.iload_n dX3_findRoundLength_79 rfl rfl ?_
        refine V.iload_n dX3_findRoundLength_80 rfl rfl ?_
        refine V.icmp_ne (tgt := 88) dX3_findRoundLength_81 (by decide) (fun c9 => ?_) (fun c9 => ?_)
        · replace hf := ite_n hf c9
          refine V.iconst (v := 0) dX3_findRoundLength_88 rfl ?_
          refine V.ireturn dX3_findRoundLength_89 rfl rfl ⟨rfl, rfl⟩ ly.1 ?_
          exact ret_I hf srh
        · replace hf := ite_p hf c9
          refine V.iconst (v := 1) dX3_findRoundLength_84 rfl ?_
          refine V.goto (tgt := 89) dX3_findRoundLength_85 (by decide) ?_
          refine V.ireturn dX3_findRoundLength_89 rfl rfl ⟨rfl, rfl⟩ ly.1 ?_
          exact ret_I hf srh
      · replace hf := ite_n hf c8
        refine V.aload_n dX3_findRoundLength_35 rfl rfl rfl ?_
        refine V.getI dX3_findRoundLength_36 fl_X3_19 rfl (Or.inl ⟨rfl, SHL_lt rfl⟩) rfl rfl ?_
        refine V.iload dX3_findRoundLength_39 rfl ?_
        refine V.icmp_ne (tgt := 57) dX3_findRoundLength_41 (by decide) (fun c10 => ?_) (fun c10 => ?_)
        · replace hf := ite_n hf c10
          exact th_X3_findRoundLength_57 ly hT ih l2 l3 l4 l5 h srh hf
        · replace hf := ite_p hf c10
          refine V.iload_n dX3_findRoundLength_44 rfl rfl ?_
          refine V.istore_n (ls' := [.ref 72, .ref t, .int l3, .int l3, .int l4, .int l5]) dX3_findRoundLength_45 rfl (by decide) rfl ?_
          refine V.iload dX3_findRoundLength_46 rfl ?_
          refine V.iconst (v := 2) dX3_findRoundLength_48 rfl ?_
          refine V.imul dX3_findRoundLength_49 ?_
          refine V.nmi (fun x11 ex11 => ?_)
          replace hf := lt_el hf x11 ex11
          refine V.istore (ls' := [.ref 72, .ref t, .int l3, .int l3, .int x11, .int l5]) dX3_findRoundLength_50 (by decide) rfl ?_
          refine V.aload_n dX3_findRoundLength_52 rfl rfl rfl ?_
          refine V.iconst (v := 0) dX3_findRoundLength_53 rfl ?_
          refine V.putI dX3_findRoundLength_54 fl_X3_19 rfl (Or.inl ⟨rfl, SHL_lt rfl⟩) rfl (fun q hq => by cases hq; rfl) ⟨rfl, rfl⟩ ?_
          refine V.nameH (fun g12 eg12 => ?_)
          replace hf := lt_el hf g12 eg12
          have srg12 : SR h0 g12 := by rw [eg12]; exact srh.I _ _ _
          exact th_X3_findRoundLength_57 ly hT ih l3 l3 x11 l5 g12 srg12 hf
set_option maxRecDepth 100000 in
theorem th_X3_findRoundLength {h : HP} (ly : Lay h) {t : Nat} (hT : isT t)  {rr : Int32} {hh : HP} (hf : f_X3_findRoundLength h t = some (rr, hh)) : Spec yX3_findRoundLength cX3_findRoundLength miX3_findRoundLength [.ref 72, .ref t] h (pI fun r' h' => (r' = rr ∧ h' = hh) ∧ SR h hh) := by
  refine Spec.of (ls0 := [.ref 72, .ref t, .null, .null, .null, .null]) mo_X3_findRoundLength (Nat.le_of_ble_eq_true rfl) rfl ?_
  rw [ly.1]
  have srh : SR h h := SR.refl h
  unfold f_X3_findRoundLength at hf
  refine V.aload_n dX3_findRoundLength_0 rfl rfl (sT0 hT) ?_
  refine V.getI dX3_findRoundLength_1 fl_X3_13 (sT0 hT) (Or.inl ⟨rfl, SHL_lt (sT0 hT)⟩) rfl rfl ?_
  refine V.nmi (fun x1 ex1 => ?_)
  replace hf := lt_el hf x1 ex1
  refine V.istore_n (ls' := [.ref 72, .ref t, .int x1, .null, .null, .null]) dX3_findRoundLength_4 rfl (by decide) rfl ?_
  refine V.aload_n dX3_findRoundLength_5 rfl rfl (sT0 hT) ?_
  refine V.iload_n dX3_findRoundLength_6 rfl rfl ?_
  obtain ⟨r4, h3, q2, hf2⟩ := bd2_el hf
  replace hf := hf2
  clear hf2
  refine V.callVI dX3_findRoundLength_7 ml_X3_29 mo_X5_nextOf mv_X5_nextOf (sT0 hT) (fun q hq => by cases hq; rfl) (by decide) (Or.inl ⟨rfl, SHL_lt (sT0 hT)⟩) (th_X5_nextOf (srh.ly ly) hT q2) rfl rfl ⟨Nat.le_of_ble_eq_true rfl, Nat.le_of_ble_eq_true rfl, fun _ => ⟨rfl, rfl⟩⟩ (Nat.le_of_ble_eq_true rfl) rfl (post_I (fun sq => ?_))
  have srh3 : SR h h3 := srh.trans sq
  clear sq q2
  refine V.istore_n (ls' := [.ref 72, .ref t, .int x1, .int r4, .null, .null]) dX3_findRoundLength_10 rfl (by decide) rfl ?_
  refine V.iconst (v := 1) dX3_findRoundLength_11 rfl ?_
  refine V.istore (ls' := [.ref 72, .ref t, .int x1, .int r4, .int 1, .null]) dX3_findRoundLength_12 (by decide) rfl ?_
  refine V.aload_n dX3_findRoundLength_14 rfl rfl rfl ?_
  refine V.iconst (v := 1) dX3_findRoundLength_15 rfl ?_
  refine V.putI dX3_findRoundLength_16 fl_X3_19 rfl (Or.inl ⟨rfl, SHL_lt rfl⟩) rfl (fun q hq => by cases hq; rfl) ⟨rfl, rfl⟩ ?_
  refine V.nameH (fun g5 eg5 => ?_)
  replace hf := lt_el hf g5 eg5
  have srg5 : SR h g5 := by rw [eg5]; exact srh3.I _ _ _
  refine V.iconst (v := 0) dX3_findRoundLength_19 rfl ?_
  refine V.istore (ls' := [.ref 72, .ref t, .int x1, .int r4, .int 1, .int 0]) dX3_findRoundLength_20 (by decide) rfl ?_
  exact th_X3_findRoundLength_22 ly hT FU x1 r4 1 0 g5 srg5 hf
set_option maxRecDepth 100000 in
theorem th_X3_findRound_75 {h0 : HP} (ly : Lay h0) {t : Nat} (hT : isT t) {rr : Int32} {hh : HP}  : ∀ (l2 : Int32) (l3 : Int32) (h : HP), SR h0 h → f_X3_findRound_75 t l2 l3 h = some (rr, hh) → V cX3_findRound miX3_findRound (ZI h0 miX3_findRound rr hh) 130 75 [.ref 72, .null, .int l2, .int l3] [] h := by
  intro l2 l3 h srh hf
  unfold f_X3_findRound_75 at hf
  refine V.iload_n dX3_findRound_75 rfl rfl ?_
  refine V.iload_n dX3_findRound_76 rfl rfl ?_
  refine V.icmp_ne (tgt := 99) dX3_findRound_77 (by decide) (fun c19 => ?_) (fun c19 => ?_)
  · replace hf := ite_n hf c19
    refine V.iconst (v := 0) dX3_findRound_99 rfl ?_
    refine V.ireturn dX3_findRound_100 rfl rfl ⟨rfl, rfl⟩ ly.1 ?_
    exact ret_I hf srh
  · replace hf := ite_p hf c19
    refine V.aload_n dX3_findRound_80 rfl rfl rfl ?_
    refine V.getI dX3_findRound_81 fl_X3_26 rfl (Or.inl ⟨rfl, SHL_lt rfl⟩) rfl rfl ?_
    refine V.aload_n dX3_findRound_84 rfl rfl rfl ?_
    refine V.getI dX3_findRound_85 fl_X3_19 rfl (Or.inl ⟨rfl, SHL_lt rfl⟩) rfl rfl ?_
    refine V.iadd dX3_findRound_88 ?_
    refine V.sipush (v := 2000) dX3_findRound_89 rfl ?_
    refine V.icmp_gt (tgt := 99) dX3_findRound_92 (by decide) (fun c20 => ?_) (fun c20 => ?_)
    · replace hf := ite_p hf c20
      refine V.iconst (v := 0) dX3_findRound_99 rfl ?_
      refine V.ireturn dX3_findRound_100 rfl rfl ⟨rfl, rfl⟩ ly.1 ?_
      exact ret_I hf srh
    · replace hf := ite_n hf c20
      refine V.iconst (v := 1) dX3_findRound_95 rfl ?_
      refine V.goto (tgt := 100) dX3_findRound_96 (by decide) ?_
      refine V.ireturn dX3_findRound_100 rfl rfl ⟨rfl, rfl⟩ ly.1 ?_
      exact ret_I hf srh
set_option maxRecDepth 100000 in
theorem th_X3_findRound_30 {h0 : HP} (ly : Lay h0) {t : Nat} (hT : isT t) {rr : Int32} {hh : HP}  : ∀ (n : Nat) (l2 : Int32) (l3 : Int32) (h : HP), SR h0 h → f_X3_findRound_30 t n l2 l3 h = some (rr, hh) → V cX3_findRound miX3_findRound (ZI h0 miX3_findRound rr hh) 130 30 [.ref 72, .ref t, .int l2, .int l3] [] h := by
  intro n
  induction n with
  | zero => intro l2 l3 h srh hf; exact absurd hf (by unfold f_X3_findRound_30; simp)
  | succ n ih =>
    intro l2 l3 h srh hf
    unfold f_X3_findRound_30 at hf
    refine V.iload_n dX3_findRound_30 rfl rfl ?_
    refine V.iload_n dX3_findRound_31 rfl rfl ?_
    refine V.icmp_eq (tgt := 75) dX3_findRound_32 (by decide) (fun c10 => ?_) (fun c10 => ?_)
    · replace hf := ite_p hf c10
      refine V.less (ls' := [.ref 72, .null, .int l2, .int l3]) ⟨Or.inr rfl, Or.inl rfl, Or.inr rfl, Or.inr rfl, trivial⟩ ?_
      exact th_X3_findRound_75 ly hT l2 l3 h srh hf
    · replace hf := ite_n hf c10
      refine V.aload_n dX3_findRound_35 rfl rfl rfl ?_
      refine V.getI dX3_findRound_36 fl_X3_26 rfl (Or.inl ⟨rfl, SHL_lt rfl⟩) rfl rfl ?_
      refine V.aload_n dX3_findRound_39 rfl rfl rfl ?_
      refine V.getI dX3_findRound_40 fl_X3_19 rfl (Or.inl ⟨rfl, SHL_lt rfl⟩) rfl rfl ?_
      refine V.iadd dX3_findRound_43 ?_
      refine V.sipush (v := 2000) dX3_findRound_44 rfl ?_
      refine V.icmp_ge (tgt := 75) dX3_findRound_47 (by decide) (fun c11 => ?_) (fun c11 => ?_)
      · replace hf := ite_p hf c11
        refine V.less (ls' := [.ref 72, .null, .int l2, .int l3]) ⟨Or.inr rfl, Or.inl rfl, Or.inr rfl, Or.inr rfl, trivial⟩ ?_
        exact th_X3_findRound_75 ly hT l2 l3 h srh hf
      · replace hf := ite_n hf c11
        refine V.aload_n dX3_findRound_50 rfl rfl (sT0 hT) ?_
        refine V.iload_n dX3_findRound_51 rfl rfl ?_
        obtain ⟨r14, h13, q12, hf2⟩ := bd2_el hf
        replace hf := hf2
        clear hf2
        refine V.callVI dX3_findRound_52 ml_X3_29 mo_X5_nextOf mv_X5_nextOf (sT0 hT) (fun q hq => by cases hq; rfl) (by decide) (Or.inl ⟨rfl, SHL_lt (sT0 hT)⟩) (th_X5_nextOf (srh.ly ly) hT q12) rfl rfl ⟨Nat.le_of_ble_eq_true rfl, Nat.le_of_ble_eq_true rfl, fun _ => ⟨rfl, rfl⟩⟩ (Nat.le_of_ble_eq_true rfl) rfl (post_I (fun sq => ?_))
        have srh13 : SR h0 h13 := srh.trans sq
        clear sq q12
        refine V.istore_n (ls' := [.ref 72, .ref t, .int r14, .int l3]) dX3_findRound_55 rfl (by decide) rfl ?_
        refine V.aload_n dX3_findRound_56 rfl rfl (sT0 hT) ?_
        refine V.iload_n dX3_findRound_57 rfl rfl ?_
        obtain ⟨r17, h16, q15, hf2⟩ := bd2_el hf
        replace hf := hf2
        clear hf2
        refine V.callVI dX3_findRound_58 ml_X3_29 mo_X5_nextOf mv_X5_nextOf (sT0 hT) (fun q hq => by cases hq; rfl) (by decide) (Or.inl ⟨rfl, SHL_lt (sT0 hT)⟩) (th_X5_nextOf (srh13.ly ly) hT q15) rfl rfl ⟨Nat.le_of_ble_eq_true rfl, Nat.le_of_ble_eq_true rfl, fun _ => ⟨rfl, rfl⟩⟩ (Nat.le_of_ble_eq_true rfl) rfl (post_I (fun sq => ?_))
        have srh16 : SR h0 h16 := srh13.trans sq
        clear sq q15
        refine V.istore_n (ls' := [.ref 72, .ref t, .int r14, .int r17]) dX3_findRound_61 rfl (by decide) rfl ?_
        refine V.aload_n dX3_findRound_62 rfl rfl rfl ?_
        refine V.dup dX3_findRound_63 rfl ?_
        refine V.getI dX3_findRound_64 fl_X3_26 rfl (Or.inl ⟨rfl, SHL_lt rfl⟩) rfl rfl ?_
        refine V.iconst (v := 1) dX3_findRound_67 rfl ?_
        refine V.iadd dX3_findRound_68 ?_
        refine V.putI dX3_findRound_69 fl_X3_26 rfl (Or.inl ⟨rfl, SHL_lt rfl⟩) rfl (fun q hq => by cases hq; rfl) ⟨rfl, rfl⟩ ?_
        refine V.nameH (fun g18 eg18 => ?_)
        replace hf := lt_el hf g18 eg18
        have srg18 : SR h0 g18 := by rw [eg18]; exact srh16.I _ _ _
        refine V.goto (tgt := 30) dX3_findRound_72 (by decide) ?_
        exact ih r14 r17 g18 srg18 hf
set_option maxRecDepth 100000 in
theorem th_X3_findRound {h : HP} (ly : Lay h) {t : Nat} (hT : isT t)  {rr : Int32} {hh : HP} (hf : f_X3_findRound h t = some (rr, hh)) : Spec yX3_findRound cX3_findRound miX3_findRound [.ref 72, .ref t] h (pI fun r' h' => (r' = rr ∧ h' = hh) ∧ SR h hh) := by
  refine Spec.of (ls0 := [.ref 72, .ref t, .null, .null]) mo_X3_findRound (Nat.le_of_ble_eq_true rfl) rfl ?_
  rw [ly.1]
  have srh : SR h h := SR.refl h
  unfold f_X3_findRound at hf
  refine V.aload_n dX3_findRound_0 rfl rfl rfl ?_
  refine V.aload_n dX3_findRound_1 rfl rfl (sT0 hT) ?_
  obtain ⟨r3, h2, q1, hf2⟩ := bd2_el hf
  replace hf := hf2
  clear hf2
  refine V.callVI dX3_findRound_2 ml_X3_7 mo_X3_findRoundLength mv_X3_findRoundLength rfl (fun q hq => by cases hq; rfl) (by decide) (Or.inl ⟨rfl, SHL_lt rfl⟩) (th_X3_findRoundLength (srh.ly ly) hT q1) rfl rfl ⟨Nat.le_of_ble_eq_true rfl, Nat.le_of_ble_eq_true rfl, fun _ => ⟨rfl, rfl⟩⟩ (Nat.le_of_ble_eq_true rfl) rfl (post_I (fun sq => ?_))
  have srh2 : SR h h2 := srh.trans sq
  clear sq q1
  refine V.if_ne (tgt := 10) dX3_findRound_5 (by decide) (fun c4 => ?_) (fun c4 => ?_)
  · replace hf := ite_n hf c4
    refine V.aload_n dX3_findRound_10 rfl rfl (sT0 hT) ?_
    refine V.getI dX3_findRound_11 fl_X3_13 (sT0 hT) (Or.inl ⟨rfl, SHL_lt (sT0 hT)⟩) rfl rfl ?_
    refine V.nmi (fun x5 ex5 => ?_)
    replace hf := lt_el hf x5 ex5
    refine V.istore_n (ls' := [.ref 72, .ref t, .int x5, .null]) dX3_findRound_14 rfl (by decide) rfl ?_
    refine V.aload_n dX3_findRound_15 rfl rfl (sT0 hT) ?_
    refine V.iload_n dX3_findRound_16 rfl rfl ?_
    refine V.aload_n dX3_findRound_17 rfl rfl rfl ?_
    refine V.getI dX3_findRound_18 fl_X3_19 rfl (Or.inl ⟨rfl, SHL_lt rfl⟩) rfl rfl ?_
    obtain ⟨r8, h7, q6, hf2⟩ := bd2_el hf
    replace hf := hf2
    clear hf2
    refine V.callVI dX3_findRound_21 ml_X3_22 mo_X5_after mv_X5_after (sT0 hT) (fun q hq => by cases hq; rfl) (by decide) (Or.inl ⟨rfl, SHL_lt (sT0 hT)⟩) (th_X5_after (srh2.ly ly) hT q6) rfl rfl ⟨Nat.le_of_ble_eq_true rfl, Nat.le_of_ble_eq_true rfl, fun _ => ⟨rfl, rfl⟩⟩ (Nat.le_of_ble_eq_true rfl) rfl (post_I (fun sq => ?_))
    have srh7 : SR h h7 := srh2.trans sq
    clear sq q6
    refine V.istore_n (ls' := [.ref 72, .ref t, .int x5, .int r8]) dX3_findRound_24 rfl (by decide) rfl ?_
    refine V.aload_n dX3_findRound_25 rfl rfl rfl ?_
    refine V.iconst (v := 0) dX3_findRound_26 rfl ?_
    refine V.putI dX3_findRound_27 fl_X3_26 rfl (Or.inl ⟨rfl, SHL_lt rfl⟩) rfl (fun q hq => by cases hq; rfl) ⟨rfl, rfl⟩ ?_
    refine V.nameH (fun g9 eg9 => ?_)
    replace hf := lt_el hf g9 eg9
    have srg9 : SR h g9 := by rw [eg9]; exact srh7.I _ _ _
    exact th_X3_findRound_30 ly hT FU x5 r8 g9 srg9 hf
  · replace hf := ite_p hf c4
    refine V.iconst (v := 0) dX3_findRound_8 rfl ?_
    refine V.ireturn dX3_findRound_9 rfl rfl ⟨rfl, rfl⟩ ly.1 ?_
    exact ret_I hf srh2
set_option maxRecDepth 100000 in
theorem th_X3_farAhead_34 {h0 : HP} (ly : Lay h0) {t : Nat} (hT : isT t) {rr : Int32} {hh : HP}  : ∀ (l3 : Int32) (h : HP), SR h0 h → f_X3_farAhead_34 t l3 h = some (rr, hh) → V cX3_farAhead miX3_farAhead (ZI h0 miX3_farAhead rr hh) 130 34 [.null, .ref t, .null, .int l3] [] h := by
  intro l3 h srh hf
  unfold f_X3_farAhead_34 at hf
  refine V.aload_n dX3_farAhead_34 rfl rfl (sT0 hT) ?_
  refine V.aload_n dX3_farAhead_35 rfl rfl (sT0 hT) ?_
  refine V.getI dX3_farAhead_36 fl_X3_13 (sT0 hT) (Or.inl ⟨rfl, SHL_lt (sT0 hT)⟩) rfl rfl ?_
  refine V.iload_n dX3_farAhead_39 rfl rfl ?_
  obtain ⟨r7, h6, q5, hf2⟩ := bd2_el hf
  replace hf := hf2
  clear hf2
  refine V.callVI dX3_farAhead_40 ml_X3_22 mo_X5_after mv_X5_after (sT0 hT) (fun q hq => by cases hq; rfl) (by decide) (Or.inl ⟨rfl, SHL_lt (sT0 hT)⟩) (th_X5_after (srh.ly ly) hT q5) rfl rfl ⟨Nat.le_of_ble_eq_true rfl, Nat.le_of_ble_eq_true rfl, fun _ => ⟨rfl, rfl⟩⟩ (Nat.le_of_ble_eq_true rfl) rfl (post_I (fun sq => ?_))
  have srh6 : SR h0 h6 := srh.trans sq
  clear sq q5
  refine V.ireturn dX3_farAhead_43 rfl rfl ⟨rfl, rfl⟩ ly.1 ?_
  exact ret_I hf srh6
set_option maxRecDepth 100000 in
theorem th_X3_farAhead {h : HP} (ly : Lay h) {t : Nat} (hT : isT t) {a2 : Int32} {rr : Int32} {hh : HP} (hf : f_X3_farAhead h t a2 = some (rr, hh)) : Spec yX3_farAhead cX3_farAhead miX3_farAhead [.ref 72, .ref t, .int a2] h (pI fun r' h' => (r' = rr ∧ h' = hh) ∧ SR h hh) := by
  refine Spec.of (ls0 := [.ref 72, .ref t, .int a2, .null]) mo_X3_farAhead (Nat.le_of_ble_eq_true rfl) rfl ?_
  rw [ly.1]
  have srh : SR h h := SR.refl h
  unfold f_X3_farAhead at hf
  refine V.iload_n dX3_farAhead_0 rfl rfl ?_
  refine V.istore_n (ls' := [.ref 72, .ref t, .int a2, .int a2]) dX3_farAhead_1 rfl (by decide) rfl ?_
  refine V.iload_n dX3_farAhead_2 rfl rfl ?_
  refine V.aload_n dX3_farAhead_3 rfl rfl rfl ?_
  refine V.getI dX3_farAhead_4 fl_X3_26 rfl (Or.inl ⟨rfl, SHL_lt rfl⟩) rfl rfl ?_
  refine V.icmp_le (tgt := 34) dX3_farAhead_7 (by decide) (fun c1 => ?_) (fun c1 => ?_)
  · replace hf := ite_p hf c1
    refine V.less (ls' := [.null, .ref t, .null, .int a2]) ⟨Or.inl rfl, Or.inr rfl, Or.inl rfl, Or.inr rfl, trivial⟩ ?_
    exact th_X3_farAhead_34 ly hT a2 h srh hf
  · replace hf := ite_n hf c1
    refine V.aload_n dX3_farAhead_10 rfl rfl rfl ?_
    refine V.getI dX3_farAhead_11 fl_X3_19 rfl (Or.inl ⟨rfl, SHL_lt rfl⟩) rfl rfl ?_
    refine V.if_le (tgt := 34) dX3_farAhead_14 (by decide) (fun c2 => ?_) (fun c2 => ?_)
    · replace hf := ite_p hf c2
      refine V.less (ls' := [.null, .ref t, .null, .int a2]) ⟨Or.inl rfl, Or.inr rfl, Or.inl rfl, Or.inr rfl, trivial⟩ ?_
      exact th_X3_farAhead_34 ly hT a2 h srh hf
    · replace hf := ite_n hf c2
      refine V.aload_n dX3_farAhead_17 rfl rfl rfl ?_
      refine V.getI dX3_farAhead_18 fl_X3_26 rfl (Or.inl ⟨rfl, SHL_lt rfl⟩) rfl rfl ?_
      refine V.iload_n dX3_farAhead_21 rfl rfl ?_
      refine V.aload_n dX3_farAhead_22 rfl rfl rfl ?_
      refine V.getI dX3_farAhead_23 fl_X3_26 rfl (Or.inl ⟨rfl, SHL_lt rfl⟩) rfl rfl ?_
      refine V.isub dX3_farAhead_26 ?_
      refine V.aload_n dX3_farAhead_27 rfl rfl rfl ?_
      refine V.getI dX3_farAhead_28 fl_X3_19 rfl (Or.inl ⟨rfl, SHL_lt rfl⟩) rfl rfl ?_
      obtain ⟨b3, hf2⟩ := gd_el hf
      replace hf := hf2
      clear hf2
      refine V.irem dX3_farAhead_31 b3 ?_
      refine V.iadd dX3_farAhead_32 ?_
      refine V.nmi (fun x4 ex4 => ?_)
      replace hf := lt_el hf x4 ex4
      refine V.istore_n (ls' := [.ref 72, .ref t, .int a2, .int x4]) dX3_farAhead_33 rfl (by decide) rfl ?_
      refine V.less (ls' := [.null, .ref t, .null, .int x4]) ⟨Or.inl rfl, Or.inr rfl, Or.inl rfl, Or.inr rfl, trivial⟩ ?_
      exact th_X3_farAhead_34 ly hT x4 h srh hf
set_option maxRecDepth 100000 in
theorem th_X3_findWalk_46 {h0 : HP} (ly : Lay h0) {t : Nat} (hT : isT t) {rr : Int32} {hh : HP}  : ∀ (n : Nat) (l2 : Int32) (l3 : Int32) (l4 : Int32) (l5 : Int32) (l6 : Int32) (h : HP), SR h0 h → f_X3_findWalk_46 t n l2 l3 l4 l5 l6 h = some (rr, hh) → V cX3_findWalk miX3_findWalk (ZI h0 miX3_findWalk rr hh) 130 46 [.ref 72, .ref t, .int l2, .int l3, .int l4, .int l5, .int l6] [] h := by
  intro n
  induction n with
  | zero => intro l2 l3 l4 l5 l6 h srh hf; exact absurd hf (by unfold f_X3_findWalk_46; simp)
  | succ n ih =>
    intro l2 l3 l4 l5 l6 h srh hf
    unfold f_X3_findWalk_46 at hf
    refine V.iload dX3_findWalk_46 rfl ?_
    refine V.bipush (v := 60) dX3_findWalk_48 rfl ?_
    refine V.icmp_gt (tgt := 114) dX3_findWalk_50 (by decide) (fun c8 => ?_) (fun c8 => ?_)
    · replace hf := ite_p hf c8
      refine V.iconst (v := 0) dX3_findWalk_114 rfl ?_
      refine V.ireturn dX3_findWalk_115 rfl rfl ⟨rfl, rfl⟩ ly.1 ?_
      exact ret_I hf srh
    · replace hf := ite_n hf c8
      refine V.aload_n dX3_findWalk_53 rfl rfl (sT0 hT) ?_
      refine V.iload dX3_findWalk_54 rfl ?_
      obtain ⟨r11, h10, q9, hf2⟩ := bd2_el hf
      replace hf := hf2
      clear hf2
      refine V.callVI dX3_findWalk_56 ml_X3_29 mo_X5_nextOf mv_X5_nextOf (sT0 hT) (fun q hq => by cases hq; rfl) (by decide) (Or.inl ⟨rfl, SHL_lt (sT0 hT)⟩) (th_X5_nextOf (srh.ly ly) hT q9) rfl rfl ⟨Nat.le_of_ble_eq_true rfl, Nat.le_of_ble_eq_true rfl, fun _ => ⟨rfl, rfl⟩⟩ (Nat.le_of_ble_eq_true rfl) rfl (post_I (fun sq => ?_))
      have srh10 : SR h0 h10 := srh.trans sq
      clear sq q9
      refine V.istore (ls' := [.ref 72, .ref t, .int l2, .int l3, .int l4, .int r11, .int l6]) dX3_findWalk_59 (by decide) rfl ?_
      refine V.aload_n dX3_findWalk_61 rfl rfl rfl ?_
      refine V.aload_n dX3_findWalk_62 rfl rfl (sT0 hT) ?_
      refine V.getR (r := t + 1) dX3_findWalk_63 fl_X3_33 (sT0 hT) (Or.inl ⟨rfl, SHL_lt (sT0 hT)⟩) rfl (rT_hill (srh10.ly ly) hT) ?_
      refine V.iload dX3_findWalk_66 rfl ?_
      obtain ⟨h13, q12, hf2⟩ := bd_el hf
      replace hf := hf2
      clear hf2
      refine V.callVV dX3_findWalk_68 ml_X3_37 mo_X3_moveToCorner mv_X3_moveToCorner rfl (fun q hq => by cases hq; rfl) (by decide) (Or.inl ⟨rfl, SHL_lt rfl⟩) (th_X3_moveToCorner (srh10.ly ly) hT.H q12) rfl rfl ⟨Nat.le_of_ble_eq_true rfl, Nat.le_of_ble_eq_true rfl, fun _ => ⟨rfl, rfl⟩⟩ (Nat.le_of_ble_eq_true rfl) (Or.inl rfl) (post_V (fun sq => ?_))
      have srh13 : SR h0 h13 := srh10.trans sq
      clear sq q12
      refine V.aload_n dX3_findWalk_71 rfl rfl rfl ?_
      refine V.getI dX3_findWalk_72 fl_X3_41 rfl (Or.inl ⟨rfl, SHL_lt rfl⟩) rfl rfl ?_
      refine V.iload_n dX3_findWalk_75 rfl rfl ?_
      refine V.icmp_ne (tgt := 108) dX3_findWalk_76 (by decide) (fun c14 => ?_) (fun c14 => ?_)
      · replace hf := ite_n hf c14
        obtain ⟨x15, ex15⟩ : ∃ y : Int32, y = l6 + 1 := ⟨_, rfl⟩
        replace hf := lt_el hf x15 ex15
        refine V.iinc (v := x15) (ls' := [.ref 72, .ref t, .int l2, .int l3, .int l4, .int r11, .int x15]) dX3_findWalk_108 rfl (by decide) ex15.symm rfl ?_
        refine V.goto (tgt := 46) dX3_findWalk_111 (by decide) ?_
        exact ih l2 l3 l4 r11 x15 h13 srh13 hf
      · replace hf := ite_p hf c14
        refine V.aload_n dX3_findWalk_79 rfl rfl rfl ?_
        refine V.iload dX3_findWalk_80 rfl ?_
        refine V.putI dX3_findWalk_82 fl_X3_50 rfl (Or.inl ⟨rfl, SHL_lt rfl⟩) rfl (fun q hq => by cases hq; rfl) ⟨rfl, rfl⟩ ?_
        refine V.nameH (fun g16 eg16 => ?_)
        replace hf := lt_el hf g16 eg16
        have srg16 : SR h0 g16 := by rw [eg16]; exact srh13.I _ _ _
        refine V.aload_n dX3_findWalk_85 rfl rfl rfl ?_
        refine V.aload_n dX3_findWalk_86 rfl rfl rfl ?_
        refine V.getI dX3_findWalk_87 fl_X3_44 rfl (Or.inl ⟨rfl, SHL_lt rfl⟩) rfl rfl ?_
        refine V.iload_n dX3_findWalk_90 rfl rfl ?_
        refine V.isub dX3_findWalk_91 ?_
        refine V.putI dX3_findWalk_92 fl_X3_53 rfl (Or.inl ⟨rfl, SHL_lt rfl⟩) rfl (fun q hq => by cases hq; rfl) ⟨rfl, rfl⟩ ?_
        refine V.nameH (fun g17 eg17 => ?_)
        replace hf := lt_el hf g17 eg17
        have srg17 : SR h0 g17 := by rw [eg17]; exact srg16.I _ _ _
        refine V.aload_n dX3_findWalk_95 rfl rfl rfl ?_
        refine V.aload_n dX3_findWalk_96 rfl rfl rfl ?_
        refine V.getI dX3_findWalk_97 fl_X3_47 rfl (Or.inl ⟨rfl, SHL_lt rfl⟩) rfl rfl ?_
        refine V.iload dX3_findWalk_100 rfl ?_
        refine V.isub dX3_findWalk_102 ?_
        refine V.putI dX3_findWalk_103 fl_X3_56 rfl (Or.inl ⟨rfl, SHL_lt rfl⟩) rfl (fun q hq => by cases hq; rfl) ⟨rfl, rfl⟩ ?_
        refine V.nameH (fun g18 eg18 => ?_)
        replace hf := lt_el hf g18 eg18
        have srg18 : SR h0 g18 := by rw [eg18]; exact srg17.I _ _ _
        refine V.iconst (v := 1) dX3_findWalk_106 rfl ?_
        refine V.ireturn dX3_findWalk_107 rfl rfl ⟨rfl, rfl⟩ ly.1 ?_
        exact ret_I hf srg18
set_option maxRecDepth 100000 in
theorem th_X3_findWalk {h : HP} (ly : Lay h) {t : Nat} (hT : isT t)  {rr : Int32} {hh : HP} (hf : f_X3_findWalk h t = some (rr, hh)) : Spec yX3_findWalk cX3_findWalk miX3_findWalk [.ref 72, .ref t] h (pI fun r' h' => (r' = rr ∧ h' = hh) ∧ SR h hh) := by
  refine Spec.of (ls0 := [.ref 72, .ref t, .null, .null, .null, .null, .null]) mo_X3_findWalk (Nat.le_of_ble_eq_true rfl) rfl ?_
  rw [ly.1]
  have srh : SR h h := SR.refl h
  unfold f_X3_findWalk at hf
  refine V.aload_n dX3_findWalk_0 rfl rfl (sT0 hT) ?_
  refine V.getI dX3_findWalk_1 fl_X3_13 (sT0 hT) (Or.inl ⟨rfl, SHL_lt (sT0 hT)⟩) rfl rfl ?_
  refine V.if_ne (tgt := 9) dX3_findWalk_4 (by decide) (fun c1 => ?_) (fun c1 => ?_)
  · replace hf := ite_n hf c1
    refine V.aload_n dX3_findWalk_9 rfl rfl rfl ?_
    refine V.aload_n dX3_findWalk_10 rfl rfl (sT0 hT) ?_
    refine V.getR (r := t + 1) dX3_findWalk_11 fl_X3_33 (sT0 hT) (Or.inl ⟨rfl, SHL_lt (sT0 hT)⟩) rfl (rT_hill (srh.ly ly) hT) ?_
    refine V.aload_n dX3_findWalk_14 rfl rfl (sT0 hT) ?_
    refine V.getI dX3_findWalk_15 fl_X3_13 (sT0 hT) (Or.inl ⟨rfl, SHL_lt (sT0 hT)⟩) rfl rfl ?_
    obtain ⟨h3, q2, hf2⟩ := bd_el hf
    replace hf := hf2
    clear hf2
    refine V.callVV dX3_findWalk_18 ml_X3_37 mo_X3_moveToCorner mv_X3_moveToCorner rfl (fun q hq => by cases hq; rfl) (by decide) (Or.inl ⟨rfl, SHL_lt rfl⟩) (th_X3_moveToCorner (srh.ly ly) hT.H q2) rfl rfl ⟨Nat.le_of_ble_eq_true rfl, Nat.le_of_ble_eq_true rfl, fun _ => ⟨rfl, rfl⟩⟩ (Nat.le_of_ble_eq_true rfl) (Or.inl rfl) (post_V (fun sq => ?_))
    have srh3 : SR h h3 := srh.trans sq
    clear sq q2
    refine V.aload_n dX3_findWalk_21 rfl rfl rfl ?_
    refine V.getI dX3_findWalk_22 fl_X3_41 rfl (Or.inl ⟨rfl, SHL_lt rfl⟩) rfl rfl ?_
    refine V.nmi (fun x4 ex4 => ?_)
    replace hf := lt_el hf x4 ex4
    refine V.istore_n (ls' := [.ref 72, .ref t, .int x4, .null, .null, .null, .null]) dX3_findWalk_25 rfl (by decide) rfl ?_
    refine V.aload_n dX3_findWalk_26 rfl rfl rfl ?_
    refine V.getI dX3_findWalk_27 fl_X3_44 rfl (Or.inl ⟨rfl, SHL_lt rfl⟩) rfl rfl ?_
    refine V.nmi (fun x5 ex5 => ?_)
    replace hf := lt_el hf x5 ex5
    refine V.istore_n (ls' := [.ref 72, .ref t, .int x4, .int x5, .null, .null, .null]) dX3_findWalk_30 rfl (by decide) rfl ?_
    refine V.aload_n dX3_findWalk_31 rfl rfl rfl ?_
    refine V.getI dX3_findWalk_32 fl_X3_47 rfl (Or.inl ⟨rfl, SHL_lt rfl⟩) rfl rfl ?_
    refine V.nmi (fun x6 ex6 => ?_)
    replace hf := lt_el hf x6 ex6
    refine V.istore (ls' := [.ref 72, .ref t, .int x4, .int x5, .int x6, .null, .null]) dX3_findWalk_35 (by decide) rfl ?_
    refine V.aload_n dX3_findWalk_37 rfl rfl (sT0 hT) ?_
    refine V.getI dX3_findWalk_38 fl_X3_13 (sT0 hT) (Or.inl ⟨rfl, SHL_lt (sT0 hT)⟩) rfl rfl ?_
    refine V.nmi (fun x7 ex7 => ?_)
    replace hf := lt_el hf x7 ex7
    refine V.istore (ls' := [.ref 72, .ref t, .int x4, .int x5, .int x6, .int x7, .null]) dX3_findWalk_41 (by decide) rfl ?_
    refine V.iconst (v := 1) dX3_findWalk_43 rfl ?_
    refine V.istore (ls' := [.ref 72, .ref t, .int x4, .int x5, .int x6, .int x7, .int 1]) dX3_findWalk_44 (by decide) rfl ?_
    exact th_X3_findWalk_46 ly hT FU x4 x5 x6 x7 1 h3 srh3 hf
  · replace hf := ite_p hf c1
    refine V.iconst (v := 0) dX3_findWalk_7 rfl ?_
    refine V.ireturn dX3_findWalk_8 rfl rfl ⟨rfl, rfl⟩ ly.1 ?_
    exact ret_I hf srh
set_option maxRecDepth 100000 in
theorem th_X8_listLamps_7 {h0 : HP} (ly : Lay h0) {hh : HP}  : ∀ (n : Nat) (l1 : Int32) (l2 : Int32) (h : HP), SR h0 h → f_X8_listLamps_7 n l1 l2 h = some hh → V cX8_listLamps miX8_listLamps (ZV h0 miX8_listLamps hh) 130 7 [.ref 73, .int l1, .int l2] [] h := by
  intro n
  induction n with
  | zero => intro l1 l2 h srh hf; exact absurd hf (by unfold f_X8_listLamps_7; simp)
  | succ n ih =>
    intro l1 l2 h srh hf
    unfold f_X8_listLamps_7 at hf
    refine V.iload_n dX8_listLamps_7 rfl rfl ?_
    refine V.bipush (v := 30) dX8_listLamps_8 rfl ?_
    refine V.icmp_ge (tgt := 49) dX8_listLamps_10 (by decide) (fun c2 => ?_) (fun c2 => ?_)
    · replace hf := ite_p hf c2
      refine V.vreturn' dX8_listLamps_49 rfl ly.1 (Or.inl ⟨rfl, rfl⟩) ?_
      exact ret_V hf srh
    · replace hf := ite_n hf c2
      refine V.iload_n dX8_listLamps_13 rfl rfl ?_
      refine V.iconst (v := 1) dX8_listLamps_14 rfl ?_
      refine V.iload_n dX8_listLamps_15 rfl rfl ?_
      refine V.ishl dX8_listLamps_16 ?_
      refine V.iand dX8_listLamps_17 ?_
      refine V.if_eq (tgt := 43) dX8_listLamps_18 (by decide) (fun c3 => ?_) (fun c3 => ?_)
      · replace hf := ite_p hf c3
        obtain ⟨x4, ex4⟩ : ∃ y : Int32, y = l2 + 1 := ⟨_, rfl⟩
        replace hf := lt_el hf x4 ex4
        refine V.iinc (v := x4) (ls' := [.ref 73, .int l1, .int x4]) dX8_listLamps_43 rfl (by decide) ex4.symm rfl ?_
        refine V.goto (tgt := 7) dX8_listLamps_46 (by decide) ?_
        exact ih l1 x4 h srh hf
      · replace hf := ite_n hf c3
        refine V.aload_n dX8_listLamps_21 rfl rfl rfl ?_
        refine V.getR (r := 74) dX8_listLamps_22 fl_X8_7 rfl (Or.inl ⟨rfl, SHL_lt rfl⟩) rfl (ly_73_0 (srh.ly ly)) ?_
        refine V.aload_n dX8_listLamps_25 rfl rfl rfl ?_
        refine V.getI dX8_listLamps_26 fl_X8_13 rfl (Or.inl ⟨rfl, SHL_lt rfl⟩) rfl rfl ?_
        refine V.iconst (v := 1) dX8_listLamps_29 rfl ?_
        refine V.iload_n dX8_listLamps_30 rfl rfl ?_
        refine V.ishl dX8_listLamps_31 ?_
        obtain ⟨b5, hf2⟩ := gdi_el hf
        replace hf := hf2
        clear hf2
        refine V.iastore dX8_listLamps_32 rfl (Or.inl ⟨rfl, SHL_lt rfl⟩) b5 ?_
        refine V.nameH (fun g6 eg6 => ?_)
        replace hf := lt_el hf g6 eg6
        have srg6 : SR h0 g6 := by rw [eg6]; exact srh.I _ _ _
        refine V.aload_n dX8_listLamps_33 rfl rfl rfl ?_
        refine V.dup dX8_listLamps_34 rfl ?_
        refine V.getI dX8_listLamps_35 fl_X8_13 rfl (Or.inl ⟨rfl, SHL_lt rfl⟩) rfl rfl ?_
        refine V.iconst (v := 1) dX8_listLamps_38 rfl ?_
        refine V.iadd dX8_listLamps_39 ?_
        refine V.putI dX8_listLamps_40 fl_X8_13 rfl (Or.inl ⟨rfl, SHL_lt rfl⟩) rfl (fun q hq => by cases hq; rfl) ⟨rfl, rfl⟩ ?_
        refine V.nameH (fun g7 eg7 => ?_)
        replace hf := lt_el hf g7 eg7
        have srg7 : SR h0 g7 := by rw [eg7]; exact srg6.I _ _ _
        obtain ⟨x8, ex8⟩ : ∃ y : Int32, y = l2 + 1 := ⟨_, rfl⟩
        replace hf := lt_el hf x8 ex8
        refine V.iinc (v := x8) (ls' := [.ref 73, .int l1, .int x8]) dX8_listLamps_43 rfl (by decide) ex8.symm rfl ?_
        refine V.goto (tgt := 7) dX8_listLamps_46 (by decide) ?_
        exact ih l1 x8 g7 srg7 hf
set_option maxRecDepth 100000 in
theorem th_X8_listLamps {h : HP} (ly : Lay h) {a1 : Int32} {hh : HP} (hf : f_X8_listLamps h a1 = some hh) : Spec yX8_listLamps cX8_listLamps miX8_listLamps [.ref 73, .int a1] h (pV fun h' => h' = hh ∧ SR h hh) := by
  refine Spec.of (ls0 := [.ref 73, .int a1, .null]) mo_X8_listLamps (Nat.le_of_ble_eq_true rfl) rfl ?_
  rw [ly.1]
  have srh : SR h h := SR.refl h
  unfold f_X8_listLamps at hf
  refine V.aload_n dX8_listLamps_0 rfl rfl rfl ?_
  refine V.iconst (v := 0) dX8_listLamps_1 rfl ?_
  refine V.putI dX8_listLamps_2 fl_X8_13 rfl (Or.inl ⟨rfl, SHL_lt rfl⟩) rfl (fun q hq => by cases hq; rfl) ⟨rfl, rfl⟩ ?_
  refine V.nameH (fun g1 eg1 => ?_)
  replace hf := lt_el hf g1 eg1
  have srg1 : SR h g1 := by rw [eg1]; exact srh.I _ _ _
  refine V.iconst (v := 0) dX8_listLamps_5 rfl ?_
  refine V.istore_n (ls' := [.ref 73, .int a1, .int 0]) dX8_listLamps_6 rfl (by decide) rfl ?_
  exact th_X8_listLamps_7 ly FU a1 0 g1 srg1 hf
set_option maxRecDepth 100000 in
theorem th_X8_near_5 {h0 : HP} (ly : Lay h0) {hill : Nat} (hH : isH hill) {rr : Int32} {hh : HP}  : ∀ (n : Nat) (l2 : Int32) (l3 : Int32) (l4 : Int32) (h : HP), SR h0 h → f_X8_near_5 hill n l2 l3 l4 h = some (rr, hh) → V cX8_near miX8_near (ZI h0 miX8_near rr hh) 130 5 [.ref hill, .null, .int l2, .int l3, .int l4] [] h := by
  intro n
  induction n with
  | zero => intro l2 l3 l4 h srh hf; exact absurd hf (by unfold f_X8_near_5; simp)
  | succ n ih =>
    intro l2 l3 l4 h srh hf
    unfold f_X8_near_5 at hf
    refine V.iload dX8_near_5 rfl ?_
    refine V.iload_n dX8_near_7 rfl rfl ?_
    refine V.icmp_ge (tgt := 25) dX8_near_8 (by decide) (fun c1 => ?_) (fun c1 => ?_)
    · replace hf := ite_p hf c1
      refine V.iload_n dX8_near_25 rfl rfl ?_
      refine V.ireturn dX8_near_26 rfl rfl ⟨rfl, rfl⟩ ly.1 ?_
      exact ret_I hf srh
    · replace hf := ite_n hf c1
      refine V.iload_n dX8_near_11 rfl rfl ?_
      refine V.aload_n dX8_near_12 rfl rfl (sH0 hH) ?_
      refine V.iload_n dX8_near_13 rfl rfl ?_
      obtain ⟨r4, h3, q2, hf2⟩ := bd2_el hf
      replace hf := hf2
      clear hf2
      refine V.callVI dX8_near_14 ml_X8_50 mo_X1_around mv_X1_around (sH0 hH) (fun q hq => by cases hq; rfl) (by decide) (Or.inl ⟨rfl, SHL_lt (sH0 hH)⟩) (th_X1_around (srh.ly ly) hH q2) rfl rfl ⟨Nat.le_of_ble_eq_true rfl, Nat.le_of_ble_eq_true rfl, fun _ => ⟨rfl, rfl⟩⟩ (Nat.le_of_ble_eq_true rfl) rfl (post_I (fun sq => ?_))
      have srh3 : SR h0 h3 := srh.trans sq
      clear sq q2
      refine V.ior dX8_near_17 ?_
      refine V.nmi (fun x5 ex5 => ?_)
      replace hf := lt_el hf x5 ex5
      refine V.istore_n (ls' := [.ref hill, .null, .int l2, .int x5, .int l4]) dX8_near_18 rfl (by decide) rfl ?_
      obtain ⟨x6, ex6⟩ : ∃ y : Int32, y = l4 + 1 := ⟨_, rfl⟩
      replace hf := lt_el hf x6 ex6
      refine V.iinc (v := x6) (ls' := [.ref hill, .null, .int l2, .int x5, .int x6]) dX8_near_19 rfl (by decide) ex6.symm rfl ?_
      refine V.goto (tgt := 5) dX8_near_22 (by decide) ?_
      exact ih l2 x5 x6 h3 srh3 hf
set_option maxRecDepth 100000 in
theorem th_X8_near {h : HP} (ly : Lay h) {hill : Nat} (hH : isH hill) {a1 : Int32} {a2 : Int32} {rr : Int32} {hh : HP} (hf : f_X8_near h hill a1 a2 = some (rr, hh)) : Spec yX8_near cX8_near miX8_near [.ref hill, .int a1, .int a2] h (pI fun r' h' => (r' = rr ∧ h' = hh) ∧ SR h hh) := by
  refine Spec.of (ls0 := [.ref hill, .int a1, .int a2, .null, .null]) mo_X8_near (Nat.le_of_ble_eq_true rfl) rfl ?_
  rw [ly.1]
  have srh : SR h h := SR.refl h
  unfold f_X8_near at hf
  refine V.iload_n dX8_near_0 rfl rfl ?_
  refine V.istore_n (ls' := [.ref hill, .int a1, .int a2, .int a1, .null]) dX8_near_1 rfl (by decide) rfl ?_
  refine V.iconst (v := 0) dX8_near_2 rfl ?_
  refine V.istore (ls' := [.ref hill, .int a1, .int a2, .int a1, .int 0]) dX8_near_3 (by decide) rfl ?_
  refine V.less (ls' := [.ref hill, .null, .int a2, .int a1, .int 0]) ⟨Or.inr rfl, Or.inl rfl, Or.inr rfl, Or.inr rfl, Or.inr rfl, trivial⟩ ?_
  exact th_X8_near_5 ly hH FU a2 a1 0 h srh hf
set_option maxRecDepth 100000 in
theorem th_X8_countSpoilt {h : HP} (ly : Lay h) {t : Nat} (hT : isT t) {a1 : Int32} {a2 : Int32} {rr : Int32} {hh : HP} (hf : f_X8_countSpoilt h t a1 a2 = some (rr, hh)) : Spec yX8_countSpoilt cX8_countSpoilt miX8_countSpoilt [.ref t, .int a1, .int a2] h (pI fun r' h' => (r' = rr ∧ h' = hh) ∧ SR h hh) := by
  refine Spec.of (ls0 := [.ref t, .int a1, .int a2, .null]) mo_X8_countSpoilt (Nat.le_of_ble_eq_true rfl) rfl ?_
  rw [ly.1]
  have srh : SR h h := SR.refl h
  unfold f_X8_countSpoilt at hf
  refine V.aload_n dX8_countSpoilt_0 rfl rfl (sT0 hT) ?_
  refine V.aload_n dX8_countSpoilt_1 rfl rfl (sT0 hT) ?_
  refine V.getI dX8_countSpoilt_2 fl_X8_54 (sT0 hT) (Or.inl ⟨rfl, SHL_lt (sT0 hT)⟩) rfl rfl ?_
  refine V.iload_n dX8_countSpoilt_5 rfl rfl ?_
  obtain ⟨r3, h2, q1, hf2⟩ := bd2_el hf
  replace hf := hf2
  clear hf2
  refine V.callVI dX8_countSpoilt_6 ml_X8_57 mo_X5_after mv_X5_after (sT0 hT) (fun q hq => by cases hq; rfl) (by decide) (Or.inl ⟨rfl, SHL_lt (sT0 hT)⟩) (th_X5_after (srh.ly ly) hT q1) rfl rfl ⟨Nat.le_of_ble_eq_true rfl, Nat.le_of_ble_eq_true rfl, fun _ => ⟨rfl, rfl⟩⟩ (Nat.le_of_ble_eq_true rfl) rfl (post_I (fun sq => ?_))
  have srh2 : SR h h2 := srh.trans sq
  clear sq q1
  refine V.istore_n (ls' := [.ref t, .int a1, .int a2, .int r3]) dX8_countSpoilt_9 rfl (by decide) rfl ?_
  refine V.iload_n dX8_countSpoilt_10 rfl rfl ?_
  refine V.aload_n dX8_countSpoilt_11 rfl rfl (sT0 hT) ?_
  refine V.aload_n dX8_countSpoilt_12 rfl rfl (sT0 hT) ?_
  refine V.getI dX8_countSpoilt_13 fl_X8_54 (sT0 hT) (Or.inl ⟨rfl, SHL_lt (sT0 hT)⟩) rfl rfl ?_
  refine V.iload_n dX8_countSpoilt_16 rfl rfl ?_
  refine V.ixor dX8_countSpoilt_17 ?_
  refine V.iload_n dX8_countSpoilt_18 rfl rfl ?_
  obtain ⟨r6, h5, q4, hf2⟩ := bd2_el hf
  replace hf := hf2
  clear hf2
  refine V.callVI dX8_countSpoilt_19 ml_X8_57 mo_X5_after mv_X5_after (sT0 hT) (fun q hq => by cases hq; rfl) (by decide) (Or.inl ⟨rfl, SHL_lt (sT0 hT)⟩) (th_X5_after (srh2.ly ly) hT q4) rfl rfl ⟨Nat.le_of_ble_eq_true rfl, Nat.le_of_ble_eq_true rfl, fun _ => ⟨rfl, rfl⟩⟩ (Nat.le_of_ble_eq_true rfl) rfl (post_I (fun sq => ?_))
  have srh5 : SR h h5 := srh2.trans sq
  clear sq q4
  refine V.ixor dX8_countSpoilt_22 ?_
  obtain ⟨r9, h8, q7, hf2⟩ := bd2_el hf
  replace hf := hf2
  clear hf2
  refine V.callSI dX8_countSpoilt_23 ml_X8_64 mo_J6_bitCount_0f7a4 ms_J6_bitCount_0f7a4 (th_J6_bitCount_0f7a4 (srh5.ly ly) q7) rfl rfl ⟨Nat.le_of_ble_eq_true rfl, Nat.le_of_ble_eq_true rfl, fun _ => ⟨rfl, rfl⟩⟩ (Nat.le_of_ble_eq_true rfl) rfl (post_I (fun sq => ?_))
  have srh8 : SR h h8 := srh5.trans sq
  clear sq q7
  refine V.ireturn dX8_countSpoilt_26 rfl rfl ⟨rfl, rfl⟩ ly.1 ?_
  exact ret_I hf srh8
set_option maxRecDepth 100000 in
theorem th_X8_trySet {h : HP} (ly : Lay h) {t : Nat} (hT : isT t) {a2 : Int32} {a3 : Int32} {a4 : Int32} {rr : Int32} {hh : HP} (hf : f_X8_trySet h t a2 a3 a4 = some (rr, hh)) : Spec yX8_trySet cX8_trySet miX8_trySet [.ref 73, .ref t, .int a2, .int a3, .int a4] h (pI fun r' h' => (r' = rr ∧ h' = hh) ∧ SR h hh) := by
  refine Spec.of (ls0 := [.ref 73, .ref t, .int a2, .int a3, .int a4]) mo_X8_trySet (Nat.le_of_ble_eq_true rfl) rfl ?_
  rw [ly.1]
  have srh : SR h h := SR.refl h
  unfold f_X8_trySet at hf
  refine V.aload_n dX8_trySet_0 rfl rfl (sT0 hT) ?_
  refine V.aload_n dX8_trySet_1 rfl rfl (sT0 hT) ?_
  refine V.getI dX8_trySet_2 fl_X8_54 (sT0 hT) (Or.inl ⟨rfl, SHL_lt (sT0 hT)⟩) rfl rfl ?_
  refine V.iload_n dX8_trySet_5 rfl rfl ?_
  refine V.ixor dX8_trySet_6 ?_
  refine V.iload dX8_trySet_7 rfl ?_
  obtain ⟨r3, h2, q1, hf2⟩ := bd2_el hf
  replace hf := hf2
  clear hf2
  refine V.callVI dX8_trySet_9 ml_X8_57 mo_X5_after mv_X5_after (sT0 hT) (fun q hq => by cases hq; rfl) (by decide) (Or.inl ⟨rfl, SHL_lt (sT0 hT)⟩) (th_X5_after (srh.ly ly) hT q1) rfl rfl ⟨Nat.le_of_ble_eq_true rfl, Nat.le_of_ble_eq_true rfl, fun _ => ⟨rfl, rfl⟩⟩ (Nat.le_of_ble_eq_true rfl) rfl (post_I (fun sq => ?_))
  have srh2 : SR h h2 := srh.trans sq
  clear sq q1
  refine V.iload_n dX8_trySet_12 rfl rfl ?_
  refine V.iand dX8_trySet_13 ?_
  refine V.if_ne (tgt := 19) dX8_trySet_14 (by decide) (fun c4 => ?_) (fun c4 => ?_)
  · replace hf := ite_n hf c4
    refine V.aload_n dX8_trySet_19 rfl rfl rfl ?_
    refine V.iload_n dX8_trySet_20 rfl rfl ?_
    refine V.putI dX8_trySet_21 fl_X8_61 rfl (Or.inl ⟨rfl, SHL_lt rfl⟩) rfl (fun q hq => by cases hq; rfl) ⟨rfl, rfl⟩ ?_
    refine V.nameH (fun g5 eg5 => ?_)
    replace hf := lt_el hf g5 eg5
    have srg5 : SR h g5 := by rw [eg5]; exact srh2.I _ _ _
    refine V.iconst (v := 1) dX8_trySet_24 rfl ?_
    refine V.ireturn dX8_trySet_25 rfl rfl ⟨rfl, rfl⟩ ly.1 ?_
    exact ret_I hf srg5
  · replace hf := ite_p hf c4
    refine V.iconst (v := 0) dX8_trySet_17 rfl ?_
    refine V.ireturn dX8_trySet_18 rfl rfl ⟨rfl, rfl⟩ ly.1 ?_
    exact ret_I hf srh2
set_option maxRecDepth 100000 in
theorem th_X8_tryOnes_3 {h0 : HP} (ly : Lay h0) {t : Nat} (hT : isT t) {rr : Int32} {hh : HP}  : ∀ (n : Nat) (l2 : Int32) (l3 : Int32) (l4 : Int32) (h : HP), SR h0 h → f_X8_tryOnes_3 t n l2 l3 l4 h = some (rr, hh) → V cX8_tryOnes miX8_tryOnes (ZI h0 miX8_tryOnes rr hh) 130 3 [.ref 73, .ref t, .int l2, .int l3, .int l4] [] h := by
  intro n
  induction n with
  | zero => intro l2 l3 l4 h srh hf; exact absurd hf (by unfold f_X8_tryOnes_3; simp)
  | succ n ih =>
    intro l2 l3 l4 h srh hf
    unfold f_X8_tryOnes_3 at hf
    refine V.iload dX8_tryOnes_3 rfl ?_
    refine V.aload_n dX8_tryOnes_5 rfl rfl rfl ?_
    refine V.getI dX8_tryOnes_6 fl_X8_13 rfl (Or.inl ⟨rfl, SHL_lt rfl⟩) rfl rfl ?_
    refine V.icmp_ge (tgt := 37) dX8_tryOnes_9 (by decide) (fun c1 => ?_) (fun c1 => ?_)
    · replace hf := ite_p hf c1
      refine V.iconst (v := 0) dX8_tryOnes_37 rfl ?_
      refine V.ireturn dX8_tryOnes_38 rfl rfl ⟨rfl, rfl⟩ ly.1 ?_
      exact ret_I hf srh
    · replace hf := ite_n hf c1
      refine V.aload_n dX8_tryOnes_12 rfl rfl rfl ?_
      refine V.aload_n dX8_tryOnes_13 rfl rfl (sT0 hT) ?_
      refine V.aload_n dX8_tryOnes_14 rfl rfl rfl ?_
      refine V.getR (r := 74) dX8_tryOnes_15 fl_X8_7 rfl (Or.inl ⟨rfl, SHL_lt rfl⟩) rfl (ly_73_0 (srh.ly ly)) ?_
      refine V.iload dX8_tryOnes_18 rfl ?_
      obtain ⟨b2, hf2⟩ := gdi_el hf
      replace hf := hf2
      clear hf2
      refine V.iaload dX8_tryOnes_20 rfl (Or.inl ⟨rfl, SHL_lt rfl⟩) b2 ?_
      refine V.iload_n dX8_tryOnes_21 rfl rfl ?_
      refine V.iload_n dX8_tryOnes_22 rfl rfl ?_
      obtain ⟨r5, h4, q3, hf2⟩ := bd2_el hf
      replace hf := hf2
      clear hf2
      refine V.callVI dX8_tryOnes_23 ml_X8_36 mo_X8_trySet mv_X8_trySet rfl (fun q hq => by cases hq; rfl) (by decide) (Or.inl ⟨rfl, SHL_lt rfl⟩) (th_X8_trySet (srh.ly ly) hT q3) rfl rfl ⟨Nat.le_of_ble_eq_true rfl, Nat.le_of_ble_eq_true rfl, fun _ => ⟨rfl, rfl⟩⟩ (Nat.le_of_ble_eq_true rfl) rfl (post_I (fun sq => ?_))
      have srh4 : SR h0 h4 := srh.trans sq
      clear sq q3
      refine V.if_eq (tgt := 31) dX8_tryOnes_26 (by decide) (fun c6 => ?_) (fun c6 => ?_)
      · replace hf := ite_p hf c6
        obtain ⟨x7, ex7⟩ : ∃ y : Int32, y = l4 + 1 := ⟨_, rfl⟩
        replace hf := lt_el hf x7 ex7
        refine V.iinc (v := x7) (ls' := [.ref 73, .ref t, .int l2, .int l3, .int x7]) dX8_tryOnes_31 rfl (by decide) ex7.symm rfl ?_
        refine V.goto (tgt := 3) dX8_tryOnes_34 (by decide) ?_
        exact ih l2 l3 x7 h4 srh4 hf
      · replace hf := ite_n hf c6
        refine V.iconst (v := 1) dX8_tryOnes_29 rfl ?_
        refine V.ireturn dX8_tryOnes_30 rfl rfl ⟨rfl, rfl⟩ ly.1 ?_
        exact ret_I hf srh4
set_option maxRecDepth 100000 in
theorem th_X8_tryOnes {h : HP} (ly : Lay h) {t : Nat} (hT : isT t) {a2 : Int32} {a3 : Int32} {rr : Int32} {hh : HP} (hf : f_X8_tryOnes h t a2 a3 = some (rr, hh)) : Spec yX8_tryOnes cX8_tryOnes miX8_tryOnes [.ref 73, .ref t, .int a2, .int a3] h (pI fun r' h' => (r' = rr ∧ h' = hh) ∧ SR h hh) := by
  refine Spec.of (ls0 := [.ref 73, .ref t, .int a2, .int a3, .null]) mo_X8_tryOnes (Nat.le_of_ble_eq_true rfl) rfl ?_
  rw [ly.1]
  have srh : SR h h := SR.refl h
  unfold f_X8_tryOnes at hf
  refine V.iconst (v := 0) dX8_tryOnes_0 rfl ?_
  refine V.istore (ls' := [.ref 73, .ref t, .int a2, .int a3, .int 0]) dX8_tryOnes_1 (by decide) rfl ?_
  exact th_X8_tryOnes_3 ly hT FU a2 a3 0 h srh hf
set_option maxRecDepth 100000 in
theorem th_X8_tryTwos_15 {h0 : HP} (ly : Lay h0) {t : Nat} (hT : isT t) {rr : Int32} {hh : HP} {K3 : Int32 → Int32 → Int32 → HP → Option (Int32 × HP)} (kok3 : ∀ (l2 : Int32) (l3 : Int32) (l4 : Int32) (g : HP), SR h0 g → K3 l2 l3 l4 g = some (rr, hh) → V cX8_tryTwos miX8_tryTwos (ZI h0 miX8_tryTwos rr hh) 130 3 [.ref 73, .ref t, .int l2, .int l3, .int l4, .null] [] g) : ∀ (n : Nat) (l2 : Int32) (l3 : Int32) (l4 : Int32) (l5 : Int32) (h : HP), SR h0 h → f_X8_tryTwos_15 t K3 n l2 l3 l4 l5 h = some (rr, hh) → V cX8_tryTwos miX8_tryTwos (ZI h0 miX8_tryTwos rr hh) 130 15 [.ref 73, .ref t, .int l2, .int l3, .int l4, .int l5] [] h := by
  intro n
  induction n with
  | zero => intro l2 l3 l4 l5 h srh hf; exact absurd hf (by unfold f_X8_tryTwos_15; simp)
  | succ n ih =>
    intro l2 l3 l4 l5 h srh hf
    unfold f_X8_tryTwos_15 at hf
    refine V.iload dX8_tryTwos_15 rfl ?_
    refine V.iload dX8_tryTwos_17 rfl ?_
    refine V.icmp_ge (tgt := 55) dX8_tryTwos_19 (by decide) (fun c2 => ?_) (fun c2 => ?_)
    · replace hf := ite_p hf c2
      obtain ⟨x3, ex3⟩ : ∃ y : Int32, y = l4 + 1 := ⟨_, rfl⟩
      replace hf := lt_el hf x3 ex3
      refine V.iinc (v := x3) (ls' := [.ref 73, .ref t, .int l2, .int l3, .int x3, .int l5]) dX8_tryTwos_55 rfl (by decide) ex3.symm rfl ?_
      refine V.goto (tgt := 3) dX8_tryTwos_58 (by decide) ?_
      refine V.less (ls' := [.ref 73, .ref t, .int l2, .int l3, .int x3, .null]) ⟨Or.inr rfl, Or.inr rfl, Or.inr rfl, Or.inr rfl, Or.inr rfl, Or.inl rfl, trivial⟩ ?_
      exact kok3 l2 l3 x3 h srh hf
    · replace hf := ite_n hf c2
      refine V.aload_n dX8_tryTwos_22 rfl rfl rfl ?_
      refine V.aload_n dX8_tryTwos_23 rfl rfl (sT0 hT) ?_
      refine V.aload_n dX8_tryTwos_24 rfl rfl rfl ?_
      refine V.getR (r := 74) dX8_tryTwos_25 fl_X8_7 rfl (Or.inl ⟨rfl, SHL_lt rfl⟩) rfl (ly_73_0 (srh.ly ly)) ?_
      refine V.iload dX8_tryTwos_28 rfl ?_
      obtain ⟨b4, hf2⟩ := gdi_el hf
      replace hf := hf2
      clear hf2
      refine V.iaload dX8_tryTwos_30 rfl (Or.inl ⟨rfl, SHL_lt rfl⟩) b4 ?_
      refine V.aload_n dX8_tryTwos_31 rfl rfl rfl ?_
      refine V.getR (r := 74) dX8_tryTwos_32 fl_X8_7 rfl (Or.inl ⟨rfl, SHL_lt rfl⟩) rfl (ly_73_0 (srh.ly ly)) ?_
      refine V.iload dX8_tryTwos_35 rfl ?_
      obtain ⟨b5, hf2⟩ := gdi_el hf
      replace hf := hf2
      clear hf2
      refine V.iaload dX8_tryTwos_37 rfl (Or.inl ⟨rfl, SHL_lt rfl⟩) b5 ?_
      refine V.ior dX8_tryTwos_38 ?_
      refine V.iload_n dX8_tryTwos_39 rfl rfl ?_
      refine V.iload_n dX8_tryTwos_40 rfl rfl ?_
      obtain ⟨r8, h7, q6, hf2⟩ := bd2_el hf
      replace hf := hf2
      clear hf2
      refine V.callVI dX8_tryTwos_41 ml_X8_36 mo_X8_trySet mv_X8_trySet rfl (fun q hq => by cases hq; rfl) (by decide) (Or.inl ⟨rfl, SHL_lt rfl⟩) (th_X8_trySet (srh.ly ly) hT q6) rfl rfl ⟨Nat.le_of_ble_eq_true rfl, Nat.le_of_ble_eq_true rfl, fun _ => ⟨rfl, rfl⟩⟩ (Nat.le_of_ble_eq_true rfl) rfl (post_I (fun sq => ?_))
      have srh7 : SR h0 h7 := srh.trans sq
      clear sq q6
      refine V.if_eq (tgt := 49) dX8_tryTwos_44 (by decide) (fun c9 => ?_) (fun c9 => ?_)
      · replace hf := ite_p hf c9
        obtain ⟨x10, ex10⟩ : ∃ y : Int32, y = l5 + 1 := ⟨_, rfl⟩
        replace hf := lt_el hf x10 ex10
        refine V.iinc (v := x10) (ls' := [.ref 73, .ref t, .int l2, .int l3, .int l4, .int x10]) dX8_tryTwos_49 rfl (by decide) ex10.symm rfl ?_
        refine V.goto (tgt := 15) dX8_tryTwos_52 (by decide) ?_
        exact ih l2 l3 l4 x10 h7 srh7 hf
      · replace hf := ite_n hf c9
        refine V.iconst (v := 1) dX8_tryTwos_47 rfl ?_
        refine V.ireturn dX8_tryTwos_48 rfl rfl ⟨rfl, rfl⟩ ly.1 ?_
        exact ret_I hf srh7
set_option maxRecDepth 100000 in
theorem th_X8_tryTwos_3 {h0 : HP} (ly : Lay h0) {t : Nat} (hT : isT t) {rr : Int32} {hh : HP}  : ∀ (n : Nat) (l2 : Int32) (l3 : Int32) (l4 : Int32) (h : HP), SR h0 h → f_X8_tryTwos_3 t n l2 l3 l4 h = some (rr, hh) → V cX8_tryTwos miX8_tryTwos (ZI h0 miX8_tryTwos rr hh) 130 3 [.ref 73, .ref t, .int l2, .int l3, .int l4, .null] [] h := by
  intro n
  induction n with
  | zero => intro l2 l3 l4 h srh hf; exact absurd hf (by unfold f_X8_tryTwos_3; simp)
  | succ n ih =>
    intro l2 l3 l4 h srh hf
    unfold f_X8_tryTwos_3 at hf
    refine V.iload dX8_tryTwos_3 rfl ?_
    refine V.aload_n dX8_tryTwos_5 rfl rfl rfl ?_
    refine V.getI dX8_tryTwos_6 fl_X8_13 rfl (Or.inl ⟨rfl, SHL_lt rfl⟩) rfl rfl ?_
    refine V.icmp_ge (tgt := 61) dX8_tryTwos_9 (by decide) (fun c1 => ?_) (fun c1 => ?_)
    · replace hf := ite_p hf c1
      refine V.iconst (v := 0) dX8_tryTwos_61 rfl ?_
      refine V.ireturn dX8_tryTwos_62 rfl rfl ⟨rfl, rfl⟩ ly.1 ?_
      exact ret_I hf srh
    · replace hf := ite_n hf c1
      refine V.iconst (v := 0) dX8_tryTwos_12 rfl ?_
      refine V.istore (ls' := [.ref 73, .ref t, .int l2, .int l3, .int l4, .int 0]) dX8_tryTwos_13 (by decide) rfl ?_
      exact th_X8_tryTwos_15 ly hT ih FU l2 l3 l4 0 h srh hf
set_option maxRecDepth 100000 in
theorem th_X8_tryTwos {h : HP} (ly : Lay h) {t : Nat} (hT : isT t) {a2 : Int32} {a3 : Int32} {rr : Int32} {hh : HP} (hf : f_X8_tryTwos h t a2 a3 = some (rr, hh)) : Spec yX8_tryTwos cX8_tryTwos miX8_tryTwos [.ref 73, .ref t, .int a2, .int a3] h (pI fun r' h' => (r' = rr ∧ h' = hh) ∧ SR h hh) := by
  refine Spec.of (ls0 := [.ref 73, .ref t, .int a2, .int a3, .null, .null]) mo_X8_tryTwos (Nat.le_of_ble_eq_true rfl) rfl ?_
  rw [ly.1]
  have srh : SR h h := SR.refl h
  unfold f_X8_tryTwos at hf
  refine V.iconst (v := 1) dX8_tryTwos_0 rfl ?_
  refine V.istore (ls' := [.ref 73, .ref t, .int a2, .int a3, .int 1, .null]) dX8_tryTwos_1 (by decide) rfl ?_
  exact th_X8_tryTwos_3 ly hT FU a2 a3 1 h srh hf
set_option maxRecDepth 100000 in
theorem th_X8_tryThrees_25 {h0 : HP} (ly : Lay h0) {t : Nat} (hT : isT t) {rr : Int32} {hh : HP} {K15 : Int32 → Int32 → Int32 → Int32 → HP → Option (Int32 × HP)} (kok15 : ∀ (l2 : Int32) (l3 : Int32) (l4 : Int32) (l5 : Int32) (g : HP), SR h0 g → K15 l2 l3 l4 l5 g = some (rr, hh) → V cX8_tryThrees miX8_tryThrees (ZI h0 miX8_tryThrees rr hh) 130 15 [.ref 73, .ref t, .int l2, .int l3, .int l4, .int l5, .null] [] g) : ∀ (n : Nat) (l2 : Int32) (l3 : Int32) (l4 : Int32) (l5 : Int32) (l6 : Int32) (h : HP), SR h0 h → f_X8_tryThrees_25 t K15 n l2 l3 l4 l5 l6 h = some (rr, hh) → V cX8_tryThrees miX8_tryThrees (ZI h0 miX8_tryThrees rr hh) 130 25 [.ref 73, .ref t, .int l2, .int l3, .int l4, .int l5, .int l6] [] h := by
  intro n
  induction n with
  | zero => intro l2 l3 l4 l5 l6 h srh hf; exact absurd hf (by unfold f_X8_tryThrees_25; simp)
  | succ n ih =>
    intro l2 l3 l4 l5 l6 h srh hf
    unfold f_X8_tryThrees_25 at hf
    refine V.iload dX8_tryThrees_25 rfl ?_
    refine V.iload dX8_tryThrees_27 rfl ?_
    refine V.icmp_ge (tgt := 73) dX8_tryThrees_29 (by decide) (fun c4 => ?_) (fun c4 => ?_)
    · replace hf := ite_p hf c4
      obtain ⟨x5, ex5⟩ : ∃ y : Int32, y = l5 + 1 := ⟨_, rfl⟩
      replace hf := lt_el hf x5 ex5
      refine V.iinc (v := x5) (ls' := [.ref 73, .ref t, .int l2, .int l3, .int l4, .int x5, .int l6]) dX8_tryThrees_73 rfl (by decide) ex5.symm rfl ?_
      refine V.goto (tgt := 15) dX8_tryThrees_76 (by decide) ?_
      refine V.less (ls' := [.ref 73, .ref t, .int l2, .int l3, .int l4, .int x5, .null]) ⟨Or.inr rfl, Or.inr rfl, Or.inr rfl, Or.inr rfl, Or.inr rfl, Or.inr rfl, Or.inl rfl, trivial⟩ ?_
      exact kok15 l2 l3 l4 x5 h srh hf
    · replace hf := ite_n hf c4
      refine V.aload_n dX8_tryThrees_32 rfl rfl rfl ?_
      refine V.aload_n dX8_tryThrees_33 rfl rfl (sT0 hT) ?_
      refine V.aload_n dX8_tryThrees_34 rfl rfl rfl ?_
      refine V.getR (r := 74) dX8_tryThrees_35 fl_X8_7 rfl (Or.inl ⟨rfl, SHL_lt rfl⟩) rfl (ly_73_0 (srh.ly ly)) ?_
      refine V.iload dX8_tryThrees_38 rfl ?_
      obtain ⟨b6, hf2⟩ := gdi_el hf
      replace hf := hf2
      clear hf2
      refine V.iaload dX8_tryThrees_40 rfl (Or.inl ⟨rfl, SHL_lt rfl⟩) b6 ?_
      refine V.aload_n dX8_tryThrees_41 rfl rfl rfl ?_
      refine V.getR (r := 74) dX8_tryThrees_42 fl_X8_7 rfl (Or.inl ⟨rfl, SHL_lt rfl⟩) rfl (ly_73_0 (srh.ly ly)) ?_
      refine V.iload dX8_tryThrees_45 rfl ?_
      obtain ⟨b7, hf2⟩ := gdi_el hf
      replace hf := hf2
      clear hf2
      refine V.iaload dX8_tryThrees_47 rfl (Or.inl ⟨rfl, SHL_lt rfl⟩) b7 ?_
      refine V.ior dX8_tryThrees_48 ?_
      refine V.aload_n dX8_tryThrees_49 rfl rfl rfl ?_
      refine V.getR (r := 74) dX8_tryThrees_50 fl_X8_7 rfl (Or.inl ⟨rfl, SHL_lt rfl⟩) rfl (ly_73_0 (srh.ly ly)) ?_
      refine V.iload dX8_tryThrees_53 rfl ?_
      obtain ⟨b8, hf2⟩ := gdi_el hf
      replace hf := hf2
      clear hf2
      refine V.iaload dX8_tryThrees_55 rfl (Or.inl ⟨rfl, SHL_lt rfl⟩) b8 ?_
      refine V.ior dX8_tryThrees_56 ?_
      refine V.iload_n dX8_tryThrees_57 rfl rfl ?_
      refine V.iload_n dX8_tryThrees_58 rfl rfl ?_
      obtain ⟨r11, h10, q9, hf2⟩ := bd2_el hf
      replace hf := hf2
      clear hf2
      refine V.callVI dX8_tryThrees_59 ml_X8_36 mo_X8_trySet mv_X8_trySet rfl (fun q hq => by cases hq; rfl) (by decide) (Or.inl ⟨rfl, SHL_lt rfl⟩) (th_X8_trySet (srh.ly ly) hT q9) rfl rfl ⟨Nat.le_of_ble_eq_true rfl, Nat.le_of_ble_eq_true rfl, fun _ => ⟨rfl, rfl⟩⟩ (Nat.le_of_ble_eq_true rfl) rfl (post_I (fun sq => ?_))
      have srh10 : SR h0 h10 := srh.trans sq
      clear sq q9
      refine V.if_eq (tgt := 67) dX8_tryThrees_62 (by decide) (fun c12 => ?_) (fun c12 => ?_)
      · replace hf := ite_p hf c12
        obtain ⟨x13, ex13⟩ : ∃ y : Int32, y = l6 + 1 := ⟨_, rfl⟩
        replace hf := lt_el hf x13 ex13
        refine V.iinc (v := x13) (ls' := [.ref 73, .ref t, .int l2, .int l3, .int l4, .int l5, .int x13]) dX8_tryThrees_67 rfl (by decide) ex13.symm rfl ?_
        refine V.goto (tgt := 25) dX8_tryThrees_70 (by decide) ?_
        exact ih l2 l3 l4 l5 x13 h10 srh10 hf
      · replace hf := ite_n hf c12
        refine V.iconst (v := 1) dX8_tryThrees_65 rfl ?_
        refine V.ireturn dX8_tryThrees_66 rfl rfl ⟨rfl, rfl⟩ ly.1 ?_
        exact ret_I hf srh10
set_option maxRecDepth 100000 in
theorem th_X8_tryThrees_15 {h0 : HP} (ly : Lay h0) {t : Nat} (hT : isT t) {rr : Int32} {hh : HP} {K3 : Int32 → Int32 → Int32 → HP → Option (Int32 × HP)} (kok3 : ∀ (l2 : Int32) (l3 : Int32) (l4 : Int32) (g : HP), SR h0 g → K3 l2 l3 l4 g = some (rr, hh) → V cX8_tryThrees miX8_tryThrees (ZI h0 miX8_tryThrees rr hh) 130 3 [.ref 73, .ref t, .int l2, .int l3, .int l4, .null, .null] [] g) : ∀ (n : Nat) (l2 : Int32) (l3 : Int32) (l4 : Int32) (l5 : Int32) (h : HP), SR h0 h → f_X8_tryThrees_15 t K3 n l2 l3 l4 l5 h = some (rr, hh) → V cX8_tryThrees miX8_tryThrees (ZI h0 miX8_tryThrees rr hh) 130 15 [.ref 73, .ref t, .int l2, .int l3, .int l4, .int l5, .null] [] h := by
  intro n
  induction n with
  | zero => intro l2 l3 l4 l5 h srh hf; exact absurd hf (by unfold f_X8_tryThrees_15; simp)
  | succ n ih =>
    intro l2 l3 l4 l5 h srh hf
    unfold f_X8_tryThrees_15 at hf
    refine V.iload dX8_tryThrees_15 rfl ?_
    refine V.iload dX8_tryThrees_17 rfl ?_
    refine V.icmp_ge (tgt := 79) dX8_tryThrees_19 (by decide) (fun c2 => ?_) (fun c2 => ?_)
    · replace hf := ite_p hf c2
      obtain ⟨x3, ex3⟩ : ∃ y : Int32, y = l4 + 1 := ⟨_, rfl⟩
      replace hf := lt_el hf x3 ex3
      refine V.iinc (v := x3) (ls' := [.ref 73, .ref t, .int l2, .int l3, .int x3, .int l5, .null]) dX8_tryThrees_79 rfl (by decide) ex3.symm rfl ?_
      refine V.goto (tgt := 3) dX8_tryThrees_82 (by decide) ?_
      refine V.less (ls' := [.ref 73, .ref t, .int l2, .int l3, .int x3, .null, .null]) ⟨Or.inr rfl, Or.inr rfl, Or.inr rfl, Or.inr rfl, Or.inr rfl, Or.inl rfl, Or.inl rfl, trivial⟩ ?_
      exact kok3 l2 l3 x3 h srh hf
    · replace hf := ite_n hf c2
      refine V.iconst (v := 0) dX8_tryThrees_22 rfl ?_
      refine V.istore (ls' := [.ref 73, .ref t, .int l2, .int l3, .int l4, .int l5, .int 0]) dX8_tryThrees_23 (by decide) rfl ?_
      exact th_X8_tryThrees_25 ly hT ih FU l2 l3 l4 l5 0 h srh hf
set_option maxRecDepth 100000 in
theorem th_X8_tryThrees_3 {h0 : HP} (ly : Lay h0) {t : Nat} (hT : isT t) {rr : Int32} {hh : HP}  : ∀ (n : Nat) (l2 : Int32) (l3 : Int32) (l4 : Int32) (h : HP), SR h0 h → f_X8_tryThrees_3 t n l2 l3 l4 h = some (rr, hh) → V cX8_tryThrees miX8_tryThrees (ZI h0 miX8_tryThrees rr hh) 130 3 [.ref 73, .ref t, .int l2, .int l3, .int l4, .null, .null] [] h := by
  intro n
  induction n with
  | zero => intro l2 l3 l4 h srh hf; exact absurd hf (by unfold f_X8_tryThrees_3; simp)
  | succ n ih =>
    intro l2 l3 l4 h srh hf
    unfold f_X8_tryThrees_3 at hf
    refine V.iload dX8_tryThrees_3 rfl ?_
    refine V.aload_n dX8_tryThrees_5 rfl rfl rfl ?_
    refine V.getI dX8_tryThrees_6 fl_X8_13 rfl (Or.inl ⟨rfl, SHL_lt rfl⟩) rfl rfl ?_
    refine V.icmp_ge (tgt := 85) dX8_tryThrees_9 (by decide) (fun c1 => ?_) (fun c1 => ?_)
    · replace hf := ite_p hf c1
      refine V.iconst (v := 0) dX8_tryThrees_85 rfl ?_
      refine V.ireturn dX8_tryThrees_86 rfl rfl ⟨rfl, rfl⟩ ly.1 ?_
      exact ret_I hf srh
    · replace hf := ite_n hf c1
      refine V.iconst (v := 1) dX8_tryThrees_12 rfl ?_
      refine V.istore (ls' := [.ref 73, .ref t, .int l2, .int l3, .int l4, .int 1, .null]) dX8_tryThrees_13 (by decide) rfl ?_
      exact th_X8_tryThrees_15 ly hT ih FU l2 l3 l4 1 h srh hf
set_option maxRecDepth 100000 in
theorem th_X8_tryThrees {h : HP} (ly : Lay h) {t : Nat} (hT : isT t) {a2 : Int32} {a3 : Int32} {rr : Int32} {hh : HP} (hf : f_X8_tryThrees h t a2 a3 = some (rr, hh)) : Spec yX8_tryThrees cX8_tryThrees miX8_tryThrees [.ref 73, .ref t, .int a2, .int a3] h (pI fun r' h' => (r' = rr ∧ h' = hh) ∧ SR h hh) := by
  refine Spec.of (ls0 := [.ref 73, .ref t, .int a2, .int a3, .null, .null, .null]) mo_X8_tryThrees (Nat.le_of_ble_eq_true rfl) rfl ?_
  rw [ly.1]
  have srh : SR h h := SR.refl h
  unfold f_X8_tryThrees at hf
  refine V.iconst (v := 2) dX8_tryThrees_0 rfl ?_
  refine V.istore (ls' := [.ref 73, .ref t, .int a2, .int a3, .int 2, .null, .null]) dX8_tryThrees_1 (by decide) rfl ?_
  exact th_X8_tryThrees_3 ly hT FU a2 a3 2 h srh hf
set_option maxRecDepth 100000 in
theorem th_X8_findSignal {h : HP} (ly : Lay h) {t : Nat} (hT : isT t) {a2 : Int32} {a3 : Int32} {rr : Int32} {hh : HP} (hf : f_X8_findSignal h t a2 a3 = some (rr, hh)) : Spec yX8_findSignal cX8_findSignal miX8_findSignal [.ref 73, .ref t, .int a2, .int a3] h (pI fun r' h' => (r' = rr ∧ h' = hh) ∧ SR h hh) := by
  refine Spec.of (ls0 := [.ref 73, .ref t, .int a2, .int a3]) mo_X8_findSignal (Nat.le_of_ble_eq_true rfl) rfl ?_
  rw [ly.1]
  have srh : SR h h := SR.refl h
  unfold f_X8_findSignal at hf
  refine V.aload_n dX8_findSignal_0 rfl rfl rfl ?_
  refine V.aload_n dX8_findSignal_1 rfl rfl (sT0 hT) ?_
  refine V.getR (r := t + 1) dX8_findSignal_2 fl_X8_17 (sT0 hT) (Or.inl ⟨rfl, SHL_lt (sT0 hT)⟩) rfl (rT_hill (srh.ly ly) hT) ?_
  refine V.getI dX8_findSignal_5 fl_X8_23 (sH0 hT.H) (Or.inl ⟨rfl, SHL_lt (sH0 hT.H)⟩) rfl rfl ?_
  refine V.aload_n dX8_findSignal_8 rfl rfl (sT0 hT) ?_
  refine V.getR (r := t + 1) dX8_findSignal_9 fl_X8_17 (sT0 hT) (Or.inl ⟨rfl, SHL_lt (sT0 hT)⟩) rfl (rT_hill (srh.ly ly) hT) ?_
  refine V.iload_n dX8_findSignal_12 rfl rfl ?_
  refine V.iload_n dX8_findSignal_13 rfl rfl ?_
  obtain ⟨r3, h2, q1, hf2⟩ := bd2_el hf
  replace hf := hf2
  clear hf2
  refine V.callSI dX8_findSignal_14 ml_X8_28 mo_X8_near ms_X8_near (th_X8_near (srh.ly ly) hT.H q1) rfl rfl ⟨Nat.le_of_ble_eq_true rfl, Nat.le_of_ble_eq_true rfl, fun _ => ⟨rfl, rfl⟩⟩ (Nat.le_of_ble_eq_true rfl) rfl (post_I (fun sq => ?_))
  have srh2 : SR h h2 := srh.trans sq
  clear sq q1
  refine V.iand dX8_findSignal_17 ?_
  obtain ⟨h5, q4, hf2⟩ := bd_el hf
  replace hf := hf2
  clear hf2
  refine V.callVV dX8_findSignal_18 ml_X8_32 mo_X8_listLamps mv_X8_listLamps rfl (fun q hq => by cases hq; rfl) (by decide) (Or.inl ⟨rfl, SHL_lt rfl⟩) (th_X8_listLamps (srh2.ly ly) q4) rfl rfl ⟨Nat.le_of_ble_eq_true rfl, Nat.le_of_ble_eq_true rfl, fun _ => ⟨rfl, rfl⟩⟩ (Nat.le_of_ble_eq_true rfl) (Or.inl rfl) (post_V (fun sq => ?_))
  have srh5 : SR h h5 := srh2.trans sq
  clear sq q4
  refine V.aload_n dX8_findSignal_21 rfl rfl rfl ?_
  refine V.aload_n dX8_findSignal_22 rfl rfl (sT0 hT) ?_
  refine V.iconst (v := 0) dX8_findSignal_23 rfl ?_
  refine V.iload_n dX8_findSignal_24 rfl rfl ?_
  refine V.iload_n dX8_findSignal_25 rfl rfl ?_
  obtain ⟨r8, h7, q6, hf2⟩ := bd2_el hf
  replace hf := hf2
  clear hf2
  refine V.callVI dX8_findSignal_26 ml_X8_36 mo_X8_trySet mv_X8_trySet rfl (fun q hq => by cases hq; rfl) (by decide) (Or.inl ⟨rfl, SHL_lt rfl⟩) (th_X8_trySet (srh5.ly ly) hT q6) rfl rfl ⟨Nat.le_of_ble_eq_true rfl, Nat.le_of_ble_eq_true rfl, fun _ => ⟨rfl, rfl⟩⟩ (Nat.le_of_ble_eq_true rfl) rfl (post_I (fun sq => ?_))
  have srh7 : SR h h7 := srh5.trans sq
  clear sq q6
  refine V.if_ne (tgt := 62) dX8_findSignal_29 (by decide) (fun c9 => ?_) (fun c9 => ?_)
  · replace hf := ite_n hf c9
    refine V.iconst (v := 1) dX8_findSignal_62 rfl ?_
    refine V.goto (tgt := 67) dX8_findSignal_63 (by decide) ?_
    refine V.ireturn dX8_findSignal_67 rfl rfl ⟨rfl, rfl⟩ ly.1 ?_
    exact ret_I hf srh7
  · replace hf := ite_p hf c9
    refine V.aload_n dX8_findSignal_32 rfl rfl rfl ?_
    refine V.aload_n dX8_findSignal_33 rfl rfl (sT0 hT) ?_
    refine V.iload_n dX8_findSignal_34 rfl rfl ?_
    refine V.iload_n dX8_findSignal_35 rfl rfl ?_
    obtain ⟨r12, h11, q10, hf2⟩ := bd2_el hf
    replace hf := hf2
    clear hf2
    refine V.callVI dX8_findSignal_36 ml_X8_40 mo_X8_tryOnes mv_X8_tryOnes rfl (fun q hq => by cases hq; rfl) (by decide) (Or.inl ⟨rfl, SHL_lt rfl⟩) (th_X8_tryOnes (srh7.ly ly) hT q10) rfl rfl ⟨Nat.le_of_ble_eq_true rfl, Nat.le_of_ble_eq_true rfl, fun _ => ⟨rfl, rfl⟩⟩ (Nat.le_of_ble_eq_true rfl) rfl (post_I (fun sq => ?_))
    have srh11 : SR h h11 := srh7.trans sq
    clear sq q10
    refine V.if_ne (tgt := 62) dX8_findSignal_39 (by decide) (fun c13 => ?_) (fun c13 => ?_)
    · replace hf := ite_n hf c13
      refine V.iconst (v := 1) dX8_findSignal_62 rfl ?_
      refine V.goto (tgt := 67) dX8_findSignal_63 (by decide) ?_
      refine V.ireturn dX8_findSignal_67 rfl rfl ⟨rfl, rfl⟩ ly.1 ?_
      exact ret_I hf srh11
    · replace hf := ite_p hf c13
      refine V.aload_n dX8_findSignal_42 rfl rfl rfl ?_
      refine V.aload_n dX8_findSignal_43 rfl rfl (sT0 hT) ?_
      refine V.iload_n dX8_findSignal_44 rfl rfl ?_
      refine V.iload_n dX8_findSignal_45 rfl rfl ?_
      obtain ⟨r16, h15, q14, hf2⟩ := bd2_el hf
      replace hf := hf2
      clear hf2
      refine V.callVI dX8_findSignal_46 ml_X8_44 mo_X8_tryTwos mv_X8_tryTwos rfl (fun q hq => by cases hq; rfl) (by decide) (Or.inl ⟨rfl, SHL_lt rfl⟩) (th_X8_tryTwos (srh11.ly ly) hT q14) rfl rfl ⟨Nat.le_of_ble_eq_true rfl, Nat.le_of_ble_eq_true rfl, fun _ => ⟨rfl, rfl⟩⟩ (Nat.le_of_ble_eq_true rfl) rfl (post_I (fun sq => ?_))
      have srh15 : SR h h15 := srh11.trans sq
      clear sq q14
      refine V.if_ne (tgt := 62) dX8_findSignal_49 (by decide) (fun c17 => ?_) (fun c17 => ?_)
      · replace hf := ite_n hf c17
        refine V.iconst (v := 1) dX8_findSignal_62 rfl ?_
        refine V.goto (tgt := 67) dX8_findSignal_63 (by decide) ?_
        refine V.ireturn dX8_findSignal_67 rfl rfl ⟨rfl, rfl⟩ ly.1 ?_
        exact ret_I hf srh15
      · replace hf := ite_p hf c17
        refine V.aload_n dX8_findSignal_52 rfl rfl rfl ?_
        refine V.aload_n dX8_findSignal_53 rfl rfl (sT0 hT) ?_
        refine V.iload_n dX8_findSignal_54 rfl rfl ?_
        refine V.iload_n dX8_findSignal_55 rfl rfl ?_
        obtain ⟨r20, h19, q18, hf2⟩ := bd2_el hf
        replace hf := hf2
        clear hf2
        refine V.callVI dX8_findSignal_56 ml_X8_47 mo_X8_tryThrees mv_X8_tryThrees rfl (fun q hq => by cases hq; rfl) (by decide) (Or.inl ⟨rfl, SHL_lt rfl⟩) (th_X8_tryThrees (srh15.ly ly) hT q18) rfl rfl ⟨Nat.le_of_ble_eq_true rfl, Nat.le_of_ble_eq_true rfl, fun _ => ⟨rfl, rfl⟩⟩ (Nat.le_of_ble_eq_true rfl) rfl (post_I (fun sq => ?_))
        have srh19 : SR h h19 := srh15.trans sq
        clear sq q18
        refine V.if_eq (tgt := 66) dX8_findSignal_59 (by decide) (fun c21 => ?_) (fun c21 => ?_)
        · replace hf := ite_p hf c21
          refine V.iconst (v := 0) dX8_findSignal_66 rfl ?_
          refine V.ireturn dX8_findSignal_67 rfl rfl ⟨rfl, rfl⟩ ly.1 ?_
          exact ret_I hf srh19
        · replace hf := ite_n hf c21
          refine V.iconst (v := 1) dX8_findSignal_62 rfl ?_
          refine V.goto (tgt := 67) dX8_findSignal_63 (by decide) ?_
          refine V.ireturn dX8_findSignal_67 rfl rfl ⟨rfl, rfl⟩ ly.1 ?_
          exact ret_I hf srh19
set_option maxRecDepth 100000 in
theorem th_X8_findWorst_7 {h0 : HP} (ly : Lay h0) {t : Nat} (hT : isT t) {hh : HP}  : ∀ (n : Nat) (l2 : Int32) (l3 : Int32) (h : HP), SR h0 h → f_X8_findWorst_7 t n l2 l3 h = some hh → V cX8_findWorst miX8_findWorst (ZV h0 miX8_findWorst hh) 130 7 [.ref 73, .ref t, .int l2, .int l3, .null] [] h := by
  intro n
  induction n with
  | zero => intro l2 l3 h srh hf; exact absurd hf (by unfold f_X8_findWorst_7; simp)
  | succ n ih =>
    intro l2 l3 h srh hf
    unfold f_X8_findWorst_7 at hf
    refine V.iload_n dX8_findWorst_7 rfl rfl ?_
    refine V.bipush (v := 30) dX8_findWorst_8 rfl ?_
    refine V.icmp_ge (tgt := 63) dX8_findWorst_10 (by decide) (fun c2 => ?_) (fun c2 => ?_)
    · replace hf := ite_p hf c2
      refine V.vreturn' dX8_findWorst_63 rfl ly.1 (Or.inl ⟨rfl, rfl⟩) ?_
      exact ret_V hf srh
    · replace hf := ite_n hf c2
      refine V.aload_n dX8_findWorst_13 rfl rfl (sT0 hT) ?_
      refine V.getR (r := t + 1) dX8_findWorst_14 fl_X8_17 (sT0 hT) (Or.inl ⟨rfl, SHL_lt (sT0 hT)⟩) rfl (rT_hill (srh.ly ly) hT) ?_
      refine V.getI dX8_findWorst_17 fl_X8_23 (sH0 hT.H) (Or.inl ⟨rfl, SHL_lt (sH0 hT.H)⟩) rfl rfl ?_
      refine V.iconst (v := 1) dX8_findWorst_20 rfl ?_
      refine V.iload_n dX8_findWorst_21 rfl rfl ?_
      refine V.ishl dX8_findWorst_22 ?_
      refine V.iand dX8_findWorst_23 ?_
      refine V.if_eq (tgt := 57) dX8_findWorst_24 (by decide) (fun c3 => ?_) (fun c3 => ?_)
      · replace hf := ite_p hf c3
        obtain ⟨x4, ex4⟩ : ∃ y : Int32, y = l3 + 1 := ⟨_, rfl⟩
        replace hf := lt_el hf x4 ex4
        refine V.iinc (v := x4) (ls' := [.ref 73, .ref t, .int l2, .int x4, .null]) dX8_findWorst_57 rfl (by decide) ex4.symm rfl ?_
        refine V.goto (tgt := 7) dX8_findWorst_60 (by decide) ?_
        exact ih l2 x4 h srh hf
      · replace hf := ite_n hf c3
        refine V.aload_n dX8_findWorst_27 rfl rfl (sT0 hT) ?_
        refine V.iconst (v := 1) dX8_findWorst_28 rfl ?_
        refine V.iload_n dX8_findWorst_29 rfl rfl ?_
        refine V.ishl dX8_findWorst_30 ?_
        refine V.iload_n dX8_findWorst_31 rfl rfl ?_
        obtain ⟨r7, h6, q5, hf2⟩ := bd2_el hf
        replace hf := hf2
        clear hf2
        refine V.callSI dX8_findWorst_32 ml_X8_72 mo_X8_countSpoilt ms_X8_countSpoilt (th_X8_countSpoilt (srh.ly ly) hT q5) rfl rfl ⟨Nat.le_of_ble_eq_true rfl, Nat.le_of_ble_eq_true rfl, fun _ => ⟨rfl, rfl⟩⟩ (Nat.le_of_ble_eq_true rfl) rfl (post_I (fun sq => ?_))
        have srh6 : SR h0 h6 := srh.trans sq
        clear sq q5
        refine V.istore (ls' := [.ref 73, .ref t, .int l2, .int l3, .int r7]) dX8_findWorst_35 (by decide) rfl ?_
        refine V.iload dX8_findWorst_37 rfl ?_
        refine V.aload_n dX8_findWorst_39 rfl rfl rfl ?_
        refine V.getI dX8_findWorst_40 fl_X8_69 rfl (Or.inl ⟨rfl, SHL_lt rfl⟩) rfl rfl ?_
        refine V.icmp_le (tgt := 57) dX8_findWorst_43 (by decide) (fun c8 => ?_) (fun c8 => ?_)
        · replace hf := ite_p hf c8
          obtain ⟨x9, ex9⟩ : ∃ y : Int32, y = l3 + 1 := ⟨_, rfl⟩
          replace hf := lt_el hf x9 ex9
          refine V.iinc (v := x9) (ls' := [.ref 73, .ref t, .int l2, .int x9, .int r7]) dX8_findWorst_57 rfl (by decide) ex9.symm rfl ?_
          refine V.goto (tgt := 7) dX8_findWorst_60 (by decide) ?_
          refine V.less (ls' := [.ref 73, .ref t, .int l2, .int x9, .null]) ⟨Or.inr rfl, Or.inr rfl, Or.inr rfl, Or.inr rfl, Or.inl rfl, trivial⟩ ?_
          exact ih l2 x9 h6 srh6 hf
        · replace hf := ite_n hf c8
          refine V.aload_n dX8_findWorst_46 rfl rfl rfl ?_
          refine V.iload dX8_findWorst_47 rfl ?_
          refine V.putI dX8_findWorst_49 fl_X8_69 rfl (Or.inl ⟨rfl, SHL_lt rfl⟩) rfl (fun q hq => by cases hq; rfl) ⟨rfl, rfl⟩ ?_
          refine V.nameH (fun g10 eg10 => ?_)
          replace hf := lt_el hf g10 eg10
          have srg10 : SR h0 g10 := by rw [eg10]; exact srh6.I _ _ _
          refine V.aload_n dX8_findWorst_52 rfl rfl rfl ?_
          refine V.iload_n dX8_findWorst_53 rfl rfl ?_
          refine V.putI dX8_findWorst_54 fl_X8_76 rfl (Or.inl ⟨rfl, SHL_lt rfl⟩) rfl (fun q hq => by cases hq; rfl) ⟨rfl, rfl⟩ ?_
          refine V.nameH (fun g11 eg11 => ?_)
          replace hf := lt_el hf g11 eg11
          have srg11 : SR h0 g11 := by rw [eg11]; exact srg10.I _ _ _
          obtain ⟨x12, ex12⟩ : ∃ y : Int32, y = l3 + 1 := ⟨_, rfl⟩
          replace hf := lt_el hf x12 ex12
          refine V.iinc (v := x12) (ls' := [.ref 73, .ref t, .int l2, .int x12, .int r7]) dX8_findWorst_57 rfl (by decide) ex12.symm rfl ?_
          refine V.goto (tgt := 7) dX8_findWorst_60 (by decide) ?_
          refine V.less (ls' := [.ref 73, .ref t, .int l2, .int x12, .null]) ⟨Or.inr rfl, Or.inr rfl, Or.inr rfl, Or.inr rfl, Or.inl rfl, trivial⟩ ?_
          exact ih l2 x12 g11 srg11 hf
set_option maxRecDepth 100000 in
theorem th_X8_findWorst {h : HP} (ly : Lay h) {t : Nat} (hT : isT t) {a2 : Int32} {hh : HP} (hf : f_X8_findWorst h t a2 = some hh) : Spec yX8_findWorst cX8_findWorst miX8_findWorst [.ref 73, .ref t, .int a2] h (pV fun h' => h' = hh ∧ SR h hh) := by
  refine Spec.of (ls0 := [.ref 73, .ref t, .int a2, .null, .null]) mo_X8_findWorst (Nat.le_of_ble_eq_true rfl) rfl ?_
  rw [ly.1]
  have srh : SR h h := SR.refl h
  unfold f_X8_findWorst at hf
  refine V.aload_n dX8_findWorst_0 rfl rfl rfl ?_
  refine V.iconst (v := (-1)) dX8_findWorst_1 rfl ?_
  refine V.putI dX8_findWorst_2 fl_X8_69 rfl (Or.inl ⟨rfl, SHL_lt rfl⟩) rfl (fun q hq => by cases hq; rfl) ⟨rfl, rfl⟩ ?_
  refine V.nameH (fun g1 eg1 => ?_)
  replace hf := lt_el hf g1 eg1
  have srg1 : SR h g1 := by rw [eg1]; exact srh.I _ _ _
  refine V.iconst (v := 0) dX8_findWorst_5 rfl ?_
  refine V.istore_n (ls' := [.ref 73, .ref t, .int a2, .int 0, .null]) dX8_findWorst_6 rfl (by decide) rfl ?_
  exact th_X8_findWorst_7 ly hT FU a2 0 g1 srg1 hf
set_option maxRecDepth 100000 in
theorem th_X8_tryMend {h : HP} (ly : Lay h) {t : Nat} (hT : isT t) {a2 : Int32} {a3 : Int32} {hh : HP} (hf : f_X8_tryMend h t a2 a3 = some hh) : Spec yX8_tryMend cX8_tryMend miX8_tryMend [.ref 73, .ref t, .int a2, .int a3] h (pV fun h' => h' = hh ∧ SR h hh) := by
  refine Spec.of (ls0 := [.ref 73, .ref t, .int a2, .int a3, .null, .null]) mo_X8_tryMend (Nat.le_of_ble_eq_true rfl) rfl ?_
  rw [ly.1]
  have srh : SR h h := SR.refl h
  unfold f_X8_tryMend at hf
  refine V.aload_n dX8_tryMend_0 rfl rfl (sT0 hT) ?_
  refine V.aload_n dX8_tryMend_1 rfl rfl (sT0 hT) ?_
  refine V.getI dX8_tryMend_2 fl_X8_54 (sT0 hT) (Or.inl ⟨rfl, SHL_lt (sT0 hT)⟩) rfl rfl ?_
  refine V.iload_n dX8_tryMend_5 rfl rfl ?_
  refine V.ixor dX8_tryMend_6 ?_
  obtain ⟨r3, h2, q1, hf2⟩ := bd2_el hf
  replace hf := hf2
  clear hf2
  refine V.callVI dX8_tryMend_7 ml_X8_86 mo_X5_nextOf mv_X5_nextOf (sT0 hT) (fun q hq => by cases hq; rfl) (by decide) (Or.inl ⟨rfl, SHL_lt (sT0 hT)⟩) (th_X5_nextOf (srh.ly ly) hT q1) rfl rfl ⟨Nat.le_of_ble_eq_true rfl, Nat.le_of_ble_eq_true rfl, fun _ => ⟨rfl, rfl⟩⟩ (Nat.le_of_ble_eq_true rfl) rfl (post_I (fun sq => ?_))
  have srh2 : SR h h2 := srh.trans sq
  clear sq q1
  refine V.istore (ls' := [.ref 73, .ref t, .int a2, .int a3, .int r3, .null]) dX8_tryMend_10 (by decide) rfl ?_
  refine V.aload_n dX8_tryMend_12 rfl rfl (sT0 hT) ?_
  refine V.getR (r := t + 1) dX8_tryMend_13 fl_X8_17 (sT0 hT) (Or.inl ⟨rfl, SHL_lt (sT0 hT)⟩) rfl (rT_hill (srh2.ly ly) hT) ?_
  refine V.iload dX8_tryMend_16 rfl ?_
  refine V.iload_n dX8_tryMend_18 rfl rfl ?_
  obtain ⟨r6, h5, q4, hf2⟩ := bd2_el hf
  replace hf := hf2
  clear hf2
  refine V.callVI dX8_tryMend_19 ml_X8_89 mo_X1_countUnlike mv_X1_countUnlike (sH0 hT.H) (fun q hq => by cases hq; rfl) (by decide) (Or.inl ⟨rfl, SHL_lt (sH0 hT.H)⟩) (th_X1_countUnlike (srh2.ly ly) hT.H q4) rfl rfl ⟨Nat.le_of_ble_eq_true rfl, Nat.le_of_ble_eq_true rfl, fun _ => ⟨rfl, rfl⟩⟩ (Nat.le_of_ble_eq_true rfl) rfl (post_I (fun sq => ?_))
  have srh5 : SR h h5 := srh2.trans sq
  clear sq q4
  refine V.istore (ls' := [.ref 73, .ref t, .int a2, .int a3, .int r3, .int r6]) dX8_tryMend_22 (by decide) rfl ?_
  refine V.iload dX8_tryMend_24 rfl ?_
  refine V.aload_n dX8_tryMend_26 rfl rfl rfl ?_
  refine V.getI dX8_tryMend_27 fl_X8_79 rfl (Or.inl ⟨rfl, SHL_lt rfl⟩) rfl rfl ?_
  refine V.icmp_ge (tgt := 44) dX8_tryMend_30 (by decide) (fun c7 => ?_) (fun c7 => ?_)
  · replace hf := ite_p hf c7
    refine V.vreturn' dX8_tryMend_44 rfl ly.1 (Or.inl ⟨rfl, rfl⟩) ?_
    exact ret_V hf srh5
  · replace hf := ite_n hf c7
    refine V.aload_n dX8_tryMend_33 rfl rfl rfl ?_
    refine V.iload dX8_tryMend_34 rfl ?_
    refine V.putI dX8_tryMend_36 fl_X8_79 rfl (Or.inl ⟨rfl, SHL_lt rfl⟩) rfl (fun q hq => by cases hq; rfl) ⟨rfl, rfl⟩ ?_
    refine V.nameH (fun g8 eg8 => ?_)
    replace hf := lt_el hf g8 eg8
    have srg8 : SR h g8 := by rw [eg8]; exact srh5.I _ _ _
    refine V.aload_n dX8_tryMend_39 rfl rfl rfl ?_
    refine V.iload_n dX8_tryMend_40 rfl rfl ?_
    refine V.putI dX8_tryMend_41 fl_X8_61 rfl (Or.inl ⟨rfl, SHL_lt rfl⟩) rfl (fun q hq => by cases hq; rfl) ⟨rfl, rfl⟩ ?_
    refine V.nameH (fun g9 eg9 => ?_)
    replace hf := lt_el hf g9 eg9
    have srg9 : SR h g9 := by rw [eg9]; exact srg8.I _ _ _
    refine V.vreturn' dX8_tryMend_44 rfl ly.1 (Or.inl ⟨rfl, rfl⟩) ?_
    exact ret_V hf srg9
set_option maxRecDepth 100000 in
theorem th_X8_findMend_65 {h0 : HP} (ly : Lay h0) {t : Nat} (hT : isT t) {hh : HP} {K54 : Int32 → Int32 → HP → Option HP} (kok54 : ∀ (l2 : Int32) (l3 : Int32) (g : HP), SR h0 g → K54 l2 l3 g = some hh → V cX8_findMend miX8_findMend (ZV h0 miX8_findMend hh) 130 54 [.ref 73, .ref t, .int l2, .int l3, .null] [] g) : ∀ (n : Nat) (l2 : Int32) (l3 : Int32) (l4 : Int32) (h : HP), SR h0 h → f_X8_findMend_65 t K54 n l2 l3 l4 h = some hh → V cX8_findMend miX8_findMend (ZV h0 miX8_findMend hh) 130 65 [.ref 73, .ref t, .int l2, .int l3, .int l4] [] h := by
  intro n
  induction n with
  | zero => intro l2 l3 l4 h srh hf; exact absurd hf (by unfold f_X8_findMend_65; simp)
  | succ n ih =>
    intro l2 l3 l4 h srh hf
    unfold f_X8_findMend_65 at hf
    refine V.iload dX8_findMend_65 rfl ?_
    refine V.iload_n dX8_findMend_67 rfl rfl ?_
    refine V.icmp_ge (tgt := 97) dX8_findMend_68 (by decide) (fun c12 => ?_) (fun c12 => ?_)
    · replace hf := ite_p hf c12
      obtain ⟨x13, ex13⟩ : ∃ y : Int32, y = l3 + 1 := ⟨_, rfl⟩
      replace hf := lt_el hf x13 ex13
      refine V.iinc (v := x13) (ls' := [.ref 73, .ref t, .int l2, .int x13, .int l4]) dX8_findMend_97 rfl (by decide) ex13.symm rfl ?_
      refine V.goto (tgt := 54) dX8_findMend_100 (by decide) ?_
      refine V.less (ls' := [.ref 73, .ref t, .int l2, .int x13, .null]) ⟨Or.inr rfl, Or.inr rfl, Or.inr rfl, Or.inr rfl, Or.inl rfl, trivial⟩ ?_
      exact kok54 l2 x13 h srh hf
    · replace hf := ite_n hf c12
      refine V.aload_n dX8_findMend_71 rfl rfl rfl ?_
      refine V.aload_n dX8_findMend_72 rfl rfl (sT0 hT) ?_
      refine V.aload_n dX8_findMend_73 rfl rfl rfl ?_
      refine V.getR (r := 74) dX8_findMend_74 fl_X8_7 rfl (Or.inl ⟨rfl, SHL_lt rfl⟩) rfl (ly_73_0 (srh.ly ly)) ?_
      refine V.iload_n dX8_findMend_77 rfl rfl ?_
      obtain ⟨b14, hf2⟩ := gdi_el hf
      replace hf := hf2
      clear hf2
      refine V.iaload dX8_findMend_78 rfl (Or.inl ⟨rfl, SHL_lt rfl⟩) b14 ?_
      refine V.aload_n dX8_findMend_79 rfl rfl rfl ?_
      refine V.getR (r := 74) dX8_findMend_80 fl_X8_7 rfl (Or.inl ⟨rfl, SHL_lt rfl⟩) rfl (ly_73_0 (srh.ly ly)) ?_
      refine V.iload dX8_findMend_83 rfl ?_
      obtain ⟨b15, hf2⟩ := gdi_el hf
      replace hf := hf2
      clear hf2
      refine V.iaload dX8_findMend_85 rfl (Or.inl ⟨rfl, SHL_lt rfl⟩) b15 ?_
      refine V.ior dX8_findMend_86 ?_
      refine V.iload_n dX8_findMend_87 rfl rfl ?_
      obtain ⟨h17, q16, hf2⟩ := bd_el hf
      replace hf := hf2
      clear hf2
      refine V.callVV dX8_findMend_88 ml_X8_82 mo_X8_tryMend mv_X8_tryMend rfl (fun q hq => by cases hq; rfl) (by decide) (Or.inl ⟨rfl, SHL_lt rfl⟩) (th_X8_tryMend (srh.ly ly) hT q16) rfl rfl ⟨Nat.le_of_ble_eq_true rfl, Nat.le_of_ble_eq_true rfl, fun _ => ⟨rfl, rfl⟩⟩ (Nat.le_of_ble_eq_true rfl) (Or.inl rfl) (post_V (fun sq => ?_))
      have srh17 : SR h0 h17 := srh.trans sq
      clear sq q16
      obtain ⟨x18, ex18⟩ : ∃ y : Int32, y = l4 + 1 := ⟨_, rfl⟩
      replace hf := lt_el hf x18 ex18
      refine V.iinc (v := x18) (ls' := [.ref 73, .ref t, .int l2, .int l3, .int x18]) dX8_findMend_91 rfl (by decide) ex18.symm rfl ?_
      refine V.goto (tgt := 65) dX8_findMend_94 (by decide) ?_
      exact ih l2 l3 x18 h17 srh17 hf
set_option maxRecDepth 100000 in
theorem th_X8_findMend_54 {h0 : HP} (ly : Lay h0) {t : Nat} (hT : isT t) {hh : HP}  : ∀ (n : Nat) (l2 : Int32) (l3 : Int32) (h : HP), SR h0 h → f_X8_findMend_54 t n l2 l3 h = some hh → V cX8_findMend miX8_findMend (ZV h0 miX8_findMend hh) 130 54 [.ref 73, .ref t, .int l2, .int l3, .null] [] h := by
  intro n
  induction n with
  | zero => intro l2 l3 h srh hf; exact absurd hf (by unfold f_X8_findMend_54; simp)
  | succ n ih =>
    intro l2 l3 h srh hf
    unfold f_X8_findMend_54 at hf
    refine V.iload_n dX8_findMend_54 rfl rfl ?_
    refine V.aload_n dX8_findMend_55 rfl rfl rfl ?_
    refine V.getI dX8_findMend_56 fl_X8_13 rfl (Or.inl ⟨rfl, SHL_lt rfl⟩) rfl rfl ?_
    refine V.icmp_ge (tgt := 103) dX8_findMend_59 (by decide) (fun c11 => ?_) (fun c11 => ?_)
    · replace hf := ite_p hf c11
      refine V.vreturn' dX8_findMend_103 rfl ly.1 (Or.inl ⟨rfl, rfl⟩) ?_
      exact ret_V hf srh
    · replace hf := ite_n hf c11
      refine V.iconst (v := 0) dX8_findMend_62 rfl ?_
      refine V.istore (ls' := [.ref 73, .ref t, .int l2, .int l3, .int 0]) dX8_findMend_63 (by decide) rfl ?_
      exact th_X8_findMend_65 ly hT ih FU l2 l3 0 h srh hf
set_option maxRecDepth 100000 in
theorem th_X8_findMend_26 {h0 : HP} (ly : Lay h0) {t : Nat} (hT : isT t) {hh : HP}  : ∀ (n : Nat) (l2 : Int32) (l3 : Int32) (h : HP), SR h0 h → f_X8_findMend_26 t n l2 l3 h = some hh → V cX8_findMend miX8_findMend (ZV h0 miX8_findMend hh) 130 26 [.ref 73, .ref t, .int l2, .int l3, .null] [] h := by
  intro n
  induction n with
  | zero => intro l2 l3 h srh hf; exact absurd hf (by unfold f_X8_findMend_26; simp)
  | succ n ih =>
    intro l2 l3 h srh hf
    unfold f_X8_findMend_26 at hf
    refine V.iload_n dX8_findMend_26 rfl rfl ?_
    refine V.aload_n dX8_findMend_27 rfl rfl rfl ?_
    refine V.getI dX8_findMend_28 fl_X8_13 rfl (Or.inl ⟨rfl, SHL_lt rfl⟩) rfl rfl ?_
    refine V.icmp_ge (tgt := 52) dX8_findMend_31 (by decide) (fun c6 => ?_) (fun c6 => ?_)
    · replace hf := ite_p hf c6
      refine V.iconst (v := 1) dX8_findMend_52 rfl ?_
      refine V.istore_n (ls' := [.ref 73, .ref t, .int l2, .int 1, .null]) dX8_findMend_53 rfl (by decide) rfl ?_
      exact th_X8_findMend_54 ly hT FU l2 1 h srh hf
    · replace hf := ite_n hf c6
      refine V.aload_n dX8_findMend_34 rfl rfl rfl ?_
      refine V.aload_n dX8_findMend_35 rfl rfl (sT0 hT) ?_
      refine V.aload_n dX8_findMend_36 rfl rfl rfl ?_
      refine V.getR (r := 74) dX8_findMend_37 fl_X8_7 rfl (Or.inl ⟨rfl, SHL_lt rfl⟩) rfl (ly_73_0 (srh.ly ly)) ?_
      refine V.iload_n dX8_findMend_40 rfl rfl ?_
      obtain ⟨b7, hf2⟩ := gdi_el hf
      replace hf := hf2
      clear hf2
      refine V.iaload dX8_findMend_41 rfl (Or.inl ⟨rfl, SHL_lt rfl⟩) b7 ?_
      refine V.iload_n dX8_findMend_42 rfl rfl ?_
      obtain ⟨h9, q8, hf2⟩ := bd_el hf
      replace hf := hf2
      clear hf2
      refine V.callVV dX8_findMend_43 ml_X8_82 mo_X8_tryMend mv_X8_tryMend rfl (fun q hq => by cases hq; rfl) (by decide) (Or.inl ⟨rfl, SHL_lt rfl⟩) (th_X8_tryMend (srh.ly ly) hT q8) rfl rfl ⟨Nat.le_of_ble_eq_true rfl, Nat.le_of_ble_eq_true rfl, fun _ => ⟨rfl, rfl⟩⟩ (Nat.le_of_ble_eq_true rfl) (Or.inl rfl) (post_V (fun sq => ?_))
      have srh9 : SR h0 h9 := srh.trans sq
      clear sq q8
      obtain ⟨x10, ex10⟩ : ∃ y : Int32, y = l3 + 1 := ⟨_, rfl⟩
      replace hf := lt_el hf x10 ex10
      refine V.iinc (v := x10) (ls' := [.ref 73, .ref t, .int l2, .int x10, .null]) dX8_findMend_46 rfl (by decide) ex10.symm rfl ?_
      refine V.goto (tgt := 26) dX8_findMend_49 (by decide) ?_
      exact ih l2 x10 h9 srh9 hf
set_option maxRecDepth 100000 in
theorem th_X8_findMend {h : HP} (ly : Lay h) {t : Nat} (hT : isT t) {a2 : Int32} {hh : HP} (hf : f_X8_findMend h t a2 = some hh) : Spec yX8_findMend cX8_findMend miX8_findMend [.ref 73, .ref t, .int a2] h (pV fun h' => h' = hh ∧ SR h hh) := by
  refine Spec.of (ls0 := [.ref 73, .ref t, .int a2, .null, .null]) mo_X8_findMend (Nat.le_of_ble_eq_true rfl) rfl ?_
  rw [ly.1]
  have srh : SR h h := SR.refl h
  unfold f_X8_findMend at hf
  refine V.aload_n dX8_findMend_0 rfl rfl rfl ?_
  refine V.aload_n dX8_findMend_1 rfl rfl (sT0 hT) ?_
  refine V.getR (r := t + 1) dX8_findMend_2 fl_X8_17 (sT0 hT) (Or.inl ⟨rfl, SHL_lt (sT0 hT)⟩) rfl (rT_hill (srh.ly ly) hT) ?_
  refine V.getI dX8_findMend_5 fl_X8_23 (sH0 hT.H) (Or.inl ⟨rfl, SHL_lt (sH0 hT.H)⟩) rfl rfl ?_
  obtain ⟨h2, q1, hf2⟩ := bd_el hf
  replace hf := hf2
  clear hf2
  refine V.callVV dX8_findMend_8 ml_X8_32 mo_X8_listLamps mv_X8_listLamps rfl (fun q hq => by cases hq; rfl) (by decide) (Or.inl ⟨rfl, SHL_lt rfl⟩) (th_X8_listLamps (srh.ly ly) q1) rfl rfl ⟨Nat.le_of_ble_eq_true rfl, Nat.le_of_ble_eq_true rfl, fun _ => ⟨rfl, rfl⟩⟩ (Nat.le_of_ble_eq_true rfl) (Or.inl rfl) (post_V (fun sq => ?_))
  have srh2 : SR h h2 := srh.trans sq
  clear sq q1
  refine V.aload_n dX8_findMend_11 rfl rfl rfl ?_
  refine V.bipush (v := 100) dX8_findMend_12 rfl ?_
  refine V.putI dX8_findMend_14 fl_X8_79 rfl (Or.inl ⟨rfl, SHL_lt rfl⟩) rfl (fun q hq => by cases hq; rfl) ⟨rfl, rfl⟩ ?_
  refine V.nameH (fun g3 eg3 => ?_)
  replace hf := lt_el hf g3 eg3
  have srg3 : SR h g3 := by rw [eg3]; exact srh2.I _ _ _
  refine V.aload_n dX8_findMend_17 rfl rfl rfl ?_
  refine V.aload_n dX8_findMend_18 rfl rfl (sT0 hT) ?_
  refine V.iconst (v := 0) dX8_findMend_19 rfl ?_
  refine V.iload_n dX8_findMend_20 rfl rfl ?_
  obtain ⟨h5, q4, hf2⟩ := bd_el hf
  replace hf := hf2
  clear hf2
  refine V.callVV dX8_findMend_21 ml_X8_82 mo_X8_tryMend mv_X8_tryMend rfl (fun q hq => by cases hq; rfl) (by decide) (Or.inl ⟨rfl, SHL_lt rfl⟩) (th_X8_tryMend (srg3.ly ly) hT q4) rfl rfl ⟨Nat.le_of_ble_eq_true rfl, Nat.le_of_ble_eq_true rfl, fun _ => ⟨rfl, rfl⟩⟩ (Nat.le_of_ble_eq_true rfl) (Or.inl rfl) (post_V (fun sq => ?_))
  have srh5 : SR h h5 := srg3.trans sq
  clear sq q4
  refine V.iconst (v := 0) dX8_findMend_24 rfl ?_
  refine V.istore_n (ls' := [.ref 73, .ref t, .int a2, .int 0, .null]) dX8_findMend_25 rfl (by decide) rfl ?_
  exact th_X8_findMend_26 ly hT FU a2 0 h5 srh5 hf
set_option maxRecDepth 100000 in
theorem th_X0_wrongIn {h : HP} (ly : Lay h) {a1 : Int32} {a2 : Int32} {a3 : Int32} {a4 : Int32} {rr : Int32} {hh : HP} (hf : f_X0_wrongIn h a1 a2 a3 a4 = some (rr, hh)) : Spec yX0_wrongIn cX0_wrongIn miX0_wrongIn [.ref 65, .int a1, .int a2, .int a3, .int a4] h (pI fun r' h' => (r' = rr ∧ h' = hh) ∧ SR h hh) := by
  refine Spec.of (ls0 := [.ref 65, .int a1, .int a2, .int a3, .int a4, .null, .null]) mo_X0_wrongIn (Nat.le_of_ble_eq_true rfl) rfl ?_
  rw [ly.1]
  have srh : SR h h := SR.refl h
  unfold f_X0_wrongIn at hf
  refine V.iload_n dX0_wrongIn_0 rfl rfl ?_
  refine V.iload_n dX0_wrongIn_1 rfl rfl ?_
  refine V.aload_n dX0_wrongIn_2 rfl rfl rfl ?_
  refine V.getR (r := 67) dX0_wrongIn_3 fl_X0_16 rfl (Or.inl ⟨rfl, SHL_lt rfl⟩) rfl (ly_65_1 (srh.ly ly)) ?_
  refine V.getI dX0_wrongIn_6 fl_X0_88 (sH0 isH_67) (Or.inl ⟨rfl, SHL_lt (sH0 isH_67)⟩) rfl rfl ?_
  refine V.ishl dX0_wrongIn_9 ?_
  refine V.ior dX0_wrongIn_10 ?_
  refine V.iload dX0_wrongIn_11 rfl ?_
  refine V.iconst (v := 2) dX0_wrongIn_13 rfl ?_
  refine V.aload_n dX0_wrongIn_14 rfl rfl rfl ?_
  refine V.getR (r := 67) dX0_wrongIn_15 fl_X0_16 rfl (Or.inl ⟨rfl, SHL_lt rfl⟩) rfl (ly_65_1 (srh.ly ly)) ?_
  refine V.getI dX0_wrongIn_18 fl_X0_88 (sH0 isH_67) (Or.inl ⟨rfl, SHL_lt (sH0 isH_67)⟩) rfl rfl ?_
  refine V.imul dX0_wrongIn_21 ?_
  refine V.ishl dX0_wrongIn_22 ?_
  refine V.ior dX0_wrongIn_23 ?_
  refine V.nmi (fun x1 ex1 => ?_)
  replace hf := lt_el hf x1 ex1
  refine V.istore (ls' := [.ref 65, .int a1, .int a2, .int a3, .int a4, .int x1, .null]) dX0_wrongIn_24 (by decide) rfl ?_
  refine V.aload_n dX0_wrongIn_26 rfl rfl rfl ?_
  refine V.getR (r := 67) dX0_wrongIn_27 fl_X0_16 rfl (Or.inl ⟨rfl, SHL_lt rfl⟩) rfl (ly_65_1 (srh.ly ly)) ?_
  refine V.aload_n dX0_wrongIn_30 rfl rfl rfl ?_
  refine V.getR (r := 67) dX0_wrongIn_31 fl_X0_16 rfl (Or.inl ⟨rfl, SHL_lt rfl⟩) rfl (ly_65_1 (srh.ly ly)) ?_
  refine V.iload dX0_wrongIn_34 rfl ?_
  refine V.aload_n dX0_wrongIn_36 rfl rfl rfl ?_
  refine V.getI dX0_wrongIn_37 fl_X0_43 rfl (Or.inl ⟨rfl, SHL_lt rfl⟩) rfl rfl ?_
  refine V.aload_n dX0_wrongIn_40 rfl rfl rfl ?_
  refine V.getI dX0_wrongIn_41 fl_X0_50 rfl (Or.inl ⟨rfl, SHL_lt rfl⟩) rfl rfl ?_
  obtain ⟨r4, h3, q2, hf2⟩ := bd2_el hf
  replace hf := hf2
  clear hf2
  refine V.callVI dX0_wrongIn_44 ml_X0_115 mo_X1_step mv_X1_step (sH0 isH_67) (fun q hq => by cases hq; rfl) (by decide) (Or.inl ⟨rfl, SHL_lt (sH0 isH_67)⟩) (th_X1_step (srh.ly ly) isH_67 q2) rfl rfl ⟨Nat.le_of_ble_eq_true rfl, Nat.le_of_ble_eq_true rfl, fun _ => ⟨rfl, rfl⟩⟩ (Nat.le_of_ble_eq_true rfl) rfl (post_I (fun sq => ?_))
  have srh3 : SR h h3 := srh.trans sq
  clear sq q2
  refine V.iconst (v := 1) dX0_wrongIn_47 rfl ?_
  obtain ⟨r7, h6, q5, hf2⟩ := bd2_el hf
  replace hf := hf2
  clear hf2
  refine V.callVI dX0_wrongIn_48 ml_X0_79 mo_X1_rowOf mv_X1_rowOf (sH0 isH_67) (fun q hq => by cases hq; rfl) (by decide) (Or.inl ⟨rfl, SHL_lt (sH0 isH_67)⟩) (th_X1_rowOf (srh3.ly ly) isH_67 q5) rfl rfl ⟨Nat.le_of_ble_eq_true rfl, Nat.le_of_ble_eq_true rfl, fun _ => ⟨rfl, rfl⟩⟩ (Nat.le_of_ble_eq_true rfl) rfl (post_I (fun sq => ?_))
  have srh6 : SR h h6 := srh3.trans sq
  clear sq q5
  refine V.aload_n dX0_wrongIn_51 rfl rfl rfl ?_
  refine V.getR (r := 69) dX0_wrongIn_52 fl_X0_20 rfl (Or.inl ⟨rfl, SHL_lt rfl⟩) rfl (ly_65_2 (srh6.ly ly)) ?_
  refine V.iload_n dX0_wrongIn_55 rfl rfl ?_
  obtain ⟨b8, hf2⟩ := gdi_el hf
  replace hf := hf2
  clear hf2
  refine V.iaload dX0_wrongIn_56 rfl (Or.inl ⟨rfl, SHL_lt rfl⟩) b8 ?_
  refine V.iand dX0_wrongIn_57 ?_
  refine V.aload_n dX0_wrongIn_58 rfl rfl rfl ?_
  refine V.getR (r := 70) dX0_wrongIn_59 fl_X0_23 rfl (Or.inl ⟨rfl, SHL_lt rfl⟩) rfl (ly_65_3 (srh6.ly ly)) ?_
  refine V.iload_n dX0_wrongIn_62 rfl rfl ?_
  obtain ⟨b9, hf2⟩ := gdi_el hf
  replace hf := hf2
  clear hf2
  refine V.iaload dX0_wrongIn_63 rfl (Or.inl ⟨rfl, SHL_lt rfl⟩) b9 ?_
  refine V.ior dX0_wrongIn_64 ?_
  refine V.nmi (fun x10 ex10 => ?_)
  replace hf := lt_el hf x10 ex10
  refine V.istore (ls' := [.ref 65, .int a1, .int a2, .int a3, .int a4, .int x1, .int x10]) dX0_wrongIn_65 (by decide) rfl ?_
  refine V.iload dX0_wrongIn_67 rfl ?_
  refine V.aload_n dX0_wrongIn_69 rfl rfl rfl ?_
  refine V.getI dX0_wrongIn_70 fl_X0_29 rfl (Or.inl ⟨rfl, SHL_lt rfl⟩) rfl rfl ?_
  refine V.if_eq (tgt := 80) dX0_wrongIn_73 (by decide) (fun c11 => ?_) (fun c11 => ?_)
  · replace hf := ite_p hf c11
    refine V.aload_n dX0_wrongIn_80 rfl rfl rfl ?_
    refine V.getR (r := 71) dX0_wrongIn_81 fl_X0_26 rfl (Or.inl ⟨rfl, SHL_lt rfl⟩) rfl (ly_65_4 (srh6.ly ly)) ?_
    refine V.iload_n dX0_wrongIn_84 rfl rfl ?_
    obtain ⟨b12, hf2⟩ := gdi_el hf
    replace hf := hf2
    clear hf2
    refine V.iaload dX0_wrongIn_85 rfl (Or.inl ⟨rfl, SHL_lt rfl⟩) b12 ?_
    refine V.ixor dX0_wrongIn_86 ?_
    refine V.ireturn dX0_wrongIn_87 rfl rfl ⟨rfl, rfl⟩ ly.1 ?_
    exact ret_I hf srh6
  · replace hf := ite_n hf c11
    refine V.iload_n dX0_wrongIn_76 rfl rfl ?_
    refine V.goto (tgt := 86) dX0_wrongIn_77 (by decide) ?_
    refine V.ixor dX0_wrongIn_86 ?_
    refine V.ireturn dX0_wrongIn_87 rfl rfl ⟨rfl, rfl⟩ ly.1 ?_
    exact ret_I hf srh6
set_option maxRecDepth 100000 in
theorem th_X0_chooseBelowPair_112 {h0 : HP} (ly : Lay h0) {hh : HP}  : ∀ (n : Nat) (l4 : Int32) (l9 : Int32) (l10 : Int32) (l11 : Int32) (l12 : Int32) (h : HP), SR h0 h → f_X0_chooseBelowPair_112 n l4 l9 l10 l11 l12 h = some hh → V cX0_chooseBelowPair miX0_chooseBelowPair (ZV h0 miX0_chooseBelowPair hh) 130 112 [.ref 65, .null, .null, .null, .int l4, .null, .null, .null, .null, .int l9, .int l10, .int l11, .int l12] [] h := by
  intro n
  induction n with
  | zero => intro l4 l9 l10 l11 l12 h srh hf; exact absurd hf (by unfold f_X0_chooseBelowPair_112; simp)
  | succ n ih =>
    intro l4 l9 l10 l11 l12 h srh hf
    unfold f_X0_chooseBelowPair_112 at hf
    refine V.iload dX0_chooseBelowPair_112 rfl ?_
    refine V.bipush (v := 32) dX0_chooseBelowPair_114 rfl ?_
    refine V.icmp_ge (tgt := 157) dX0_chooseBelowPair_116 (by decide) (fun c18 => ?_) (fun c18 => ?_)
    · replace hf := ite_p hf c18
      refine V.vreturn' dX0_chooseBelowPair_157 rfl ly.1 (Or.inl ⟨rfl, rfl⟩) ?_
      exact ret_V hf srh
    · replace hf := ite_n hf c18
      refine V.aload_n dX0_chooseBelowPair_119 rfl rfl rfl ?_
      refine V.getR (r := 66) dX0_chooseBelowPair_120 fl_X0_11 rfl (Or.inl ⟨rfl, SHL_lt rfl⟩) rfl (ly_65_0 (srh.ly ly)) ?_
      refine V.iload dX0_chooseBelowPair_123 rfl ?_
      refine V.iload dX0_chooseBelowPair_125 rfl ?_
      refine V.iadd dX0_chooseBelowPair_127 ?_
      refine V.nmi (fun x19 ex19 => ?_)
      replace hf := lt_el hf x19 ex19
      refine V.dup2 dX0_chooseBelowPair_128 rfl rfl ?_
      obtain ⟨b20, hf2⟩ := gdi_el hf
      replace hf := hf2
      clear hf2
      refine V.iaload dX0_chooseBelowPair_129 rfl (Or.inl ⟨rfl, SHL_lt rfl⟩) b20 ?_
      refine V.iload dX0_chooseBelowPair_130 rfl ?_
      refine V.iadd dX0_chooseBelowPair_132 ?_
      obtain ⟨b21, hf2⟩ := gdi_el hf
      replace hf := hf2
      clear hf2
      refine V.iastore dX0_chooseBelowPair_133 rfl (Or.inl ⟨rfl, SHL_lt rfl⟩) b21 ?_
      refine V.nameH (fun g22 eg22 => ?_)
      replace hf := lt_el hf g22 eg22
      have srg22 : SR h0 g22 := by rw [eg22]; exact srh.I _ _ _
      refine V.iload dX0_chooseBelowPair_134 rfl ?_
      refine V.if_ne (tgt := 142) dX0_chooseBelowPair_136 (by decide) (fun c23 => ?_) (fun c23 => ?_)
      · replace hf := ite_n hf c23
        refine V.iload dX0_chooseBelowPair_142 rfl ?_
        refine V.iconst (v := 1) dX0_chooseBelowPair_144 rfl ?_
        refine V.isub dX0_chooseBelowPair_145 ?_
        refine V.iload dX0_chooseBelowPair_146 rfl ?_
        refine V.iand dX0_chooseBelowPair_148 ?_
        refine V.nmi (fun x24 ex24 => ?_)
        replace hf := lt_el hf x24 ex24
        refine V.istore (ls' := [.ref 65, .null, .null, .null, .int l4, .null, .null, .null, .null, .int l9, .int l10, .int x24, .int l12]) dX0_chooseBelowPair_149 (by decide) rfl ?_
        obtain ⟨x25, ex25⟩ : ∃ y : Int32, y = l12 + 1 := ⟨_, rfl⟩
        replace hf := lt_el hf x25 ex25
        refine V.iinc (v := x25) (ls' := [.ref 65, .null, .null, .null, .int l4, .null, .null, .null, .null, .int l9, .int l10, .int x24, .int x25]) dX0_chooseBelowPair_151 rfl (by decide) ex25.symm rfl ?_
        refine V.goto (tgt := 112) dX0_chooseBelowPair_154 (by decide) ?_
        exact ih l4 l9 l10 x24 x25 g22 srg22 hf
      · replace hf := ite_p hf c23
        refine V.goto (tgt := 157) dX0_chooseBelowPair_139 (by decide) ?_
        refine V.vreturn' dX0_chooseBelowPair_157 rfl ly.1 (Or.inl ⟨rfl, rfl⟩) ?_
        exact ret_V hf srg22
set_option maxRecDepth 100000 in
theorem th_X0_chooseBelowPair {h : HP} (ly : Lay h) {a1 : Int32} {a2 : Int32} {a3 : Int32} {a4 : Int32} {hh : HP} (hf : f_X0_chooseBelowPair h a1 a2 a3 a4 = some hh) : Spec yX0_chooseBelowPair cX0_chooseBelowPair miX0_chooseBelowPair [.ref 65, .int a1, .int a2, .int a3, .int a4] h (pV fun h' => h' = hh ∧ SR h hh) := by
  refine Spec.of (ls0 := [.ref 65, .int a1, .int a2, .int a3, .int a4, .null, .null, .null, .null, .null, .null, .null, .null]) mo_X0_chooseBelowPair (Nat.le_of_ble_eq_true rfl) rfl ?_
  rw [ly.1]
  have srh : SR h h := SR.refl h
  unfold f_X0_chooseBelowPair at hf
  refine V.aload_n dX0_chooseBelowPair_0 rfl rfl rfl ?_
  refine V.getR (r := 69) dX0_chooseBelowPair_1 fl_X0_20 rfl (Or.inl ⟨rfl, SHL_lt rfl⟩) rfl (ly_65_2 (srh.ly ly)) ?_
  refine V.iload_n dX0_chooseBelowPair_4 rfl rfl ?_
  refine V.iconst (v := 1) dX0_chooseBelowPair_5 rfl ?_
  refine V.iadd dX0_chooseBelowPair_6 ?_
  obtain ⟨b1, hf2⟩ := gdi_el hf
  replace hf := hf2
  clear hf2
  refine V.iaload dX0_chooseBelowPair_7 rfl (Or.inl ⟨rfl, SHL_lt rfl⟩) b1 ?_
  refine V.nmi (fun x2 ex2 => ?_)
  replace hf := lt_el hf x2 ex2
  refine V.istore (ls' := [.ref 65, .int a1, .int a2, .int a3, .int a4, .int x2, .null, .null, .null, .null, .null, .null, .null]) dX0_chooseBelowPair_8 (by decide) rfl ?_
  refine V.aload_n dX0_chooseBelowPair_10 rfl rfl rfl ?_
  refine V.getR (r := 70) dX0_chooseBelowPair_11 fl_X0_23 rfl (Or.inl ⟨rfl, SHL_lt rfl⟩) rfl (ly_65_3 (srh.ly ly)) ?_
  refine V.iload_n dX0_chooseBelowPair_14 rfl rfl ?_
  refine V.iconst (v := 1) dX0_chooseBelowPair_15 rfl ?_
  refine V.iadd dX0_chooseBelowPair_16 ?_
  obtain ⟨b3, hf2⟩ := gdi_el hf
  replace hf := hf2
  clear hf2
  refine V.iaload dX0_chooseBelowPair_17 rfl (Or.inl ⟨rfl, SHL_lt rfl⟩) b3 ?_
  refine V.nmi (fun x4 ex4 => ?_)
  replace hf := lt_el hf x4 ex4
  refine V.istore (ls' := [.ref 65, .int a1, .int a2, .int a3, .int a4, .int x2, .int x4, .null, .null, .null, .null, .null, .null]) dX0_chooseBelowPair_18 (by decide) rfl ?_
  refine V.aload_n dX0_chooseBelowPair_20 rfl rfl rfl ?_
  refine V.iload_n dX0_chooseBelowPair_21 rfl rfl ?_
  refine V.iload_n dX0_chooseBelowPair_22 rfl rfl ?_
  refine V.iload_n dX0_chooseBelowPair_23 rfl rfl ?_
  refine V.iconst (v := 0) dX0_chooseBelowPair_24 rfl ?_
  obtain ⟨r7, h6, q5, hf2⟩ := bd2_el hf
  replace hf := hf2
  clear hf2
  refine V.callVI dX0_chooseBelowPair_25 ml_X0_108 mo_X0_wrongIn mv_X0_wrongIn rfl (fun q hq => by cases hq; rfl) (by decide) (Or.inl ⟨rfl, SHL_lt rfl⟩) (th_X0_wrongIn (srh.ly ly) q5) rfl rfl ⟨Nat.le_of_ble_eq_true rfl, Nat.le_of_ble_eq_true rfl, fun _ => ⟨rfl, rfl⟩⟩ (Nat.le_of_ble_eq_true rfl) rfl (post_I (fun sq => ?_))
  have srh6 : SR h h6 := srh.trans sq
  clear sq q5
  refine V.istore (ls' := [.ref 65, .int a1, .int a2, .int a3, .int a4, .int x2, .int x4, .int r7, .null, .null, .null, .null, .null]) dX0_chooseBelowPair_28 (by decide) rfl ?_
  refine V.aload_n dX0_chooseBelowPair_30 rfl rfl rfl ?_
  refine V.iload_n dX0_chooseBelowPair_31 rfl rfl ?_
  refine V.iload_n dX0_chooseBelowPair_32 rfl rfl ?_
  refine V.iload_n dX0_chooseBelowPair_33 rfl rfl ?_
  refine V.aload_n dX0_chooseBelowPair_34 rfl rfl rfl ?_
  refine V.getR (r := 67) dX0_chooseBelowPair_35 fl_X0_16 rfl (Or.inl ⟨rfl, SHL_lt rfl⟩) rfl (ly_65_1 (srh6.ly ly)) ?_
  obtain ⟨r10, h9, q8, hf2⟩ := bd2_el hf
  replace hf := hf2
  clear hf2
  refine V.callVI dX0_chooseBelowPair_38 ml_X0_112 mo_X1_rowMask mv_X1_rowMask (sH0 isH_67) (fun q hq => by cases hq; rfl) (by decide) (Or.inl ⟨rfl, SHL_lt (sH0 isH_67)⟩) (th_X1_rowMask (srh6.ly ly) isH_67 q8) rfl rfl ⟨Nat.le_of_ble_eq_true rfl, Nat.le_of_ble_eq_true rfl, fun _ => ⟨rfl, rfl⟩⟩ (Nat.le_of_ble_eq_true rfl) rfl (post_I (fun sq => ?_))
  have srh9 : SR h h9 := srh6.trans sq
  clear sq q8
  obtain ⟨r13, h12, q11, hf2⟩ := bd2_el hf
  replace hf := hf2
  clear hf2
  refine V.callVI dX0_chooseBelowPair_41 ml_X0_108 mo_X0_wrongIn mv_X0_wrongIn rfl (fun q hq => by cases hq; rfl) (by decide) (Or.inl ⟨rfl, SHL_lt rfl⟩) (th_X0_wrongIn (srh9.ly ly) q11) rfl rfl ⟨Nat.le_of_ble_eq_true rfl, Nat.le_of_ble_eq_true rfl, fun _ => ⟨rfl, rfl⟩⟩ (Nat.le_of_ble_eq_true rfl) rfl (post_I (fun sq => ?_))
  have srh12 : SR h h12 := srh9.trans sq
  clear sq q11
  refine V.istore (ls' := [.ref 65, .int a1, .int a2, .int a3, .int a4, .int x2, .int x4, .int r7, .int r13, .null, .null, .null, .null]) dX0_chooseBelowPair_44 (by decide) rfl ?_
  refine V.iload dX0_chooseBelowPair_46 rfl ?_
  refine V.iload dX0_chooseBelowPair_48 rfl ?_
  refine V.ior dX0_chooseBelowPair_50 ?_
  refine V.iload dX0_chooseBelowPair_51 rfl ?_
  refine V.iand dX0_chooseBelowPair_53 ?_
  refine V.if_ne (tgt := 70) dX0_chooseBelowPair_54 (by decide) (fun c14 => ?_) (fun c14 => ?_)
  · replace hf := ite_n hf c14
    refine V.vreturn' dX0_chooseBelowPair_70 rfl ly.1 (Or.inl ⟨rfl, rfl⟩) ?_
    exact ret_V hf srh12
  · replace hf := ite_p hf c14
    refine V.iload dX0_chooseBelowPair_57 rfl ?_
    refine V.iload dX0_chooseBelowPair_59 rfl ?_
    refine V.iload dX0_chooseBelowPair_61 rfl ?_
    refine V.ior dX0_chooseBelowPair_63 ?_
    refine V.iconst (v := (-1)) dX0_chooseBelowPair_64 rfl ?_
    refine V.ixor dX0_chooseBelowPair_65 ?_
    refine V.iand dX0_chooseBelowPair_66 ?_
    refine V.if_eq (tgt := 71) dX0_chooseBelowPair_67 (by decide) (fun c15 => ?_) (fun c15 => ?_)
    · replace hf := ite_p hf c15
      refine V.iload_n dX0_chooseBelowPair_71 rfl rfl ?_
      refine V.iconst (v := 1) dX0_chooseBelowPair_72 rfl ?_
      refine V.iadd dX0_chooseBelowPair_73 ?_
      refine V.sipush (v := 1024) dX0_chooseBelowPair_74 rfl ?_
      refine V.imul dX0_chooseBelowPair_77 ?_
      refine V.iload_n dX0_chooseBelowPair_78 rfl rfl ?_
      refine V.bipush (v := 32) dX0_chooseBelowPair_79 rfl ?_
      refine V.imul dX0_chooseBelowPair_81 ?_
      refine V.iadd dX0_chooseBelowPair_82 ?_
      refine V.iload dX0_chooseBelowPair_83 rfl ?_
      refine V.iload dX0_chooseBelowPair_85 rfl ?_
      refine V.ior dX0_chooseBelowPair_87 ?_
      refine V.iadd dX0_chooseBelowPair_88 ?_
      refine V.nmi (fun x16 ex16 => ?_)
      replace hf := lt_el hf x16 ex16
      refine V.istore (ls' := [.ref 65, .int a1, .int a2, .int a3, .int a4, .int x2, .int x4, .int r7, .int r13, .int x16, .null, .null, .null]) dX0_chooseBelowPair_89 (by decide) rfl ?_
      refine V.iload dX0_chooseBelowPair_91 rfl ?_
      refine V.iload dX0_chooseBelowPair_93 rfl ?_
      refine V.iconst (v := (-1)) dX0_chooseBelowPair_95 rfl ?_
      refine V.ixor dX0_chooseBelowPair_96 ?_
      refine V.iand dX0_chooseBelowPair_97 ?_
      refine V.iload dX0_chooseBelowPair_98 rfl ?_
      refine V.iconst (v := (-1)) dX0_chooseBelowPair_100 rfl ?_
      refine V.ixor dX0_chooseBelowPair_101 ?_
      refine V.iand dX0_chooseBelowPair_102 ?_
      refine V.nmi (fun x17 ex17 => ?_)
      replace hf := lt_el hf x17 ex17
      refine V.istore (ls' := [.ref 65, .int a1, .int a2, .int a3, .int a4, .int x2, .int x4, .int r7, .int r13, .int x16, .int x17, .null, .null]) dX0_chooseBelowPair_103 (by decide) rfl ?_
      refine V.iload dX0_chooseBelowPair_105 rfl ?_
      refine V.istore (ls' := [.ref 65, .int a1, .int a2, .int a3, .int a4, .int x2, .int x4, .int r7, .int r13, .int x16, .int x17, .int x17, .null]) dX0_chooseBelowPair_107 (by decide) rfl ?_
      refine V.iconst (v := 0) dX0_chooseBelowPair_109 rfl ?_
      refine V.istore (ls' := [.ref 65, .int a1, .int a2, .int a3, .int a4, .int x2, .int x4, .int r7, .int r13, .int x16, .int x17, .int x17, .int 0]) dX0_chooseBelowPair_110 (by decide) rfl ?_
      refine V.less (ls' := [.ref 65, .null, .null, .null, .int a4, .null, .null, .null, .null, .int x16, .int x17, .int x17, .int 0]) ⟨Or.inr rfl, Or.inl rfl, Or.inl rfl, Or.inl rfl, Or.inr rfl, Or.inl rfl, Or.inl rfl, Or.inl rfl, Or.inl rfl, Or.inr rfl, Or.inr rfl, Or.inr rfl, Or.inr rfl, trivial⟩ ?_
      exact th_X0_chooseBelowPair_112 ly FU a4 x16 x17 x17 0 h12 srh12 hf
    · replace hf := ite_n hf c15
      refine V.vreturn' dX0_chooseBelowPair_70 rfl ly.1 (Or.inl ⟨rfl, rfl⟩) ?_
      exact ret_V hf srh12
set_option maxRecDepth 100000 in
theorem th_X0_chooseBelow_8 {h0 : HP} (ly : Lay h0) {hh : HP}  : ∀ (n : Nat) (l1 : Int32) (l2 : Int32) (l3 : Int32) (h : HP), SR h0 h → f_X0_chooseBelow_8 n l1 l2 l3 h = some hh → V cX0_chooseBelow miX0_chooseBelow (ZV h0 miX0_chooseBelow hh) 130 8 [.ref 65, .int l1, .int l2, .int l3, .null] [] h := by
  intro n
  induction n with
  | zero => intro l1 l2 l3 h srh hf; exact absurd hf (by unfold f_X0_chooseBelow_8; simp)
  | succ n ih =>
    intro l1 l2 l3 h srh hf
    unfold f_X0_chooseBelow_8 at hf
    refine V.iload_n dX0_chooseBelow_8 rfl rfl ?_
    refine V.sipush (v := 1024) dX0_chooseBelow_9 rfl ?_
    refine V.icmp_ge (tgt := 50) dX0_chooseBelow_12 (by decide) (fun c2 => ?_) (fun c2 => ?_)
    · replace hf := ite_p hf c2
      refine V.vreturn' dX0_chooseBelow_50 rfl ly.1 (Or.inl ⟨rfl, rfl⟩) ?_
      exact ret_V hf srh
    · replace hf := ite_n hf c2
      refine V.aload_n dX0_chooseBelow_15 rfl rfl rfl ?_
      refine V.getR (r := 66) dX0_chooseBelow_16 fl_X0_11 rfl (Or.inl ⟨rfl, SHL_lt rfl⟩) rfl (ly_65_0 (srh.ly ly)) ?_
      refine V.iload_n dX0_chooseBelow_19 rfl rfl ?_
      refine V.iload_n dX0_chooseBelow_20 rfl rfl ?_
      refine V.iadd dX0_chooseBelow_21 ?_
      obtain ⟨b3, hf2⟩ := gdi_el hf
      replace hf := hf2
      clear hf2
      refine V.iaload dX0_chooseBelow_22 rfl (Or.inl ⟨rfl, SHL_lt rfl⟩) b3 ?_
      refine V.nmi (fun x4 ex4 => ?_)
      replace hf := lt_el hf x4 ex4
      refine V.istore (ls' := [.ref 65, .int l1, .int l2, .int l3, .int x4]) dX0_chooseBelow_23 (by decide) rfl ?_
      refine V.iload dX0_chooseBelow_25 rfl ?_
      refine V.if_eq (tgt := 44) dX0_chooseBelow_27 (by decide) (fun c5 => ?_) (fun c5 => ?_)
      · replace hf := ite_p hf c5
        obtain ⟨x6, ex6⟩ : ∃ y : Int32, y = l3 + 1 := ⟨_, rfl⟩
        replace hf := lt_el hf x6 ex6
        refine V.iinc (v := x6) (ls' := [.ref 65, .int l1, .int l2, .int x6, .int x4]) dX0_chooseBelow_44 rfl (by decide) ex6.symm rfl ?_
        refine V.goto (tgt := 8) dX0_chooseBelow_47 (by decide) ?_
        refine V.less (ls' := [.ref 65, .int l1, .int l2, .int x6, .null]) ⟨Or.inr rfl, Or.inr rfl, Or.inr rfl, Or.inr rfl, Or.inl rfl, trivial⟩ ?_
        exact ih l1 l2 x6 h srh hf
      · replace hf := ite_n hf c5
        refine V.aload_n dX0_chooseBelow_30 rfl rfl rfl ?_
        refine V.iload_n dX0_chooseBelow_31 rfl rfl ?_
        refine V.iload_n dX0_chooseBelow_32 rfl rfl ?_
        refine V.iconst (v := 5) dX0_chooseBelow_33 rfl ?_
        refine V.ishr dX0_chooseBelow_34 ?_
        refine V.iload_n dX0_chooseBelow_35 rfl rfl ?_
        refine V.bipush (v := 31) dX0_chooseBelow_36 rfl ?_
        refine V.iand dX0_chooseBelow_38 ?_
        refine V.iload dX0_chooseBelow_39 rfl ?_
        obtain ⟨h8, q7, hf2⟩ := bd_el hf
        replace hf := hf2
        clear hf2
        refine V.callVV dX0_chooseBelow_41 ml_X0_104 mo_X0_chooseBelowPair mv_X0_chooseBelowPair rfl (fun q hq => by cases hq; rfl) (by decide) (Or.inl ⟨rfl, SHL_lt rfl⟩) (th_X0_chooseBelowPair (srh.ly ly) q7) rfl rfl ⟨Nat.le_of_ble_eq_true rfl, Nat.le_of_ble_eq_true rfl, fun _ => ⟨rfl, rfl⟩⟩ (Nat.le_of_ble_eq_true rfl) (Or.inl rfl) (post_V (fun sq => ?_))
        have srh8 : SR h0 h8 := srh.trans sq
        clear sq q7
        obtain ⟨x9, ex9⟩ : ∃ y : Int32, y = l3 + 1 := ⟨_, rfl⟩
        replace hf := lt_el hf x9 ex9
        refine V.iinc (v := x9) (ls' := [.ref 65, .int l1, .int l2, .int x9, .int x4]) dX0_chooseBelow_44 rfl (by decide) ex9.symm rfl ?_
        refine V.goto (tgt := 8) dX0_chooseBelow_47 (by decide) ?_
        refine V.less (ls' := [.ref 65, .int l1, .int l2, .int x9, .null]) ⟨Or.inr rfl, Or.inr rfl, Or.inr rfl, Or.inr rfl, Or.inl rfl, trivial⟩ ?_
        exact ih l1 l2 x9 h8 srh8 hf
set_option maxRecDepth 100000 in
theorem th_X0_chooseBelow {h : HP} (ly : Lay h) {a1 : Int32} {hh : HP} (hf : f_X0_chooseBelow h a1 = some hh) : Spec yX0_chooseBelow cX0_chooseBelow miX0_chooseBelow [.ref 65, .int a1] h (pV fun h' => h' = hh ∧ SR h hh) := by
  refine Spec.of (ls0 := [.ref 65, .int a1, .null, .null, .null]) mo_X0_chooseBelow (Nat.le_of_ble_eq_true rfl) rfl ?_
  rw [ly.1]
  have srh : SR h h := SR.refl h
  unfold f_X0_chooseBelow at hf
  refine V.iload_n dX0_chooseBelow_0 rfl rfl ?_
  refine V.sipush (v := 1024) dX0_chooseBelow_1 rfl ?_
  refine V.imul dX0_chooseBelow_4 ?_
  refine V.nmi (fun x1 ex1 => ?_)
  replace hf := lt_el hf x1 ex1
  refine V.istore_n (ls' := [.ref 65, .int a1, .int x1, .null, .null]) dX0_chooseBelow_5 rfl (by decide) rfl ?_
  refine V.iconst (v := 0) dX0_chooseBelow_6 rfl ?_
  refine V.istore_n (ls' := [.ref 65, .int a1, .int x1, .int 0, .null]) dX0_chooseBelow_7 rfl (by decide) rfl ?_
  exact th_X0_chooseBelow_8 ly FU a1 x1 0 h srh hf
set_option maxRecDepth 100000 in
theorem th_X0_layRows_96 {h0 : HP} (ly : Lay h0) {t : Nat} (hT : isT t) {hh : HP}  : ∀ (n : Nat) (l3 : Int32) (h : HP), SR h0 h → f_X0_layRows_96 t n l3 h = some hh → V cX0_layRows miX0_layRows (ZV h0 miX0_layRows hh) 130 96 [.ref 65, .null, .null, .int l3] [] h := by
  intro n
  induction n with
  | zero => intro l3 h srh hf; exact absurd hf (by unfold f_X0_layRows_96; simp)
  | succ n ih =>
    intro l3 h srh hf
    unfold f_X0_layRows_96 at hf
    refine V.iload_n dX0_layRows_96 rfl rfl ?_
    refine V.iconst (v := 3) dX0_layRows_97 rfl ?_
    refine V.icmp_ge (tgt := 114) dX0_layRows_98 (by decide) (fun c21 => ?_) (fun c21 => ?_)
    · replace hf := ite_p hf c21
      refine V.aload_n dX0_layRows_114 rfl rfl rfl ?_
      refine V.getR (r := 67) dX0_layRows_115 fl_X0_16 rfl (Or.inl ⟨rfl, SHL_lt rfl⟩) rfl (ly_65_1 (srh.ly ly)) ?_
      refine V.aload_n dX0_layRows_118 rfl rfl rfl ?_
      refine V.getR (r := 67) dX0_layRows_119 fl_X0_16 rfl (Or.inl ⟨rfl, SHL_lt rfl⟩) rfl (ly_65_1 (srh.ly ly)) ?_
      refine V.getI dX0_layRows_122 fl_X0_101 (sH0 isH_67) (Or.inl ⟨rfl, SHL_lt (sH0 isH_67)⟩) rfl rfl ?_
      refine V.putI dX0_layRows_125 fl_X0_76 (sH0 isH_67) (Or.inl ⟨rfl, SHL_lt (sH0 isH_67)⟩) rfl (fun q hq => by cases hq; rfl) ⟨rfl, rfl⟩ ?_
      refine V.nameH (fun g22 eg22 => ?_)
      replace hf := lt_el hf g22 eg22
      have srg22 : SR h0 g22 := by rw [eg22]; exact srh.I _ _ _
      refine V.vreturn' dX0_layRows_128 rfl ly.1 (Or.inl ⟨rfl, rfl⟩) ?_
      exact ret_V hf srg22
    · replace hf := ite_n hf c21
      refine V.aload_n dX0_layRows_101 rfl rfl rfl ?_
      refine V.getR (r := 67) dX0_layRows_102 fl_X0_16 rfl (Or.inl ⟨rfl, SHL_lt rfl⟩) rfl (ly_65_1 (srh.ly ly)) ?_
      obtain ⟨h24, q23, hf2⟩ := bd_el hf
      replace hf := hf2
      clear hf2
      refine V.callVV dX0_layRows_105 ml_X0_98 mo_X1_addRow mv_X1_addRow (sH0 isH_67) (fun q hq => by cases hq; rfl) (by decide) (Or.inl ⟨rfl, SHL_lt (sH0 isH_67)⟩) (th_X1_addRow (srh.ly ly) isH_67 q23) rfl rfl ⟨Nat.le_of_ble_eq_true rfl, Nat.le_of_ble_eq_true rfl, fun _ => ⟨rfl, rfl⟩⟩ (Nat.le_of_ble_eq_true rfl) (Or.inl rfl) (post_V (fun sq => ?_))
      have srh24 : SR h0 h24 := srh.trans sq
      clear sq q23
      obtain ⟨x25, ex25⟩ : ∃ y : Int32, y = l3 + 1 := ⟨_, rfl⟩
      replace hf := lt_el hf x25 ex25
      refine V.iinc (v := x25) (ls' := [.ref 65, .null, .null, .int x25]) dX0_layRows_108 rfl (by decide) ex25.symm rfl ?_
      refine V.goto (tgt := 96) dX0_layRows_111 (by decide) ?_
      exact ih x25 h24 srh24 hf
set_option maxRecDepth 100000 in
theorem th_X0_layRows_20 {h0 : HP} (ly : Lay h0) {t : Nat} (hT : isT t) {hh : HP}  : ∀ (n : Nat) (l3 : Int32) (h : HP), SR h0 h → f_X0_layRows_20 t n l3 h = some hh → V cX0_layRows miX0_layRows (ZV h0 miX0_layRows hh) 130 20 [.ref 65, .ref t, .ref (t + 1), .int l3] [] h := by
  intro n
  induction n with
  | zero => intro l3 h srh hf; exact absurd hf (by unfold f_X0_layRows_20; simp)
  | succ n ih =>
    intro l3 h srh hf
    unfold f_X0_layRows_20 at hf
    refine V.iload_n dX0_layRows_20 rfl rfl ?_
    refine V.aload_n dX0_layRows_21 rfl rfl rfl ?_
    refine V.getI dX0_layRows_22 fl_X0_59 rfl (Or.inl ⟨rfl, SHL_lt rfl⟩) rfl rfl ?_
    refine V.icmp_gt (tgt := 79) dX0_layRows_25 (by decide) (fun c2 => ?_) (fun c2 => ?_)
    · replace hf := ite_p hf c2
      refine V.aload_n dX0_layRows_79 rfl rfl rfl ?_
      refine V.getR (r := 67) dX0_layRows_80 fl_X0_16 rfl (Or.inl ⟨rfl, SHL_lt rfl⟩) rfl (ly_65_1 (srh.ly ly)) ?_
      refine V.aload_n dX0_layRows_83 rfl rfl (sH0 hT.H) ?_
      refine V.getI dX0_layRows_84 fl_X0_88 (sH0 hT.H) (Or.inl ⟨rfl, SHL_lt (sH0 hT.H)⟩) rfl rfl ?_
      refine V.aload_n dX0_layRows_87 rfl rfl (sH0 hT.H) ?_
      refine V.getI dX0_layRows_88 fl_X0_91 (sH0 hT.H) (Or.inl ⟨rfl, SHL_lt (sH0 hT.H)⟩) rfl rfl ?_
      obtain ⟨h4, q3, hf2⟩ := bd_el hf
      replace hf := hf2
      clear hf2
      refine V.callVV dX0_layRows_91 ml_X0_94 mo_X1_start mv_X1_start (sH0 isH_67) (fun q hq => by cases hq; rfl) (by decide) (Or.inl ⟨rfl, SHL_lt (sH0 isH_67)⟩) (th_X1_start (srh.ly ly) isH_67 q3) rfl rfl ⟨Nat.le_of_ble_eq_true rfl, Nat.le_of_ble_eq_true rfl, fun _ => ⟨rfl, rfl⟩⟩ (Nat.le_of_ble_eq_true rfl) (Or.inl rfl) (post_V (fun sq => ?_))
      have srh4 : SR h0 h4 := srh.trans sq
      clear sq q3
      refine V.iconst (v := 0) dX0_layRows_94 rfl ?_
      refine V.istore_n (ls' := [.ref 65, .ref t, .ref (t + 1), .int 0]) dX0_layRows_95 rfl (by decide) rfl ?_
      refine V.less (ls' := [.ref 65, .null, .null, .int 0]) ⟨Or.inr rfl, Or.inl rfl, Or.inl rfl, Or.inr rfl, trivial⟩ ?_
      exact th_X0_layRows_96 ly hT FU 0 h4 srh4 hf
    · replace hf := ite_n hf c2
      refine V.aload_n dX0_layRows_28 rfl rfl rfl ?_
      refine V.getR (r := 69) dX0_layRows_29 fl_X0_20 rfl (Or.inl ⟨rfl, SHL_lt rfl⟩) rfl (ly_65_2 (srh.ly ly)) ?_
      refine V.iload_n dX0_layRows_32 rfl rfl ?_
      refine V.aload_n dX0_layRows_33 rfl rfl (sH0 hT.H) ?_
      refine V.aload_n dX0_layRows_34 rfl rfl (sH0 hT.H) ?_
      refine V.getI dX0_layRows_35 fl_X0_76 (sH0 hT.H) (Or.inl ⟨rfl, SHL_lt (sH0 hT.H)⟩) rfl rfl ?_
      refine V.iload_n dX0_layRows_38 rfl rfl ?_
      obtain ⟨r7, h6, q5, hf2⟩ := bd2_el hf
      replace hf := hf2
      clear hf2
      refine V.callVI dX0_layRows_39 ml_X0_79 mo_X1_rowOf mv_X1_rowOf (sH0 hT.H) (fun q hq => by cases hq; rfl) (by decide) (Or.inl ⟨rfl, SHL_lt (sH0 hT.H)⟩) (th_X1_rowOf (srh.ly ly) hT.H q5) rfl rfl ⟨Nat.le_of_ble_eq_true rfl, Nat.le_of_ble_eq_true rfl, fun _ => ⟨rfl, rfl⟩⟩ (Nat.le_of_ble_eq_true rfl) rfl (post_I (fun sq => ?_))
      have srh6 : SR h0 h6 := srh.trans sq
      clear sq q5
      obtain ⟨b8, hf2⟩ := gdi_el hf
      replace hf := hf2
      clear hf2
      refine V.iastore dX0_layRows_42 rfl (Or.inl ⟨rfl, SHL_lt rfl⟩) b8 ?_
      refine V.nameH (fun g9 eg9 => ?_)
      replace hf := lt_el hf g9 eg9
      have srg9 : SR h0 g9 := by rw [eg9]; exact srh6.I _ _ _
      refine V.aload_n dX0_layRows_43 rfl rfl rfl ?_
      refine V.getR (r := 70) dX0_layRows_44 fl_X0_23 rfl (Or.inl ⟨rfl, SHL_lt rfl⟩) rfl (ly_65_3 (srg9.ly ly)) ?_
      refine V.iload_n dX0_layRows_47 rfl rfl ?_
      refine V.aload_n dX0_layRows_48 rfl rfl (sH0 hT.H) ?_
      refine V.aload_n dX0_layRows_49 rfl rfl (sH0 hT.H) ?_
      refine V.getI dX0_layRows_50 fl_X0_82 (sH0 hT.H) (Or.inl ⟨rfl, SHL_lt (sH0 hT.H)⟩) rfl rfl ?_
      refine V.iload_n dX0_layRows_53 rfl rfl ?_
      obtain ⟨r12, h11, q10, hf2⟩ := bd2_el hf
      replace hf := hf2
      clear hf2
      refine V.callVI dX0_layRows_54 ml_X0_79 mo_X1_rowOf mv_X1_rowOf (sH0 hT.H) (fun q hq => by cases hq; rfl) (by decide) (Or.inl ⟨rfl, SHL_lt (sH0 hT.H)⟩) (th_X1_rowOf (srg9.ly ly) hT.H q10) rfl rfl ⟨Nat.le_of_ble_eq_true rfl, Nat.le_of_ble_eq_true rfl, fun _ => ⟨rfl, rfl⟩⟩ (Nat.le_of_ble_eq_true rfl) rfl (post_I (fun sq => ?_))
      have srh11 : SR h0 h11 := srg9.trans sq
      clear sq q10
      obtain ⟨b13, hf2⟩ := gdi_el hf
      replace hf := hf2
      clear hf2
      refine V.iastore dX0_layRows_57 rfl (Or.inl ⟨rfl, SHL_lt rfl⟩) b13 ?_
      refine V.nameH (fun g14 eg14 => ?_)
      replace hf := lt_el hf g14 eg14
      have srg14 : SR h0 g14 := by rw [eg14]; exact srh11.I _ _ _
      refine V.aload_n dX0_layRows_58 rfl rfl rfl ?_
      refine V.getR (r := 71) dX0_layRows_59 fl_X0_26 rfl (Or.inl ⟨rfl, SHL_lt rfl⟩) rfl (ly_65_4 (srg14.ly ly)) ?_
      refine V.iload_n dX0_layRows_62 rfl rfl ?_
      refine V.aload_n dX0_layRows_63 rfl rfl (sH0 hT.H) ?_
      refine V.aload_n dX0_layRows_64 rfl rfl (sT0 hT) ?_
      refine V.getI dX0_layRows_65 fl_X0_85 (sT0 hT) (Or.inl ⟨rfl, SHL_lt (sT0 hT)⟩) rfl rfl ?_
      refine V.iload_n dX0_layRows_68 rfl rfl ?_
      obtain ⟨r17, h16, q15, hf2⟩ := bd2_el hf
      replace hf := hf2
      clear hf2
      refine V.callVI dX0_layRows_69 ml_X0_79 mo_X1_rowOf mv_X1_rowOf (sH0 hT.H) (fun q hq => by cases hq; rfl) (by decide) (Or.inl ⟨rfl, SHL_lt (sH0 hT.H)⟩) (th_X1_rowOf (srg14.ly ly) hT.H q15) rfl rfl ⟨Nat.le_of_ble_eq_true rfl, Nat.le_of_ble_eq_true rfl, fun _ => ⟨rfl, rfl⟩⟩ (Nat.le_of_ble_eq_true rfl) rfl (post_I (fun sq => ?_))
      have srh16 : SR h0 h16 := srg14.trans sq
      clear sq q15
      obtain ⟨b18, hf2⟩ := gdi_el hf
      replace hf := hf2
      clear hf2
      refine V.iastore dX0_layRows_72 rfl (Or.inl ⟨rfl, SHL_lt rfl⟩) b18 ?_
      refine V.nameH (fun g19 eg19 => ?_)
      replace hf := lt_el hf g19 eg19
      have srg19 : SR h0 g19 := by rw [eg19]; exact srh16.I _ _ _
      obtain ⟨x20, ex20⟩ : ∃ y : Int32, y = l3 + 1 := ⟨_, rfl⟩
      replace hf := lt_el hf x20 ex20
      refine V.iinc (v := x20) (ls' := [.ref 65, .ref t, .ref (t + 1), .int x20]) dX0_layRows_73 rfl (by decide) ex20.symm rfl ?_
      refine V.goto (tgt := 20) dX0_layRows_76 (by decide) ?_
      exact ih x20 g19 srg19 hf
set_option maxRecDepth 100000 in
theorem th_X0_layRows {h : HP} (ly : Lay h) {t : Nat} (hT : isT t)  {hh : HP} (hf : f_X0_layRows h t = some hh) : Spec yX0_layRows cX0_layRows miX0_layRows [.ref 65, .ref t] h (pV fun h' => h' = hh ∧ SR h hh) := by
  refine Spec.of (ls0 := [.ref 65, .ref t, .null, .null]) mo_X0_layRows (Nat.le_of_ble_eq_true rfl) rfl ?_
  rw [ly.1]
  have srh : SR h h := SR.refl h
  unfold f_X0_layRows at hf
  refine V.aload_n dX0_layRows_0 rfl rfl (sT0 hT) ?_
  refine V.getR (r := t + 1) dX0_layRows_1 fl_X0_66 (sT0 hT) (Or.inl ⟨rfl, SHL_lt (sT0 hT)⟩) rfl (rT_hill (srh.ly ly) hT) ?_
  refine V.astore_n (ls' := [.ref 65, .ref t, .ref (t + 1), .null]) dX0_layRows_4 rfl (by decide) (sH0 hT.H) rfl ?_
  refine V.aload_n dX0_layRows_5 rfl rfl rfl ?_
  refine V.aload_n dX0_layRows_6 rfl rfl (sH0 hT.H) ?_
  refine V.getI dX0_layRows_7 fl_X0_69 (sH0 hT.H) (Or.inl ⟨rfl, SHL_lt (sH0 hT.H)⟩) rfl rfl ?_
  refine V.bipush (v := 6) dX0_layRows_10 rfl ?_
  refine V.min dX0_layRows_12 lk_X0_70 min_ok rfl ⟨Nat.le_of_ble_eq_true rfl, Nat.le_of_ble_eq_true rfl⟩ ?_
  refine V.putI dX0_layRows_15 fl_X0_59 rfl (Or.inl ⟨rfl, SHL_lt rfl⟩) rfl (fun q hq => by cases hq; rfl) ⟨rfl, rfl⟩ ?_
  refine V.nameH (fun g1 eg1 => ?_)
  replace hf := lt_el hf g1 eg1
  have srg1 : SR h g1 := by rw [eg1]; exact srh.I _ _ _
  refine V.iconst (v := 0) dX0_layRows_18 rfl ?_
  refine V.istore_n (ls' := [.ref 65, .ref t, .ref (t + 1), .int 0]) dX0_layRows_19 rfl (by decide) rfl ?_
  exact th_X0_layRows_20 ly hT FU 0 g1 srg1 hf
set_option maxRecDepth 100000 in
theorem th_X0_countWays_130 {h0 : HP} (ly : Lay h0) {t : Nat} (hT : isT t) {rr : Int32} {hh : HP}  : ∀ (n : Nat) (l4 : Int32) (l5 : Int32) (l6 : Int32) (h : HP), SR h0 h → f_X0_countWays_130 t n l4 l5 l6 h = some (rr, hh) → V cX0_countWays miX0_countWays (ZI h0 miX0_countWays rr hh) 130 130 [.ref 65, .null, .null, .null, .int l4, .int l5, .int l6] [] h := by
  intro n
  induction n with
  | zero => intro l4 l5 l6 h srh hf; exact absurd hf (by unfold f_X0_countWays_130; simp)
  | succ n ih =>
    intro l4 l5 l6 h srh hf
    unfold f_X0_countWays_130 at hf
    refine V.iload dX0_countWays_130 rfl ?_
    refine V.iload dX0_countWays_132 rfl ?_
    refine V.sipush (v := 1024) dX0_countWays_134 rfl ?_
    refine V.iadd dX0_countWays_137 ?_
    refine V.icmp_ge (tgt := 159) dX0_countWays_138 (by decide) (fun c27 => ?_) (fun c27 => ?_)
    · replace hf := ite_p hf c27
      refine V.iload dX0_countWays_159 rfl ?_
      refine V.ireturn dX0_countWays_161 rfl rfl ⟨rfl, rfl⟩ ly.1 ?_
      exact ret_I hf srh
    · replace hf := ite_n hf c27
      refine V.iload dX0_countWays_141 rfl ?_
      refine V.aload_n dX0_countWays_143 rfl rfl rfl ?_
      refine V.getR (r := 66) dX0_countWays_144 fl_X0_11 rfl (Or.inl ⟨rfl, SHL_lt rfl⟩) rfl (ly_65_0 (srh.ly ly)) ?_
      refine V.iload dX0_countWays_147 rfl ?_
      obtain ⟨b28, hf2⟩ := gdi_el hf
      replace hf := hf2
      clear hf2
      refine V.iaload dX0_countWays_149 rfl (Or.inl ⟨rfl, SHL_lt rfl⟩) b28 ?_
      refine V.iadd dX0_countWays_150 ?_
      refine V.nmi (fun x29 ex29 => ?_)
      replace hf := lt_el hf x29 ex29
      refine V.istore (ls' := [.ref 65, .null, .null, .null, .int x29, .int l5, .int l6]) dX0_countWays_151 (by decide) rfl ?_
      obtain ⟨x30, ex30⟩ : ∃ y : Int32, y = l6 + 1 := ⟨_, rfl⟩
      replace hf := lt_el hf x30 ex30
      refine V.iinc (v := x30) (ls' := [.ref 65, .null, .null, .null, .int x29, .int l5, .int x30]) dX0_countWays_153 rfl (by decide) ex30.symm rfl ?_
      refine V.goto (tgt := 130) dX0_countWays_156 (by decide) ?_
      exact ih x29 l5 x30 h srh hf
set_option maxRecDepth 100000 in
theorem th_X0_countWays_92 {h0 : HP} (ly : Lay h0) {t : Nat} (hT : isT t) {rr : Int32} {hh : HP}  : ∀ (n : Nat) (l4 : Int32) (h : HP), SR h0 h → f_X0_countWays_92 t n l4 h = some (rr, hh) → V cX0_countWays miX0_countWays (ZI h0 miX0_countWays rr hh) 130 92 [.ref 65, .null, .null, .null, .int l4, .null, .null] [] h := by
  intro n
  induction n with
  | zero => intro l4 h srh hf; exact absurd hf (by unfold f_X0_countWays_92; simp)
  | succ n ih =>
    intro l4 h srh hf
    unfold f_X0_countWays_92 at hf
    refine V.iload dX0_countWays_92 rfl ?_
    refine V.aload_n dX0_countWays_94 rfl rfl rfl ?_
    refine V.getI dX0_countWays_95 fl_X0_59 rfl (Or.inl ⟨rfl, SHL_lt rfl⟩) rfl rfl ?_
    refine V.icmp_ge (tgt := 113) dX0_countWays_98 (by decide) (fun c22 => ?_) (fun c22 => ?_)
    · replace hf := ite_p hf c22
      refine V.iconst (v := 0) dX0_countWays_113 rfl ?_
      refine V.istore (ls' := [.ref 65, .null, .null, .null, .int 0, .null, .null]) dX0_countWays_114 (by decide) rfl ?_
      refine V.aload_n dX0_countWays_116 rfl rfl rfl ?_
      refine V.getI dX0_countWays_117 fl_X0_59 rfl (Or.inl ⟨rfl, SHL_lt rfl⟩) rfl rfl ?_
      refine V.sipush (v := 1024) dX0_countWays_120 rfl ?_
      refine V.imul dX0_countWays_123 ?_
      refine V.nmi (fun x23 ex23 => ?_)
      replace hf := lt_el hf x23 ex23
      refine V.istore (ls' := [.ref 65, .null, .null, .null, .int 0, .int x23, .null]) dX0_countWays_124 (by decide) rfl ?_
      refine V.iload dX0_countWays_126 rfl ?_
      refine V.istore (ls' := [.ref 65, .null, .null, .null, .int 0, .int x23, .int x23]) dX0_countWays_128 (by decide) rfl ?_
      exact th_X0_countWays_130 ly hT FU 0 x23 x23 h srh hf
    · replace hf := ite_n hf c22
      refine V.aload_n dX0_countWays_101 rfl rfl rfl ?_
      refine V.iload dX0_countWays_102 rfl ?_
      obtain ⟨h25, q24, hf2⟩ := bd_el hf
      replace hf := hf2
      clear hf2
      refine V.callVV dX0_countWays_104 ml_X0_62 mo_X0_chooseBelow mv_X0_chooseBelow rfl (fun q hq => by cases hq; rfl) (by decide) (Or.inl ⟨rfl, SHL_lt rfl⟩) (th_X0_chooseBelow (srh.ly ly) q24) rfl rfl ⟨Nat.le_of_ble_eq_true rfl, Nat.le_of_ble_eq_true rfl, fun _ => ⟨rfl, rfl⟩⟩ (Nat.le_of_ble_eq_true rfl) (Or.inl rfl) (post_V (fun sq => ?_))
      have srh25 : SR h0 h25 := srh.trans sq
      clear sq q24
      obtain ⟨x26, ex26⟩ : ∃ y : Int32, y = l4 + 1 := ⟨_, rfl⟩
      replace hf := lt_el hf x26 ex26
      refine V.iinc (v := x26) (ls' := [.ref 65, .null, .null, .null, .int x26, .null, .null]) dX0_countWays_107 rfl (by decide) ex26.symm rfl ?_
      refine V.goto (tgt := 92) dX0_countWays_110 (by decide) ?_
      exact ih x26 h25 srh25 hf
set_option maxRecDepth 100000 in
theorem th_X0_countWays_44 {h0 : HP} (ly : Lay h0) {t : Nat} (hT : isT t) {rr : Int32} {hh : HP}  : ∀ (n : Nat) (l3 : Int32) (l4 : Int32) (h : HP), SR h0 h → f_X0_countWays_44 t n l3 l4 h = some (rr, hh) → V cX0_countWays miX0_countWays (ZI h0 miX0_countWays rr hh) 130 44 [.ref 65, .null, .null, .int l3, .int l4, .null, .null] [] h := by
  intro n
  induction n with
  | zero => intro l3 l4 h srh hf; exact absurd hf (by unfold f_X0_countWays_44; simp)
  | succ n ih =>
    intro l3 l4 h srh hf
    unfold f_X0_countWays_44 at hf
    refine V.iload dX0_countWays_44 rfl ?_
    refine V.bipush (v := 32) dX0_countWays_46 rfl ?_
    refine V.icmp_ge (tgt := 89) dX0_countWays_48 (by decide) (fun c16 => ?_) (fun c16 => ?_)
    · replace hf := ite_p hf c16
      refine V.iconst (v := 0) dX0_countWays_89 rfl ?_
      refine V.istore (ls' := [.ref 65, .null, .null, .int l3, .int 0, .null, .null]) dX0_countWays_90 (by decide) rfl ?_
      refine V.less (ls' := [.ref 65, .null, .null, .null, .int 0, .null, .null]) ⟨Or.inr rfl, Or.inl rfl, Or.inl rfl, Or.inl rfl, Or.inr rfl, Or.inl rfl, Or.inl rfl, trivial⟩ ?_
      exact th_X0_countWays_92 ly hT FU 0 h srh hf
    · replace hf := ite_n hf c16
      refine V.aload_n dX0_countWays_51 rfl rfl rfl ?_
      refine V.getR (r := 66) dX0_countWays_52 fl_X0_11 rfl (Or.inl ⟨rfl, SHL_lt rfl⟩) rfl (ly_65_0 (srh.ly ly)) ?_
      refine V.iload_n dX0_countWays_55 rfl rfl ?_
      refine V.aload_n dX0_countWays_56 rfl rfl rfl ?_
      refine V.getR (r := 70) dX0_countWays_57 fl_X0_23 rfl (Or.inl ⟨rfl, SHL_lt rfl⟩) rfl (ly_65_3 (srh.ly ly)) ?_
      refine V.iconst (v := 0) dX0_countWays_60 rfl ?_
      refine V.iaload dX0_countWays_61 rfl (Or.inl ⟨rfl, SHL_lt rfl⟩) (vp_lit (by decide)) ?_
      rw [show Int32.toNatClampNeg 0 = 0 from rfl]
      refine V.ior dX0_countWays_62 ?_
      refine V.iconst (v := 1) dX0_countWays_63 rfl ?_
      obtain ⟨b17, hf2⟩ := gdi_el hf
      replace hf := hf2
      clear hf2
      refine V.iastore dX0_countWays_64 rfl (Or.inl ⟨rfl, SHL_lt rfl⟩) b17 ?_
      refine V.nameH (fun g18 eg18 => ?_)
      replace hf := lt_el hf g18 eg18
      have srg18 : SR h0 g18 := by rw [eg18]; exact srh.I _ _ _
      refine V.iload_n dX0_countWays_65 rfl rfl ?_
      refine V.if_ne (tgt := 72) dX0_countWays_66 (by decide) (fun c19 => ?_) (fun c19 => ?_)
      · replace hf := ite_n hf c19
        refine V.iload_n dX0_countWays_72 rfl rfl ?_
        refine V.iconst (v := 1) dX0_countWays_73 rfl ?_
        refine V.isub dX0_countWays_74 ?_
        refine V.aload_n dX0_countWays_75 rfl rfl rfl ?_
        refine V.getR (r := 69) dX0_countWays_76 fl_X0_20 rfl (Or.inl ⟨rfl, SHL_lt rfl⟩) rfl (ly_65_2 (srg18.ly ly)) ?_
        refine V.iconst (v := 0) dX0_countWays_79 rfl ?_
        refine V.iaload dX0_countWays_80 rfl (Or.inl ⟨rfl, SHL_lt rfl⟩) (vp_lit (by decide)) ?_
        rw [show Int32.toNatClampNeg 0 = 0 from rfl]
        refine V.iand dX0_countWays_81 ?_
        refine V.nmi (fun x20 ex20 => ?_)
        replace hf := lt_el hf x20 ex20
        refine V.istore_n (ls' := [.ref 65, .null, .null, .int x20, .int l4, .null, .null]) dX0_countWays_82 rfl (by decide) rfl ?_
        obtain ⟨x21, ex21⟩ : ∃ y : Int32, y = l4 + 1 := ⟨_, rfl⟩
        replace hf := lt_el hf x21 ex21
        refine V.iinc (v := x21) (ls' := [.ref 65, .null, .null, .int x20, .int x21, .null, .null]) dX0_countWays_83 rfl (by decide) ex21.symm rfl ?_
        refine V.goto (tgt := 44) dX0_countWays_86 (by decide) ?_
        exact ih x20 x21 g18 srg18 hf
      · replace hf := ite_p hf c19
        refine V.goto (tgt := 89) dX0_countWays_69 (by decide) ?_
        refine V.iconst (v := 0) dX0_countWays_89 rfl ?_
        refine V.istore (ls' := [.ref 65, .null, .null, .int l3, .int 0, .null, .null]) dX0_countWays_90 (by decide) rfl ?_
        refine V.less (ls' := [.ref 65, .null, .null, .null, .int 0, .null, .null]) ⟨Or.inr rfl, Or.inl rfl, Or.inl rfl, Or.inl rfl, Or.inr rfl, Or.inl rfl, Or.inl rfl, trivial⟩ ?_
        exact th_X0_countWays_92 ly hT FU 0 g18 srg18 hf
set_option maxRecDepth 100000 in
theorem th_X0_countWays {h : HP} (ly : Lay h) {t : Nat} (hT : isT t) {a2 : Int32} {rr : Int32} {hh : HP} (hf : f_X0_countWays h t a2 = some (rr, hh)) : Spec yX0_countWays cX0_countWays miX0_countWays [.ref 65, .ref t, .int a2] h (pI fun r' h' => (r' = rr ∧ h' = hh) ∧ SR h hh) := by
  refine Spec.of (ls0 := [.ref 65, .ref t, .int a2, .null, .null, .null, .null]) mo_X0_countWays (Nat.le_of_ble_eq_true rfl) rfl ?_
  rw [ly.1]
  have srh : SR h h := SR.refl h
  unfold f_X0_countWays at hf
  refine V.aload_n dX0_countWays_0 rfl rfl rfl ?_
  refine V.iload_n dX0_countWays_1 rfl rfl ?_
  obtain ⟨b1, hf2⟩ := gd_el hf
  replace hf := hf2
  clear hf2
  refine V.putI dX0_countWays_2 fl_X0_29 rfl (Or.inl ⟨rfl, SHL_lt rfl⟩) rfl (fun q hq => by cases hq; rfl) (putB b1) ?_
  refine V.nameH (fun g2 eg2 => ?_)
  replace hf := lt_el hf g2 eg2
  have srg2 : SR h g2 := by rw [eg2]; exact srh.I _ _ _
  refine V.aload_n dX0_countWays_5 rfl rfl rfl ?_
  refine V.aload_n dX0_countWays_6 rfl rfl (sT0 hT) ?_
  obtain ⟨h4, q3, hf2⟩ := bd_el hf
  replace hf := hf2
  clear hf2
  refine V.callVV dX0_countWays_7 ml_X0_33 mo_X0_layRows mv_X0_layRows rfl (fun q hq => by cases hq; rfl) (by decide) (Or.inl ⟨rfl, SHL_lt rfl⟩) (th_X0_layRows (srg2.ly ly) hT q3) rfl rfl ⟨Nat.le_of_ble_eq_true rfl, Nat.le_of_ble_eq_true rfl, fun _ => ⟨rfl, rfl⟩⟩ (Nat.le_of_ble_eq_true rfl) (Or.inl rfl) (post_V (fun sq => ?_))
  have srh4 : SR h h4 := srg2.trans sq
  clear sq q3
  refine V.aload_n dX0_countWays_10 rfl rfl rfl ?_
  refine V.aload_n dX0_countWays_11 rfl rfl (sT0 hT) ?_
  obtain ⟨r7, h6, q5, hf2⟩ := bd2_el hf
  replace hf := hf2
  clear hf2
  refine V.callVI dX0_countWays_12 ml_X0_37 mo_X5_bornNow mv_X5_bornNow (sT0 hT) (fun q hq => by cases hq; rfl) (by decide) (Or.inl ⟨rfl, SHL_lt (sT0 hT)⟩) (th_X5_bornNow (srh4.ly ly) hT q5) rfl rfl ⟨Nat.le_of_ble_eq_true rfl, Nat.le_of_ble_eq_true rfl, fun _ => ⟨rfl, rfl⟩⟩ (Nat.le_of_ble_eq_true rfl) rfl (post_I (fun sq => ?_))
  have srh6 : SR h h6 := srh4.trans sq
  clear sq q5
  refine V.putI dX0_countWays_15 fl_X0_43 rfl (Or.inl ⟨rfl, SHL_lt rfl⟩) rfl (fun q hq => by cases hq; rfl) ⟨rfl, rfl⟩ ?_
  refine V.nameH (fun g8 eg8 => ?_)
  replace hf := lt_el hf g8 eg8
  have srg8 : SR h g8 := by rw [eg8]; exact srh6.I _ _ _
  refine V.aload_n dX0_countWays_18 rfl rfl rfl ?_
  refine V.aload_n dX0_countWays_19 rfl rfl (sT0 hT) ?_
  obtain ⟨r11, h10, q9, hf2⟩ := bd2_el hf
  replace hf := hf2
  clear hf2
  refine V.callVI dX0_countWays_20 ml_X0_47 mo_X5_staysNow mv_X5_staysNow (sT0 hT) (fun q hq => by cases hq; rfl) (by decide) (Or.inl ⟨rfl, SHL_lt (sT0 hT)⟩) (th_X5_staysNow (srg8.ly ly) hT q9) rfl rfl ⟨Nat.le_of_ble_eq_true rfl, Nat.le_of_ble_eq_true rfl, fun _ => ⟨rfl, rfl⟩⟩ (Nat.le_of_ble_eq_true rfl) rfl (post_I (fun sq => ?_))
  have srh10 : SR h h10 := srg8.trans sq
  clear sq q9
  refine V.putI dX0_countWays_23 fl_X0_50 rfl (Or.inl ⟨rfl, SHL_lt rfl⟩) rfl (fun q hq => by cases hq; rfl) ⟨rfl, rfl⟩ ?_
  refine V.nameH (fun g12 eg12 => ?_)
  replace hf := lt_el hf g12 eg12
  have srg12 : SR h g12 := by rw [eg12]; exact srh10.I _ _ _
  refine V.aload_n dX0_countWays_26 rfl rfl rfl ?_
  refine V.getR (r := 66) dX0_countWays_27 fl_X0_11 rfl (Or.inl ⟨rfl, SHL_lt rfl⟩) rfl (ly_65_0 (srg12.ly ly)) ?_
  refine V.iconst (v := 0) dX0_countWays_30 rfl ?_
  obtain ⟨h14, q13, hf2⟩ := bd_el hf
  replace hf := hf2
  clear hf2
  refine V.callSV dX0_countWays_31 ml_X0_53 mo_J7_fill_53178 ms_J7_fill_53178 (th_J7_fill_53178 (srg12.ly ly) q13) rfl rfl ⟨Nat.le_of_ble_eq_true rfl, Nat.le_of_ble_eq_true rfl, fun _ => ⟨rfl, rfl⟩⟩ (Nat.le_of_ble_eq_true rfl) rfl (post_V (fun sq => ?_))
  have srh14 : SR h h14 := srg12.trans sq
  clear sq q13
  refine V.aload_n dX0_countWays_34 rfl rfl rfl ?_
  refine V.getR (r := 69) dX0_countWays_35 fl_X0_20 rfl (Or.inl ⟨rfl, SHL_lt rfl⟩) rfl (ly_65_2 (srh14.ly ly)) ?_
  refine V.iconst (v := 0) dX0_countWays_38 rfl ?_
  refine V.iaload dX0_countWays_39 rfl (Or.inl ⟨rfl, SHL_lt rfl⟩) (vp_lit (by decide)) ?_
  rw [show Int32.toNatClampNeg 0 = 0 from rfl]
  refine V.nmi (fun x15 ex15 => ?_)
  replace hf := lt_el hf x15 ex15
  refine V.istore_n (ls' := [.ref 65, .ref t, .int a2, .int x15, .null, .null, .null]) dX0_countWays_40 rfl (by decide) rfl ?_
  refine V.iconst (v := 0) dX0_countWays_41 rfl ?_
  refine V.istore (ls' := [.ref 65, .ref t, .int a2, .int x15, .int 0, .null, .null]) dX0_countWays_42 (by decide) rfl ?_
  refine V.less (ls' := [.ref 65, .null, .null, .int x15, .int 0, .null, .null]) ⟨Or.inr rfl, Or.inl rfl, Or.inl rfl, Or.inr rfl, Or.inr rfl, Or.inl rfl, Or.inl rfl, trivial⟩ ?_
  exact th_X0_countWays_44 ly hT FU x15 0 h14 srh14 hf
set_option maxRecDepth 100000 in
theorem th_X0_leastAbove_36 {h0 : HP} (ly : Lay h0) {rr : Int32} {hh : HP} {K3 : Int32 → Int32 → Int32 → Int32 → HP → Option (Int32 × HP)} (kok3 : ∀ (l1 : Int32) (l2 : Int32) (l3 : Int32) (l4 : Int32) (g : HP), SR h0 g → K3 l1 l2 l3 l4 g = some (rr, hh) → V cX0_leastAbove miX0_leastAbove (ZI h0 miX0_leastAbove rr hh) 130 3 [.ref 65, .int l1, .int l2, .int l3, .int l4, .null] [] g) : ∀ (l1 : Int32) (l2 : Int32) (l3 : Int32) (l4 : Int32) (s0 : Int32) (h : HP), SR h0 h → f_X0_leastAbove_36 K3 l1 l2 l3 l4 s0 h = some (rr, hh) → V cX0_leastAbove miX0_leastAbove (ZI h0 miX0_leastAbove rr hh) 130 36 [.ref 65, .int l1, .int l2, .int l3, .int l4, .null] [.int s0] h := by
  intro l1 l2 l3 l4 s0 h srh hf
  unfold f_X0_leastAbove_36 at hf
  refine V.istore (ls' := [.ref 65, .int l1, .int l2, .int l3, .int l4, .int s0]) dX0_leastAbove_36 (by decide) rfl ?_
  refine V.iload dX0_leastAbove_38 rfl ?_
  refine V.if_eq (tgt := 62) dX0_leastAbove_40 (by decide) (fun c4 => ?_) (fun c4 => ?_)
  · replace hf := ite_p hf c4
    obtain ⟨x5, ex5⟩ : ∃ y : Int32, y = l4 + 1 := ⟨_, rfl⟩
    replace hf := lt_el hf x5 ex5
    refine V.iinc (v := x5) (ls' := [.ref 65, .int l1, .int l2, .int l3, .int x5, .int s0]) dX0_leastAbove_62 rfl (by decide) ex5.symm rfl ?_
    refine V.goto (tgt := 3) dX0_leastAbove_65 (by decide) ?_
    refine V.less (ls' := [.ref 65, .int l1, .int l2, .int l3, .int x5, .null]) ⟨Or.inr rfl, Or.inr rfl, Or.inr rfl, Or.inr rfl, Or.inr rfl, Or.inl rfl, trivial⟩ ?_
    exact kok3 l1 l2 l3 x5 h srh hf
  · replace hf := ite_n hf c4
    refine V.iload_n dX0_leastAbove_43 rfl rfl ?_
    refine V.if_lt (tgt := 59) dX0_leastAbove_44 (by decide) (fun c6 => ?_) (fun c6 => ?_)
    · replace hf := ite_p hf c6
      refine V.iload dX0_leastAbove_59 rfl ?_
      refine V.ireturn dX0_leastAbove_61 rfl rfl ⟨rfl, rfl⟩ ly.1 ?_
      exact ret_I hf srh
    · replace hf := ite_n hf c6
      refine V.aload_n dX0_leastAbove_47 rfl rfl rfl ?_
      refine V.iload_n dX0_leastAbove_48 rfl rfl ?_
      refine V.iload dX0_leastAbove_49 rfl ?_
      refine V.iload_n dX0_leastAbove_51 rfl rfl ?_
      refine V.iload_n dX0_leastAbove_52 rfl rfl ?_
      obtain ⟨r9, h8, q7, hf2⟩ := bd2_el hf
      replace hf := hf2
      clear hf2
      refine V.callVI dX0_leastAbove_53 ml_X0_108 mo_X0_wrongIn mv_X0_wrongIn rfl (fun q hq => by cases hq; rfl) (by decide) (Or.inl ⟨rfl, SHL_lt rfl⟩) (th_X0_wrongIn (srh.ly ly) q7) rfl rfl ⟨Nat.le_of_ble_eq_true rfl, Nat.le_of_ble_eq_true rfl, fun _ => ⟨rfl, rfl⟩⟩ (Nat.le_of_ble_eq_true rfl) rfl (post_I (fun sq => ?_))
      have srh8 : SR h0 h8 := srh.trans sq
      clear sq q7
      refine V.if_ne (tgt := 62) dX0_leastAbove_56 (by decide) (fun c10 => ?_) (fun c10 => ?_)
      · replace hf := ite_n hf c10
        obtain ⟨x11, ex11⟩ : ∃ y : Int32, y = l4 + 1 := ⟨_, rfl⟩
        replace hf := lt_el hf x11 ex11
        refine V.iinc (v := x11) (ls' := [.ref 65, .int l1, .int l2, .int l3, .int x11, .int s0]) dX0_leastAbove_62 rfl (by decide) ex11.symm rfl ?_
        refine V.goto (tgt := 3) dX0_leastAbove_65 (by decide) ?_
        refine V.less (ls' := [.ref 65, .int l1, .int l2, .int l3, .int x11, .null]) ⟨Or.inr rfl, Or.inr rfl, Or.inr rfl, Or.inr rfl, Or.inr rfl, Or.inl rfl, trivial⟩ ?_
        exact kok3 l1 l2 l3 x11 h8 srh8 hf
      · replace hf := ite_p hf c10
        refine V.iload dX0_leastAbove_59 rfl ?_
        refine V.ireturn dX0_leastAbove_61 rfl rfl ⟨rfl, rfl⟩ ly.1 ?_
        exact ret_I hf srh8
set_option maxRecDepth 100000 in
theorem th_X0_leastAbove_3 {h0 : HP} (ly : Lay h0) {rr : Int32} {hh : HP}  : ∀ (n : Nat) (l1 : Int32) (l2 : Int32) (l3 : Int32) (l4 : Int32) (h : HP), SR h0 h → f_X0_leastAbove_3 n l1 l2 l3 l4 h = some (rr, hh) → V cX0_leastAbove miX0_leastAbove (ZI h0 miX0_leastAbove rr hh) 130 3 [.ref 65, .int l1, .int l2, .int l3, .int l4, .null] [] h := by
  intro n
  induction n with
  | zero => intro l1 l2 l3 l4 h srh hf; exact absurd hf (by unfold f_X0_leastAbove_3; simp)
  | succ n ih =>
    intro l1 l2 l3 l4 h srh hf
    unfold f_X0_leastAbove_3 at hf
    refine V.iload dX0_leastAbove_3 rfl ?_
    refine V.bipush (v := 32) dX0_leastAbove_5 rfl ?_
    refine V.icmp_ge (tgt := 68) dX0_leastAbove_7 (by decide) (fun c1 => ?_) (fun c1 => ?_)
    · replace hf := ite_p hf c1
      refine V.iconst (v := 0) dX0_leastAbove_68 rfl ?_
      refine V.ireturn dX0_leastAbove_69 rfl rfl ⟨rfl, rfl⟩ ly.1 ?_
      exact ret_I hf srh
    · replace hf := ite_n hf c1
      refine V.aload_n dX0_leastAbove_10 rfl rfl rfl ?_
      refine V.getR (r := 66) dX0_leastAbove_11 fl_X0_11 rfl (Or.inl ⟨rfl, SHL_lt rfl⟩) rfl (ly_65_0 (srh.ly ly)) ?_
      refine V.iload_n dX0_leastAbove_14 rfl rfl ?_
      refine V.sipush (v := 1024) dX0_leastAbove_15 rfl ?_
      refine V.imul dX0_leastAbove_18 ?_
      refine V.iload dX0_leastAbove_19 rfl ?_
      refine V.bipush (v := 32) dX0_leastAbove_21 rfl ?_
      refine V.imul dX0_leastAbove_23 ?_
      refine V.iadd dX0_leastAbove_24 ?_
      refine V.iload_n dX0_leastAbove_25 rfl rfl ?_
      refine V.iadd dX0_leastAbove_26 ?_
      obtain ⟨b2, hf2⟩ := gdi_el hf
      replace hf := hf2
      clear hf2
      refine V.iaload dX0_leastAbove_27 rfl (Or.inl ⟨rfl, SHL_lt rfl⟩) b2 ?_
      refine V.if_eq (tgt := 35) dX0_leastAbove_28 (by decide) (fun c3 => ?_) (fun c3 => ?_)
      · replace hf := ite_p hf c3
        refine V.iconst (v := 0) dX0_leastAbove_35 rfl ?_
        exact th_X0_leastAbove_36 ly ih l1 l2 l3 l4 0 h srh hf
      · replace hf := ite_n hf c3
        refine V.iconst (v := 1) dX0_leastAbove_31 rfl ?_
        refine V.goto (tgt := 36) dX0_leastAbove_32 (by decide) ?_
        exact th_X0_leastAbove_36 ly ih l1 l2 l3 l4 1 h srh hf
set_option maxRecDepth 100000 in
theorem th_X0_leastAbove {h : HP} (ly : Lay h) {a1 : Int32} {a2 : Int32} {a3 : Int32} {rr : Int32} {hh : HP} (hf : f_X0_leastAbove h a1 a2 a3 = some (rr, hh)) : Spec yX0_leastAbove cX0_leastAbove miX0_leastAbove [.ref 65, .int a1, .int a2, .int a3] h (pI fun r' h' => (r' = rr ∧ h' = hh) ∧ SR h hh) := by
  refine Spec.of (ls0 := [.ref 65, .int a1, .int a2, .int a3, .null, .null]) mo_X0_leastAbove (Nat.le_of_ble_eq_true rfl) rfl ?_
  rw [ly.1]
  have srh : SR h h := SR.refl h
  unfold f_X0_leastAbove at hf
  refine V.iconst (v := 0) dX0_leastAbove_0 rfl ?_
  refine V.istore (ls' := [.ref 65, .int a1, .int a2, .int a3, .int 0, .null]) dX0_leastAbove_1 (by decide) rfl ?_
  exact th_X0_leastAbove_3 ly FU a1 a2 a3 0 h srh hf
set_option maxRecDepth 100000 in
theorem th_X0_leastFound_23 {h0 : HP} (ly : Lay h0) {rr : Int32} {hh : HP}  : ∀ (n : Nat) (l1 : Int32) (l2 : Int32) (l3 : Int32) (l4 : Int32) (h : HP), SR h0 h → f_X0_leastFound_23 n l1 l2 l3 l4 h = some (rr, hh) → V cX0_leastFound miX0_leastFound (ZI h0 miX0_leastFound rr hh) 130 23 [.ref 65, .int l1, .int l2, .int l3, .int l4, .null] [] h := by
  intro n
  induction n with
  | zero => intro l1 l2 l3 l4 h srh hf; exact absurd hf (by unfold f_X0_leastFound_23; simp)
  | succ n ih =>
    intro l1 l2 l3 l4 h srh hf
    unfold f_X0_leastFound_23 at hf
    refine V.iload dX0_leastFound_23 rfl ?_
    refine V.if_lt (tgt := 73) dX0_leastFound_25 (by decide) (fun c5 => ?_) (fun c5 => ?_)
    · replace hf := ite_p hf c5
      refine V.iload_n dX0_leastFound_73 rfl rfl ?_
      refine V.ireturn dX0_leastFound_74 rfl rfl ⟨rfl, rfl⟩ ly.1 ?_
      exact ret_I hf srh
    · replace hf := ite_n hf c5
      refine V.iload_n dX0_leastFound_28 rfl rfl ?_
      refine V.iload_n dX0_leastFound_29 rfl rfl ?_
      refine V.iload dX0_leastFound_30 rfl ?_
      refine V.aload_n dX0_leastFound_32 rfl rfl rfl ?_
      refine V.getR (r := 67) dX0_leastFound_33 fl_X0_16 rfl (Or.inl ⟨rfl, SHL_lt rfl⟩) rfl (ly_65_1 (srh.ly ly)) ?_
      refine V.getI dX0_leastFound_36 fl_X0_88 (sH0 isH_67) (Or.inl ⟨rfl, SHL_lt (sH0 isH_67)⟩) rfl rfl ?_
      refine V.imul dX0_leastFound_39 ?_
      refine V.ishl dX0_leastFound_40 ?_
      refine V.ior dX0_leastFound_41 ?_
      refine V.nmi (fun x6 ex6 => ?_)
      replace hf := lt_el hf x6 ex6
      refine V.istore_n (ls' := [.ref 65, .int l1, .int l2, .int x6, .int l4, .null]) dX0_leastFound_42 rfl (by decide) rfl ?_
      refine V.iload dX0_leastFound_43 rfl ?_
      refine V.if_le (tgt := 59) dX0_leastFound_45 (by decide) (fun c7 => ?_) (fun c7 => ?_)
      · replace hf := ite_p hf c7
        refine V.iconst (v := 0) dX0_leastFound_59 rfl ?_
        refine V.istore (ls' := [.ref 65, .int l1, .int l2, .int x6, .int l4, .int 0]) dX0_leastFound_60 (by decide) rfl ?_
        refine V.iload_n dX0_leastFound_62 rfl rfl ?_
        refine V.istore_n (ls' := [.ref 65, .int l2, .int l2, .int x6, .int l4, .int 0]) dX0_leastFound_63 rfl (by decide) rfl ?_
        refine V.iload dX0_leastFound_64 rfl ?_
        refine V.istore_n (ls' := [.ref 65, .int l2, .int 0, .int x6, .int l4, .int 0]) dX0_leastFound_66 rfl (by decide) rfl ?_
        obtain ⟨x8, ex8⟩ : ∃ y : Int32, y = l4 + (-1) := ⟨_, rfl⟩
        replace hf := lt_el hf x8 ex8
        refine V.iinc (v := x8) (ls' := [.ref 65, .int l2, .int 0, .int x6, .int x8, .int 0]) dX0_leastFound_67 rfl (by decide) ex8.symm rfl ?_
        refine V.goto (tgt := 23) dX0_leastFound_70 (by decide) ?_
        refine V.less (ls' := [.ref 65, .int l2, .int 0, .int x6, .int x8, .null]) ⟨Or.inr rfl, Or.inr rfl, Or.inr rfl, Or.inr rfl, Or.inr rfl, Or.inl rfl, trivial⟩ ?_
        exact ih l2 0 x6 x8 h srh hf
      · replace hf := ite_n hf c7
        refine V.aload_n dX0_leastFound_48 rfl rfl rfl ?_
        refine V.iload dX0_leastFound_49 rfl ?_
        refine V.iload_n dX0_leastFound_51 rfl rfl ?_
        refine V.iload_n dX0_leastFound_52 rfl rfl ?_
        obtain ⟨r11, h10, q9, hf2⟩ := bd2_el hf
        replace hf := hf2
        clear hf2
        refine V.callVI dX0_leastFound_53 ml_X0_119 mo_X0_leastAbove mv_X0_leastAbove rfl (fun q hq => by cases hq; rfl) (by decide) (Or.inl ⟨rfl, SHL_lt rfl⟩) (th_X0_leastAbove (srh.ly ly) q9) rfl rfl ⟨Nat.le_of_ble_eq_true rfl, Nat.le_of_ble_eq_true rfl, fun _ => ⟨rfl, rfl⟩⟩ (Nat.le_of_ble_eq_true rfl) rfl (post_I (fun sq => ?_))
        have srh10 : SR h0 h10 := srh.trans sq
        clear sq q9
        refine V.goto (tgt := 60) dX0_leastFound_56 (by decide) ?_
        refine V.istore (ls' := [.ref 65, .int l1, .int l2, .int x6, .int l4, .int r11]) dX0_leastFound_60 (by decide) rfl ?_
        refine V.iload_n dX0_leastFound_62 rfl rfl ?_
        refine V.istore_n (ls' := [.ref 65, .int l2, .int l2, .int x6, .int l4, .int r11]) dX0_leastFound_63 rfl (by decide) rfl ?_
        refine V.iload dX0_leastFound_64 rfl ?_
        refine V.istore_n (ls' := [.ref 65, .int l2, .int r11, .int x6, .int l4, .int r11]) dX0_leastFound_66 rfl (by decide) rfl ?_
        obtain ⟨x12, ex12⟩ : ∃ y : Int32, y = l4 + (-1) := ⟨_, rfl⟩
        replace hf := lt_el hf x12 ex12
        refine V.iinc (v := x12) (ls' := [.ref 65, .int l2, .int r11, .int x6, .int x12, .int r11]) dX0_leastFound_67 rfl (by decide) ex12.symm rfl ?_
        refine V.goto (tgt := 23) dX0_leastFound_70 (by decide) ?_
        refine V.less (ls' := [.ref 65, .int l2, .int r11, .int x6, .int x12, .null]) ⟨Or.inr rfl, Or.inr rfl, Or.inr rfl, Or.inr rfl, Or.inr rfl, Or.inl rfl, trivial⟩ ?_
        exact ih l2 r11 x6 x12 h10 srh10 hf
set_option maxRecDepth 100000 in
theorem th_X0_leastFound {h : HP} (ly : Lay h)  {rr : Int32} {hh : HP} (hf : f_X0_leastFound h = some (rr, hh)) : Spec yX0_leastFound cX0_leastFound miX0_leastFound [.ref 65] h (pI fun r' h' => (r' = rr ∧ h' = hh) ∧ SR h hh) := by
  refine Spec.of (ls0 := [.ref 65, .null, .null, .null, .null, .null]) mo_X0_leastFound (Nat.le_of_ble_eq_true rfl) rfl ?_
  rw [ly.1]
  have srh : SR h h := SR.refl h
  unfold f_X0_leastFound at hf
  refine V.iconst (v := 0) dX0_leastFound_0 rfl ?_
  refine V.istore_n (ls' := [.ref 65, .int 0, .null, .null, .null, .null]) dX0_leastFound_1 rfl (by decide) rfl ?_
  refine V.aload_n dX0_leastFound_2 rfl rfl rfl ?_
  refine V.aload_n dX0_leastFound_3 rfl rfl rfl ?_
  refine V.getI dX0_leastFound_4 fl_X0_59 rfl (Or.inl ⟨rfl, SHL_lt rfl⟩) rfl rfl ?_
  refine V.iconst (v := 0) dX0_leastFound_7 rfl ?_
  refine V.iconst (v := (-1)) dX0_leastFound_8 rfl ?_
  obtain ⟨r3, h2, q1, hf2⟩ := bd2_el hf
  replace hf := hf2
  clear hf2
  refine V.callVI dX0_leastFound_9 ml_X0_119 mo_X0_leastAbove mv_X0_leastAbove rfl (fun q hq => by cases hq; rfl) (by decide) (Or.inl ⟨rfl, SHL_lt rfl⟩) (th_X0_leastAbove (srh.ly ly) q1) rfl rfl ⟨Nat.le_of_ble_eq_true rfl, Nat.le_of_ble_eq_true rfl, fun _ => ⟨rfl, rfl⟩⟩ (Nat.le_of_ble_eq_true rfl) rfl (post_I (fun sq => ?_))
  have srh2 : SR h h2 := srh.trans sq
  clear sq q1
  refine V.istore_n (ls' := [.ref 65, .int 0, .int r3, .null, .null, .null]) dX0_leastFound_12 rfl (by decide) rfl ?_
  refine V.iconst (v := 0) dX0_leastFound_13 rfl ?_
  refine V.istore_n (ls' := [.ref 65, .int 0, .int r3, .int 0, .null, .null]) dX0_leastFound_14 rfl (by decide) rfl ?_
  refine V.aload_n dX0_leastFound_15 rfl rfl rfl ?_
  refine V.getI dX0_leastFound_16 fl_X0_59 rfl (Or.inl ⟨rfl, SHL_lt rfl⟩) rfl rfl ?_
  refine V.iconst (v := 1) dX0_leastFound_19 rfl ?_
  refine V.isub dX0_leastFound_20 ?_
  refine V.nmi (fun x4 ex4 => ?_)
  replace hf := lt_el hf x4 ex4
  refine V.istore (ls' := [.ref 65, .int 0, .int r3, .int 0, .int x4, .null]) dX0_leastFound_21 (by decide) rfl ?_
  exact th_X0_leastFound_23 ly FU 0 r3 0 x4 h2 srh2 hf
set_option maxRecDepth 100000 in
theorem th_X11_commonDivisor_7 {h0 : HP} (ly : Lay h0) {rr : Int32} {hh : HP}  : ∀ (n : Nat) (l2 : Int32) (l3 : Int32) (l4 : Int32) (h : HP), SR h0 h → f_X11_commonDivisor_7 n l2 l3 l4 h = some (rr, hh) → V cX11_commonDivisor miX11_commonDivisor (ZI h0 miX11_commonDivisor rr hh) 130 7 [.null, .null, .int l2, .int l3, .int l4, .null] [] h := by
  intro n
  induction n with
  | zero => intro l2 l3 l4 h srh hf; exact absurd hf (by unfold f_X11_commonDivisor_7; simp)
  | succ n ih =>
    intro l2 l3 l4 h srh hf
    unfold f_X11_commonDivisor_7 at hf
    refine V.iload dX11_commonDivisor_7 rfl ?_
    refine V.bipush (v := 64) dX11_commonDivisor_9 rfl ?_
    refine V.icmp_ge (tgt := 34) dX11_commonDivisor_11 (by decide) (fun c1 => ?_) (fun c1 => ?_)
    · replace hf := ite_p hf c1
      refine V.iload_n dX11_commonDivisor_34 rfl rfl ?_
      refine V.ireturn dX11_commonDivisor_35 rfl rfl ⟨rfl, rfl⟩ ly.1 ?_
      exact ret_I hf srh
    · replace hf := ite_n hf c1
      refine V.iload_n dX11_commonDivisor_14 rfl rfl ?_
      refine V.if_eq (tgt := 34) dX11_commonDivisor_15 (by decide) (fun c2 => ?_) (fun c2 => ?_)
      · replace hf := ite_p hf c2
        refine V.iload_n dX11_commonDivisor_34 rfl rfl ?_
        refine V.ireturn dX11_commonDivisor_35 rfl rfl ⟨rfl, rfl⟩ ly.1 ?_
        exact ret_I hf srh
      · replace hf := ite_n hf c2
        refine V.iload_n dX11_commonDivisor_18 rfl rfl ?_
        refine V.iload_n dX11_commonDivisor_19 rfl rfl ?_
        obtain ⟨b3, hf2⟩ := gd_el hf
        replace hf := hf2
        clear hf2
        refine V.irem dX11_commonDivisor_20 b3 ?_
        refine V.nmi (fun x4 ex4 => ?_)
        replace hf := lt_el hf x4 ex4
        refine V.istore (ls' := [.null, .null, .int l2, .int l3, .int l4, .int x4]) dX11_commonDivisor_21 (by decide) rfl ?_
        refine V.iload_n dX11_commonDivisor_23 rfl rfl ?_
        refine V.istore_n (ls' := [.null, .null, .int l3, .int l3, .int l4, .int x4]) dX11_commonDivisor_24 rfl (by decide) rfl ?_
        refine V.iload dX11_commonDivisor_25 rfl ?_
        refine V.istore_n (ls' := [.null, .null, .int l3, .int x4, .int l4, .int x4]) dX11_commonDivisor_27 rfl (by decide) rfl ?_
        obtain ⟨x5, ex5⟩ : ∃ y : Int32, y = l4 + 1 := ⟨_, rfl⟩
        replace hf := lt_el hf x5 ex5
        refine V.iinc (v := x5) (ls' := [.null, .null, .int l3, .int x4, .int x5, .int x4]) dX11_commonDivisor_28 rfl (by decide) ex5.symm rfl ?_
        refine V.goto (tgt := 7) dX11_commonDivisor_31 (by decide) ?_
        refine V.less (ls' := [.null, .null, .int l3, .int x4, .int x5, .null]) ⟨Or.inl rfl, Or.inl rfl, Or.inr rfl, Or.inr rfl, Or.inr rfl, Or.inl rfl, trivial⟩ ?_
        exact ih l3 x4 x5 h srh hf
set_option maxRecDepth 100000 in
theorem th_X11_commonDivisor {h : HP} (ly : Lay h) {a0 : Int32} {a1 : Int32} {rr : Int32} {hh : HP} (hf : f_X11_commonDivisor h a0 a1 = some (rr, hh)) : Spec yX11_commonDivisor cX11_commonDivisor miX11_commonDivisor [.int a0, .int a1] h (pI fun r' h' => (r' = rr ∧ h' = hh) ∧ SR h hh) := by
  refine Spec.of (ls0 := [.int a0, .int a1, .null, .null, .null, .null]) mo_X11_commonDivisor (Nat.le_of_ble_eq_true rfl) rfl ?_
  rw [ly.1]
  have srh : SR h h := SR.refl h
  unfold f_X11_commonDivisor at hf
  refine V.iload_n dX11_commonDivisor_0 rfl rfl ?_
  refine V.istore_n (ls' := [.int a0, .int a1, .int a0, .null, .null, .null]) dX11_commonDivisor_1 rfl (by decide) rfl ?_
  refine V.iload_n dX11_commonDivisor_2 rfl rfl ?_
  refine V.istore_n (ls' := [.int a0, .int a1, .int a0, .int a1, .null, .null]) dX11_commonDivisor_3 rfl (by decide) rfl ?_
  refine V.iconst (v := 0) dX11_commonDivisor_4 rfl ?_
  refine V.istore (ls' := [.int a0, .int a1, .int a0, .int a1, .int 0, .null]) dX11_commonDivisor_5 (by decide) rfl ?_
  refine V.less (ls' := [.null, .null, .int a0, .int a1, .int 0, .null]) ⟨Or.inl rfl, Or.inl rfl, Or.inr rfl, Or.inr rfl, Or.inr rfl, Or.inl rfl, trivial⟩ ?_
  exact th_X11_commonDivisor_7 ly FU a0 a1 0 h srh hf
set_option maxRecDepth 100000 in
theorem th_X11_tellFraction {h : HP} (ly : Lay h) {a1 : Int32} {a2 : Int32} {hh : HP} (hf : f_X11_tellFraction h a1 a2 = some hh) : Spec yX11_tellFraction cX11_tellFraction miX11_tellFraction [.ref 0, .int a1, .int a2] h (pV fun h' => h' = hh ∧ SR h hh) := by
  refine Spec.of (ls0 := [.ref 0, .int a1, .int a2, .null]) mo_X11_tellFraction (Nat.le_of_ble_eq_true rfl) rfl ?_
  rw [ly.1]
  have srh : SR h h := SR.refl h
  unfold f_X11_tellFraction at hf
  refine V.iload_n dX11_tellFraction_0 rfl rfl ?_
  refine V.iload_n dX11_tellFraction_1 rfl rfl ?_
  obtain ⟨r3, h2, q1, hf2⟩ := bd2_el hf
  replace hf := hf2
  clear hf2
  refine V.callSI dX11_tellFraction_2 ml_X11_428 mo_X11_commonDivisor ms_X11_commonDivisor (th_X11_commonDivisor (srh.ly ly) q1) rfl rfl ⟨Nat.le_of_ble_eq_true rfl, Nat.le_of_ble_eq_true rfl, fun _ => ⟨rfl, rfl⟩⟩ (Nat.le_of_ble_eq_true rfl) rfl (post_I (fun sq => ?_))
  have srh2 : SR h h2 := srh.trans sq
  clear sq q1
  refine V.istore_n (ls' := [.ref 0, .int a1, .int a2, .int r3]) dX11_tellFraction_5 rfl (by decide) rfl ?_
  refine V.iload_n dX11_tellFraction_6 rfl rfl ?_
  refine V.if_le (tgt := 26) dX11_tellFraction_7 (by decide) (fun c4 => ?_) (fun c4 => ?_)
  · replace hf := ite_p hf c4
    refine V.vreturn' dX11_tellFraction_26 rfl ly.1 (Or.inl ⟨rfl, rfl⟩) ?_
    exact ret_V hf srh2
  · replace hf := ite_n hf c4
    refine V.aload_n dX11_tellFraction_10 rfl rfl rfl ?_
    refine V.iload_n dX11_tellFraction_11 rfl rfl ?_
    refine V.iload_n dX11_tellFraction_12 rfl rfl ?_
    obtain ⟨b5, hf2⟩ := gd_el hf
    replace hf := hf2
    clear hf2
    refine V.idiv dX11_tellFraction_13 b5 ?_
    refine V.i2l dX11_tellFraction_14 ?_
    refine V.putL dX11_tellFraction_15 fl_X11_79 rfl (Or.inl ⟨rfl, SHL_lt rfl⟩) rfl (fun q hq => by cases hq; rfl) ?_
    refine V.nameH (fun g6 eg6 => ?_)
    replace hf := lt_el hf g6 eg6
    have srg6 : SR h g6 := by rw [eg6]; exact srh2.L _ _ _
    refine V.aload_n dX11_tellFraction_18 rfl rfl rfl ?_
    refine V.iload_n dX11_tellFraction_19 rfl rfl ?_
    refine V.iload_n dX11_tellFraction_20 rfl rfl ?_
    obtain ⟨b7, hf2⟩ := gd_el hf
    replace hf := hf2
    clear hf2
    refine V.idiv dX11_tellFraction_21 b7 ?_
    refine V.i2l dX11_tellFraction_22 ?_
    refine V.putL dX11_tellFraction_23 fl_X11_68 rfl (Or.inl ⟨rfl, SHL_lt rfl⟩) rfl (fun q hq => by cases hq; rfl) ?_
    refine V.nameH (fun g8 eg8 => ?_)
    replace hf := lt_el hf g8 eg8
    have srg8 : SR h g8 := by rw [eg8]; exact srg6.L _ _ _
    refine V.vreturn' dX11_tellFraction_26 rfl ly.1 (Or.inl ⟨rfl, rfl⟩) ?_
    exact ret_V hf srg8
