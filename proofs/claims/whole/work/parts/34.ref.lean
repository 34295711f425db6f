set_option maxRecDepth 100000 in
theorem th_X12_pictures {h : HP} (ly : Lay h)  {rr : Int64} {hh : HP} (hf : f_X12_pictures h = some (rr, hh)) : Spec yX12_pictures cX12_pictures miX12_pictures [.ref 113] h (pL fun r' h' => (r' = rr ∧ h' = hh) ∧ SR h hh) := by
  refine Spec.of (ls0 := [.ref 113]) mo_X12_pictures (Nat.le_of_ble_eq_true rfl) rfl ?_
  rw [ly.1]
  have srh : SR h h := SR.refl h
  unfold f_X12_pictures at hf
  refine V.aload_n dX12_pictures_0 rfl rfl rfl ?_
  refine V.lconst (v := 1) dX12_pictures_1 rfl ?_
  refine V.aload_n dX12_pictures_2 rfl rfl rfl ?_
  obtain ⟨r3, h2, q1, hf2⟩ := bd2_el hf
  replace hf := hf2
  clear hf2
  refine V.callVI dX12_pictures_3 ml_X12_268 mo_X12_free mv_X12_free rfl (fun q hq => by cases hq; rfl) (by decide) (Or.inl ⟨rfl, SHL_lt rfl⟩) (th_X12_free (srh.ly ly) q1) rfl rfl ⟨Nat.le_of_ble_eq_true rfl, Nat.le_of_ble_eq_true rfl, fun _ => ⟨rfl, rfl⟩⟩ (Nat.le_of_ble_eq_true rfl) rfl (post_I (fun sq => ?_))
  have srh2 : SR h h2 := srh.trans sq
  clear sq q1
  obtain ⟨r6, h5, q4, hf2⟩ := bd2_el hf
  replace hf := hf2
  clear hf2
  refine V.callSI dX12_pictures_6 ml_X12_226 mo_X12_bits ms_X12_bits (th_X12_bits (srh2.ly ly) q4) rfl rfl ⟨Nat.le_of_ble_eq_true rfl, Nat.le_of_ble_eq_true rfl, fun _ => ⟨rfl, rfl⟩⟩ (Nat.le_of_ble_eq_true rfl) rfl (post_I (fun sq => ?_))
  have srh5 : SR h h5 := srh2.trans sq
  clear sq q4
  refine V.lshl dX12_pictures_9 ?_
  obtain ⟨r9, h8, q7, hf2⟩ := bd2_el hf
  replace hf := hf2
  clear hf2
  refine V.callVL dX12_pictures_10 ml_X12_280 mo_X12_givesLong mv_X12_givesLong rfl (fun q hq => by cases hq; rfl) (by decide) (Or.inl ⟨rfl, SHL_lt rfl⟩) (th_X12_givesLong (srh5.ly ly) q7) rfl rfl ⟨Nat.le_of_ble_eq_true rfl, Nat.le_of_ble_eq_true rfl, fun _ => ⟨rfl, rfl⟩⟩ (Nat.le_of_ble_eq_true rfl) rfl (post_L (fun sq => ?_))
  have srh8 : SR h h8 := srh5.trans sq
  clear sq q7
  refine V.lreturn dX12_pictures_13 rfl ⟨rfl, rfl⟩ ly.1 ?_
  exact ret_L hf srh8
set_option maxRecDepth 100000 in
theorem th_X12_tries_46 {h0 : HP} (ly : Lay h0) {hh : HP}  : ∀ (n : Nat) (l1 : Int32) (l2 : Int32) (l3 : Int32) (l4 : Int32) (l5 : Int32) (l6 : Int32) (h : HP), SR h0 h → f_X12_tries_46 n l1 l2 l3 l4 l5 l6 h = some hh → V cX12_tries miX12_tries (ZV h0 miX12_tries hh) 130 46 [.ref 113, .int l1, .int l2, .int l3, .int l4, .int l5, .int l6] [] h := by
  intro n
  induction n with
  | zero => intro l1 l2 l3 l4 l5 l6 h srh hf; exact absurd hf (by unfold f_X12_tries_46; simp)
  | succ n ih =>
    intro l1 l2 l3 l4 l5 l6 h srh hf
    unfold f_X12_tries_46 at hf
    refine V.iload dX12_tries_46 rfl ?_
    refine V.iload dX12_tries_48 rfl ?_
    refine V.icmp_ge (tgt := 74) dX12_tries_50 (by decide) (fun c6 => ?_) (fun c6 => ?_)
    · replace hf := ite_p hf c6
      refine V.iload dX12_tries_74 rfl ?_
      refine V.iload_n dX12_tries_76 rfl rfl ?_
      refine V.iand dX12_tries_77 ?_
      refine V.if_ne (tgt := 82) dX12_tries_78 (by decide) (fun c7 => ?_) (fun c7 => ?_)
      · replace hf := ite_n hf c7
        refine V.aload_n dX12_tries_82 rfl rfl rfl ?_
        refine V.iload_n dX12_tries_83 rfl rfl ?_
        refine V.putI dX12_tries_84 fl_X12_360 rfl (Or.inl ⟨rfl, SHL_lt rfl⟩) rfl (fun q hq => by cases hq; rfl) ⟨rfl, rfl⟩ ?_
        refine V.nameH (fun g8 eg8 => ?_)
        replace hf := lt_el hf g8 eg8
        have srg8 : SR h0 g8 := by rw [eg8]; exact srh.I _ _ _
        refine V.aload_n dX12_tries_87 rfl rfl rfl ?_
        refine V.iload_n dX12_tries_88 rfl rfl ?_
        refine V.putI dX12_tries_89 fl_X12_363 rfl (Or.inl ⟨rfl, SHL_lt rfl⟩) rfl (fun q hq => by cases hq; rfl) ⟨rfl, rfl⟩ ?_
        refine V.nameH (fun g9 eg9 => ?_)
        replace hf := lt_el hf g9 eg9
        have srg9 : SR h0 g9 := by rw [eg9]; exact srg8.I _ _ _
        refine V.vreturn' dX12_tries_92 rfl ly.1 (Or.inl ⟨rfl, rfl⟩) ?_
        exact ret_V hf srg9
      · replace hf := ite_p hf c7
        refine V.vreturn' dX12_tries_81 rfl ly.1 (Or.inl ⟨rfl, rfl⟩) ?_
        exact ret_V hf srh
    · replace hf := ite_n hf c6
      refine V.aload_n dX12_tries_53 rfl rfl rfl ?_
      refine V.iload dX12_tries_54 rfl ?_
      refine V.aload_n dX12_tries_56 rfl rfl rfl ?_
      refine V.getR (r := 114) dX12_tries_57 fl_X12_7 rfl (Or.inl ⟨rfl, SHL_lt rfl⟩) rfl (ly_113_0 (srh.ly ly)) ?_
      refine V.bipush (v := 10) dX12_tries_60 rfl ?_
      refine V.iaload dX12_tries_62 rfl (Or.inl ⟨rfl, SHL_lt rfl⟩) (vp_lit (by decide)) ?_
      rw [show Int32.toNatClampNeg 10 = 10 from rfl]
      obtain ⟨r12, h11, q10, hf2⟩ := bd2_el hf
      replace hf := hf2
      clear hf2
      refine V.callVI dX12_tries_63 ml_X12_274 mo_X12_becomes mv_X12_becomes rfl (fun q hq => by cases hq; rfl) (by decide) (Or.inl ⟨rfl, SHL_lt rfl⟩) (th_X12_becomes (srh.ly ly) q10) rfl rfl ⟨Nat.le_of_ble_eq_true rfl, Nat.le_of_ble_eq_true rfl, fun _ => ⟨rfl, rfl⟩⟩ (Nat.le_of_ble_eq_true rfl) rfl (post_I (fun sq => ?_))
      have srh11 : SR h0 h11 := srh.trans sq
      clear sq q10
      refine V.istore (ls' := [.ref 113, .int l1, .int l2, .int l3, .int l4, .int r12, .int l6]) dX12_tries_66 (by decide) rfl ?_
      obtain ⟨x13, ex13⟩ : ∃ y : Int32, y = l6 + 1 := ⟨_, rfl⟩
      replace hf := lt_el hf x13 ex13
      refine V.iinc (v := x13) (ls' := [.ref 113, .int l1, .int l2, .int l3, .int l4, .int r12, .int x13]) dX12_tries_68 rfl (by decide) ex13.symm rfl ?_
      refine V.goto (tgt := 46) dX12_tries_71 (by decide) ?_
      exact ih l1 l2 l3 l4 r12 x13 h11 srh11 hf
set_option maxRecDepth 100000 in
theorem th_X12_tries_33 {h0 : HP} (ly : Lay h0) {hh : HP}  : ∀ (l1 : Int32) (l2 : Int32) (l3 : Int32) (l4 : Int32) (h : HP), SR h0 h → f_X12_tries_33 l1 l2 l3 l4 h = some hh → V cX12_tries miX12_tries (ZV h0 miX12_tries hh) 130 33 [.ref 113, .int l1, .int l2, .int l3, .int l4, .null, .null] [] h := by
  intro l1 l2 l3 l4 h srh hf
  unfold f_X12_tries_33 at hf
  refine V.aload_n dX12_tries_33 rfl rfl rfl ?_
  refine V.getR (r := 114) dX12_tries_34 fl_X12_7 rfl (Or.inl ⟨rfl, SHL_lt rfl⟩) rfl (ly_113_0 (srh.ly ly)) ?_
  refine V.iconst (v := 3) dX12_tries_37 rfl ?_
  refine V.iaload dX12_tries_38 rfl (Or.inl ⟨rfl, SHL_lt rfl⟩) (vp_lit (by decide)) ?_
  rw [show Int32.toNatClampNeg 3 = 3 from rfl]
  refine V.iload_n dX12_tries_39 rfl rfl ?_
  refine V.ixor dX12_tries_40 ?_
  refine V.nmi (fun x5 ex5 => ?_)
  replace hf := lt_el hf x5 ex5
  refine V.istore (ls' := [.ref 113, .int l1, .int l2, .int l3, .int l4, .int x5, .null]) dX12_tries_41 (by decide) rfl ?_
  refine V.iconst (v := 0) dX12_tries_43 rfl ?_
  refine V.istore (ls' := [.ref 113, .int l1, .int l2, .int l3, .int l4, .int x5, .int 0]) dX12_tries_44 (by decide) rfl ?_
  exact th_X12_tries_46 ly FU l1 l2 l3 l4 x5 0 h srh hf
set_option maxRecDepth 100000 in
theorem th_X12_tries {h : HP} (ly : Lay h) {a1 : Int32} {a2 : Int32} {a3 : Int32} {a4 : Int32} {hh : HP} (hf : f_X12_tries h a1 a2 a3 a4 = some hh) : Spec yX12_tries cX12_tries miX12_tries [.ref 113, .int a1, .int a2, .int a3, .int a4] h (pV fun h' => h' = hh ∧ SR h hh) := by
  refine Spec.of (ls0 := [.ref 113, .int a1, .int a2, .int a3, .int a4, .null, .null]) mo_X12_tries (Nat.le_of_ble_eq_true rfl) rfl ?_
  rw [ly.1]
  have srh : SR h h := SR.refl h
  unfold f_X12_tries at hf
  refine V.aload_n dX12_tries_0 rfl rfl rfl ?_
  refine V.getI dX12_tries_1 fl_X12_360 rfl (Or.inl ⟨rfl, SHL_lt rfl⟩) rfl rfl ?_
  refine V.iconst (v := (-1)) dX12_tries_4 rfl ?_
  refine V.icmp_eq (tgt := 33) dX12_tries_5 (by decide) (fun c1 => ?_) (fun c1 => ?_)
  · replace hf := ite_p hf c1
    exact th_X12_tries_33 ly a1 a2 a3 a4 h srh hf
  · replace hf := ite_n hf c1
    refine V.iload_n dX12_tries_8 rfl rfl ?_
    refine V.aload_n dX12_tries_9 rfl rfl rfl ?_
    refine V.getI dX12_tries_10 fl_X12_363 rfl (Or.inl ⟨rfl, SHL_lt rfl⟩) rfl rfl ?_
    refine V.icmp_gt (tgt := 32) dX12_tries_13 (by decide) (fun c2 => ?_) (fun c2 => ?_)
    · replace hf := ite_p hf c2
      refine V.vreturn' dX12_tries_32 rfl ly.1 (Or.inl ⟨rfl, rfl⟩) ?_
      exact ret_V hf srh
    · replace hf := ite_n hf c2
      refine V.iload_n dX12_tries_16 rfl rfl ?_
      refine V.aload_n dX12_tries_17 rfl rfl rfl ?_
      refine V.getI dX12_tries_18 fl_X12_363 rfl (Or.inl ⟨rfl, SHL_lt rfl⟩) rfl rfl ?_
      refine V.icmp_ne (tgt := 33) dX12_tries_21 (by decide) (fun c3 => ?_) (fun c3 => ?_)
      · replace hf := ite_n hf c3
        exact th_X12_tries_33 ly a1 a2 a3 a4 h srh hf
      · replace hf := ite_p hf c3
        refine V.iload_n dX12_tries_24 rfl rfl ?_
        refine V.aload_n dX12_tries_25 rfl rfl rfl ?_
        refine V.getI dX12_tries_26 fl_X12_360 rfl (Or.inl ⟨rfl, SHL_lt rfl⟩) rfl rfl ?_
        refine V.icmp_lt (tgt := 33) dX12_tries_29 (by decide) (fun c4 => ?_) (fun c4 => ?_)
        · replace hf := ite_p hf c4
          exact th_X12_tries_33 ly a1 a2 a3 a4 h srh hf
        · replace hf := ite_n hf c4
          refine V.vreturn' dX12_tries_32 rfl ly.1 (Or.inl ⟨rfl, rfl⟩) ?_
          exact ret_V hf srh
set_option maxRecDepth 100000 in
theorem th_X12_signal_167 {h0 : HP} (ly : Lay h0) {rr : Int32} {hh : HP} {K122 : Int32 → Int32 → Int32 → Int32 → Int32 → Int32 → HP → Option (Int32 × HP)} (kok122 : ∀ (l3 : Int32) (l4 : Int32) (l6 : Int32) (l7 : Int32) (l8 : Int32) (l9 : Int32) (g : HP), SR h0 g → K122 l3 l4 l6 l7 l8 l9 g = some (rr, hh) → V cX12_signal miX12_signal (ZI h0 miX12_signal rr hh) 130 122 [.ref 113, .null, .null, .int l3, .int l4, .null, .int l6, .int l7, .int l8, .int l9, .null] [] g) : ∀ (n : Nat) (l3 : Int32) (l4 : Int32) (l6 : Int32) (l7 : Int32) (l8 : Int32) (l9 : Int32) (l10 : Int32) (h : HP), SR h0 h → f_X12_signal_167 K122 n l3 l4 l6 l7 l8 l9 l10 h = some (rr, hh) → V cX12_signal miX12_signal (ZI h0 miX12_signal rr hh) 130 167 [.ref 113, .null, .null, .int l3, .int l4, .null, .int l6, .int l7, .int l8, .int l9, .int l10] [] h := by
  intro n
  induction n with
  | zero => intro l3 l4 l6 l7 l8 l9 l10 h srh hf; exact absurd hf (by unfold f_X12_signal_167; simp)
  | succ n ih =>
    intro l3 l4 l6 l7 l8 l9 l10 h srh hf
    unfold f_X12_signal_167 at hf
    refine V.iload dX12_signal_167 rfl ?_
    refine V.aload_n dX12_signal_169 rfl rfl rfl ?_
    obtain ⟨r57, h56, q55, hf2⟩ := bd2_el hf
    replace hf := hf2
    clear hf2
    refine V.callVI dX12_signal_170 ml_X12_262 mo_X12_places mv_X12_places rfl (fun q hq => by cases hq; rfl) (by decide) (Or.inl ⟨rfl, SHL_lt rfl⟩) (th_X12_places (srh.ly ly) q55) rfl rfl ⟨Nat.le_of_ble_eq_true rfl, Nat.le_of_ble_eq_true rfl, fun _ => ⟨rfl, rfl⟩⟩ (Nat.le_of_ble_eq_true rfl) rfl (post_I (fun sq => ?_))
    have srh56 : SR h0 h56 := srh.trans sq
    clear sq q55
    refine V.icmp_ge (tgt := 215) dX12_signal_173 (by decide) (fun c58 => ?_) (fun c58 => ?_)
    · replace hf := ite_p hf c58
      obtain ⟨x59, ex59⟩ : ∃ y : Int32, y = l9 + 1 := ⟨_, rfl⟩
      replace hf := lt_el hf x59 ex59
      refine V.iinc (v := x59) (ls' := [.ref 113, .null, .null, .int l3, .int l4, .null, .int l6, .int l7, .int l8, .int x59, .int l10]) dX12_signal_215 rfl (by decide) ex59.symm rfl ?_
      refine V.goto (tgt := 122) dX12_signal_218 (by decide) ?_
      refine V.less (ls' := [.ref 113, .null, .null, .int l3, .int l4, .null, .int l6, .int l7, .int l8, .int x59, .null]) ⟨Or.inr rfl, Or.inl rfl, Or.inl rfl, Or.inr rfl, Or.inr rfl, Or.inl rfl, Or.inr rfl, Or.inr rfl, Or.inr rfl, Or.inr rfl, Or.inl rfl, trivial⟩ ?_
      exact kok122 l3 l4 l6 l7 l8 x59 h56 srh56 hf
    · replace hf := ite_n hf c58
      refine V.iload dX12_signal_176 rfl ?_
      refine V.iload dX12_signal_178 rfl ?_
      refine V.ishr dX12_signal_180 ?_
      refine V.iconst (v := 1) dX12_signal_181 rfl ?_
      refine V.iand dX12_signal_182 ?_
      refine V.iconst (v := 1) dX12_signal_183 rfl ?_
      refine V.icmp_ne (tgt := 209) dX12_signal_184 (by decide) (fun c60 => ?_) (fun c60 => ?_)
      · replace hf := ite_n hf c60
        obtain ⟨x61, ex61⟩ : ∃ y : Int32, y = l10 + 1 := ⟨_, rfl⟩
        replace hf := lt_el hf x61 ex61
        refine V.iinc (v := x61) (ls' := [.ref 113, .null, .null, .int l3, .int l4, .null, .int l6, .int l7, .int l8, .int l9, .int x61]) dX12_signal_209 rfl (by decide) ex61.symm rfl ?_
        refine V.goto (tgt := 167) dX12_signal_212 (by decide) ?_
        exact ih l3 l4 l6 l7 l8 l9 x61 h56 srh56 hf
      · replace hf := ite_p hf c60
        refine V.aload_n dX12_signal_187 rfl rfl rfl ?_
        refine V.iconst (v := 1) dX12_signal_188 rfl ?_
        refine V.iload dX12_signal_189 rfl ?_
        refine V.ishl dX12_signal_191 ?_
        refine V.iconst (v := 1) dX12_signal_192 rfl ?_
        refine V.iload dX12_signal_193 rfl ?_
        refine V.ishl dX12_signal_195 ?_
        refine V.ior dX12_signal_196 ?_
        refine V.iconst (v := 1) dX12_signal_197 rfl ?_
        refine V.iload dX12_signal_198 rfl ?_
        refine V.ishl dX12_signal_200 ?_
        refine V.ior dX12_signal_201 ?_
        refine V.iconst (v := 3) dX12_signal_202 rfl ?_
        refine V.iload dX12_signal_203 rfl ?_
        refine V.iload_n dX12_signal_205 rfl rfl ?_
        obtain ⟨h63, q62, hf2⟩ := bd_el hf
        replace hf := hf2
        clear hf2
        refine V.callVV dX12_signal_206 ml_X12_368 mo_X12_tries mv_X12_tries rfl (fun q hq => by cases hq; rfl) (by decide) (Or.inl ⟨rfl, SHL_lt rfl⟩) (th_X12_tries (srh56.ly ly) q62) rfl rfl ⟨Nat.le_of_ble_eq_true rfl, Nat.le_of_ble_eq_true rfl, fun _ => ⟨rfl, rfl⟩⟩ (Nat.le_of_ble_eq_true rfl) (Or.inl rfl) (post_V (fun sq => ?_))
        have srh63 : SR h0 h63 := srh56.trans sq
        clear sq q62
        obtain ⟨x64, ex64⟩ : ∃ y : Int32, y = l10 + 1 := ⟨_, rfl⟩
        replace hf := lt_el hf x64 ex64
        refine V.iinc (v := x64) (ls' := [.ref 113, .null, .null, .int l3, .int l4, .null, .int l6, .int l7, .int l8, .int l9, .int x64]) dX12_signal_209 rfl (by decide) ex64.symm rfl ?_
        refine V.goto (tgt := 167) dX12_signal_212 (by decide) ?_
        exact ih l3 l4 l6 l7 l8 l9 x64 h63 srh63 hf
set_option maxRecDepth 100000 in
theorem th_X12_signal_122 {h0 : HP} (ly : Lay h0) {rr : Int32} {hh : HP} {K82 : Int32 → Int32 → Int32 → Int32 → Int32 → HP → Option (Int32 × HP)} (kok82 : ∀ (l3 : Int32) (l4 : Int32) (l6 : Int32) (l7 : Int32) (l8 : Int32) (g : HP), SR h0 g → K82 l3 l4 l6 l7 l8 g = some (rr, hh) → V cX12_signal miX12_signal (ZI h0 miX12_signal rr hh) 130 82 [.ref 113, .null, .null, .int l3, .int l4, .null, .int l6, .int l7, .int l8, .null, .null] [] g) : ∀ (n : Nat) (l3 : Int32) (l4 : Int32) (l6 : Int32) (l7 : Int32) (l8 : Int32) (l9 : Int32) (h : HP), SR h0 h → f_X12_signal_122 K82 n l3 l4 l6 l7 l8 l9 h = some (rr, hh) → V cX12_signal miX12_signal (ZI h0 miX12_signal rr hh) 130 122 [.ref 113, .null, .null, .int l3, .int l4, .null, .int l6, .int l7, .int l8, .int l9, .null] [] h := by
  intro n
  induction n with
  | zero => intro l3 l4 l6 l7 l8 l9 h srh hf; exact absurd hf (by unfold f_X12_signal_122; simp)
  | succ n ih =>
    intro l3 l4 l6 l7 l8 l9 h srh hf
    unfold f_X12_signal_122 at hf
    refine V.iload dX12_signal_122 rfl ?_
    refine V.aload_n dX12_signal_124 rfl rfl rfl ?_
    obtain ⟨r47, h46, q45, hf2⟩ := bd2_el hf
    replace hf := hf2
    clear hf2
    refine V.callVI dX12_signal_125 ml_X12_262 mo_X12_places mv_X12_places rfl (fun q hq => by cases hq; rfl) (by decide) (Or.inl ⟨rfl, SHL_lt rfl⟩) (th_X12_places (srh.ly ly) q45) rfl rfl ⟨Nat.le_of_ble_eq_true rfl, Nat.le_of_ble_eq_true rfl, fun _ => ⟨rfl, rfl⟩⟩ (Nat.le_of_ble_eq_true rfl) rfl (post_I (fun sq => ?_))
    have srh46 : SR h0 h46 := srh.trans sq
    clear sq q45
    refine V.icmp_ge (tgt := 221) dX12_signal_128 (by decide) (fun c48 => ?_) (fun c48 => ?_)
    · replace hf := ite_p hf c48
      obtain ⟨x49, ex49⟩ : ∃ y : Int32, y = l8 + 1 := ⟨_, rfl⟩
      replace hf := lt_el hf x49 ex49
      refine V.iinc (v := x49) (ls' := [.ref 113, .null, .null, .int l3, .int l4, .null, .int l6, .int l7, .int x49, .int l9, .null]) dX12_signal_221 rfl (by decide) ex49.symm rfl ?_
      refine V.goto (tgt := 82) dX12_signal_224 (by decide) ?_
      refine V.less (ls' := [.ref 113, .null, .null, .int l3, .int l4, .null, .int l6, .int l7, .int x49, .null, .null]) ⟨Or.inr rfl, Or.inl rfl, Or.inl rfl, Or.inr rfl, Or.inr rfl, Or.inl rfl, Or.inr rfl, Or.inr rfl, Or.inr rfl, Or.inl rfl, Or.inl rfl, trivial⟩ ?_
      exact kok82 l3 l4 l6 l7 x49 h46 srh46 hf
    · replace hf := ite_n hf c48
      refine V.iload dX12_signal_131 rfl ?_
      refine V.iload dX12_signal_133 rfl ?_
      refine V.ishr dX12_signal_135 ?_
      refine V.iconst (v := 1) dX12_signal_136 rfl ?_
      refine V.iand dX12_signal_137 ?_
      refine V.if_ne (tgt := 144) dX12_signal_138 (by decide) (fun c50 => ?_) (fun c50 => ?_)
      · replace hf := ite_n hf c50
        refine V.aload_n dX12_signal_144 rfl rfl rfl ?_
        refine V.iconst (v := 1) dX12_signal_145 rfl ?_
        refine V.iload dX12_signal_146 rfl ?_
        refine V.ishl dX12_signal_148 ?_
        refine V.iconst (v := 1) dX12_signal_149 rfl ?_
        refine V.iload dX12_signal_150 rfl ?_
        refine V.ishl dX12_signal_152 ?_
        refine V.ior dX12_signal_153 ?_
        refine V.iconst (v := 2) dX12_signal_154 rfl ?_
        refine V.iload dX12_signal_155 rfl ?_
        refine V.iload_n dX12_signal_157 rfl rfl ?_
        obtain ⟨h52, q51, hf2⟩ := bd_el hf
        replace hf := hf2
        clear hf2
        refine V.callVV dX12_signal_158 ml_X12_368 mo_X12_tries mv_X12_tries rfl (fun q hq => by cases hq; rfl) (by decide) (Or.inl ⟨rfl, SHL_lt rfl⟩) (th_X12_tries (srh46.ly ly) q51) rfl rfl ⟨Nat.le_of_ble_eq_true rfl, Nat.le_of_ble_eq_true rfl, fun _ => ⟨rfl, rfl⟩⟩ (Nat.le_of_ble_eq_true rfl) (Or.inl rfl) (post_V (fun sq => ?_))
        have srh52 : SR h0 h52 := srh46.trans sq
        clear sq q51
        refine V.iload dX12_signal_161 rfl ?_
        refine V.iconst (v := 1) dX12_signal_163 rfl ?_
        refine V.iadd dX12_signal_164 ?_
        refine V.nmi (fun x53 ex53 => ?_)
        replace hf := lt_el hf x53 ex53
        refine V.istore (ls' := [.ref 113, .null, .null, .int l3, .int l4, .null, .int l6, .int l7, .int l8, .int l9, .int x53]) dX12_signal_165 (by decide) rfl ?_
        exact th_X12_signal_167 ly ih FU l3 l4 l6 l7 l8 l9 x53 h52 srh52 hf
      · replace hf := ite_p hf c50
        refine V.goto (tgt := 215) dX12_signal_141 (by decide) ?_
        obtain ⟨x54, ex54⟩ : ∃ y : Int32, y = l9 + 1 := ⟨_, rfl⟩
        replace hf := lt_el hf x54 ex54
        refine V.iinc (v := x54) (ls' := [.ref 113, .null, .null, .int l3, .int l4, .null, .int l6, .int l7, .int l8, .int x54, .null]) dX12_signal_215 rfl (by decide) ex54.symm rfl ?_
        refine V.goto (tgt := 122) dX12_signal_218 (by decide) ?_
        exact ih l3 l4 l6 l7 l8 x54 h46 srh46 hf
set_option maxRecDepth 100000 in
theorem th_X12_signal_82 {h0 : HP} (ly : Lay h0) {rr : Int32} {hh : HP}  : ∀ (n : Nat) (l3 : Int32) (l4 : Int32) (l6 : Int32) (l7 : Int32) (l8 : Int32) (h : HP), SR h0 h → f_X12_signal_82 n l3 l4 l6 l7 l8 h = some (rr, hh) → V cX12_signal miX12_signal (ZI h0 miX12_signal rr hh) 130 82 [.ref 113, .null, .null, .int l3, .int l4, .null, .int l6, .int l7, .int l8, .null, .null] [] h := by
  intro n
  induction n with
  | zero => intro l3 l4 l6 l7 l8 h srh hf; exact absurd hf (by unfold f_X12_signal_82; simp)
  | succ n ih =>
    intro l3 l4 l6 l7 l8 h srh hf
    unfold f_X12_signal_82 at hf
    refine V.iload dX12_signal_82 rfl ?_
    refine V.aload_n dX12_signal_84 rfl rfl rfl ?_
    obtain ⟨r27, h26, q25, hf2⟩ := bd2_el hf
    replace hf := hf2
    clear hf2
    refine V.callVI dX12_signal_85 ml_X12_262 mo_X12_places mv_X12_places rfl (fun q hq => by cases hq; rfl) (by decide) (Or.inl ⟨rfl, SHL_lt rfl⟩) (th_X12_places (srh.ly ly) q25) rfl rfl ⟨Nat.le_of_ble_eq_true rfl, Nat.le_of_ble_eq_true rfl, fun _ => ⟨rfl, rfl⟩⟩ (Nat.le_of_ble_eq_true rfl) rfl (post_I (fun sq => ?_))
    have srh26 : SR h0 h26 := srh.trans sq
    clear sq q25
    refine V.icmp_ge (tgt := 227) dX12_signal_88 (by decide) (fun c28 => ?_) (fun c28 => ?_)
    · replace hf := ite_p hf c28
      refine V.aload_n dX12_signal_227 rfl rfl rfl ?_
      refine V.getI dX12_signal_228 fl_X12_360 rfl (Or.inl ⟨rfl, SHL_lt rfl⟩) rfl rfl ?_
      refine V.iconst (v := (-1)) dX12_signal_231 rfl ?_
      refine V.icmp_ne (tgt := 244) dX12_signal_232 (by decide) (fun c29 => ?_) (fun c29 => ?_)
      · replace hf := ite_n hf c29
        refine V.aload_n dX12_signal_244 rfl rfl rfl ?_
        refine V.iload dX12_signal_245 rfl ?_
        refine V.if_ne (tgt := 257) dX12_signal_247 (by decide) (fun c30 => ?_) (fun c30 => ?_)
        · replace hf := ite_n hf c30
          refine V.aload_n dX12_signal_257 rfl rfl rfl ?_
          refine V.getI dX12_signal_258 fl_X12_360 rfl (Or.inl ⟨rfl, SHL_lt rfl⟩) rfl rfl ?_
          obtain ⟨r33, h32, q31, hf2⟩ := bd2_el hf
          replace hf := hf2
          clear hf2
          refine V.callVI dX12_signal_261 ml_X12_85 mo_X12_gives mv_X12_gives rfl (fun q hq => by cases hq; rfl) (by decide) (Or.inl ⟨rfl, SHL_lt rfl⟩) (th_X12_gives (srh26.ly ly) q31) rfl rfl ⟨Nat.le_of_ble_eq_true rfl, Nat.le_of_ble_eq_true rfl, fun _ => ⟨rfl, rfl⟩⟩ (Nat.le_of_ble_eq_true rfl) rfl (post_I (fun sq => ?_))
          have srh32 : SR h0 h32 := srh26.trans sq
          clear sq q31
          refine V.ireturn dX12_signal_264 rfl rfl ⟨rfl, rfl⟩ ly.1 ?_
          exact ret_I hf srh32
        · replace hf := ite_p hf c30
          refine V.aload_n dX12_signal_250 rfl rfl rfl ?_
          refine V.getI dX12_signal_251 fl_X12_363 rfl (Or.inl ⟨rfl, SHL_lt rfl⟩) rfl rfl ?_
          refine V.goto (tgt := 261) dX12_signal_254 (by decide) ?_
          obtain ⟨r36, h35, q34, hf2⟩ := bd2_el hf
          replace hf := hf2
          clear hf2
          refine V.callVI dX12_signal_261 ml_X12_85 mo_X12_gives mv_X12_gives rfl (fun q hq => by cases hq; rfl) (by decide) (Or.inl ⟨rfl, SHL_lt rfl⟩) (th_X12_gives (srh26.ly ly) q34) rfl rfl ⟨Nat.le_of_ble_eq_true rfl, Nat.le_of_ble_eq_true rfl, fun _ => ⟨rfl, rfl⟩⟩ (Nat.le_of_ble_eq_true rfl) rfl (post_I (fun sq => ?_))
          have srh35 : SR h0 h35 := srh26.trans sq
          clear sq q34
          refine V.ireturn dX12_signal_264 rfl rfl ⟨rfl, rfl⟩ ly.1 ?_
          exact ret_I hf srh35
      · replace hf := ite_p hf c29
        refine V.aload_n dX12_signal_235 rfl rfl rfl ?_
        refine V.bipush (v := 6) dX12_signal_236 rfl ?_
        obtain ⟨r39, h38, q37, hf2⟩ := bd2_el hf
        replace hf := hf2
        clear hf2
        refine V.callVI dX12_signal_238 ml_X12_81 mo_X12_refuse mv_X12_refuse rfl (fun q hq => by cases hq; rfl) (by decide) (Or.inl ⟨rfl, SHL_lt rfl⟩) (th_X12_refuse (srh26.ly ly) q37) rfl rfl ⟨Nat.le_of_ble_eq_true rfl, Nat.le_of_ble_eq_true rfl, fun _ => ⟨rfl, rfl⟩⟩ (Nat.le_of_ble_eq_true rfl) rfl (post_I (fun sq => ?_))
        have srh38 : SR h0 h38 := srh26.trans sq
        clear sq q37
        refine V.goto (tgt := 264) dX12_signal_241 (by decide) ?_
        refine V.ireturn dX12_signal_264 rfl rfl ⟨rfl, rfl⟩ ly.1 ?_
        exact ret_I hf srh38
    · replace hf := ite_n hf c28
      refine V.iload dX12_signal_91 rfl ?_
      refine V.iload dX12_signal_93 rfl ?_
      refine V.ishr dX12_signal_95 ?_
      refine V.iconst (v := 1) dX12_signal_96 rfl ?_
      refine V.iand dX12_signal_97 ?_
      refine V.if_ne (tgt := 104) dX12_signal_98 (by decide) (fun c40 => ?_) (fun c40 => ?_)
      · replace hf := ite_n hf c40
        refine V.aload_n dX12_signal_104 rfl rfl rfl ?_
        refine V.iconst (v := 1) dX12_signal_105 rfl ?_
        refine V.iload dX12_signal_106 rfl ?_
        refine V.ishl dX12_signal_108 ?_
        refine V.iconst (v := 1) dX12_signal_109 rfl ?_
        refine V.iload dX12_signal_110 rfl ?_
        refine V.iload_n dX12_signal_112 rfl rfl ?_
        obtain ⟨h42, q41, hf2⟩ := bd_el hf
        replace hf := hf2
        clear hf2
        refine V.callVV dX12_signal_113 ml_X12_368 mo_X12_tries mv_X12_tries rfl (fun q hq => by cases hq; rfl) (by decide) (Or.inl ⟨rfl, SHL_lt rfl⟩) (th_X12_tries (srh26.ly ly) q41) rfl rfl ⟨Nat.le_of_ble_eq_true rfl, Nat.le_of_ble_eq_true rfl, fun _ => ⟨rfl, rfl⟩⟩ (Nat.le_of_ble_eq_true rfl) (Or.inl rfl) (post_V (fun sq => ?_))
        have srh42 : SR h0 h42 := srh26.trans sq
        clear sq q41
        refine V.iload dX12_signal_116 rfl ?_
        refine V.iconst (v := 1) dX12_signal_118 rfl ?_
        refine V.iadd dX12_signal_119 ?_
        refine V.nmi (fun x43 ex43 => ?_)
        replace hf := lt_el hf x43 ex43
        refine V.istore (ls' := [.ref 113, .null, .null, .int l3, .int l4, .null, .int l6, .int l7, .int l8, .int x43, .null]) dX12_signal_120 (by decide) rfl ?_
        exact th_X12_signal_122 ly ih FU l3 l4 l6 l7 l8 x43 h42 srh42 hf
      · replace hf := ite_p hf c40
        refine V.goto (tgt := 221) dX12_signal_101 (by decide) ?_
        obtain ⟨x44, ex44⟩ : ∃ y : Int32, y = l8 + 1 := ⟨_, rfl⟩
        replace hf := lt_el hf x44 ex44
        refine V.iinc (v := x44) (ls' := [.ref 113, .null, .null, .int l3, .int l4, .null, .int l6, .int l7, .int x44, .null, .null]) dX12_signal_221 rfl (by decide) ex44.symm rfl ?_
        refine V.goto (tgt := 82) dX12_signal_224 (by decide) ?_
        exact ih l3 l4 l6 l7 x44 h26 srh26 hf
set_option maxRecDepth 100000 in
theorem th_X12_signal_33 {h0 : HP} (ly : Lay h0) {rr : Int32} {hh : HP}  : ∀ (l1 : Int32) (l2 : Int32) (l3 : Int32) (l4 : Int32) (s0 : Int32) (h : HP), SR h0 h → f_X12_signal_33 l1 l2 l3 l4 s0 h = some (rr, hh) → V cX12_signal miX12_signal (ZI h0 miX12_signal rr hh) 130 33 [.ref 113, .int l1, .int l2, .int l3, .int l4, .null, .null, .null, .null, .null, .null] [.int s0] h := by
  intro l1 l2 l3 l4 s0 h srh hf
  unfold f_X12_signal_33 at hf
  refine V.istore (ls' := [.ref 113, .int l1, .int l2, .int l3, .int l4, .int s0, .null, .null, .null, .null, .null]) dX12_signal_33 (by decide) rfl ?_
  refine V.iload dX12_signal_35 rfl ?_
  refine V.if_le (tgt := 47) dX12_signal_37 (by decide) (fun c10 => ?_) (fun c10 => ?_)
  · replace hf := ite_p hf c10
    refine V.aload_n dX12_signal_47 rfl rfl rfl ?_
    obtain ⟨h12, q11, hf2⟩ := bd_el hf
    replace hf := hf2
    clear hf2
    refine V.callVV dX12_signal_48 ml_X12_271 mo_X12_laysNear mv_X12_laysNear rfl (fun q hq => by cases hq; rfl) (by decide) (Or.inl ⟨rfl, SHL_lt rfl⟩) (th_X12_laysNear (srh.ly ly) q11) rfl rfl ⟨Nat.le_of_ble_eq_true rfl, Nat.le_of_ble_eq_true rfl, fun _ => ⟨rfl, rfl⟩⟩ (Nat.le_of_ble_eq_true rfl) (Or.inl rfl) (post_V (fun sq => ?_))
    have srh12 : SR h0 h12 := srh.trans sq
    clear sq q11
    refine V.aload_n dX12_signal_51 rfl rfl rfl ?_
    refine V.iload_n dX12_signal_52 rfl rfl ?_
    refine V.iload_n dX12_signal_53 rfl rfl ?_
    obtain ⟨r15, h14, q13, hf2⟩ := bd2_el hf
    replace hf := hf2
    clear hf2
    refine V.callVI dX12_signal_54 ml_X12_256 mo_X12_bitOf mv_X12_bitOf rfl (fun q hq => by cases hq; rfl) (by decide) (Or.inl ⟨rfl, SHL_lt rfl⟩) (th_X12_bitOf (srh12.ly ly) q13) rfl rfl ⟨Nat.le_of_ble_eq_true rfl, Nat.le_of_ble_eq_true rfl, fun _ => ⟨rfl, rfl⟩⟩ (Nat.le_of_ble_eq_true rfl) rfl (post_I (fun sq => ?_))
    have srh14 : SR h0 h14 := srh12.trans sq
    clear sq q13
    refine V.istore (ls' := [.ref 113, .int l1, .int l2, .int l3, .int l4, .int s0, .int r15, .null, .null, .null, .null]) dX12_signal_57 (by decide) rfl ?_
    refine V.aload_n dX12_signal_59 rfl rfl rfl ?_
    obtain ⟨r18, h17, q16, hf2⟩ := bd2_el hf
    replace hf := hf2
    clear hf2
    refine V.callVI dX12_signal_60 ml_X12_268 mo_X12_free mv_X12_free rfl (fun q hq => by cases hq; rfl) (by decide) (Or.inl ⟨rfl, SHL_lt rfl⟩) (th_X12_free (srh14.ly ly) q16) rfl rfl ⟨Nat.le_of_ble_eq_true rfl, Nat.le_of_ble_eq_true rfl, fun _ => ⟨rfl, rfl⟩⟩ (Nat.le_of_ble_eq_true rfl) rfl (post_I (fun sq => ?_))
    have srh17 : SR h0 h17 := srh14.trans sq
    clear sq q16
    refine V.istore (ls' := [.ref 113, .int l1, .int l2, .int l3, .int l4, .int s0, .int r15, .int r18, .null, .null, .null]) dX12_signal_63 (by decide) rfl ?_
    refine V.aload_n dX12_signal_65 rfl rfl rfl ?_
    refine V.iconst (v := (-1)) dX12_signal_66 rfl ?_
    refine V.putI dX12_signal_67 fl_X12_360 rfl (Or.inl ⟨rfl, SHL_lt rfl⟩) rfl (fun q hq => by cases hq; rfl) ⟨rfl, rfl⟩ ?_
    refine V.nameH (fun g19 eg19 => ?_)
    replace hf := lt_el hf g19 eg19
    have srg19 : SR h0 g19 := by rw [eg19]; exact srh17.I _ _ _
    refine V.aload_n dX12_signal_70 rfl rfl rfl ?_
    refine V.iconst (v := 0) dX12_signal_71 rfl ?_
    refine V.iconst (v := 0) dX12_signal_72 rfl ?_
    refine V.iload dX12_signal_73 rfl ?_
    refine V.iload_n dX12_signal_75 rfl rfl ?_
    obtain ⟨h21, q20, hf2⟩ := bd_el hf
    replace hf := hf2
    clear hf2
    refine V.callVV dX12_signal_76 ml_X12_368 mo_X12_tries mv_X12_tries rfl (fun q hq => by cases hq; rfl) (by decide) (Or.inl ⟨rfl, SHL_lt rfl⟩) (th_X12_tries (srg19.ly ly) q20) rfl rfl ⟨Nat.le_of_ble_eq_true rfl, Nat.le_of_ble_eq_true rfl, fun _ => ⟨rfl, rfl⟩⟩ (Nat.le_of_ble_eq_true rfl) (Or.inl rfl) (post_V (fun sq => ?_))
    have srh21 : SR h0 h21 := srg19.trans sq
    clear sq q20
    refine V.iconst (v := 0) dX12_signal_79 rfl ?_
    refine V.istore (ls' := [.ref 113, .int l1, .int l2, .int l3, .int l4, .int s0, .int r15, .int r18, .int 0, .null, .null]) dX12_signal_80 (by decide) rfl ?_
    refine V.less (ls' := [.ref 113, .null, .null, .int l3, .int l4, .null, .int r15, .int r18, .int 0, .null, .null]) ⟨Or.inr rfl, Or.inl rfl, Or.inl rfl, Or.inr rfl, Or.inr rfl, Or.inl rfl, Or.inr rfl, Or.inr rfl, Or.inr rfl, Or.inl rfl, Or.inl rfl, trivial⟩ ?_
    exact th_X12_signal_82 ly FU l3 l4 r15 r18 0 h21 srh21 hf
  · replace hf := ite_n hf c10
    refine V.aload_n dX12_signal_40 rfl rfl rfl ?_
    refine V.iload dX12_signal_41 rfl ?_
    obtain ⟨r24, h23, q22, hf2⟩ := bd2_el hf
    replace hf := hf2
    clear hf2
    refine V.callVI dX12_signal_43 ml_X12_81 mo_X12_refuse mv_X12_refuse rfl (fun q hq => by cases hq; rfl) (by decide) (Or.inl ⟨rfl, SHL_lt rfl⟩) (th_X12_refuse (srh.ly ly) q22) rfl rfl ⟨Nat.le_of_ble_eq_true rfl, Nat.le_of_ble_eq_true rfl, fun _ => ⟨rfl, rfl⟩⟩ (Nat.le_of_ble_eq_true rfl) rfl (post_I (fun sq => ?_))
    have srh23 : SR h0 h23 := srh.trans sq
    clear sq q22
    refine V.ireturn dX12_signal_46 rfl rfl ⟨rfl, rfl⟩ ly.1 ?_
    exact ret_I hf srh23
set_option maxRecDepth 100000 in
theorem th_X12_signal {h : HP} (ly : Lay h) {a1 : Int32} {a2 : Int32} {a3 : Int32} {a4 : Int32} {rr : Int32} {hh : HP} (hf : f_X12_signal h a1 a2 a3 a4 = some (rr, hh)) : Spec yX12_signal cX12_signal miX12_signal [.ref 113, .int a1, .int a2, .int a3, .int a4] h (pI fun r' h' => (r' = rr ∧ h' = hh) ∧ SR h hh) := by
  refine Spec.of (ls0 := [.ref 113, .int a1, .int a2, .int a3, .int a4, .null, .null, .null, .null, .null, .null]) mo_X12_signal (Nat.le_of_ble_eq_true rfl) rfl ?_
  rw [ly.1]
  have srh : SR h h := SR.refl h
  unfold f_X12_signal at hf
  refine V.iload_n dX12_signal_0 rfl rfl ?_
  refine V.i2l dX12_signal_1 ?_
  refine V.lconst (v := 0) dX12_signal_2 rfl ?_
  refine V.ldc2 (v := 30) dX12_signal_3 kc_X12_366 ?_
  obtain ⟨r3, h2, q1, hf2⟩ := bd2_el hf
  replace hf := hf2
  clear hf2
  refine V.callSI dX12_signal_6 ml_X12_295 mo_X12_isFrom ms_X12_isFrom (th_X12_isFrom (srh.ly ly) q1) rfl rfl ⟨Nat.le_of_ble_eq_true rfl, Nat.le_of_ble_eq_true rfl, fun _ => ⟨rfl, rfl⟩⟩ (Nat.le_of_ble_eq_true rfl) rfl (post_I (fun sq => ?_))
  have srh2 : SR h h2 := srh.trans sq
  clear sq q1
  refine V.if_eq (tgt := 23) dX12_signal_9 (by decide) (fun c4 => ?_) (fun c4 => ?_)
  · replace hf := ite_p hf c4
    refine V.iconst (v := 1) dX12_signal_23 rfl ?_
    refine V.goto (tgt := 33) dX12_signal_24 (by decide) ?_
    exact th_X12_signal_33 ly a1 a2 a3 a4 1 h2 srh2 hf
  · replace hf := ite_n hf c4
    refine V.iload dX12_signal_12 rfl ?_
    refine V.if_lt (tgt := 23) dX12_signal_14 (by decide) (fun c5 => ?_) (fun c5 => ?_)
    · replace hf := ite_p hf c5
      refine V.iconst (v := 1) dX12_signal_23 rfl ?_
      refine V.goto (tgt := 33) dX12_signal_24 (by decide) ?_
      exact th_X12_signal_33 ly a1 a2 a3 a4 1 h2 srh2 hf
    · replace hf := ite_n hf c5
      refine V.iload dX12_signal_17 rfl ?_
      refine V.iconst (v := 1) dX12_signal_19 rfl ?_
      refine V.icmp_le (tgt := 27) dX12_signal_20 (by decide) (fun c6 => ?_) (fun c6 => ?_)
      · replace hf := ite_p hf c6
        refine V.aload_n dX12_signal_27 rfl rfl rfl ?_
        refine V.iload_n dX12_signal_28 rfl rfl ?_
        refine V.iload_n dX12_signal_29 rfl rfl ?_
        obtain ⟨r9, h8, q7, hf2⟩ := bd2_el hf
        replace hf := hf2
        clear hf2
        refine V.callVI dX12_signal_30 ml_X12_259 mo_X12_wrongHouse mv_X12_wrongHouse rfl (fun q hq => by cases hq; rfl) (by decide) (Or.inl ⟨rfl, SHL_lt rfl⟩) (th_X12_wrongHouse (srh2.ly ly) q7) rfl rfl ⟨Nat.le_of_ble_eq_true rfl, Nat.le_of_ble_eq_true rfl, fun _ => ⟨rfl, rfl⟩⟩ (Nat.le_of_ble_eq_true rfl) rfl (post_I (fun sq => ?_))
        have srh8 : SR h h8 := srh2.trans sq
        clear sq q7
        exact th_X12_signal_33 ly a1 a2 a3 a4 r9 h8 srh8 hf
      · replace hf := ite_n hf c6
        refine V.iconst (v := 1) dX12_signal_23 rfl ?_
        refine V.goto (tgt := 33) dX12_signal_24 (by decide) ?_
        exact th_X12_signal_33 ly a1 a2 a3 a4 1 h2 srh2 hf
set_option maxRecDepth 100000 in
theorem th_X12_spoilsBy {h : HP} (ly : Lay h) {a1 : Int32} {a2 : Int32} {rr : Int32} {hh : HP} (hf : f_X12_spoilsBy h a1 a2 = some (rr, hh)) : Spec yX12_spoilsBy cX12_spoilsBy miX12_spoilsBy [.ref 113, .int a1, .int a2] h (pI fun r' h' => (r' = rr ∧ h' = hh) ∧ SR h hh) := by
  refine Spec.of (ls0 := [.ref 113, .int a1, .int a2]) mo_X12_spoilsBy (Nat.le_of_ble_eq_true rfl) rfl ?_
  rw [ly.1]
  have srh : SR h h := SR.refl h
  unfold f_X12_spoilsBy at hf
  refine V.aload_n dX12_spoilsBy_0 rfl rfl rfl ?_
  refine V.aload_n dX12_spoilsBy_1 rfl rfl rfl ?_
  refine V.getR (r := 114) dX12_spoilsBy_2 fl_X12_7 rfl (Or.inl ⟨rfl, SHL_lt rfl⟩) rfl (ly_113_0 (srh.ly ly)) ?_
  refine V.iconst (v := 3) dX12_spoilsBy_5 rfl ?_
  refine V.iaload dX12_spoilsBy_6 rfl (Or.inl ⟨rfl, SHL_lt rfl⟩) (vp_lit (by decide)) ?_
  rw [show Int32.toNatClampNeg 3 = 3 from rfl]
  refine V.iload_n dX12_spoilsBy_7 rfl rfl ?_
  obtain ⟨r3, h2, q1, hf2⟩ := bd2_el hf
  replace hf := hf2
  clear hf2
  refine V.callVI dX12_spoilsBy_8 ml_X12_312 mo_X12_after mv_X12_after rfl (fun q hq => by cases hq; rfl) (by decide) (Or.inl ⟨rfl, SHL_lt rfl⟩) (th_X12_after (srh.ly ly) q1) rfl rfl ⟨Nat.le_of_ble_eq_true rfl, Nat.le_of_ble_eq_true rfl, fun _ => ⟨rfl, rfl⟩⟩ (Nat.le_of_ble_eq_true rfl) rfl (post_I (fun sq => ?_))
  have srh2 : SR h h2 := srh.trans sq
  clear sq q1
  refine V.aload_n dX12_spoilsBy_11 rfl rfl rfl ?_
  refine V.aload_n dX12_spoilsBy_12 rfl rfl rfl ?_
  refine V.getR (r := 114) dX12_spoilsBy_13 fl_X12_7 rfl (Or.inl ⟨rfl, SHL_lt rfl⟩) rfl (ly_113_0 (srh2.ly ly)) ?_
  refine V.iconst (v := 3) dX12_spoilsBy_16 rfl ?_
  refine V.iaload dX12_spoilsBy_17 rfl (Or.inl ⟨rfl, SHL_lt rfl⟩) (vp_lit (by decide)) ?_
  rw [show Int32.toNatClampNeg 3 = 3 from rfl]
  refine V.iload_n dX12_spoilsBy_18 rfl rfl ?_
  refine V.ixor dX12_spoilsBy_19 ?_
  refine V.iload_n dX12_spoilsBy_20 rfl rfl ?_
  obtain ⟨r6, h5, q4, hf2⟩ := bd2_el hf
  replace hf := hf2
  clear hf2
  refine V.callVI dX12_spoilsBy_21 ml_X12_312 mo_X12_after mv_X12_after rfl (fun q hq => by cases hq; rfl) (by decide) (Or.inl ⟨rfl, SHL_lt rfl⟩) (th_X12_after (srh2.ly ly) q4) rfl rfl ⟨Nat.le_of_ble_eq_true rfl, Nat.le_of_ble_eq_true rfl, fun _ => ⟨rfl, rfl⟩⟩ (Nat.le_of_ble_eq_true rfl) rfl (post_I (fun sq => ?_))
  have srh5 : SR h h5 := srh2.trans sq
  clear sq q4
  refine V.ixor dX12_spoilsBy_24 ?_
  obtain ⟨r9, h8, q7, hf2⟩ := bd2_el hf
  replace hf := hf2
  clear hf2
  refine V.callSI dX12_spoilsBy_25 ml_X12_226 mo_X12_bits ms_X12_bits (th_X12_bits (srh5.ly ly) q7) rfl rfl ⟨Nat.le_of_ble_eq_true rfl, Nat.le_of_ble_eq_true rfl, fun _ => ⟨rfl, rfl⟩⟩ (Nat.le_of_ble_eq_true rfl) rfl (post_I (fun sq => ?_))
  have srh8 : SR h h8 := srh5.trans sq
  clear sq q7
  refine V.ireturn dX12_spoilsBy_28 rfl rfl ⟨rfl, rfl⟩ ly.1 ?_
  exact ret_I hf srh8
set_option maxRecDepth 100000 in
theorem th_X12_spoils_22 {h0 : HP} (ly : Lay h0) {rr : Int32} {hh : HP}  : ∀ (l1 : Int32) (l2 : Int32) (l3 : Int32) (s0 : Int32) (h : HP), SR h0 h → f_X12_spoils_22 l1 l2 l3 s0 h = some (rr, hh) → V cX12_spoils miX12_spoils (ZI h0 miX12_spoils rr hh) 130 22 [.ref 113, .int l1, .int l2, .int l3, .null] [.int s0] h := by
  intro l1 l2 l3 s0 h srh hf
  unfold f_X12_spoils_22 at hf
  refine V.istore (ls' := [.ref 113, .int l1, .int l2, .int l3, .int s0]) dX12_spoils_22 (by decide) rfl ?_
  refine V.iload dX12_spoils_24 rfl ?_
  refine V.if_le (tgt := 38) dX12_spoils_26 (by decide) (fun c8 => ?_) (fun c8 => ?_)
  · replace hf := ite_p hf c8
    refine V.aload_n dX12_spoils_38 rfl rfl rfl ?_
    refine V.aload_n dX12_spoils_39 rfl rfl rfl ?_
    refine V.aload_n dX12_spoils_40 rfl rfl rfl ?_
    refine V.iload_n dX12_spoils_41 rfl rfl ?_
    refine V.iload_n dX12_spoils_42 rfl rfl ?_
    obtain ⟨r11, h10, q9, hf2⟩ := bd2_el hf
    replace hf := hf2
    clear hf2
    refine V.callVI dX12_spoils_43 ml_X12_256 mo_X12_bitOf mv_X12_bitOf rfl (fun q hq => by cases hq; rfl) (by decide) (Or.inl ⟨rfl, SHL_lt rfl⟩) (th_X12_bitOf (srh.ly ly) q9) rfl rfl ⟨Nat.le_of_ble_eq_true rfl, Nat.le_of_ble_eq_true rfl, fun _ => ⟨rfl, rfl⟩⟩ (Nat.le_of_ble_eq_true rfl) rfl (post_I (fun sq => ?_))
    have srh10 : SR h0 h10 := srh.trans sq
    clear sq q9
    refine V.iload_n dX12_spoils_46 rfl rfl ?_
    obtain ⟨r14, h13, q12, hf2⟩ := bd2_el hf
    replace hf := hf2
    clear hf2
    refine V.callVI dX12_spoils_47 ml_X12_372 mo_X12_spoilsBy mv_X12_spoilsBy rfl (fun q hq => by cases hq; rfl) (by decide) (Or.inl ⟨rfl, SHL_lt rfl⟩) (th_X12_spoilsBy (srh10.ly ly) q12) rfl rfl ⟨Nat.le_of_ble_eq_true rfl, Nat.le_of_ble_eq_true rfl, fun _ => ⟨rfl, rfl⟩⟩ (Nat.le_of_ble_eq_true rfl) rfl (post_I (fun sq => ?_))
    have srh13 : SR h0 h13 := srh10.trans sq
    clear sq q12
    obtain ⟨r17, h16, q15, hf2⟩ := bd2_el hf
    replace hf := hf2
    clear hf2
    refine V.callVI dX12_spoils_50 ml_X12_85 mo_X12_gives mv_X12_gives rfl (fun q hq => by cases hq; rfl) (by decide) (Or.inl ⟨rfl, SHL_lt rfl⟩) (th_X12_gives (srh13.ly ly) q15) rfl rfl ⟨Nat.le_of_ble_eq_true rfl, Nat.le_of_ble_eq_true rfl, fun _ => ⟨rfl, rfl⟩⟩ (Nat.le_of_ble_eq_true rfl) rfl (post_I (fun sq => ?_))
    have srh16 : SR h0 h16 := srh13.trans sq
    clear sq q15
    refine V.ireturn dX12_spoils_53 rfl rfl ⟨rfl, rfl⟩ ly.1 ?_
    exact ret_I hf srh16
  · replace hf := ite_n hf c8
    refine V.aload_n dX12_spoils_29 rfl rfl rfl ?_
    refine V.iload dX12_spoils_30 rfl ?_
    obtain ⟨r20, h19, q18, hf2⟩ := bd2_el hf
    replace hf := hf2
    clear hf2
    refine V.callVI dX12_spoils_32 ml_X12_81 mo_X12_refuse mv_X12_refuse rfl (fun q hq => by cases hq; rfl) (by decide) (Or.inl ⟨rfl, SHL_lt rfl⟩) (th_X12_refuse (srh.ly ly) q18) rfl rfl ⟨Nat.le_of_ble_eq_true rfl, Nat.le_of_ble_eq_true rfl, fun _ => ⟨rfl, rfl⟩⟩ (Nat.le_of_ble_eq_true rfl) rfl (post_I (fun sq => ?_))
    have srh19 : SR h0 h19 := srh.trans sq
    clear sq q18
    refine V.goto (tgt := 53) dX12_spoils_35 (by decide) ?_
    refine V.ireturn dX12_spoils_53 rfl rfl ⟨rfl, rfl⟩ ly.1 ?_
    exact ret_I hf srh19
set_option maxRecDepth 100000 in
theorem th_X12_spoils {h : HP} (ly : Lay h) {a1 : Int32} {a2 : Int32} {a3 : Int32} {rr : Int32} {hh : HP} (hf : f_X12_spoils h a1 a2 a3 = some (rr, hh)) : Spec yX12_spoils cX12_spoils miX12_spoils [.ref 113, .int a1, .int a2, .int a3] h (pI fun r' h' => (r' = rr ∧ h' = hh) ∧ SR h hh) := by
  refine Spec.of (ls0 := [.ref 113, .int a1, .int a2, .int a3, .null]) mo_X12_spoils (Nat.le_of_ble_eq_true rfl) rfl ?_
  rw [ly.1]
  have srh : SR h h := SR.refl h
  unfold f_X12_spoils at hf
  refine V.iload_n dX12_spoils_0 rfl rfl ?_
  refine V.i2l dX12_spoils_1 ?_
  refine V.lconst (v := 0) dX12_spoils_2 rfl ?_
  refine V.ldc2 (v := 30) dX12_spoils_3 kc_X12_366 ?_
  obtain ⟨r3, h2, q1, hf2⟩ := bd2_el hf
  replace hf := hf2
  clear hf2
  refine V.callSI dX12_spoils_6 ml_X12_295 mo_X12_isFrom ms_X12_isFrom (th_X12_isFrom (srh.ly ly) q1) rfl rfl ⟨Nat.le_of_ble_eq_true rfl, Nat.le_of_ble_eq_true rfl, fun _ => ⟨rfl, rfl⟩⟩ (Nat.le_of_ble_eq_true rfl) rfl (post_I (fun sq => ?_))
  have srh2 : SR h h2 := srh.trans sq
  clear sq q1
  refine V.if_ne (tgt := 16) dX12_spoils_9 (by decide) (fun c4 => ?_) (fun c4 => ?_)
  · replace hf := ite_n hf c4
    refine V.aload_n dX12_spoils_16 rfl rfl rfl ?_
    refine V.iload_n dX12_spoils_17 rfl rfl ?_
    refine V.iload_n dX12_spoils_18 rfl rfl ?_
    obtain ⟨r7, h6, q5, hf2⟩ := bd2_el hf
    replace hf := hf2
    clear hf2
    refine V.callVI dX12_spoils_19 ml_X12_290 mo_X12_wrongLamp mv_X12_wrongLamp rfl (fun q hq => by cases hq; rfl) (by decide) (Or.inl ⟨rfl, SHL_lt rfl⟩) (th_X12_wrongLamp (srh2.ly ly) q5) rfl rfl ⟨Nat.le_of_ble_eq_true rfl, Nat.le_of_ble_eq_true rfl, fun _ => ⟨rfl, rfl⟩⟩ (Nat.le_of_ble_eq_true rfl) rfl (post_I (fun sq => ?_))
    have srh6 : SR h h6 := srh2.trans sq
    clear sq q5
    exact th_X12_spoils_22 ly a1 a2 a3 r7 h6 srh6 hf
  · replace hf := ite_p hf c4
    refine V.iconst (v := 1) dX12_spoils_12 rfl ?_
    refine V.goto (tgt := 22) dX12_spoils_13 (by decide) ?_
    exact th_X12_spoils_22 ly a1 a2 a3 1 h2 srh2 hf
set_option maxRecDepth 100000 in
theorem th_X12_worst_35 {h0 : HP} (ly : Lay h0) {rr : Int32} {hh : HP}  : ∀ (n : Nat) (l1 : Int32) (l2 : Int32) (l3 : Int32) (l4 : Int32) (l5 : Int32) (h : HP), SR h0 h → f_X12_worst_35 n l1 l2 l3 l4 l5 h = some (rr, hh) → V cX12_worst miX12_worst (ZI h0 miX12_worst rr hh) 130 35 [.ref 113, .int l1, .int l2, .int l3, .int l4, .int l5, .null] [] h := by
  intro n
  induction n with
  | zero => intro l1 l2 l3 l4 l5 h srh hf; exact absurd hf (by unfold f_X12_worst_35; simp)
  | succ n ih =>
    intro l1 l2 l3 l4 l5 h srh hf
    unfold f_X12_worst_35 at hf
    refine V.iload dX12_worst_35 rfl ?_
    refine V.aload_n dX12_worst_37 rfl rfl rfl ?_
    obtain ⟨r18, h17, q16, hf2⟩ := bd2_el hf
    replace hf := hf2
    clear hf2
    refine V.callVI dX12_worst_38 ml_X12_262 mo_X12_places mv_X12_places rfl (fun q hq => by cases hq; rfl) (by decide) (Or.inl ⟨rfl, SHL_lt rfl⟩) (th_X12_places (srh.ly ly) q16) rfl rfl ⟨Nat.le_of_ble_eq_true rfl, Nat.le_of_ble_eq_true rfl, fun _ => ⟨rfl, rfl⟩⟩ (Nat.le_of_ble_eq_true rfl) rfl (post_I (fun sq => ?_))
    have srh17 : SR h0 h17 := srh.trans sq
    clear sq q16
    refine V.icmp_ge (tgt := 93) dX12_worst_41 (by decide) (fun c19 => ?_) (fun c19 => ?_)
    · replace hf := ite_p hf c19
      refine V.aload_n dX12_worst_93 rfl rfl rfl ?_
      refine V.iload_n dX12_worst_94 rfl rfl ?_
      refine V.if_ne (tgt := 102) dX12_worst_95 (by decide) (fun c20 => ?_) (fun c20 => ?_)
      · replace hf := ite_n hf c20
        refine V.iload dX12_worst_102 rfl ?_
        obtain ⟨r23, h22, q21, hf2⟩ := bd2_el hf
        replace hf := hf2
        clear hf2
        refine V.callVI dX12_worst_104 ml_X12_277 mo_X12_orNone mv_X12_orNone rfl (fun q hq => by cases hq; rfl) (by decide) (Or.inl ⟨rfl, SHL_lt rfl⟩) (th_X12_orNone (srh17.ly ly) q21) rfl rfl ⟨Nat.le_of_ble_eq_true rfl, Nat.le_of_ble_eq_true rfl, fun _ => ⟨rfl, rfl⟩⟩ (Nat.le_of_ble_eq_true rfl) rfl (post_I (fun sq => ?_))
        have srh22 : SR h0 h22 := srh17.trans sq
        clear sq q21
        refine V.ireturn dX12_worst_107 rfl rfl ⟨rfl, rfl⟩ ly.1 ?_
        exact ret_I hf srh22
      · replace hf := ite_p hf c20
        refine V.iload_n dX12_worst_98 rfl rfl ?_
        refine V.goto (tgt := 104) dX12_worst_99 (by decide) ?_
        obtain ⟨r26, h25, q24, hf2⟩ := bd2_el hf
        replace hf := hf2
        clear hf2
        refine V.callVI dX12_worst_104 ml_X12_277 mo_X12_orNone mv_X12_orNone rfl (fun q hq => by cases hq; rfl) (by decide) (Or.inl ⟨rfl, SHL_lt rfl⟩) (th_X12_orNone (srh17.ly ly) q24) rfl rfl ⟨Nat.le_of_ble_eq_true rfl, Nat.le_of_ble_eq_true rfl, fun _ => ⟨rfl, rfl⟩⟩ (Nat.le_of_ble_eq_true rfl) rfl (post_I (fun sq => ?_))
        have srh25 : SR h0 h25 := srh17.trans sq
        clear sq q24
        refine V.ireturn dX12_worst_107 rfl rfl ⟨rfl, rfl⟩ ly.1 ?_
        exact ret_I hf srh25
    · replace hf := ite_n hf c19
      refine V.aload_n dX12_worst_44 rfl rfl rfl ?_
      obtain ⟨r29, h28, q27, hf2⟩ := bd2_el hf
      replace hf := hf2
      clear hf2
      refine V.callVI dX12_worst_45 ml_X12_268 mo_X12_free mv_X12_free rfl (fun q hq => by cases hq; rfl) (by decide) (Or.inl ⟨rfl, SHL_lt rfl⟩) (th_X12_free (srh17.ly ly) q27) rfl rfl ⟨Nat.le_of_ble_eq_true rfl, Nat.le_of_ble_eq_true rfl, fun _ => ⟨rfl, rfl⟩⟩ (Nat.le_of_ble_eq_true rfl) rfl (post_I (fun sq => ?_))
      have srh28 : SR h0 h28 := srh17.trans sq
      clear sq q27
      refine V.iload dX12_worst_48 rfl ?_
      refine V.ishr dX12_worst_50 ?_
      refine V.iconst (v := 1) dX12_worst_51 rfl ?_
      refine V.iand dX12_worst_52 ?_
      refine V.if_ne (tgt := 59) dX12_worst_53 (by decide) (fun c30 => ?_) (fun c30 => ?_)
      · replace hf := ite_n hf c30
        refine V.aload_n dX12_worst_59 rfl rfl rfl ?_
        refine V.iconst (v := 1) dX12_worst_60 rfl ?_
        refine V.iload dX12_worst_61 rfl ?_
        refine V.ishl dX12_worst_63 ?_
        refine V.iload_n dX12_worst_64 rfl rfl ?_
        obtain ⟨r33, h32, q31, hf2⟩ := bd2_el hf
        replace hf := hf2
        clear hf2
        refine V.callVI dX12_worst_65 ml_X12_372 mo_X12_spoilsBy mv_X12_spoilsBy rfl (fun q hq => by cases hq; rfl) (by decide) (Or.inl ⟨rfl, SHL_lt rfl⟩) (th_X12_spoilsBy (srh28.ly ly) q31) rfl rfl ⟨Nat.le_of_ble_eq_true rfl, Nat.le_of_ble_eq_true rfl, fun _ => ⟨rfl, rfl⟩⟩ (Nat.le_of_ble_eq_true rfl) rfl (post_I (fun sq => ?_))
        have srh32 : SR h0 h32 := srh28.trans sq
        clear sq q31
        refine V.istore (ls' := [.ref 113, .int l1, .int l2, .int l3, .int l4, .int l5, .int r33]) dX12_worst_68 (by decide) rfl ?_
        refine V.iload dX12_worst_70 rfl ?_
        refine V.iload dX12_worst_72 rfl ?_
        refine V.icmp_gt (tgt := 80) dX12_worst_74 (by decide) (fun c34 => ?_) (fun c34 => ?_)
        · replace hf := ite_p hf c34
          refine V.iload dX12_worst_80 rfl ?_
          refine V.istore (ls' := [.ref 113, .int l1, .int l2, .int l3, .int r33, .int l5, .int r33]) dX12_worst_82 (by decide) rfl ?_
          refine V.iload dX12_worst_84 rfl ?_
          refine V.istore_n (ls' := [.ref 113, .int l1, .int l2, .int l5, .int r33, .int l5, .int r33]) dX12_worst_86 rfl (by decide) rfl ?_
          obtain ⟨x35, ex35⟩ : ∃ y : Int32, y = l5 + 1 := ⟨_, rfl⟩
          replace hf := lt_el hf x35 ex35
          refine V.iinc (v := x35) (ls' := [.ref 113, .int l1, .int l2, .int l5, .int r33, .int x35, .int r33]) dX12_worst_87 rfl (by decide) ex35.symm rfl ?_
          refine V.goto (tgt := 35) dX12_worst_90 (by decide) ?_
          refine V.less (ls' := [.ref 113, .int l1, .int l2, .int l5, .int r33, .int x35, .null]) ⟨Or.inr rfl, Or.inr rfl, Or.inr rfl, Or.inr rfl, Or.inr rfl, Or.inr rfl, Or.inl rfl, trivial⟩ ?_
          exact ih l1 l2 l5 r33 x35 h32 srh32 hf
        · replace hf := ite_n hf c34
          refine V.goto (tgt := 87) dX12_worst_77 (by decide) ?_
          obtain ⟨x36, ex36⟩ : ∃ y : Int32, y = l5 + 1 := ⟨_, rfl⟩
          replace hf := lt_el hf x36 ex36
          refine V.iinc (v := x36) (ls' := [.ref 113, .int l1, .int l2, .int l3, .int l4, .int x36, .int r33]) dX12_worst_87 rfl (by decide) ex36.symm rfl ?_
          refine V.goto (tgt := 35) dX12_worst_90 (by decide) ?_
          refine V.less (ls' := [.ref 113, .int l1, .int l2, .int l3, .int l4, .int x36, .null]) ⟨Or.inr rfl, Or.inr rfl, Or.inr rfl, Or.inr rfl, Or.inr rfl, Or.inr rfl, Or.inl rfl, trivial⟩ ?_
          exact ih l1 l2 l3 l4 x36 h32 srh32 hf
      · replace hf := ite_p hf c30
        refine V.goto (tgt := 87) dX12_worst_56 (by decide) ?_
        obtain ⟨x37, ex37⟩ : ∃ y : Int32, y = l5 + 1 := ⟨_, rfl⟩
        replace hf := lt_el hf x37 ex37
        refine V.iinc (v := x37) (ls' := [.ref 113, .int l1, .int l2, .int l3, .int l4, .int x37, .null]) dX12_worst_87 rfl (by decide) ex37.symm rfl ?_
        refine V.goto (tgt := 35) dX12_worst_90 (by decide) ?_
        exact ih l1 l2 l3 l4 x37 h28 srh28 hf
set_option maxRecDepth 100000 in
theorem th_X12_worst {h : HP} (ly : Lay h) {a1 : Int32} {a2 : Int32} {rr : Int32} {hh : HP} (hf : f_X12_worst h a1 a2 = some (rr, hh)) : Spec yX12_worst cX12_worst miX12_worst [.ref 113, .int a1, .int a2] h (pI fun r' h' => (r' = rr ∧ h' = hh) ∧ SR h hh) := by
  refine Spec.of (ls0 := [.ref 113, .int a1, .int a2, .null, .null, .null, .null]) mo_X12_worst (Nat.le_of_ble_eq_true rfl) rfl ?_
  rw [ly.1]
  have srh : SR h h := SR.refl h
  unfold f_X12_worst at hf
  refine V.iload_n dX12_worst_0 rfl rfl ?_
  refine V.i2l dX12_worst_1 ?_
  refine V.lconst (v := 0) dX12_worst_2 rfl ?_
  refine V.ldc2 (v := 30) dX12_worst_3 kc_X12_366 ?_
  obtain ⟨r3, h2, q1, hf2⟩ := bd2_el hf
  replace hf := hf2
  clear hf2
  refine V.callSI dX12_worst_6 ml_X12_295 mo_X12_isFrom ms_X12_isFrom (th_X12_isFrom (srh.ly ly) q1) rfl rfl ⟨Nat.le_of_ble_eq_true rfl, Nat.le_of_ble_eq_true rfl, fun _ => ⟨rfl, rfl⟩⟩ (Nat.le_of_ble_eq_true rfl) rfl (post_I (fun sq => ?_))
  have srh2 : SR h h2 := srh.trans sq
  clear sq q1
  refine V.if_eq (tgt := 21) dX12_worst_9 (by decide) (fun c4 => ?_) (fun c4 => ?_)
  · replace hf := ite_p hf c4
    refine V.aload_n dX12_worst_21 rfl rfl rfl ?_
    refine V.iconst (v := 1) dX12_worst_22 rfl ?_
    obtain ⟨r7, h6, q5, hf2⟩ := bd2_el hf
    replace hf := hf2
    clear hf2
    refine V.callVI dX12_worst_23 ml_X12_81 mo_X12_refuse mv_X12_refuse rfl (fun q hq => by cases hq; rfl) (by decide) (Or.inl ⟨rfl, SHL_lt rfl⟩) (th_X12_refuse (srh2.ly ly) q5) rfl rfl ⟨Nat.le_of_ble_eq_true rfl, Nat.le_of_ble_eq_true rfl, fun _ => ⟨rfl, rfl⟩⟩ (Nat.le_of_ble_eq_true rfl) rfl (post_I (fun sq => ?_))
    have srh6 : SR h h6 := srh2.trans sq
    clear sq q5
    refine V.ireturn dX12_worst_26 rfl rfl ⟨rfl, rfl⟩ ly.1 ?_
    exact ret_I hf srh6
  · replace hf := ite_n hf c4
    refine V.iload_n dX12_worst_12 rfl rfl ?_
    refine V.if_lt (tgt := 21) dX12_worst_13 (by decide) (fun c8 => ?_) (fun c8 => ?_)
    · replace hf := ite_p hf c8
      refine V.aload_n dX12_worst_21 rfl rfl rfl ?_
      refine V.iconst (v := 1) dX12_worst_22 rfl ?_
      obtain ⟨r11, h10, q9, hf2⟩ := bd2_el hf
      replace hf := hf2
      clear hf2
      refine V.callVI dX12_worst_23 ml_X12_81 mo_X12_refuse mv_X12_refuse rfl (fun q hq => by cases hq; rfl) (by decide) (Or.inl ⟨rfl, SHL_lt rfl⟩) (th_X12_refuse (srh2.ly ly) q9) rfl rfl ⟨Nat.le_of_ble_eq_true rfl, Nat.le_of_ble_eq_true rfl, fun _ => ⟨rfl, rfl⟩⟩ (Nat.le_of_ble_eq_true rfl) rfl (post_I (fun sq => ?_))
      have srh10 : SR h h10 := srh2.trans sq
      clear sq q9
      refine V.ireturn dX12_worst_26 rfl rfl ⟨rfl, rfl⟩ ly.1 ?_
      exact ret_I hf srh10
    · replace hf := ite_n hf c8
      refine V.iload_n dX12_worst_16 rfl rfl ?_
      refine V.iconst (v := 1) dX12_worst_17 rfl ?_
      refine V.icmp_le (tgt := 27) dX12_worst_18 (by decide) (fun c12 => ?_) (fun c12 => ?_)
      · replace hf := ite_p hf c12
        refine V.iconst (v := (-1)) dX12_worst_27 rfl ?_
        refine V.istore_n (ls' := [.ref 113, .int a1, .int a2, .int ((-1)), .null, .null, .null]) dX12_worst_28 rfl (by decide) rfl ?_
        refine V.iconst (v := (-1)) dX12_worst_29 rfl ?_
        refine V.istore (ls' := [.ref 113, .int a1, .int a2, .int ((-1)), .int ((-1)), .null, .null]) dX12_worst_30 (by decide) rfl ?_
        refine V.iconst (v := 0) dX12_worst_32 rfl ?_
        refine V.istore (ls' := [.ref 113, .int a1, .int a2, .int ((-1)), .int ((-1)), .int 0, .null]) dX12_worst_33 (by decide) rfl ?_
        exact th_X12_worst_35 ly FU a1 a2 (-1) (-1) 0 h2 srh2 hf
      · replace hf := ite_n hf c12
        refine V.aload_n dX12_worst_21 rfl rfl rfl ?_
        refine V.iconst (v := 1) dX12_worst_22 rfl ?_
        obtain ⟨r15, h14, q13, hf2⟩ := bd2_el hf
        replace hf := hf2
        clear hf2
        refine V.callVI dX12_worst_23 ml_X12_81 mo_X12_refuse mv_X12_refuse rfl (fun q hq => by cases hq; rfl) (by decide) (Or.inl ⟨rfl, SHL_lt rfl⟩) (th_X12_refuse (srh2.ly ly) q13) rfl rfl ⟨Nat.le_of_ble_eq_true rfl, Nat.le_of_ble_eq_true rfl, fun _ => ⟨rfl, rfl⟩⟩ (Nat.le_of_ble_eq_true rfl) rfl (post_I (fun sq => ?_))
        have srh14 : SR h h14 := srh2.trans sq
        clear sq q13
        refine V.ireturn dX12_worst_26 rfl rfl ⟨rfl, rfl⟩ ly.1 ?_
        exact ret_I hf srh14
set_option maxRecDepth 100000 in
theorem th_X12_mend_199 {h0 : HP} (ly : Lay h0) {rr : Int32} {hh : HP} {K92 : Int32 → Int32 → Int32 → Int32 → Int32 → Int32 → Int32 → Int32 → HP → Option (Int32 × HP)} (kok92 : ∀ (l3 : Int32) (l4 : Int32) (l5 : Int32) (l6 : Int32) (l7 : Int32) (l8 : Int32) (l9 : Int32) (l10 : Int32) (g : HP), SR h0 g → K92 l3 l4 l5 l6 l7 l8 l9 l10 g = some (rr, hh) → V cX12_mend miX12_mend (ZI h0 miX12_mend rr hh) 130 92 [.ref 113, .null, .null, .int l3, .int l4, .int l5, .int l6, .int l7, .int l8, .int l9, .int l10, .null, .null, .null] [] g) : ∀ (l3 : Int32) (l4 : Int32) (l5 : Int32) (l6 : Int32) (l7 : Int32) (l8 : Int32) (l9 : Int32) (l10 : Int32) (l11 : Int32) (l12 : Int32) (s0 : Int32) (h : HP), SR h0 h → f_X12_mend_199 K92 l3 l4 l5 l6 l7 l8 l9 l10 l11 l12 s0 h = some (rr, hh) → V cX12_mend miX12_mend (ZI h0 miX12_mend rr hh) 130 199 [.ref 113, .null, .null, .int l3, .int l4, .int l5, .int l6, .int l7, .int l8, .int l9, .int l10, .int l11, .int l12, .null] [.int s0] h := by
  intro l3 l4 l5 l6 l7 l8 l9 l10 l11 l12 s0 h srh hf
  unfold f_X12_mend_199 at hf
  refine V.istore (ls' := [.ref 113, .null, .null, .int l3, .int l4, .int l5, .int l6, .int l7, .int l8, .int l9, .int l10, .int l11, .int l12, .int s0]) dX12_mend_199 (by decide) rfl ?_
  refine V.iload dX12_mend_201 rfl ?_
  refine V.if_ne (tgt := 209) dX12_mend_203 (by decide) (fun c67 => ?_) (fun c67 => ?_)
  · replace hf := ite_n hf c67
    refine V.iload dX12_mend_209 rfl ?_
    refine V.istore (ls' := [.ref 113, .null, .null, .int l3, .int l4, .int l5, .int l6, .int l12, .int l8, .int l9, .int l10, .int l11, .int l12, .int s0]) dX12_mend_211 (by decide) rfl ?_
    refine V.iload dX12_mend_213 rfl ?_
    obtain ⟨r70, h69, q68, hf2⟩ := bd2_el hf
    replace hf := hf2
    clear hf2
    refine V.callSI dX12_mend_215 ml_X12_226 mo_X12_bits ms_X12_bits (th_X12_bits (srh.ly ly) q68) rfl rfl ⟨Nat.le_of_ble_eq_true rfl, Nat.le_of_ble_eq_true rfl, fun _ => ⟨rfl, rfl⟩⟩ (Nat.le_of_ble_eq_true rfl) rfl (post_I (fun sq => ?_))
    have srh69 : SR h0 h69 := srh.trans sq
    clear sq q68
    refine V.istore (ls' := [.ref 113, .null, .null, .int l3, .int l4, .int l5, .int l6, .int l12, .int r70, .int l9, .int l10, .int l11, .int l12, .int s0]) dX12_mend_218 (by decide) rfl ?_
    refine V.iload dX12_mend_220 rfl ?_
    refine V.istore (ls' := [.ref 113, .null, .null, .int l3, .int l4, .int l5, .int l11, .int l12, .int r70, .int l9, .int l10, .int l11, .int l12, .int s0]) dX12_mend_222 (by decide) rfl ?_
    obtain ⟨x71, ex71⟩ : ∃ y : Int32, y = l10 + 1 := ⟨_, rfl⟩
    replace hf := lt_el hf x71 ex71
    refine V.iinc (v := x71) (ls' := [.ref 113, .null, .null, .int l3, .int l4, .int l5, .int l11, .int l12, .int r70, .int l9, .int x71, .int l11, .int l12, .int s0]) dX12_mend_224 rfl (by decide) ex71.symm rfl ?_
    refine V.goto (tgt := 92) dX12_mend_227 (by decide) ?_
    refine V.less (ls' := [.ref 113, .null, .null, .int l3, .int l4, .int l5, .int l11, .int l12, .int r70, .int l9, .int x71, .null, .null, .null]) ⟨Or.inr rfl, Or.inl rfl, Or.inl rfl, Or.inr rfl, Or.inr rfl, Or.inr rfl, Or.inr rfl, Or.inr rfl, Or.inr rfl, Or.inr rfl, Or.inr rfl, Or.inl rfl, Or.inl rfl, Or.inl rfl, trivial⟩ ?_
    exact kok92 l3 l4 l5 l11 l12 r70 l9 x71 h69 srh69 hf
  · replace hf := ite_p hf c67
    refine V.goto (tgt := 224) dX12_mend_206 (by decide) ?_
    obtain ⟨x72, ex72⟩ : ∃ y : Int32, y = l10 + 1 := ⟨_, rfl⟩
    replace hf := lt_el hf x72 ex72
    refine V.iinc (v := x72) (ls' := [.ref 113, .null, .null, .int l3, .int l4, .int l5, .int l6, .int l7, .int l8, .int l9, .int x72, .int l11, .int l12, .int s0]) dX12_mend_224 rfl (by decide) ex72.symm rfl ?_
    refine V.goto (tgt := 92) dX12_mend_227 (by decide) ?_
    refine V.less (ls' := [.ref 113, .null, .null, .int l3, .int l4, .int l5, .int l6, .int l7, .int l8, .int l9, .int x72, .null, .null, .null]) ⟨Or.inr rfl, Or.inl rfl, Or.inl rfl, Or.inr rfl, Or.inr rfl, Or.inr rfl, Or.inr rfl, Or.inr rfl, Or.inr rfl, Or.inr rfl, Or.inr rfl, Or.inl rfl, Or.inl rfl, Or.inl rfl, trivial⟩ ?_
    exact kok92 l3 l4 l5 l6 l7 l8 l9 x72 h srh hf
set_option maxRecDepth 100000 in
theorem th_X12_mend_92 {h0 : HP} (ly : Lay h0) {rr : Int32} {hh : HP} {K79 : Int32 → Int32 → Int32 → Int32 → Int32 → Int32 → Int32 → HP → Option (Int32 × HP)} (kok79 : ∀ (l3 : Int32) (l4 : Int32) (l5 : Int32) (l6 : Int32) (l7 : Int32) (l8 : Int32) (l9 : Int32) (g : HP), SR h0 g → K79 l3 l4 l5 l6 l7 l8 l9 g = some (rr, hh) → V cX12_mend miX12_mend (ZI h0 miX12_mend rr hh) 130 79 [.ref 113, .null, .null, .int l3, .int l4, .int l5, .int l6, .int l7, .int l8, .int l9, .null, .null, .null, .null] [] g) : ∀ (n : Nat) (l3 : Int32) (l4 : Int32) (l5 : Int32) (l6 : Int32) (l7 : Int32) (l8 : Int32) (l9 : Int32) (l10 : Int32) (h : HP), SR h0 h → f_X12_mend_92 K79 n l3 l4 l5 l6 l7 l8 l9 l10 h = some (rr, hh) → V cX12_mend miX12_mend (ZI h0 miX12_mend rr hh) 130 92 [.ref 113, .null, .null, .int l3, .int l4, .int l5, .int l6, .int l7, .int l8, .int l9, .int l10, .null, .null, .null] [] h := by
  intro n
  induction n with
  | zero => intro l3 l4 l5 l6 l7 l8 l9 l10 h srh hf; exact absurd hf (by unfold f_X12_mend_92; simp)
  | succ n ih =>
    intro l3 l4 l5 l6 l7 l8 l9 l10 h srh hf
    unfold f_X12_mend_92 at hf
    refine V.iload dX12_mend_92 rfl ?_
    refine V.aload_n dX12_mend_94 rfl rfl rfl ?_
    obtain ⟨r44, h43, q42, hf2⟩ := bd2_el hf
    replace hf := hf2
    clear hf2
    refine V.callVI dX12_mend_95 ml_X12_262 mo_X12_places mv_X12_places rfl (fun q hq => by cases hq; rfl) (by decide) (Or.inl ⟨rfl, SHL_lt rfl⟩) (th_X12_places (srh.ly ly) q42) rfl rfl ⟨Nat.le_of_ble_eq_true rfl, Nat.le_of_ble_eq_true rfl, fun _ => ⟨rfl, rfl⟩⟩ (Nat.le_of_ble_eq_true rfl) rfl (post_I (fun sq => ?_))
    have srh43 : SR h0 h43 := srh.trans sq
    clear sq q42
    refine V.icmp_ge (tgt := 230) dX12_mend_98 (by decide) (fun c45 => ?_) (fun c45 => ?_)
    · replace hf := ite_p hf c45
      obtain ⟨x46, ex46⟩ : ∃ y : Int32, y = l9 + 1 := ⟨_, rfl⟩
      replace hf := lt_el hf x46 ex46
      refine V.iinc (v := x46) (ls' := [.ref 113, .null, .null, .int l3, .int l4, .int l5, .int l6, .int l7, .int l8, .int x46, .int l10, .null, .null, .null]) dX12_mend_230 rfl (by decide) ex46.symm rfl ?_
      refine V.goto (tgt := 79) dX12_mend_233 (by decide) ?_
      refine V.less (ls' := [.ref 113, .null, .null, .int l3, .int l4, .int l5, .int l6, .int l7, .int l8, .int x46, .null, .null, .null, .null]) ⟨Or.inr rfl, Or.inl rfl, Or.inl rfl, Or.inr rfl, Or.inr rfl, Or.inr rfl, Or.inr rfl, Or.inr rfl, Or.inr rfl, Or.inr rfl, Or.inl rfl, Or.inl rfl, Or.inl rfl, Or.inl rfl, trivial⟩ ?_
      exact kok79 l3 l4 l5 l6 l7 l8 x46 h43 srh43 hf
    · replace hf := ite_n hf c45
      refine V.iconst (v := 1) dX12_mend_101 rfl ?_
      refine V.iload dX12_mend_102 rfl ?_
      refine V.ishl dX12_mend_104 ?_
      refine V.iconst (v := 1) dX12_mend_105 rfl ?_
      refine V.iload dX12_mend_106 rfl ?_
      refine V.ishl dX12_mend_108 ?_
      refine V.ior dX12_mend_109 ?_
      refine V.nmi (fun x47 ex47 => ?_)
      replace hf := lt_el hf x47 ex47
      refine V.istore (ls' := [.ref 113, .null, .null, .int l3, .int l4, .int l5, .int l6, .int l7, .int l8, .int l9, .int l10, .int x47, .null, .null]) dX12_mend_110 (by decide) rfl ?_
      refine V.iload dX12_mend_112 rfl ?_
      refine V.iload dX12_mend_114 rfl ?_
      refine V.iconst (v := (-1)) dX12_mend_116 rfl ?_
      refine V.ixor dX12_mend_117 ?_
      refine V.iand dX12_mend_118 ?_
      refine V.if_eq (tgt := 125) dX12_mend_119 (by decide) (fun c48 => ?_) (fun c48 => ?_)
      · replace hf := ite_p hf c48
        refine V.aload_n dX12_mend_125 rfl rfl rfl ?_
        refine V.aload_n dX12_mend_126 rfl rfl rfl ?_
        refine V.getR (r := 114) dX12_mend_127 fl_X12_7 rfl (Or.inl ⟨rfl, SHL_lt rfl⟩) rfl (ly_113_0 (srh43.ly ly)) ?_
        refine V.iconst (v := 3) dX12_mend_130 rfl ?_
        refine V.iaload dX12_mend_131 rfl (Or.inl ⟨rfl, SHL_lt rfl⟩) (vp_lit (by decide)) ?_
        rw [show Int32.toNatClampNeg 3 = 3 from rfl]
        refine V.iload dX12_mend_132 rfl ?_
        refine V.ixor dX12_mend_134 ?_
        refine V.aload_n dX12_mend_135 rfl rfl rfl ?_
        refine V.getR (r := 114) dX12_mend_136 fl_X12_7 rfl (Or.inl ⟨rfl, SHL_lt rfl⟩) rfl (ly_113_0 (srh43.ly ly)) ?_
        refine V.bipush (v := 10) dX12_mend_139 rfl ?_
        refine V.iaload dX12_mend_141 rfl (Or.inl ⟨rfl, SHL_lt rfl⟩) (vp_lit (by decide)) ?_
        rw [show Int32.toNatClampNeg 10 = 10 from rfl]
        obtain ⟨r51, h50, q49, hf2⟩ := bd2_el hf
        replace hf := hf2
        clear hf2
        refine V.callVI dX12_mend_142 ml_X12_274 mo_X12_becomes mv_X12_becomes rfl (fun q hq => by cases hq; rfl) (by decide) (Or.inl ⟨rfl, SHL_lt rfl⟩) (th_X12_becomes (srh43.ly ly) q49) rfl rfl ⟨Nat.le_of_ble_eq_true rfl, Nat.le_of_ble_eq_true rfl, fun _ => ⟨rfl, rfl⟩⟩ (Nat.le_of_ble_eq_true rfl) rfl (post_I (fun sq => ?_))
        have srh50 : SR h0 h50 := srh43.trans sq
        clear sq q49
        refine V.iload dX12_mend_145 rfl ?_
        refine V.ixor dX12_mend_147 ?_
        obtain ⟨r54, h53, q52, hf2⟩ := bd2_el hf
        replace hf := hf2
        clear hf2
        refine V.callSI dX12_mend_148 ml_X12_226 mo_X12_bits ms_X12_bits (th_X12_bits (srh50.ly ly) q52) rfl rfl ⟨Nat.le_of_ble_eq_true rfl, Nat.le_of_ble_eq_true rfl, fun _ => ⟨rfl, rfl⟩⟩ (Nat.le_of_ble_eq_true rfl) rfl (post_I (fun sq => ?_))
        have srh53 : SR h0 h53 := srh50.trans sq
        clear sq q52
        refine V.istore (ls' := [.ref 113, .null, .null, .int l3, .int l4, .int l5, .int l6, .int l7, .int l8, .int l9, .int l10, .int x47, .int r54, .null]) dX12_mend_151 (by decide) rfl ?_
        refine V.iload dX12_mend_153 rfl ?_
        refine V.iload dX12_mend_155 rfl ?_
        refine V.icmp_lt (tgt := 194) dX12_mend_157 (by decide) (fun c55 => ?_) (fun c55 => ?_)
        · replace hf := ite_p hf c55
          refine V.iconst (v := 1) dX12_mend_194 rfl ?_
          refine V.goto (tgt := 199) dX12_mend_195 (by decide) ?_
          exact th_X12_mend_199 ly ih l3 l4 l5 l6 l7 l8 l9 l10 x47 r54 1 h53 srh53 hf
        · replace hf := ite_n hf c55
          refine V.iload dX12_mend_160 rfl ?_
          refine V.iload dX12_mend_162 rfl ?_
          refine V.icmp_ne (tgt := 198) dX12_mend_164 (by decide) (fun c56 => ?_) (fun c56 => ?_)
          · replace hf := ite_n hf c56
            refine V.iconst (v := 0) dX12_mend_198 rfl ?_
            exact th_X12_mend_199 ly ih l3 l4 l5 l6 l7 l8 l9 l10 x47 r54 0 h53 srh53 hf
          · replace hf := ite_p hf c56
            refine V.iload dX12_mend_167 rfl ?_
            obtain ⟨r59, h58, q57, hf2⟩ := bd2_el hf
            replace hf := hf2
            clear hf2
            refine V.callSI dX12_mend_169 ml_X12_226 mo_X12_bits ms_X12_bits (th_X12_bits (srh53.ly ly) q57) rfl rfl ⟨Nat.le_of_ble_eq_true rfl, Nat.le_of_ble_eq_true rfl, fun _ => ⟨rfl, rfl⟩⟩ (Nat.le_of_ble_eq_true rfl) rfl (post_I (fun sq => ?_))
            have srh58 : SR h0 h58 := srh53.trans sq
            clear sq q57
            refine V.iload dX12_mend_172 rfl ?_
            refine V.icmp_lt (tgt := 194) dX12_mend_174 (by decide) (fun c60 => ?_) (fun c60 => ?_)
            · replace hf := ite_p hf c60
              refine V.iconst (v := 1) dX12_mend_194 rfl ?_
              refine V.goto (tgt := 199) dX12_mend_195 (by decide) ?_
              exact th_X12_mend_199 ly ih l3 l4 l5 l6 l7 l8 l9 l10 x47 r54 1 h58 srh58 hf
            · replace hf := ite_n hf c60
              refine V.iload dX12_mend_177 rfl ?_
              obtain ⟨r63, h62, q61, hf2⟩ := bd2_el hf
              replace hf := hf2
              clear hf2
              refine V.callSI dX12_mend_179 ml_X12_226 mo_X12_bits ms_X12_bits (th_X12_bits (srh58.ly ly) q61) rfl rfl ⟨Nat.le_of_ble_eq_true rfl, Nat.le_of_ble_eq_true rfl, fun _ => ⟨rfl, rfl⟩⟩ (Nat.le_of_ble_eq_true rfl) rfl (post_I (fun sq => ?_))
              have srh62 : SR h0 h62 := srh58.trans sq
              clear sq q61
              refine V.iload dX12_mend_182 rfl ?_
              refine V.icmp_ne (tgt := 198) dX12_mend_184 (by decide) (fun c64 => ?_) (fun c64 => ?_)
              · replace hf := ite_n hf c64
                refine V.iconst (v := 0) dX12_mend_198 rfl ?_
                exact th_X12_mend_199 ly ih l3 l4 l5 l6 l7 l8 l9 l10 x47 r54 0 h62 srh62 hf
              · replace hf := ite_p hf c64
                refine V.iload dX12_mend_187 rfl ?_
                refine V.iload dX12_mend_189 rfl ?_
                refine V.icmp_ge (tgt := 198) dX12_mend_191 (by decide) (fun c65 => ?_) (fun c65 => ?_)
                · replace hf := ite_p hf c65
                  refine V.iconst (v := 0) dX12_mend_198 rfl ?_
                  exact th_X12_mend_199 ly ih l3 l4 l5 l6 l7 l8 l9 l10 x47 r54 0 h62 srh62 hf
                · replace hf := ite_n hf c65
                  refine V.iconst (v := 1) dX12_mend_194 rfl ?_
                  refine V.goto (tgt := 199) dX12_mend_195 (by decide) ?_
                  exact th_X12_mend_199 ly ih l3 l4 l5 l6 l7 l8 l9 l10 x47 r54 1 h62 srh62 hf
      · replace hf := ite_n hf c48
        refine V.goto (tgt := 224) dX12_mend_122 (by decide) ?_
        obtain ⟨x66, ex66⟩ : ∃ y : Int32, y = l10 + 1 := ⟨_, rfl⟩
        replace hf := lt_el hf x66 ex66
        refine V.iinc (v := x66) (ls' := [.ref 113, .null, .null, .int l3, .int l4, .int l5, .int l6, .int l7, .int l8, .int l9, .int x66, .int x47, .null, .null]) dX12_mend_224 rfl (by decide) ex66.symm rfl ?_
        refine V.goto (tgt := 92) dX12_mend_227 (by decide) ?_
        refine V.less (ls' := [.ref 113, .null, .null, .int l3, .int l4, .int l5, .int l6, .int l7, .int l8, .int l9, .int x66, .null, .null, .null]) ⟨Or.inr rfl, Or.inl rfl, Or.inl rfl, Or.inr rfl, Or.inr rfl, Or.inr rfl, Or.inr rfl, Or.inr rfl, Or.inr rfl, Or.inr rfl, Or.inr rfl, Or.inl rfl, Or.inl rfl, Or.inl rfl, trivial⟩ ?_
        exact ih l3 l4 l5 l6 l7 l8 l9 x66 h43 srh43 hf
set_option maxRecDepth 100000 in
theorem th_X12_mend_79 {h0 : HP} (ly : Lay h0) {rr : Int32} {hh : HP}  : ∀ (n : Nat) (l3 : Int32) (l4 : Int32) (l5 : Int32) (l6 : Int32) (l7 : Int32) (l8 : Int32) (l9 : Int32) (h : HP), SR h0 h → f_X12_mend_79 n l3 l4 l5 l6 l7 l8 l9 h = some (rr, hh) → V cX12_mend miX12_mend (ZI h0 miX12_mend rr hh) 130 79 [.ref 113, .null, .null, .int l3, .int l4, .int l5, .int l6, .int l7, .int l8, .int l9, .null, .null, .null, .null] [] h := by
  intro n
  induction n with
  | zero => intro l3 l4 l5 l6 l7 l8 l9 h srh hf; exact absurd hf (by unfold f_X12_mend_79; simp)
  | succ n ih =>
    intro l3 l4 l5 l6 l7 l8 l9 h srh hf
    unfold f_X12_mend_79 at hf
    refine V.iload dX12_mend_79 rfl ?_
    refine V.aload_n dX12_mend_81 rfl rfl rfl ?_
    obtain ⟨r33, h32, q31, hf2⟩ := bd2_el hf
    replace hf := hf2
    clear hf2
    refine V.callVI dX12_mend_82 ml_X12_262 mo_X12_places mv_X12_places rfl (fun q hq => by cases hq; rfl) (by decide) (Or.inl ⟨rfl, SHL_lt rfl⟩) (th_X12_places (srh.ly ly) q31) rfl rfl ⟨Nat.le_of_ble_eq_true rfl, Nat.le_of_ble_eq_true rfl, fun _ => ⟨rfl, rfl⟩⟩ (Nat.le_of_ble_eq_true rfl) rfl (post_I (fun sq => ?_))
    have srh32 : SR h0 h32 := srh.trans sq
    clear sq q31
    refine V.icmp_ge (tgt := 236) dX12_mend_85 (by decide) (fun c34 => ?_) (fun c34 => ?_)
    · replace hf := ite_p hf c34
      refine V.aload_n dX12_mend_236 rfl rfl rfl ?_
      refine V.iload_n dX12_mend_237 rfl rfl ?_
      refine V.if_ne (tgt := 246) dX12_mend_238 (by decide) (fun c35 => ?_) (fun c35 => ?_)
      · replace hf := ite_n hf c35
        refine V.iload dX12_mend_246 rfl ?_
        obtain ⟨r38, h37, q36, hf2⟩ := bd2_el hf
        replace hf := hf2
        clear hf2
        refine V.callVI dX12_mend_248 ml_X12_85 mo_X12_gives mv_X12_gives rfl (fun q hq => by cases hq; rfl) (by decide) (Or.inl ⟨rfl, SHL_lt rfl⟩) (th_X12_gives (srh32.ly ly) q36) rfl rfl ⟨Nat.le_of_ble_eq_true rfl, Nat.le_of_ble_eq_true rfl, fun _ => ⟨rfl, rfl⟩⟩ (Nat.le_of_ble_eq_true rfl) rfl (post_I (fun sq => ?_))
        have srh37 : SR h0 h37 := srh32.trans sq
        clear sq q36
        refine V.ireturn dX12_mend_251 rfl rfl ⟨rfl, rfl⟩ ly.1 ?_
        exact ret_I hf srh37
      · replace hf := ite_p hf c35
        refine V.iload dX12_mend_241 rfl ?_
        refine V.goto (tgt := 248) dX12_mend_243 (by decide) ?_
        obtain ⟨r41, h40, q39, hf2⟩ := bd2_el hf
        replace hf := hf2
        clear hf2
        refine V.callVI dX12_mend_248 ml_X12_85 mo_X12_gives mv_X12_gives rfl (fun q hq => by cases hq; rfl) (by decide) (Or.inl ⟨rfl, SHL_lt rfl⟩) (th_X12_gives (srh32.ly ly) q39) rfl rfl ⟨Nat.le_of_ble_eq_true rfl, Nat.le_of_ble_eq_true rfl, fun _ => ⟨rfl, rfl⟩⟩ (Nat.le_of_ble_eq_true rfl) rfl (post_I (fun sq => ?_))
        have srh40 : SR h0 h40 := srh32.trans sq
        clear sq q39
        refine V.ireturn dX12_mend_251 rfl rfl ⟨rfl, rfl⟩ ly.1 ?_
        exact ret_I hf srh40
    · replace hf := ite_n hf c34
      refine V.iload dX12_mend_88 rfl ?_
      refine V.istore (ls' := [.ref 113, .null, .null, .int l3, .int l4, .int l5, .int l6, .int l7, .int l8, .int l9, .int l9, .null, .null, .null]) dX12_mend_90 (by decide) rfl ?_
      exact th_X12_mend_92 ly ih FU l3 l4 l5 l6 l7 l8 l9 l9 h32 srh32 hf
set_option maxRecDepth 100000 in
theorem th_X12_mend {h : HP} (ly : Lay h) {a1 : Int64} {a3 : Int32} {rr : Int32} {hh : HP} (hf : f_X12_mend h a1 a3 = some (rr, hh)) : Spec yX12_mend cX12_mend miX12_mend [.ref 113, .long a1, .int a3] h (pI fun r' h' => (r' = rr ∧ h' = hh) ∧ SR h hh) := by
  refine Spec.of (ls0 := [.ref 113, .long a1, .null, .int a3, .null, .null, .null, .null, .null, .null, .null, .null, .null, .null]) mo_X12_mend (Nat.le_of_ble_eq_true rfl) rfl ?_
  rw [ly.1]
  have srh : SR h h := SR.refl h
  unfold f_X12_mend at hf
  refine V.lload_n dX12_mend_0 rfl rfl ?_
  refine V.lconst (v := 0) dX12_mend_1 rfl ?_
  refine V.ldc2 (v := 1073741823) dX12_mend_2 kc_X12_293 ?_
  obtain ⟨r3, h2, q1, hf2⟩ := bd2_el hf
  replace hf := hf2
  clear hf2
  refine V.callSI dX12_mend_5 ml_X12_295 mo_X12_isFrom ms_X12_isFrom (th_X12_isFrom (srh.ly ly) q1) rfl rfl ⟨Nat.le_of_ble_eq_true rfl, Nat.le_of_ble_eq_true rfl, fun _ => ⟨rfl, rfl⟩⟩ (Nat.le_of_ble_eq_true rfl) rfl (post_I (fun sq => ?_))
  have srh2 : SR h h2 := srh.trans sq
  clear sq q1
  refine V.if_eq (tgt := 20) dX12_mend_8 (by decide) (fun c4 => ?_) (fun c4 => ?_)
  · replace hf := ite_p hf c4
    refine V.aload_n dX12_mend_20 rfl rfl rfl ?_
    refine V.iconst (v := 1) dX12_mend_21 rfl ?_
    obtain ⟨r7, h6, q5, hf2⟩ := bd2_el hf
    replace hf := hf2
    clear hf2
    refine V.callVI dX12_mend_22 ml_X12_81 mo_X12_refuse mv_X12_refuse rfl (fun q hq => by cases hq; rfl) (by decide) (Or.inl ⟨rfl, SHL_lt rfl⟩) (th_X12_refuse (srh2.ly ly) q5) rfl rfl ⟨Nat.le_of_ble_eq_true rfl, Nat.le_of_ble_eq_true rfl, fun _ => ⟨rfl, rfl⟩⟩ (Nat.le_of_ble_eq_true rfl) rfl (post_I (fun sq => ?_))
    have srh6 : SR h h6 := srh2.trans sq
    clear sq q5
    refine V.ireturn dX12_mend_25 rfl rfl ⟨rfl, rfl⟩ ly.1 ?_
    exact ret_I hf srh6
  · replace hf := ite_n hf c4
    refine V.iload_n dX12_mend_11 rfl rfl ?_
    refine V.if_lt (tgt := 20) dX12_mend_12 (by decide) (fun c8 => ?_) (fun c8 => ?_)
    · replace hf := ite_p hf c8
      refine V.aload_n dX12_mend_20 rfl rfl rfl ?_
      refine V.iconst (v := 1) dX12_mend_21 rfl ?_
      obtain ⟨r11, h10, q9, hf2⟩ := bd2_el hf
      replace hf := hf2
      clear hf2
      refine V.callVI dX12_mend_22 ml_X12_81 mo_X12_refuse mv_X12_refuse rfl (fun q hq => by cases hq; rfl) (by decide) (Or.inl ⟨rfl, SHL_lt rfl⟩) (th_X12_refuse (srh2.ly ly) q9) rfl rfl ⟨Nat.le_of_ble_eq_true rfl, Nat.le_of_ble_eq_true rfl, fun _ => ⟨rfl, rfl⟩⟩ (Nat.le_of_ble_eq_true rfl) rfl (post_I (fun sq => ?_))
      have srh10 : SR h h10 := srh2.trans sq
      clear sq q9
      refine V.ireturn dX12_mend_25 rfl rfl ⟨rfl, rfl⟩ ly.1 ?_
      exact ret_I hf srh10
    · replace hf := ite_n hf c8
      refine V.iload_n dX12_mend_15 rfl rfl ?_
      refine V.iconst (v := 1) dX12_mend_16 rfl ?_
      refine V.icmp_le (tgt := 26) dX12_mend_17 (by decide) (fun c12 => ?_) (fun c12 => ?_)
      · replace hf := ite_p hf c12
        refine V.aload_n dX12_mend_26 rfl rfl rfl ?_
        obtain ⟨h14, q13, hf2⟩ := bd_el hf
        replace hf := hf2
        clear hf2
        refine V.callVV dX12_mend_27 ml_X12_271 mo_X12_laysNear mv_X12_laysNear rfl (fun q hq => by cases hq; rfl) (by decide) (Or.inl ⟨rfl, SHL_lt rfl⟩) (th_X12_laysNear (srh2.ly ly) q13) rfl rfl ⟨Nat.le_of_ble_eq_true rfl, Nat.le_of_ble_eq_true rfl, fun _ => ⟨rfl, rfl⟩⟩ (Nat.le_of_ble_eq_true rfl) (Or.inl rfl) (post_V (fun sq => ?_))
        have srh14 : SR h h14 := srh2.trans sq
        clear sq q13
        refine V.lload_n dX12_mend_30 rfl rfl ?_
        refine V.l2i dX12_mend_31 ?_
        refine V.aload_n dX12_mend_32 rfl rfl rfl ?_
        obtain ⟨r17, h16, q15, hf2⟩ := bd2_el hf
        replace hf := hf2
        clear hf2
        refine V.callVI dX12_mend_33 ml_X12_375 mo_X12_whole mv_X12_whole rfl (fun q hq => by cases hq; rfl) (by decide) (Or.inl ⟨rfl, SHL_lt rfl⟩) (th_X12_whole (srh14.ly ly) q15) rfl rfl ⟨Nat.le_of_ble_eq_true rfl, Nat.le_of_ble_eq_true rfl, fun _ => ⟨rfl, rfl⟩⟩ (Nat.le_of_ble_eq_true rfl) rfl (post_I (fun sq => ?_))
        have srh16 : SR h h16 := srh14.trans sq
        clear sq q15
        refine V.iand dX12_mend_36 ?_
        refine V.nmi (fun x18 ex18 => ?_)
        replace hf := lt_el hf x18 ex18
        refine V.istore (ls' := [.ref 113, .long a1, .null, .int a3, .int x18, .null, .null, .null, .null, .null, .null, .null, .null, .null]) dX12_mend_37 (by decide) rfl ?_
        refine V.aload_n dX12_mend_39 rfl rfl rfl ?_
        obtain ⟨r21, h20, q19, hf2⟩ := bd2_el hf
        replace hf := hf2
        clear hf2
        refine V.callVI dX12_mend_40 ml_X12_268 mo_X12_free mv_X12_free rfl (fun q hq => by cases hq; rfl) (by decide) (Or.inl ⟨rfl, SHL_lt rfl⟩) (th_X12_free (srh16.ly ly) q19) rfl rfl ⟨Nat.le_of_ble_eq_true rfl, Nat.le_of_ble_eq_true rfl, fun _ => ⟨rfl, rfl⟩⟩ (Nat.le_of_ble_eq_true rfl) rfl (post_I (fun sq => ?_))
        have srh20 : SR h h20 := srh16.trans sq
        clear sq q19
        refine V.istore (ls' := [.ref 113, .long a1, .null, .int a3, .int x18, .int r21, .null, .null, .null, .null, .null, .null, .null, .null]) dX12_mend_43 (by decide) rfl ?_
        refine V.iconst (v := 0) dX12_mend_45 rfl ?_
        refine V.istore (ls' := [.ref 113, .long a1, .null, .int a3, .int x18, .int r21, .int 0, .null, .null, .null, .null, .null, .null, .null]) dX12_mend_46 (by decide) rfl ?_
        refine V.aload_n dX12_mend_48 rfl rfl rfl ?_
        refine V.aload_n dX12_mend_49 rfl rfl rfl ?_
        refine V.getR (r := 114) dX12_mend_50 fl_X12_7 rfl (Or.inl ⟨rfl, SHL_lt rfl⟩) rfl (ly_113_0 (srh20.ly ly)) ?_
        refine V.iconst (v := 3) dX12_mend_53 rfl ?_
        refine V.iaload dX12_mend_54 rfl (Or.inl ⟨rfl, SHL_lt rfl⟩) (vp_lit (by decide)) ?_
        rw [show Int32.toNatClampNeg 3 = 3 from rfl]
        refine V.aload_n dX12_mend_55 rfl rfl rfl ?_
        refine V.getR (r := 114) dX12_mend_56 fl_X12_7 rfl (Or.inl ⟨rfl, SHL_lt rfl⟩) rfl (ly_113_0 (srh20.ly ly)) ?_
        refine V.bipush (v := 10) dX12_mend_59 rfl ?_
        refine V.iaload dX12_mend_61 rfl (Or.inl ⟨rfl, SHL_lt rfl⟩) (vp_lit (by decide)) ?_
        rw [show Int32.toNatClampNeg 10 = 10 from rfl]
        obtain ⟨r24, h23, q22, hf2⟩ := bd2_el hf
        replace hf := hf2
        clear hf2
        refine V.callVI dX12_mend_62 ml_X12_274 mo_X12_becomes mv_X12_becomes rfl (fun q hq => by cases hq; rfl) (by decide) (Or.inl ⟨rfl, SHL_lt rfl⟩) (th_X12_becomes (srh20.ly ly) q22) rfl rfl ⟨Nat.le_of_ble_eq_true rfl, Nat.le_of_ble_eq_true rfl, fun _ => ⟨rfl, rfl⟩⟩ (Nat.le_of_ble_eq_true rfl) rfl (post_I (fun sq => ?_))
        have srh23 : SR h h23 := srh20.trans sq
        clear sq q22
        refine V.iload dX12_mend_65 rfl ?_
        refine V.ixor dX12_mend_67 ?_
        obtain ⟨r27, h26, q25, hf2⟩ := bd2_el hf
        replace hf := hf2
        clear hf2
        refine V.callSI dX12_mend_68 ml_X12_226 mo_X12_bits ms_X12_bits (th_X12_bits (srh23.ly ly) q25) rfl rfl ⟨Nat.le_of_ble_eq_true rfl, Nat.le_of_ble_eq_true rfl, fun _ => ⟨rfl, rfl⟩⟩ (Nat.le_of_ble_eq_true rfl) rfl (post_I (fun sq => ?_))
        have srh26 : SR h h26 := srh23.trans sq
        clear sq q25
        refine V.istore (ls' := [.ref 113, .long a1, .null, .int a3, .int x18, .int r21, .int 0, .int r27, .null, .null, .null, .null, .null, .null]) dX12_mend_71 (by decide) rfl ?_
        refine V.iconst (v := 0) dX12_mend_73 rfl ?_
        refine V.istore (ls' := [.ref 113, .long a1, .null, .int a3, .int x18, .int r21, .int 0, .int r27, .int 0, .null, .null, .null, .null, .null]) dX12_mend_74 (by decide) rfl ?_
        refine V.iconst (v := 0) dX12_mend_76 rfl ?_
        refine V.istore (ls' := [.ref 113, .long a1, .null, .int a3, .int x18, .int r21, .int 0, .int r27, .int 0, .int 0, .null, .null, .null, .null]) dX12_mend_77 (by decide) rfl ?_
        refine V.less (ls' := [.ref 113, .null, .null, .int a3, .int x18, .int r21, .int 0, .int r27, .int 0, .int 0, .null, .null, .null, .null]) ⟨Or.inr rfl, Or.inl rfl, Or.inl rfl, Or.inr rfl, Or.inr rfl, Or.inr rfl, Or.inr rfl, Or.inr rfl, Or.inr rfl, Or.inr rfl, Or.inl rfl, Or.inl rfl, Or.inl rfl, Or.inl rfl, trivial⟩ ?_
        exact th_X12_mend_79 ly FU a3 x18 r21 0 r27 0 0 h26 srh26 hf
      · replace hf := ite_n hf c12
        refine V.aload_n dX12_mend_20 rfl rfl rfl ?_
        refine V.iconst (v := 1) dX12_mend_21 rfl ?_
        obtain ⟨r30, h29, q28, hf2⟩ := bd2_el hf
        replace hf := hf2
        clear hf2
        refine V.callVI dX12_mend_22 ml_X12_81 mo_X12_refuse mv_X12_refuse rfl (fun q hq => by cases hq; rfl) (by decide) (Or.inl ⟨rfl, SHL_lt rfl⟩) (th_X12_refuse (srh2.ly ly) q28) rfl rfl ⟨Nat.le_of_ble_eq_true rfl, Nat.le_of_ble_eq_true rfl, fun _ => ⟨rfl, rfl⟩⟩ (Nat.le_of_ble_eq_true rfl) rfl (post_I (fun sq => ?_))
        have srh29 : SR h h29 := srh2.trans sq
        clear sq q28
        refine V.ireturn dX12_mend_25 rfl rfl ⟨rfl, rfl⟩ ly.1 ?_
        exact ret_I hf srh29
set_option maxRecDepth 100000 in
theorem th_X12_unlike {h : HP} (ly : Lay h) {a1 : Int64} {rr : Int32} {hh : HP} (hf : f_X12_unlike h a1 = some (rr, hh)) : Spec yX12_unlike cX12_unlike miX12_unlike [.ref 113, .long a1] h (pI fun r' h' => (r' = rr ∧ h' = hh) ∧ SR h hh) := by
  refine Spec.of (ls0 := [.ref 113, .long a1, .null]) mo_X12_unlike (Nat.le_of_ble_eq_true rfl) rfl ?_
  rw [ly.1]
  have srh : SR h h := SR.refl h
  unfold f_X12_unlike at hf
  refine V.lload_n dX12_unlike_0 rfl rfl ?_
  refine V.lconst (v := 0) dX12_unlike_1 rfl ?_
  refine V.ldc2 (v := 1073741823) dX12_unlike_2 kc_X12_293 ?_
  obtain ⟨r3, h2, q1, hf2⟩ := bd2_el hf
  replace hf := hf2
  clear hf2
  refine V.callSI dX12_unlike_5 ml_X12_295 mo_X12_isFrom ms_X12_isFrom (th_X12_isFrom (srh.ly ly) q1) rfl rfl ⟨Nat.le_of_ble_eq_true rfl, Nat.le_of_ble_eq_true rfl, fun _ => ⟨rfl, rfl⟩⟩ (Nat.le_of_ble_eq_true rfl) rfl (post_I (fun sq => ?_))
  have srh2 : SR h h2 := srh.trans sq
  clear sq q1
  refine V.if_eq (tgt := 35) dX12_unlike_8 (by decide) (fun c4 => ?_) (fun c4 => ?_)
  · replace hf := ite_p hf c4
    refine V.aload_n dX12_unlike_35 rfl rfl rfl ?_
    refine V.iconst (v := 1) dX12_unlike_36 rfl ?_
    obtain ⟨r7, h6, q5, hf2⟩ := bd2_el hf
    replace hf := hf2
    clear hf2
    refine V.callVI dX12_unlike_37 ml_X12_81 mo_X12_refuse mv_X12_refuse rfl (fun q hq => by cases hq; rfl) (by decide) (Or.inl ⟨rfl, SHL_lt rfl⟩) (th_X12_refuse (srh2.ly ly) q5) rfl rfl ⟨Nat.le_of_ble_eq_true rfl, Nat.le_of_ble_eq_true rfl, fun _ => ⟨rfl, rfl⟩⟩ (Nat.le_of_ble_eq_true rfl) rfl (post_I (fun sq => ?_))
    have srh6 : SR h h6 := srh2.trans sq
    clear sq q5
    refine V.ireturn dX12_unlike_40 rfl rfl ⟨rfl, rfl⟩ ly.1 ?_
    exact ret_I hf srh6
  · replace hf := ite_n hf c4
    refine V.aload_n dX12_unlike_11 rfl rfl rfl ?_
    refine V.aload_n dX12_unlike_12 rfl rfl rfl ?_
    refine V.getR (r := 114) dX12_unlike_13 fl_X12_7 rfl (Or.inl ⟨rfl, SHL_lt rfl⟩) rfl (ly_113_0 (srh2.ly ly)) ?_
    refine V.iconst (v := 3) dX12_unlike_16 rfl ?_
    refine V.iaload dX12_unlike_17 rfl (Or.inl ⟨rfl, SHL_lt rfl⟩) (vp_lit (by decide)) ?_
    rw [show Int32.toNatClampNeg 3 = 3 from rfl]
    refine V.lload_n dX12_unlike_18 rfl rfl ?_
    refine V.l2i dX12_unlike_19 ?_
    refine V.ixor dX12_unlike_20 ?_
    refine V.aload_n dX12_unlike_21 rfl rfl rfl ?_
    obtain ⟨r10, h9, q8, hf2⟩ := bd2_el hf
    replace hf := hf2
    clear hf2
    refine V.callVI dX12_unlike_22 ml_X12_375 mo_X12_whole mv_X12_whole rfl (fun q hq => by cases hq; rfl) (by decide) (Or.inl ⟨rfl, SHL_lt rfl⟩) (th_X12_whole (srh2.ly ly) q8) rfl rfl ⟨Nat.le_of_ble_eq_true rfl, Nat.le_of_ble_eq_true rfl, fun _ => ⟨rfl, rfl⟩⟩ (Nat.le_of_ble_eq_true rfl) rfl (post_I (fun sq => ?_))
    have srh9 : SR h h9 := srh2.trans sq
    clear sq q8
    refine V.iand dX12_unlike_25 ?_
    obtain ⟨r13, h12, q11, hf2⟩ := bd2_el hf
    replace hf := hf2
    clear hf2
    refine V.callSI dX12_unlike_26 ml_X12_226 mo_X12_bits ms_X12_bits (th_X12_bits (srh9.ly ly) q11) rfl rfl ⟨Nat.le_of_ble_eq_true rfl, Nat.le_of_ble_eq_true rfl, fun _ => ⟨rfl, rfl⟩⟩ (Nat.le_of_ble_eq_true rfl) rfl (post_I (fun sq => ?_))
    have srh12 : SR h h12 := srh9.trans sq
    clear sq q11
    obtain ⟨r16, h15, q14, hf2⟩ := bd2_el hf
    replace hf := hf2
    clear hf2
    refine V.callVI dX12_unlike_29 ml_X12_85 mo_X12_gives mv_X12_gives rfl (fun q hq => by cases hq; rfl) (by decide) (Or.inl ⟨rfl, SHL_lt rfl⟩) (th_X12_gives (srh12.ly ly) q14) rfl rfl ⟨Nat.le_of_ble_eq_true rfl, Nat.le_of_ble_eq_true rfl, fun _ => ⟨rfl, rfl⟩⟩ (Nat.le_of_ble_eq_true rfl) rfl (post_I (fun sq => ?_))
    have srh15 : SR h h15 := srh12.trans sq
    clear sq q14
    refine V.goto (tgt := 40) dX12_unlike_32 (by decide) ?_
    refine V.ireturn dX12_unlike_40 rfl rfl ⟨rfl, rfl⟩ ly.1 ?_
    exact ret_I hf srh15
set_option maxRecDepth 100000 in
theorem th_X12_seen {h : HP} (ly : Lay h) {a1 : Int32} {a2 : Int32} {rr : Int32} {hh : HP} (hf : f_X12_seen h a1 a2 = some (rr, hh)) : Spec yX12_seen cX12_seen miX12_seen [.ref 113, .int a1, .int a2] h (pI fun r' h' => (r' = rr ∧ h' = hh) ∧ SR h hh) := by
  refine Spec.of (ls0 := [.ref 113, .int a1, .int a2]) mo_X12_seen (Nat.le_of_ble_eq_true rfl) rfl ?_
  rw [ly.1]
  have srh : SR h h := SR.refl h
  unfold f_X12_seen at hf
  refine V.iload_n dX12_seen_0 rfl rfl ?_
  refine V.i2l dX12_seen_1 ?_
  refine V.lconst (v := 0) dX12_seen_2 rfl ?_
  refine V.lconst (v := 1) dX12_seen_3 rfl ?_
  obtain ⟨r3, h2, q1, hf2⟩ := bd2_el hf
  replace hf := hf2
  clear hf2
  refine V.callSI dX12_seen_4 ml_X12_295 mo_X12_isFrom ms_X12_isFrom (th_X12_isFrom (srh.ly ly) q1) rfl rfl ⟨Nat.le_of_ble_eq_true rfl, Nat.le_of_ble_eq_true rfl, fun _ => ⟨rfl, rfl⟩⟩ (Nat.le_of_ble_eq_true rfl) rfl (post_I (fun sq => ?_))
  have srh2 : SR h h2 := srh.trans sq
  clear sq q1
  refine V.if_eq (tgt := 42) dX12_seen_7 (by decide) (fun c4 => ?_) (fun c4 => ?_)
  · replace hf := ite_p hf c4
    refine V.aload_n dX12_seen_42 rfl rfl rfl ?_
    refine V.iconst (v := 1) dX12_seen_43 rfl ?_
    obtain ⟨r7, h6, q5, hf2⟩ := bd2_el hf
    replace hf := hf2
    clear hf2
    refine V.callVI dX12_seen_44 ml_X12_81 mo_X12_refuse mv_X12_refuse rfl (fun q hq => by cases hq; rfl) (by decide) (Or.inl ⟨rfl, SHL_lt rfl⟩) (th_X12_refuse (srh2.ly ly) q5) rfl rfl ⟨Nat.le_of_ble_eq_true rfl, Nat.le_of_ble_eq_true rfl, fun _ => ⟨rfl, rfl⟩⟩ (Nat.le_of_ble_eq_true rfl) rfl (post_I (fun sq => ?_))
    have srh6 : SR h h6 := srh2.trans sq
    clear sq q5
    refine V.ireturn dX12_seen_47 rfl rfl ⟨rfl, rfl⟩ ly.1 ?_
    exact ret_I hf srh6
  · replace hf := ite_n hf c4
    refine V.iload_n dX12_seen_10 rfl rfl ?_
    refine V.i2l dX12_seen_11 ?_
    refine V.lconst (v := 0) dX12_seen_12 rfl ?_
    refine V.ldc2 (v := 4) dX12_seen_13 kc_X12_378 ?_
    obtain ⟨r10, h9, q8, hf2⟩ := bd2_el hf
    replace hf := hf2
    clear hf2
    refine V.callSI dX12_seen_16 ml_X12_295 mo_X12_isFrom ms_X12_isFrom (th_X12_isFrom (srh2.ly ly) q8) rfl rfl ⟨Nat.le_of_ble_eq_true rfl, Nat.le_of_ble_eq_true rfl, fun _ => ⟨rfl, rfl⟩⟩ (Nat.le_of_ble_eq_true rfl) rfl (post_I (fun sq => ?_))
    have srh9 : SR h h9 := srh2.trans sq
    clear sq q8
    refine V.if_eq (tgt := 42) dX12_seen_19 (by decide) (fun c11 => ?_) (fun c11 => ?_)
    · replace hf := ite_p hf c11
      refine V.aload_n dX12_seen_42 rfl rfl rfl ?_
      refine V.iconst (v := 1) dX12_seen_43 rfl ?_
      obtain ⟨r14, h13, q12, hf2⟩ := bd2_el hf
      replace hf := hf2
      clear hf2
      refine V.callVI dX12_seen_44 ml_X12_81 mo_X12_refuse mv_X12_refuse rfl (fun q hq => by cases hq; rfl) (by decide) (Or.inl ⟨rfl, SHL_lt rfl⟩) (th_X12_refuse (srh9.ly ly) q12) rfl rfl ⟨Nat.le_of_ble_eq_true rfl, Nat.le_of_ble_eq_true rfl, fun _ => ⟨rfl, rfl⟩⟩ (Nat.le_of_ble_eq_true rfl) rfl (post_I (fun sq => ?_))
      have srh13 : SR h h13 := srh9.trans sq
      clear sq q12
      refine V.ireturn dX12_seen_47 rfl rfl ⟨rfl, rfl⟩ ly.1 ?_
      exact ret_I hf srh13
    · replace hf := ite_n hf c11
      refine V.aload_n dX12_seen_22 rfl rfl rfl ?_
      refine V.aload_n dX12_seen_23 rfl rfl rfl ?_
      refine V.getR (r := 114) dX12_seen_24 fl_X12_7 rfl (Or.inl ⟨rfl, SHL_lt rfl⟩) rfl (ly_113_0 (srh9.ly ly)) ?_
      refine V.bipush (v := 32) dX12_seen_27 rfl ?_
      refine V.iconst (v := 5) dX12_seen_29 rfl ?_
      refine V.iload_n dX12_seen_30 rfl rfl ?_
      refine V.imul dX12_seen_31 ?_
      refine V.iadd dX12_seen_32 ?_
      refine V.iload_n dX12_seen_33 rfl rfl ?_
      refine V.iadd dX12_seen_34 ?_
      obtain ⟨b15, hf2⟩ := gdi_el hf
      replace hf := hf2
      clear hf2
      refine V.iaload dX12_seen_35 rfl (Or.inl ⟨rfl, SHL_lt rfl⟩) b15 ?_
      obtain ⟨r18, h17, q16, hf2⟩ := bd2_el hf
      replace hf := hf2
      clear hf2
      refine V.callVI dX12_seen_36 ml_X12_85 mo_X12_gives mv_X12_gives rfl (fun q hq => by cases hq; rfl) (by decide) (Or.inl ⟨rfl, SHL_lt rfl⟩) (th_X12_gives (srh9.ly ly) q16) rfl rfl ⟨Nat.le_of_ble_eq_true rfl, Nat.le_of_ble_eq_true rfl, fun _ => ⟨rfl, rfl⟩⟩ (Nat.le_of_ble_eq_true rfl) rfl (post_I (fun sq => ?_))
      have srh17 : SR h h17 := srh9.trans sq
      clear sq q16
      refine V.goto (tgt := 47) dX12_seen_39 (by decide) ?_
      refine V.ireturn dX12_seen_47 rfl rfl ⟨rfl, rfl⟩ ly.1 ?_
      exact ret_I hf srh17
set_option maxRecDepth 100000 in
theorem th_X12_rulesLeft_4 {h0 : HP} (ly : Lay h0) {rr : Int32} {hh : HP}  : ∀ (n : Nat) (l1 : Int32) (l2 : Int32) (h : HP), SR h0 h → f_X12_rulesLeft_4 n l1 l2 h = some (rr, hh) → V cX12_rulesLeft miX12_rulesLeft (ZI h0 miX12_rulesLeft rr hh) 130 4 [.ref 113, .int l1, .int l2] [] h := by
  intro n
  induction n with
  | zero => intro l1 l2 h srh hf; exact absurd hf (by unfold f_X12_rulesLeft_4; simp)
  | succ n ih =>
    intro l1 l2 h srh hf
    unfold f_X12_rulesLeft_4 at hf
    refine V.iload_n dX12_rulesLeft_4 rfl rfl ?_
    refine V.bipush (v := 10) dX12_rulesLeft_5 rfl ?_
    refine V.icmp_ge (tgt := 53) dX12_rulesLeft_7 (by decide) (fun c1 => ?_) (fun c1 => ?_)
    · replace hf := ite_p hf c1
      refine V.aload_n dX12_rulesLeft_53 rfl rfl rfl ?_
      refine V.iload_n dX12_rulesLeft_54 rfl rfl ?_
      obtain ⟨r4, h3, q2, hf2⟩ := bd2_el hf
      replace hf := hf2
      clear hf2
      refine V.callVI dX12_rulesLeft_55 ml_X12_85 mo_X12_gives mv_X12_gives rfl (fun q hq => by cases hq; rfl) (by decide) (Or.inl ⟨rfl, SHL_lt rfl⟩) (th_X12_gives (srh.ly ly) q2) rfl rfl ⟨Nat.le_of_ble_eq_true rfl, Nat.le_of_ble_eq_true rfl, fun _ => ⟨rfl, rfl⟩⟩ (Nat.le_of_ble_eq_true rfl) rfl (post_I (fun sq => ?_))
      have srh3 : SR h0 h3 := srh.trans sq
      clear sq q2
      refine V.ireturn dX12_rulesLeft_58 rfl rfl ⟨rfl, rfl⟩ ly.1 ?_
      exact ret_I hf srh3
    · replace hf := ite_n hf c1
      refine V.iload_n dX12_rulesLeft_10 rfl rfl ?_
      refine V.aload_n dX12_rulesLeft_11 rfl rfl rfl ?_
      refine V.getR (r := 114) dX12_rulesLeft_12 fl_X12_7 rfl (Or.inl ⟨rfl, SHL_lt rfl⟩) rfl (ly_113_0 (srh.ly ly)) ?_
      refine V.bipush (v := 32) dX12_rulesLeft_15 rfl ?_
      refine V.iload_n dX12_rulesLeft_17 rfl rfl ?_
      refine V.iadd dX12_rulesLeft_18 ?_
      obtain ⟨b5, hf2⟩ := gdi_el hf
      replace hf := hf2
      clear hf2
      refine V.iaload dX12_rulesLeft_19 rfl (Or.inl ⟨rfl, SHL_lt rfl⟩) b5 ?_
      refine V.if_ne (tgt := 27) dX12_rulesLeft_20 (by decide) (fun c6 => ?_) (fun c6 => ?_)
      · replace hf := ite_n hf c6
        refine V.aload_n dX12_rulesLeft_27 rfl rfl rfl ?_
        refine V.getR (r := 114) dX12_rulesLeft_28 fl_X12_7 rfl (Or.inl ⟨rfl, SHL_lt rfl⟩) rfl (ly_113_0 (srh.ly ly)) ?_
        refine V.bipush (v := 32) dX12_rulesLeft_31 rfl ?_
        refine V.iload_n dX12_rulesLeft_33 rfl rfl ?_
        refine V.iadd dX12_rulesLeft_34 ?_
        obtain ⟨b7, hf2⟩ := gdi_el hf
        replace hf := hf2
        clear hf2
        refine V.iaload dX12_rulesLeft_35 rfl (Or.inl ⟨rfl, SHL_lt rfl⟩) b7 ?_
        refine V.iconst (v := 3) dX12_rulesLeft_36 rfl ?_
        refine V.icmp_ne (tgt := 44) dX12_rulesLeft_37 (by decide) (fun c8 => ?_) (fun c8 => ?_)
        · replace hf := ite_n hf c8
          refine V.iconst (v := 1) dX12_rulesLeft_44 rfl ?_
          refine V.imul dX12_rulesLeft_45 ?_
          refine V.nmi (fun x9 ex9 => ?_)
          replace hf := lt_el hf x9 ex9
          refine V.istore_n (ls' := [.ref 113, .int x9, .int l2]) dX12_rulesLeft_46 rfl (by decide) rfl ?_
          obtain ⟨x10, ex10⟩ : ∃ y : Int32, y = l2 + 1 := ⟨_, rfl⟩
          replace hf := lt_el hf x10 ex10
          refine V.iinc (v := x10) (ls' := [.ref 113, .int x9, .int x10]) dX12_rulesLeft_47 rfl (by decide) ex10.symm rfl ?_
          refine V.goto (tgt := 4) dX12_rulesLeft_50 (by decide) ?_
          exact ih x9 x10 h srh hf
        · replace hf := ite_p hf c8
          refine V.iconst (v := 0) dX12_rulesLeft_40 rfl ?_
          refine V.goto (tgt := 45) dX12_rulesLeft_41 (by decide) ?_
          refine V.imul dX12_rulesLeft_45 ?_
          refine V.nmi (fun x11 ex11 => ?_)
          replace hf := lt_el hf x11 ex11
          refine V.istore_n (ls' := [.ref 113, .int x11, .int l2]) dX12_rulesLeft_46 rfl (by decide) rfl ?_
          obtain ⟨x12, ex12⟩ : ∃ y : Int32, y = l2 + 1 := ⟨_, rfl⟩
          replace hf := lt_el hf x12 ex12
          refine V.iinc (v := x12) (ls' := [.ref 113, .int x11, .int x12]) dX12_rulesLeft_47 rfl (by decide) ex12.symm rfl ?_
          refine V.goto (tgt := 4) dX12_rulesLeft_50 (by decide) ?_
          exact ih x11 x12 h srh hf
      · replace hf := ite_p hf c6
        refine V.iconst (v := 2) dX12_rulesLeft_23 rfl ?_
        refine V.goto (tgt := 45) dX12_rulesLeft_24 (by decide) ?_
        refine V.imul dX12_rulesLeft_45 ?_
        refine V.nmi (fun x13 ex13 => ?_)
        replace hf := lt_el hf x13 ex13
        refine V.istore_n (ls' := [.ref 113, .int x13, .int l2]) dX12_rulesLeft_46 rfl (by decide) rfl ?_
        obtain ⟨x14, ex14⟩ : ∃ y : Int32, y = l2 + 1 := ⟨_, rfl⟩
        replace hf := lt_el hf x14 ex14
        refine V.iinc (v := x14) (ls' := [.ref 113, .int x13, .int x14]) dX12_rulesLeft_47 rfl (by decide) ex14.symm rfl ?_
        refine V.goto (tgt := 4) dX12_rulesLeft_50 (by decide) ?_
        exact ih x13 x14 h srh hf
set_option maxRecDepth 100000 in
theorem th_X12_rulesLeft {h : HP} (ly : Lay h)  {rr : Int32} {hh : HP} (hf : f_X12_rulesLeft h = some (rr, hh)) : Spec yX12_rulesLeft cX12_rulesLeft miX12_rulesLeft [.ref 113] h (pI fun r' h' => (r' = rr ∧ h' = hh) ∧ SR h hh) := by
  refine Spec.of (ls0 := [.ref 113, .null, .null]) mo_X12_rulesLeft (Nat.le_of_ble_eq_true rfl) rfl ?_
  rw [ly.1]
  have srh : SR h h := SR.refl h
  unfold f_X12_rulesLeft at hf
  refine V.iconst (v := 1) dX12_rulesLeft_0 rfl ?_
  refine V.istore_n (ls' := [.ref 113, .int 1, .null]) dX12_rulesLeft_1 rfl (by decide) rfl ?_
  refine V.iconst (v := 0) dX12_rulesLeft_2 rfl ?_
  refine V.istore_n (ls' := [.ref 113, .int 1, .int 0]) dX12_rulesLeft_3 rfl (by decide) rfl ?_
  exact th_X12_rulesLeft_4 ly FU 1 0 h srh hf
set_option maxRecDepth 100000 in
theorem th_X12_fits_19 {h0 : HP} (ly : Lay h0) {rr : Int32} {hh : HP} {K4 : Int32 → Int32 → HP → Option (Int32 × HP)} (kok4 : ∀ (l1 : Int32) (l2 : Int32) (g : HP), SR h0 g → K4 l1 l2 g = some (rr, hh) → V cX12_fits miX12_fits (ZI h0 miX12_fits rr hh) 130 4 [.ref 113, .int l1, .int l2, .null, .null, .null] [] g) : ∀ (n : Nat) (l1 : Int32) (l2 : Int32) (l3 : Int32) (l4 : Int32) (h : HP), SR h0 h → f_X12_fits_19 K4 n l1 l2 l3 l4 h = some (rr, hh) → V cX12_fits miX12_fits (ZI h0 miX12_fits rr hh) 130 19 [.ref 113, .int l1, .int l2, .int l3, .int l4, .null] [] h := by
  intro n
  induction n with
  | zero => intro l1 l2 l3 l4 h srh hf; exact absurd hf (by unfold f_X12_fits_19; simp)
  | succ n ih =>
    intro l1 l2 l3 l4 h srh hf
    unfold f_X12_fits_19 at hf
    refine V.iload dX12_fits_19 rfl ?_
    refine V.bipush (v := 10) dX12_fits_21 rfl ?_
    refine V.icmp_ge (tgt := 87) dX12_fits_23 (by decide) (fun c5 => ?_) (fun c5 => ?_)
    · replace hf := ite_p hf c5
      refine V.iload_n dX12_fits_87 rfl rfl ?_
      refine V.iload_n dX12_fits_88 rfl rfl ?_
      refine V.if_eq (tgt := 98) dX12_fits_89 (by decide) (fun c6 => ?_) (fun c6 => ?_)
      · replace hf := ite_p hf c6
        refine V.iconst (v := 0) dX12_fits_98 rfl ?_
        refine V.ior dX12_fits_99 ?_
        refine V.nmi (fun x7 ex7 => ?_)
        replace hf := lt_el hf x7 ex7
        refine V.istore_n (ls' := [.ref 113, .int x7, .int l2, .int l3, .int l4, .null]) dX12_fits_100 rfl (by decide) rfl ?_
        obtain ⟨x8, ex8⟩ : ∃ y : Int32, y = l2 + 1 := ⟨_, rfl⟩
        replace hf := lt_el hf x8 ex8
        refine V.iinc (v := x8) (ls' := [.ref 113, .int x7, .int x8, .int l3, .int l4, .null]) dX12_fits_101 rfl (by decide) ex8.symm rfl ?_
        refine V.goto (tgt := 4) dX12_fits_104 (by decide) ?_
        refine V.less (ls' := [.ref 113, .int x7, .int x8, .null, .null, .null]) ⟨Or.inr rfl, Or.inr rfl, Or.inr rfl, Or.inl rfl, Or.inl rfl, Or.inl rfl, trivial⟩ ?_
        exact kok4 x7 x8 h srh hf
      · replace hf := ite_n hf c6
        refine V.iconst (v := 1) dX12_fits_92 rfl ?_
        refine V.iload_n dX12_fits_93 rfl rfl ?_
        refine V.ishl dX12_fits_94 ?_
        refine V.goto (tgt := 99) dX12_fits_95 (by decide) ?_
        refine V.ior dX12_fits_99 ?_
        refine V.nmi (fun x9 ex9 => ?_)
        replace hf := lt_el hf x9 ex9
        refine V.istore_n (ls' := [.ref 113, .int x9, .int l2, .int l3, .int l4, .null]) dX12_fits_100 rfl (by decide) rfl ?_
        obtain ⟨x10, ex10⟩ : ∃ y : Int32, y = l2 + 1 := ⟨_, rfl⟩
        replace hf := lt_el hf x10 ex10
        refine V.iinc (v := x10) (ls' := [.ref 113, .int x9, .int x10, .int l3, .int l4, .null]) dX12_fits_101 rfl (by decide) ex10.symm rfl ?_
        refine V.goto (tgt := 4) dX12_fits_104 (by decide) ?_
        refine V.less (ls' := [.ref 113, .int x9, .int x10, .null, .null, .null]) ⟨Or.inr rfl, Or.inr rfl, Or.inr rfl, Or.inl rfl, Or.inl rfl, Or.inl rfl, trivial⟩ ?_
        exact kok4 x9 x10 h srh hf
    · replace hf := ite_n hf c5
      refine V.aload_n dX12_fits_26 rfl rfl rfl ?_
      refine V.getR (r := 114) dX12_fits_27 fl_X12_7 rfl (Or.inl ⟨rfl, SHL_lt rfl⟩) rfl (ly_113_0 (srh.ly ly)) ?_
      refine V.bipush (v := 12) dX12_fits_30 rfl ?_
      refine V.iconst (v := 2) dX12_fits_32 rfl ?_
      refine V.iload_n dX12_fits_33 rfl rfl ?_
      refine V.imul dX12_fits_34 ?_
      refine V.iadd dX12_fits_35 ?_
      refine V.iload dX12_fits_36 rfl ?_
      refine V.iconst (v := 5) dX12_fits_38 rfl ?_
      refine V.idiv dX12_fits_39 (by decide) ?_
      refine V.iadd dX12_fits_40 ?_
      obtain ⟨b11, hf2⟩ := gdi_el hf
      replace hf := hf2
      clear hf2
      refine V.iaload dX12_fits_41 rfl (Or.inl ⟨rfl, SHL_lt rfl⟩) b11 ?_
      refine V.iload dX12_fits_42 rfl ?_
      refine V.iconst (v := 5) dX12_fits_44 rfl ?_
      refine V.irem dX12_fits_45 (by decide) ?_
      refine V.ishr dX12_fits_46 ?_
      refine V.iconst (v := 1) dX12_fits_47 rfl ?_
      refine V.iand dX12_fits_48 ?_
      refine V.nmi (fun x12 ex12 => ?_)
      replace hf := lt_el hf x12 ex12
      refine V.istore (ls' := [.ref 113, .int l1, .int l2, .int l3, .int l4, .int x12]) dX12_fits_49 (by decide) rfl ?_
      refine V.iload_n dX12_fits_51 rfl rfl ?_
      refine V.if_eq (tgt := 79) dX12_fits_52 (by decide) (fun c13 => ?_) (fun c13 => ?_)
      · replace hf := ite_p hf c13
        refine V.iconst (v := 0) dX12_fits_79 rfl ?_
        refine V.istore_n (ls' := [.ref 113, .int l1, .int l2, .int 0, .int l4, .int x12]) dX12_fits_80 rfl (by decide) rfl ?_
        obtain ⟨x14, ex14⟩ : ∃ y : Int32, y = l4 + 1 := ⟨_, rfl⟩
        replace hf := lt_el hf x14 ex14
        refine V.iinc (v := x14) (ls' := [.ref 113, .int l1, .int l2, .int 0, .int x14, .int x12]) dX12_fits_81 rfl (by decide) ex14.symm rfl ?_
        refine V.goto (tgt := 19) dX12_fits_84 (by decide) ?_
        refine V.less (ls' := [.ref 113, .int l1, .int l2, .int 0, .int x14, .null]) ⟨Or.inr rfl, Or.inr rfl, Or.inr rfl, Or.inr rfl, Or.inr rfl, Or.inl rfl, trivial⟩ ?_
        exact ih l1 l2 0 x14 h srh hf
      · replace hf := ite_n hf c13
        refine V.aload_n dX12_fits_55 rfl rfl rfl ?_
        refine V.getR (r := 114) dX12_fits_56 fl_X12_7 rfl (Or.inl ⟨rfl, SHL_lt rfl⟩) rfl (ly_113_0 (srh.ly ly)) ?_
        refine V.bipush (v := 32) dX12_fits_59 rfl ?_
        refine V.iload dX12_fits_61 rfl ?_
        refine V.iadd dX12_fits_63 ?_
        obtain ⟨b15, hf2⟩ := gdi_el hf
        replace hf := hf2
        clear hf2
        refine V.iaload dX12_fits_64 rfl (Or.inl ⟨rfl, SHL_lt rfl⟩) b15 ?_
        refine V.iconst (v := 1) dX12_fits_65 rfl ?_
        refine V.iload dX12_fits_66 rfl ?_
        refine V.ishl dX12_fits_68 ?_
        refine V.iconst (v := (-1)) dX12_fits_69 rfl ?_
        refine V.ixor dX12_fits_70 ?_
        refine V.iand dX12_fits_71 ?_
        refine V.if_ne (tgt := 79) dX12_fits_72 (by decide) (fun c16 => ?_) (fun c16 => ?_)
        · replace hf := ite_n hf c16
          refine V.iconst (v := 0) dX12_fits_79 rfl ?_
          refine V.istore_n (ls' := [.ref 113, .int l1, .int l2, .int 0, .int l4, .int x12]) dX12_fits_80 rfl (by decide) rfl ?_
          obtain ⟨x17, ex17⟩ : ∃ y : Int32, y = l4 + 1 := ⟨_, rfl⟩
          replace hf := lt_el hf x17 ex17
          refine V.iinc (v := x17) (ls' := [.ref 113, .int l1, .int l2, .int 0, .int x17, .int x12]) dX12_fits_81 rfl (by decide) ex17.symm rfl ?_
          refine V.goto (tgt := 19) dX12_fits_84 (by decide) ?_
          refine V.less (ls' := [.ref 113, .int l1, .int l2, .int 0, .int x17, .null]) ⟨Or.inr rfl, Or.inr rfl, Or.inr rfl, Or.inr rfl, Or.inr rfl, Or.inl rfl, trivial⟩ ?_
          exact ih l1 l2 0 x17 h srh hf
        · replace hf := ite_p hf c16
          refine V.iconst (v := 1) dX12_fits_75 rfl ?_
          refine V.goto (tgt := 80) dX12_fits_76 (by decide) ?_
          refine V.istore_n (ls' := [.ref 113, .int l1, .int l2, .int 1, .int l4, .int x12]) dX12_fits_80 rfl (by decide) rfl ?_
          obtain ⟨x18, ex18⟩ : ∃ y : Int32, y = l4 + 1 := ⟨_, rfl⟩
          replace hf := lt_el hf x18 ex18
          refine V.iinc (v := x18) (ls' := [.ref 113, .int l1, .int l2, .int 1, .int x18, .int x12]) dX12_fits_81 rfl (by decide) ex18.symm rfl ?_
          refine V.goto (tgt := 19) dX12_fits_84 (by decide) ?_
          refine V.less (ls' := [.ref 113, .int l1, .int l2, .int 1, .int x18, .null]) ⟨Or.inr rfl, Or.inr rfl, Or.inr rfl, Or.inr rfl, Or.inr rfl, Or.inl rfl, trivial⟩ ?_
          exact ih l1 l2 1 x18 h srh hf
set_option maxRecDepth 100000 in
theorem th_X12_fits_4 {h0 : HP} (ly : Lay h0) {rr : Int32} {hh : HP}  : ∀ (n : Nat) (l1 : Int32) (l2 : Int32) (h : HP), SR h0 h → f_X12_fits_4 n l1 l2 h = some (rr, hh) → V cX12_fits miX12_fits (ZI h0 miX12_fits rr hh) 130 4 [.ref 113, .int l1, .int l2, .null, .null, .null] [] h := by
  intro n
  induction n with
  | zero => intro l1 l2 h srh hf; exact absurd hf (by unfold f_X12_fits_4; simp)
  | succ n ih =>
    intro l1 l2 h srh hf
    unfold f_X12_fits_4 at hf
    refine V.iload_n dX12_fits_4 rfl rfl ?_
    refine V.aload_n dX12_fits_5 rfl rfl rfl ?_
    refine V.getR (r := 114) dX12_fits_6 fl_X12_7 rfl (Or.inl ⟨rfl, SHL_lt rfl⟩) rfl (ly_113_0 (srh.ly ly)) ?_
    refine V.iconst (v := 5) dX12_fits_9 rfl ?_
    refine V.iaload dX12_fits_10 rfl (Or.inl ⟨rfl, SHL_lt rfl⟩) (vp_lit (by decide)) ?_
    rw [show Int32.toNatClampNeg 5 = 5 from rfl]
    refine V.icmp_ge (tgt := 107) dX12_fits_11 (by decide) (fun c1 => ?_) (fun c1 => ?_)
    · replace hf := ite_p hf c1
      refine V.aload_n dX12_fits_107 rfl rfl rfl ?_
      refine V.iload_n dX12_fits_108 rfl rfl ?_
      obtain ⟨r4, h3, q2, hf2⟩ := bd2_el hf
      replace hf := hf2
      clear hf2
      refine V.callVI dX12_fits_109 ml_X12_85 mo_X12_gives mv_X12_gives rfl (fun q hq => by cases hq; rfl) (by decide) (Or.inl ⟨rfl, SHL_lt rfl⟩) (th_X12_gives (srh.ly ly) q2) rfl rfl ⟨Nat.le_of_ble_eq_true rfl, Nat.le_of_ble_eq_true rfl, fun _ => ⟨rfl, rfl⟩⟩ (Nat.le_of_ble_eq_true rfl) rfl (post_I (fun sq => ?_))
      have srh3 : SR h0 h3 := srh.trans sq
      clear sq q2
      refine V.ireturn dX12_fits_112 rfl rfl ⟨rfl, rfl⟩ ly.1 ?_
      exact ret_I hf srh3
    · replace hf := ite_n hf c1
      refine V.iconst (v := 1) dX12_fits_14 rfl ?_
      refine V.istore_n (ls' := [.ref 113, .int l1, .int l2, .int 1, .null, .null]) dX12_fits_15 rfl (by decide) rfl ?_
      refine V.iconst (v := 0) dX12_fits_16 rfl ?_
      refine V.istore (ls' := [.ref 113, .int l1, .int l2, .int 1, .int 0, .null]) dX12_fits_17 (by decide) rfl ?_
      exact th_X12_fits_19 ly ih FU l1 l2 1 0 h srh hf
set_option maxRecDepth 100000 in
theorem th_X12_fits {h : HP} (ly : Lay h)  {rr : Int32} {hh : HP} (hf : f_X12_fits h = some (rr, hh)) : Spec yX12_fits cX12_fits miX12_fits [.ref 113] h (pI fun r' h' => (r' = rr ∧ h' = hh) ∧ SR h hh) := by
  refine Spec.of (ls0 := [.ref 113, .null, .null, .null, .null, .null]) mo_X12_fits (Nat.le_of_ble_eq_true rfl) rfl ?_
  rw [ly.1]
  have srh : SR h h := SR.refl h
  unfold f_X12_fits at hf
  refine V.iconst (v := 0) dX12_fits_0 rfl ?_
  refine V.istore_n (ls' := [.ref 113, .int 0, .null, .null, .null, .null]) dX12_fits_1 rfl (by decide) rfl ?_
  refine V.iconst (v := 0) dX12_fits_2 rfl ?_
  refine V.istore_n (ls' := [.ref 113, .int 0, .int 0, .null, .null, .null]) dX12_fits_3 rfl (by decide) rfl ?_
  exact th_X12_fits_4 ly FU 0 0 h srh hf
set_option maxRecDepth 100000 in
theorem th_X12_forget_28 {h0 : HP} (ly : Lay h0) {rr : Int32} {hh : HP} {K4 : Int32 → Int32 → HP → Option (Int32 × HP)} (kok4 : ∀ (l1 : Int32) (l2 : Int32) (g : HP), SR h0 g → K4 l1 l2 g = some (rr, hh) → V cX12_forget miX12_forget (ZI h0 miX12_forget rr hh) 130 4 [.ref 113, .int l1, .int l2] [] g) : ∀ (l2 : Int32) (s0 : Int32) (s1 : Int32) (h : HP), SR h0 h → f_X12_forget_28 K4 l2 s0 s1 h = some (rr, hh) → V cX12_forget miX12_forget (ZI h0 miX12_forget rr hh) 130 28 [.ref 113, .null, .int l2] [.int s1, .int s0] h := by
  intro l2 s0 s1 h srh hf
  unfold f_X12_forget_28 at hf
  refine V.iadd dX12_forget_28 ?_
  refine V.nmi (fun x7 ex7 => ?_)
  replace hf := lt_el hf x7 ex7
  refine V.istore_n (ls' := [.ref 113, .int x7, .int l2]) dX12_forget_29 rfl (by decide) rfl ?_
  refine V.aload_n dX12_forget_30 rfl rfl rfl ?_
  refine V.getR (r := 114) dX12_forget_31 fl_X12_7 rfl (Or.inl ⟨rfl, SHL_lt rfl⟩) rfl (ly_113_0 (srh.ly ly)) ?_
  refine V.bipush (v := 32) dX12_forget_34 rfl ?_
  refine V.iload_n dX12_forget_36 rfl rfl ?_
  refine V.iadd dX12_forget_37 ?_
  refine V.iconst (v := 0) dX12_forget_38 rfl ?_
  obtain ⟨b8, hf2⟩ := gdi_el hf
  replace hf := hf2
  clear hf2
  refine V.iastore dX12_forget_39 rfl (Or.inl ⟨rfl, SHL_lt rfl⟩) b8 ?_
  refine V.nameH (fun g9 eg9 => ?_)
  replace hf := lt_el hf g9 eg9
  have srg9 : SR h0 g9 := by rw [eg9]; exact srh.I _ _ _
  obtain ⟨x10, ex10⟩ : ∃ y : Int32, y = l2 + 1 := ⟨_, rfl⟩
  replace hf := lt_el hf x10 ex10
  refine V.iinc (v := x10) (ls' := [.ref 113, .int x7, .int x10]) dX12_forget_40 rfl (by decide) ex10.symm rfl ?_
  refine V.goto (tgt := 4) dX12_forget_43 (by decide) ?_
  exact kok4 x7 x10 g9 srg9 hf
set_option maxRecDepth 100000 in
theorem th_X12_forget_4 {h0 : HP} (ly : Lay h0) {rr : Int32} {hh : HP}  : ∀ (n : Nat) (l1 : Int32) (l2 : Int32) (h : HP), SR h0 h → f_X12_forget_4 n l1 l2 h = some (rr, hh) → V cX12_forget miX12_forget (ZI h0 miX12_forget rr hh) 130 4 [.ref 113, .int l1, .int l2] [] h := by
  intro n
  induction n with
  | zero => intro l1 l2 h srh hf; exact absurd hf (by unfold f_X12_forget_4; simp)
  | succ n ih =>
    intro l1 l2 h srh hf
    unfold f_X12_forget_4 at hf
    refine V.iload_n dX12_forget_4 rfl rfl ?_
    refine V.bipush (v := 10) dX12_forget_5 rfl ?_
    refine V.icmp_ge (tgt := 46) dX12_forget_7 (by decide) (fun c1 => ?_) (fun c1 => ?_)
    · replace hf := ite_p hf c1
      refine V.aload_n dX12_forget_46 rfl rfl rfl ?_
      refine V.iload_n dX12_forget_47 rfl rfl ?_
      obtain ⟨r4, h3, q2, hf2⟩ := bd2_el hf
      replace hf := hf2
      clear hf2
      refine V.callVI dX12_forget_48 ml_X12_85 mo_X12_gives mv_X12_gives rfl (fun q hq => by cases hq; rfl) (by decide) (Or.inl ⟨rfl, SHL_lt rfl⟩) (th_X12_gives (srh.ly ly) q2) rfl rfl ⟨Nat.le_of_ble_eq_true rfl, Nat.le_of_ble_eq_true rfl, fun _ => ⟨rfl, rfl⟩⟩ (Nat.le_of_ble_eq_true rfl) rfl (post_I (fun sq => ?_))
      have srh3 : SR h0 h3 := srh.trans sq
      clear sq q2
      refine V.ireturn dX12_forget_51 rfl rfl ⟨rfl, rfl⟩ ly.1 ?_
      exact ret_I hf srh3
    · replace hf := ite_n hf c1
      refine V.iload_n dX12_forget_10 rfl rfl ?_
      refine V.aload_n dX12_forget_11 rfl rfl rfl ?_
      refine V.getR (r := 114) dX12_forget_12 fl_X12_7 rfl (Or.inl ⟨rfl, SHL_lt rfl⟩) rfl (ly_113_0 (srh.ly ly)) ?_
      refine V.bipush (v := 32) dX12_forget_15 rfl ?_
      refine V.iload_n dX12_forget_17 rfl rfl ?_
      refine V.iadd dX12_forget_18 ?_
      obtain ⟨b5, hf2⟩ := gdi_el hf
      replace hf := hf2
      clear hf2
      refine V.iaload dX12_forget_19 rfl (Or.inl ⟨rfl, SHL_lt rfl⟩) b5 ?_
      refine V.if_ne (tgt := 27) dX12_forget_20 (by decide) (fun c6 => ?_) (fun c6 => ?_)
      · replace hf := ite_n hf c6
        refine V.iconst (v := 1) dX12_forget_27 rfl ?_
        refine V.less (ls' := [.ref 113, .null, .int l2]) ⟨Or.inr rfl, Or.inl rfl, Or.inr rfl, trivial⟩ ?_
        exact th_X12_forget_28 ly ih l2 l1 1 h srh hf
      · replace hf := ite_p hf c6
        refine V.iconst (v := 0) dX12_forget_23 rfl ?_
        refine V.goto (tgt := 28) dX12_forget_24 (by decide) ?_
        refine V.less (ls' := [.ref 113, .null, .int l2]) ⟨Or.inr rfl, Or.inl rfl, Or.inr rfl, trivial⟩ ?_
        exact th_X12_forget_28 ly ih l2 l1 0 h srh hf
set_option maxRecDepth 100000 in
theorem th_X12_forget {h : HP} (ly : Lay h)  {rr : Int32} {hh : HP} (hf : f_X12_forget h = some (rr, hh)) : Spec yX12_forget cX12_forget miX12_forget [.ref 113] h (pI fun r' h' => (r' = rr ∧ h' = hh) ∧ SR h hh) := by
  refine Spec.of (ls0 := [.ref 113, .null, .null]) mo_X12_forget (Nat.le_of_ble_eq_true rfl) rfl ?_
  rw [ly.1]
  have srh : SR h h := SR.refl h
  unfold f_X12_forget at hf
  refine V.iconst (v := 0) dX12_forget_0 rfl ?_
  refine V.istore_n (ls' := [.ref 113, .int 0, .null]) dX12_forget_1 rfl (by decide) rfl ?_
  refine V.iconst (v := 0) dX12_forget_2 rfl ?_
  refine V.istore_n (ls' := [.ref 113, .int 0, .int 0]) dX12_forget_3 rfl (by decide) rfl ?_
  exact th_X12_forget_4 ly FU 0 0 h srh hf
set_option maxRecDepth 100000 in
theorem th_X12_shows_8 {h0 : HP} (ly : Lay h0) {rr : Int32} {hh : HP}  : ∀ (n : Nat) (l1 : Int32) (l2 : Int32) (h : HP), SR h0 h → f_X12_shows_8 n l1 l2 h = some (rr, hh) → V cX12_shows miX12_shows (ZI h0 miX12_shows rr hh) 130 8 [.ref 113, .int l1, .int l2, .null] [] h := by
  intro n
  induction n with
  | zero => intro l1 l2 h srh hf; exact absurd hf (by unfold f_X12_shows_8; simp)
  | succ n ih =>
    intro l1 l2 h srh hf
    unfold f_X12_shows_8 at hf
    refine V.iload_n dX12_shows_8 rfl rfl ?_
    refine V.aload_n dX12_shows_9 rfl rfl rfl ?_
    obtain ⟨r5, h4, q3, hf2⟩ := bd2_el hf
    replace hf := hf2
    clear hf2
    refine V.callVI dX12_shows_10 ml_X12_262 mo_X12_places mv_X12_places rfl (fun q hq => by cases hq; rfl) (by decide) (Or.inl ⟨rfl, SHL_lt rfl⟩) (th_X12_places (srh.ly ly) q3) rfl rfl ⟨Nat.le_of_ble_eq_true rfl, Nat.le_of_ble_eq_true rfl, fun _ => ⟨rfl, rfl⟩⟩ (Nat.le_of_ble_eq_true rfl) rfl (post_I (fun sq => ?_))
    have srh4 : SR h0 h4 := srh.trans sq
    clear sq q3
    refine V.icmp_ge (tgt := 88) dX12_shows_13 (by decide) (fun c6 => ?_) (fun c6 => ?_)
    · replace hf := ite_p hf c6
      refine V.aload_n dX12_shows_88 rfl rfl rfl ?_
      refine V.iload_n dX12_shows_89 rfl rfl ?_
      obtain ⟨r9, h8, q7, hf2⟩ := bd2_el hf
      replace hf := hf2
      clear hf2
      refine V.callSI dX12_shows_90 ml_X12_226 mo_X12_bits ms_X12_bits (th_X12_bits (srh4.ly ly) q7) rfl rfl ⟨Nat.le_of_ble_eq_true rfl, Nat.le_of_ble_eq_true rfl, fun _ => ⟨rfl, rfl⟩⟩ (Nat.le_of_ble_eq_true rfl) rfl (post_I (fun sq => ?_))
      have srh8 : SR h0 h8 := srh4.trans sq
      clear sq q7
      obtain ⟨r12, h11, q10, hf2⟩ := bd2_el hf
      replace hf := hf2
      clear hf2
      refine V.callVI dX12_shows_93 ml_X12_85 mo_X12_gives mv_X12_gives rfl (fun q hq => by cases hq; rfl) (by decide) (Or.inl ⟨rfl, SHL_lt rfl⟩) (th_X12_gives (srh8.ly ly) q10) rfl rfl ⟨Nat.le_of_ble_eq_true rfl, Nat.le_of_ble_eq_true rfl, fun _ => ⟨rfl, rfl⟩⟩ (Nat.le_of_ble_eq_true rfl) rfl (post_I (fun sq => ?_))
      have srh11 : SR h0 h11 := srh8.trans sq
      clear sq q10
      refine V.ireturn dX12_shows_96 rfl rfl ⟨rfl, rfl⟩ ly.1 ?_
      exact ret_I hf srh11
    · replace hf := ite_n hf c6
      refine V.aload_n dX12_shows_16 rfl rfl rfl ?_
      obtain ⟨r15, h14, q13, hf2⟩ := bd2_el hf
      replace hf := hf2
      clear hf2
      refine V.callVI dX12_shows_17 ml_X12_268 mo_X12_free mv_X12_free rfl (fun q hq => by cases hq; rfl) (by decide) (Or.inl ⟨rfl, SHL_lt rfl⟩) (th_X12_free (srh4.ly ly) q13) rfl rfl ⟨Nat.le_of_ble_eq_true rfl, Nat.le_of_ble_eq_true rfl, fun _ => ⟨rfl, rfl⟩⟩ (Nat.le_of_ble_eq_true rfl) rfl (post_I (fun sq => ?_))
      have srh14 : SR h0 h14 := srh4.trans sq
      clear sq q13
      refine V.iload_n dX12_shows_20 rfl rfl ?_
      refine V.ishr dX12_shows_21 ?_
      refine V.iconst (v := 1) dX12_shows_22 rfl ?_
      refine V.iand dX12_shows_23 ?_
      refine V.if_ne (tgt := 30) dX12_shows_24 (by decide) (fun c16 => ?_) (fun c16 => ?_)
      · replace hf := ite_n hf c16
        refine V.iconst (v := 5) dX12_shows_30 rfl ?_
        refine V.aload_n dX12_shows_31 rfl rfl rfl ?_
        refine V.getR (r := 114) dX12_shows_32 fl_X12_7 rfl (Or.inl ⟨rfl, SHL_lt rfl⟩) rfl (ly_113_0 (srh14.ly ly)) ?_
        refine V.iconst (v := 3) dX12_shows_35 rfl ?_
        refine V.iaload dX12_shows_36 rfl (Or.inl ⟨rfl, SHL_lt rfl⟩) (vp_lit (by decide)) ?_
        rw [show Int32.toNatClampNeg 3 = 3 from rfl]
        refine V.iload_n dX12_shows_37 rfl rfl ?_
        refine V.ishr dX12_shows_38 ?_
        refine V.iconst (v := 1) dX12_shows_39 rfl ?_
        refine V.iand dX12_shows_40 ?_
        refine V.imul dX12_shows_41 ?_
        refine V.aload_n dX12_shows_42 rfl rfl rfl ?_
        refine V.getR (r := 122) dX12_shows_43 fl_X12_47 rfl (Or.inl ⟨rfl, SHL_lt rfl⟩) rfl (ly_113_23 (srh14.ly ly)) ?_
        refine V.iload_n dX12_shows_46 rfl rfl ?_
        obtain ⟨b17, hf2⟩ := gdi_el hf
        replace hf := hf2
        clear hf2
        refine V.iaload dX12_shows_47 rfl (Or.inl ⟨rfl, SHL_lt rfl⟩) b17 ?_
        refine V.aload_n dX12_shows_48 rfl rfl rfl ?_
        refine V.getR (r := 114) dX12_shows_49 fl_X12_7 rfl (Or.inl ⟨rfl, SHL_lt rfl⟩) rfl (ly_113_0 (srh14.ly ly)) ?_
        refine V.iconst (v := 3) dX12_shows_52 rfl ?_
        refine V.iaload dX12_shows_53 rfl (Or.inl ⟨rfl, SHL_lt rfl⟩) (vp_lit (by decide)) ?_
        rw [show Int32.toNatClampNeg 3 = 3 from rfl]
        refine V.iand dX12_shows_54 ?_
        obtain ⟨r20, h19, q18, hf2⟩ := bd2_el hf
        replace hf := hf2
        clear hf2
        refine V.callSI dX12_shows_55 ml_X12_226 mo_X12_bits ms_X12_bits (th_X12_bits (srh14.ly ly) q18) rfl rfl ⟨Nat.le_of_ble_eq_true rfl, Nat.le_of_ble_eq_true rfl, fun _ => ⟨rfl, rfl⟩⟩ (Nat.le_of_ble_eq_true rfl) rfl (post_I (fun sq => ?_))
        have srh19 : SR h0 h19 := srh14.trans sq
        clear sq q18
        refine V.iadd dX12_shows_58 ?_
        refine V.nmi (fun x21 ex21 => ?_)
        replace hf := lt_el hf x21 ex21
        refine V.istore_n (ls' := [.ref 113, .int l1, .int l2, .int x21]) dX12_shows_59 rfl (by decide) rfl ?_
        refine V.iload_n dX12_shows_60 rfl rfl ?_
        refine V.aload_n dX12_shows_61 rfl rfl rfl ?_
        refine V.getR (r := 114) dX12_shows_62 fl_X12_7 rfl (Or.inl ⟨rfl, SHL_lt rfl⟩) rfl (ly_113_0 (srh19.ly ly)) ?_
        refine V.bipush (v := 32) dX12_shows_65 rfl ?_
        refine V.iload_n dX12_shows_67 rfl rfl ?_
        refine V.iadd dX12_shows_68 ?_
        obtain ⟨b22, hf2⟩ := gdi_el hf
        replace hf := hf2
        clear hf2
        refine V.iaload dX12_shows_69 rfl (Or.inl ⟨rfl, SHL_lt rfl⟩) b22 ?_
        refine V.if_ne (tgt := 79) dX12_shows_70 (by decide) (fun c23 => ?_) (fun c23 => ?_)
        · replace hf := ite_n hf c23
          refine V.iconst (v := 0) dX12_shows_79 rfl ?_
          refine V.ior dX12_shows_80 ?_
          refine V.nmi (fun x24 ex24 => ?_)
          replace hf := lt_el hf x24 ex24
          refine V.istore_n (ls' := [.ref 113, .int x24, .int l2, .int x21]) dX12_shows_81 rfl (by decide) rfl ?_
          obtain ⟨x25, ex25⟩ : ∃ y : Int32, y = l2 + 1 := ⟨_, rfl⟩
          replace hf := lt_el hf x25 ex25
          refine V.iinc (v := x25) (ls' := [.ref 113, .int x24, .int x25, .int x21]) dX12_shows_82 rfl (by decide) ex25.symm rfl ?_
          refine V.goto (tgt := 8) dX12_shows_85 (by decide) ?_
          refine V.less (ls' := [.ref 113, .int x24, .int x25, .null]) ⟨Or.inr rfl, Or.inr rfl, Or.inr rfl, Or.inl rfl, trivial⟩ ?_
          exact ih x24 x25 h19 srh19 hf
        · replace hf := ite_p hf c23
          refine V.iconst (v := 1) dX12_shows_73 rfl ?_
          refine V.iload_n dX12_shows_74 rfl rfl ?_
          refine V.ishl dX12_shows_75 ?_
          refine V.goto (tgt := 80) dX12_shows_76 (by decide) ?_
          refine V.ior dX12_shows_80 ?_
          refine V.nmi (fun x26 ex26 => ?_)
          replace hf := lt_el hf x26 ex26
          refine V.istore_n (ls' := [.ref 113, .int x26, .int l2, .int x21]) dX12_shows_81 rfl (by decide) rfl ?_
          obtain ⟨x27, ex27⟩ : ∃ y : Int32, y = l2 + 1 := ⟨_, rfl⟩
          replace hf := lt_el hf x27 ex27
          refine V.iinc (v := x27) (ls' := [.ref 113, .int x26, .int x27, .int x21]) dX12_shows_82 rfl (by decide) ex27.symm rfl ?_
          refine V.goto (tgt := 8) dX12_shows_85 (by decide) ?_
          refine V.less (ls' := [.ref 113, .int x26, .int x27, .null]) ⟨Or.inr rfl, Or.inr rfl, Or.inr rfl, Or.inl rfl, trivial⟩ ?_
          exact ih x26 x27 h19 srh19 hf
      · replace hf := ite_p hf c16
        refine V.goto (tgt := 82) dX12_shows_27 (by decide) ?_
        obtain ⟨x28, ex28⟩ : ∃ y : Int32, y = l2 + 1 := ⟨_, rfl⟩
        replace hf := lt_el hf x28 ex28
        refine V.iinc (v := x28) (ls' := [.ref 113, .int l1, .int x28, .null]) dX12_shows_82 rfl (by decide) ex28.symm rfl ?_
        refine V.goto (tgt := 8) dX12_shows_85 (by decide) ?_
        exact ih l1 x28 h14 srh14 hf
set_option maxRecDepth 100000 in
theorem th_X12_shows {h : HP} (ly : Lay h)  {rr : Int32} {hh : HP} (hf : f_X12_shows h = some (rr, hh)) : Spec yX12_shows cX12_shows miX12_shows [.ref 113] h (pI fun r' h' => (r' = rr ∧ h' = hh) ∧ SR h hh) := by
  refine Spec.of (ls0 := [.ref 113, .null, .null, .null]) mo_X12_shows (Nat.le_of_ble_eq_true rfl) rfl ?_
  rw [ly.1]
  have srh : SR h h := SR.refl h
  unfold f_X12_shows at hf
  refine V.aload_n dX12_shows_0 rfl rfl rfl ?_
  obtain ⟨h2, q1, hf2⟩ := bd_el hf
  replace hf := hf2
  clear hf2
  refine V.callVV dX12_shows_1 ml_X12_271 mo_X12_laysNear mv_X12_laysNear rfl (fun q hq => by cases hq; rfl) (by decide) (Or.inl ⟨rfl, SHL_lt rfl⟩) (th_X12_laysNear (srh.ly ly) q1) rfl rfl ⟨Nat.le_of_ble_eq_true rfl, Nat.le_of_ble_eq_true rfl, fun _ => ⟨rfl, rfl⟩⟩ (Nat.le_of_ble_eq_true rfl) (Or.inl rfl) (post_V (fun sq => ?_))
  have srh2 : SR h h2 := srh.trans sq
  clear sq q1
  refine V.iconst (v := 0) dX12_shows_4 rfl ?_
  refine V.istore_n (ls' := [.ref 113, .int 0, .null, .null]) dX12_shows_5 rfl (by decide) rfl ?_
  refine V.iconst (v := 0) dX12_shows_6 rfl ?_
  refine V.istore_n (ls' := [.ref 113, .int 0, .int 0, .null]) dX12_shows_7 rfl (by decide) rfl ?_
  exact th_X12_shows_8 ly FU 0 0 h2 srh2 hf
set_option maxRecDepth 100000 in
theorem th_X12_dislikes {h : HP} (ly : Lay h) {a1 : Int32} {a2 : Int32} {rr : Int32} {hh : HP} (hf : f_X12_dislikes h a1 a2 = some (rr, hh)) : Spec yX12_dislikes cX12_dislikes miX12_dislikes [.ref 113, .int a1, .int a2] h (pI fun r' h' => (r' = rr ∧ h' = hh) ∧ SR h hh) := by
  refine Spec.of (ls0 := [.ref 113, .int a1, .int a2, .null]) mo_X12_dislikes (Nat.le_of_ble_eq_true rfl) rfl ?_
  rw [ly.1]
  have srh : SR h h := SR.refl h
  unfold f_X12_dislikes at hf
  refine V.bipush (v := 20) dX12_dislikes_0 rfl ?_
  refine V.iconst (v := 2) dX12_dislikes_2 rfl ?_
  refine V.iload_n dX12_dislikes_3 rfl rfl ?_
  refine V.imul dX12_dislikes_4 ?_
  refine V.iadd dX12_dislikes_5 ?_
  refine V.nmi (fun x1 ex1 => ?_)
  replace hf := lt_el hf x1 ex1
  refine V.istore_n (ls' := [.ref 113, .int a1, .int a2, .int x1]) dX12_dislikes_6 rfl (by decide) rfl ?_
  refine V.iload_n dX12_dislikes_7 rfl rfl ?_
  refine V.aload_n dX12_dislikes_8 rfl rfl rfl ?_
  refine V.getR (r := 114) dX12_dislikes_9 fl_X12_7 rfl (Or.inl ⟨rfl, SHL_lt rfl⟩) rfl (ly_113_0 (srh.ly ly)) ?_
  refine V.iload_n dX12_dislikes_12 rfl rfl ?_
  obtain ⟨b2, hf2⟩ := gdi_el hf
  replace hf := hf2
  clear hf2
  refine V.iaload dX12_dislikes_13 rfl (Or.inl ⟨rfl, SHL_lt rfl⟩) b2 ?_
  refine V.icmp_ge (tgt := 28) dX12_dislikes_14 (by decide) (fun c3 => ?_) (fun c3 => ?_)
  · replace hf := ite_p hf c3
    refine V.iload_n dX12_dislikes_28 rfl rfl ?_
    refine V.aload_n dX12_dislikes_29 rfl rfl rfl ?_
    refine V.getR (r := 114) dX12_dislikes_30 fl_X12_7 rfl (Or.inl ⟨rfl, SHL_lt rfl⟩) rfl (ly_113_0 (srh.ly ly)) ?_
    refine V.iload_n dX12_dislikes_33 rfl rfl ?_
    refine V.iconst (v := 1) dX12_dislikes_34 rfl ?_
    refine V.iadd dX12_dislikes_35 ?_
    obtain ⟨b4, hf2⟩ := gdi_el hf
    replace hf := hf2
    clear hf2
    refine V.iaload dX12_dislikes_36 rfl (Or.inl ⟨rfl, SHL_lt rfl⟩) b4 ?_
    refine V.icmp_le (tgt := 53) dX12_dislikes_37 (by decide) (fun c5 => ?_) (fun c5 => ?_)
    · replace hf := ite_p hf c5
      refine V.iconst (v := 0) dX12_dislikes_53 rfl ?_
      refine V.ireturn dX12_dislikes_54 rfl rfl ⟨rfl, rfl⟩ ly.1 ?_
      exact ret_I hf srh
    · replace hf := ite_n hf c5
      refine V.iload_n dX12_dislikes_40 rfl rfl ?_
      refine V.aload_n dX12_dislikes_41 rfl rfl rfl ?_
      refine V.getR (r := 114) dX12_dislikes_42 fl_X12_7 rfl (Or.inl ⟨rfl, SHL_lt rfl⟩) rfl (ly_113_0 (srh.ly ly)) ?_
      refine V.iload_n dX12_dislikes_45 rfl rfl ?_
      refine V.iconst (v := 1) dX12_dislikes_46 rfl ?_
      refine V.iadd dX12_dislikes_47 ?_
      obtain ⟨b6, hf2⟩ := gdi_el hf
      replace hf := hf2
      clear hf2
      refine V.iaload dX12_dislikes_48 rfl (Or.inl ⟨rfl, SHL_lt rfl⟩) b6 ?_
      refine V.isub dX12_dislikes_49 ?_
      refine V.goto (tgt := 54) dX12_dislikes_50 (by decide) ?_
      refine V.ireturn dX12_dislikes_54 rfl rfl ⟨rfl, rfl⟩ ly.1 ?_
      exact ret_I hf srh
  · replace hf := ite_n hf c3
    refine V.aload_n dX12_dislikes_17 rfl rfl rfl ?_
    refine V.getR (r := 114) dX12_dislikes_18 fl_X12_7 rfl (Or.inl ⟨rfl, SHL_lt rfl⟩) rfl (ly_113_0 (srh.ly ly)) ?_
    refine V.iload_n dX12_dislikes_21 rfl rfl ?_
    obtain ⟨b7, hf2⟩ := gdi_el hf
    replace hf := hf2
    clear hf2
    refine V.iaload dX12_dislikes_22 rfl (Or.inl ⟨rfl, SHL_lt rfl⟩) b7 ?_
    refine V.iload_n dX12_dislikes_23 rfl rfl ?_
    refine V.isub dX12_dislikes_24 ?_
    refine V.goto (tgt := 54) dX12_dislikes_25 (by decide) ?_
    refine V.ireturn dX12_dislikes_54 rfl rfl ⟨rfl, rfl⟩ ly.1 ?_
    exact ret_I hf srh
set_option maxRecDepth 100000 in
theorem th_X12_voteOf_11 {h0 : HP} (ly : Lay h0) {rr : Int32} {hh : HP}  : ∀ (n : Nat) (l1 : Int32) (l2 : Int32) (l3 : Int32) (l4 : Int32) (h : HP), SR h0 h → f_X12_voteOf_11 n l1 l2 l3 l4 h = some (rr, hh) → V cX12_voteOf miX12_voteOf (ZI h0 miX12_voteOf rr hh) 130 11 [.ref 113, .int l1, .int l2, .int l3, .int l4, .null] [] h := by
  intro n
  induction n with
  | zero => intro l1 l2 l3 l4 h srh hf; exact absurd hf (by unfold f_X12_voteOf_11; simp)
  | succ n ih =>
    intro l1 l2 l3 l4 h srh hf
    unfold f_X12_voteOf_11 at hf
    refine V.iload dX12_voteOf_11 rfl ?_
    refine V.aload_n dX12_voteOf_13 rfl rfl rfl ?_
    refine V.getR (r := 114) dX12_voteOf_14 fl_X12_7 rfl (Or.inl ⟨rfl, SHL_lt rfl⟩) rfl (ly_113_0 (srh.ly ly)) ?_
    refine V.iconst (v := 5) dX12_voteOf_17 rfl ?_
    refine V.iaload dX12_voteOf_18 rfl (Or.inl ⟨rfl, SHL_lt rfl⟩) (vp_lit (by decide)) ?_
    rw [show Int32.toNatClampNeg 5 = 5 from rfl]
    refine V.icmp_ge (tgt := 70) dX12_voteOf_19 (by decide) (fun c3 => ?_) (fun c3 => ?_)
    · replace hf := ite_p hf c3
      refine V.iload_n dX12_voteOf_70 rfl rfl ?_
      refine V.ireturn dX12_voteOf_71 rfl rfl ⟨rfl, rfl⟩ ly.1 ?_
      exact ret_I hf srh
    · replace hf := ite_n hf c3
      refine V.aload_n dX12_voteOf_22 rfl rfl rfl ?_
      refine V.iload_n dX12_voteOf_23 rfl rfl ?_
      refine V.aload_n dX12_voteOf_24 rfl rfl rfl ?_
      refine V.aload_n dX12_voteOf_25 rfl rfl rfl ?_
      refine V.getR (r := 114) dX12_voteOf_26 fl_X12_7 rfl (Or.inl ⟨rfl, SHL_lt rfl⟩) rfl (ly_113_0 (srh.ly ly)) ?_
      refine V.iconst (v := 3) dX12_voteOf_29 rfl ?_
      refine V.iaload dX12_voteOf_30 rfl (Or.inl ⟨rfl, SHL_lt rfl⟩) (vp_lit (by decide)) ?_
      rw [show Int32.toNatClampNeg 3 = 3 from rfl]
      refine V.iload dX12_voteOf_31 rfl ?_
      obtain ⟨r6, h5, q4, hf2⟩ := bd2_el hf
      replace hf := hf2
      clear hf2
      refine V.callVI dX12_voteOf_33 ml_X12_274 mo_X12_becomes mv_X12_becomes rfl (fun q hq => by cases hq; rfl) (by decide) (Or.inl ⟨rfl, SHL_lt rfl⟩) (th_X12_becomes (srh.ly ly) q4) rfl rfl ⟨Nat.le_of_ble_eq_true rfl, Nat.le_of_ble_eq_true rfl, fun _ => ⟨rfl, rfl⟩⟩ (Nat.le_of_ble_eq_true rfl) rfl (post_I (fun sq => ?_))
      have srh5 : SR h0 h5 := srh.trans sq
      clear sq q4
      obtain ⟨r9, h8, q7, hf2⟩ := bd2_el hf
      replace hf := hf2
      clear hf2
      refine V.callSI dX12_voteOf_36 ml_X12_226 mo_X12_bits ms_X12_bits (th_X12_bits (srh5.ly ly) q7) rfl rfl ⟨Nat.le_of_ble_eq_true rfl, Nat.le_of_ble_eq_true rfl, fun _ => ⟨rfl, rfl⟩⟩ (Nat.le_of_ble_eq_true rfl) rfl (post_I (fun sq => ?_))
      have srh8 : SR h0 h8 := srh5.trans sq
      clear sq q7
      obtain ⟨r12, h11, q10, hf2⟩ := bd2_el hf
      replace hf := hf2
      clear hf2
      refine V.callVI dX12_voteOf_39 ml_X12_380 mo_X12_dislikes mv_X12_dislikes rfl (fun q hq => by cases hq; rfl) (by decide) (Or.inl ⟨rfl, SHL_lt rfl⟩) (th_X12_dislikes (srh8.ly ly) q10) rfl rfl ⟨Nat.le_of_ble_eq_true rfl, Nat.le_of_ble_eq_true rfl, fun _ => ⟨rfl, rfl⟩⟩ (Nat.le_of_ble_eq_true rfl) rfl (post_I (fun sq => ?_))
      have srh11 : SR h0 h11 := srh8.trans sq
      clear sq q10
      refine V.istore (ls' := [.ref 113, .int l1, .int l2, .int l3, .int l4, .int r12]) dX12_voteOf_42 (by decide) rfl ?_
      refine V.iload_n dX12_voteOf_44 rfl rfl ?_
      refine V.iconst (v := (-1)) dX12_voteOf_45 rfl ?_
      refine V.icmp_eq (tgt := 58) dX12_voteOf_46 (by decide) (fun c13 => ?_) (fun c13 => ?_)
      · replace hf := ite_p hf c13
        refine V.iload dX12_voteOf_58 rfl ?_
        refine V.istore_n (ls' := [.ref 113, .int l1, .int l4, .int l3, .int l4, .int r12]) dX12_voteOf_60 rfl (by decide) rfl ?_
        refine V.iload dX12_voteOf_61 rfl ?_
        refine V.istore_n (ls' := [.ref 113, .int l1, .int l4, .int r12, .int l4, .int r12]) dX12_voteOf_63 rfl (by decide) rfl ?_
        obtain ⟨x14, ex14⟩ : ∃ y : Int32, y = l4 + 1 := ⟨_, rfl⟩
        replace hf := lt_el hf x14 ex14
        refine V.iinc (v := x14) (ls' := [.ref 113, .int l1, .int l4, .int r12, .int x14, .int r12]) dX12_voteOf_64 rfl (by decide) ex14.symm rfl ?_
        refine V.goto (tgt := 11) dX12_voteOf_67 (by decide) ?_
        refine V.less (ls' := [.ref 113, .int l1, .int l4, .int r12, .int x14, .null]) ⟨Or.inr rfl, Or.inr rfl, Or.inr rfl, Or.inr rfl, Or.inr rfl, Or.inl rfl, trivial⟩ ?_
        exact ih l1 l4 r12 x14 h11 srh11 hf
      · replace hf := ite_n hf c13
        refine V.iload dX12_voteOf_49 rfl ?_
        refine V.iload_n dX12_voteOf_51 rfl rfl ?_
        refine V.icmp_lt (tgt := 58) dX12_voteOf_52 (by decide) (fun c15 => ?_) (fun c15 => ?_)
        · replace hf := ite_p hf c15
          refine V.iload dX12_voteOf_58 rfl ?_
          refine V.istore_n (ls' := [.ref 113, .int l1, .int l4, .int l3, .int l4, .int r12]) dX12_voteOf_60 rfl (by decide) rfl ?_
          refine V.iload dX12_voteOf_61 rfl ?_
          refine V.istore_n (ls' := [.ref 113, .int l1, .int l4, .int r12, .int l4, .int r12]) dX12_voteOf_63 rfl (by decide) rfl ?_
          obtain ⟨x16, ex16⟩ : ∃ y : Int32, y = l4 + 1 := ⟨_, rfl⟩
          replace hf := lt_el hf x16 ex16
          refine V.iinc (v := x16) (ls' := [.ref 113, .int l1, .int l4, .int r12, .int x16, .int r12]) dX12_voteOf_64 rfl (by decide) ex16.symm rfl ?_
          refine V.goto (tgt := 11) dX12_voteOf_67 (by decide) ?_
          refine V.less (ls' := [.ref 113, .int l1, .int l4, .int r12, .int x16, .null]) ⟨Or.inr rfl, Or.inr rfl, Or.inr rfl, Or.inr rfl, Or.inr rfl, Or.inl rfl, trivial⟩ ?_
          exact ih l1 l4 r12 x16 h11 srh11 hf
        · replace hf := ite_n hf c15
          refine V.goto (tgt := 64) dX12_voteOf_55 (by decide) ?_
          obtain ⟨x17, ex17⟩ : ∃ y : Int32, y = l4 + 1 := ⟨_, rfl⟩
          replace hf := lt_el hf x17 ex17
          refine V.iinc (v := x17) (ls' := [.ref 113, .int l1, .int l2, .int l3, .int x17, .int r12]) dX12_voteOf_64 rfl (by decide) ex17.symm rfl ?_
          refine V.goto (tgt := 11) dX12_voteOf_67 (by decide) ?_
          refine V.less (ls' := [.ref 113, .int l1, .int l2, .int l3, .int x17, .null]) ⟨Or.inr rfl, Or.inr rfl, Or.inr rfl, Or.inr rfl, Or.inr rfl, Or.inl rfl, trivial⟩ ?_
          exact ih l1 l2 l3 x17 h11 srh11 hf
set_option maxRecDepth 100000 in
theorem th_X12_voteOf {h : HP} (ly : Lay h) {a1 : Int32} {rr : Int32} {hh : HP} (hf : f_X12_voteOf h a1 = some (rr, hh)) : Spec yX12_voteOf cX12_voteOf miX12_voteOf [.ref 113, .int a1] h (pI fun r' h' => (r' = rr ∧ h' = hh) ∧ SR h hh) := by
  refine Spec.of (ls0 := [.ref 113, .int a1, .null, .null, .null, .null]) mo_X12_voteOf (Nat.le_of_ble_eq_true rfl) rfl ?_
  rw [ly.1]
  have srh : SR h h := SR.refl h
  unfold f_X12_voteOf at hf
  refine V.aload_n dX12_voteOf_0 rfl rfl rfl ?_
  obtain ⟨h2, q1, hf2⟩ := bd_el hf
  replace hf := hf2
  clear hf2
  refine V.callVV dX12_voteOf_1 ml_X12_271 mo_X12_laysNear mv_X12_laysNear rfl (fun q hq => by cases hq; rfl) (by decide) (Or.inl ⟨rfl, SHL_lt rfl⟩) (th_X12_laysNear (srh.ly ly) q1) rfl rfl ⟨Nat.le_of_ble_eq_true rfl, Nat.le_of_ble_eq_true rfl, fun _ => ⟨rfl, rfl⟩⟩ (Nat.le_of_ble_eq_true rfl) (Or.inl rfl) (post_V (fun sq => ?_))
  have srh2 : SR h h2 := srh.trans sq
  clear sq q1
  refine V.iconst (v := (-1)) dX12_voteOf_4 rfl ?_
  refine V.istore_n (ls' := [.ref 113, .int a1, .int ((-1)), .null, .null, .null]) dX12_voteOf_5 rfl (by decide) rfl ?_
  refine V.iconst (v := 0) dX12_voteOf_6 rfl ?_
  refine V.istore_n (ls' := [.ref 113, .int a1, .int ((-1)), .int 0, .null, .null]) dX12_voteOf_7 rfl (by decide) rfl ?_
  refine V.iconst (v := 0) dX12_voteOf_8 rfl ?_
  refine V.istore (ls' := [.ref 113, .int a1, .int ((-1)), .int 0, .int 0, .null]) dX12_voteOf_9 (by decide) rfl ?_
  exact th_X12_voteOf_11 ly FU a1 (-1) 0 0 h2 srh2 hf
set_option maxRecDepth 100000 in
theorem th_X12_vote {h : HP} (ly : Lay h) {a1 : Int32} {rr : Int32} {hh : HP} (hf : f_X12_vote h a1 = some (rr, hh)) : Spec yX12_vote cX12_vote miX12_vote [.ref 113, .int a1] h (pI fun r' h' => (r' = rr ∧ h' = hh) ∧ SR h hh) := by
  refine Spec.of (ls0 := [.ref 113, .int a1]) mo_X12_vote (Nat.le_of_ble_eq_true rfl) rfl ?_
  rw [ly.1]
  have srh : SR h h := SR.refl h
  unfold f_X12_vote at hf
  refine V.aload_n dX12_vote_0 rfl rfl rfl ?_
  refine V.iload_n dX12_vote_1 rfl rfl ?_
  obtain ⟨r3, h2, q1, hf2⟩ := bd2_el hf
  replace hf := hf2
  clear hf2
  refine V.callVI dX12_vote_2 ml_X12_287 mo_X12_isCitizen mv_X12_isCitizen rfl (fun q hq => by cases hq; rfl) (by decide) (Or.inl ⟨rfl, SHL_lt rfl⟩) (th_X12_isCitizen (srh.ly ly) q1) rfl rfl ⟨Nat.le_of_ble_eq_true rfl, Nat.le_of_ble_eq_true rfl, fun _ => ⟨rfl, rfl⟩⟩ (Nat.le_of_ble_eq_true rfl) rfl (post_I (fun sq => ?_))
  have srh2 : SR h h2 := srh.trans sq
  clear sq q1
  refine V.if_eq (tgt := 20) dX12_vote_5 (by decide) (fun c4 => ?_) (fun c4 => ?_)
  · replace hf := ite_p hf c4
    refine V.aload_n dX12_vote_20 rfl rfl rfl ?_
    refine V.iconst (v := 1) dX12_vote_21 rfl ?_
    obtain ⟨r7, h6, q5, hf2⟩ := bd2_el hf
    replace hf := hf2
    clear hf2
    refine V.callVI dX12_vote_22 ml_X12_81 mo_X12_refuse mv_X12_refuse rfl (fun q hq => by cases hq; rfl) (by decide) (Or.inl ⟨rfl, SHL_lt rfl⟩) (th_X12_refuse (srh2.ly ly) q5) rfl rfl ⟨Nat.le_of_ble_eq_true rfl, Nat.le_of_ble_eq_true rfl, fun _ => ⟨rfl, rfl⟩⟩ (Nat.le_of_ble_eq_true rfl) rfl (post_I (fun sq => ?_))
    have srh6 : SR h h6 := srh2.trans sq
    clear sq q5
    refine V.ireturn dX12_vote_25 rfl rfl ⟨rfl, rfl⟩ ly.1 ?_
    exact ret_I hf srh6
  · replace hf := ite_n hf c4
    refine V.aload_n dX12_vote_8 rfl rfl rfl ?_
    refine V.aload_n dX12_vote_9 rfl rfl rfl ?_
    refine V.iload_n dX12_vote_10 rfl rfl ?_
    obtain ⟨r10, h9, q8, hf2⟩ := bd2_el hf
    replace hf := hf2
    clear hf2
    refine V.callVI dX12_vote_11 ml_X12_383 mo_X12_voteOf mv_X12_voteOf rfl (fun q hq => by cases hq; rfl) (by decide) (Or.inl ⟨rfl, SHL_lt rfl⟩) (th_X12_voteOf (srh2.ly ly) q8) rfl rfl ⟨Nat.le_of_ble_eq_true rfl, Nat.le_of_ble_eq_true rfl, fun _ => ⟨rfl, rfl⟩⟩ (Nat.le_of_ble_eq_true rfl) rfl (post_I (fun sq => ?_))
    have srh9 : SR h h9 := srh2.trans sq
    clear sq q8
    obtain ⟨r13, h12, q11, hf2⟩ := bd2_el hf
    replace hf := hf2
    clear hf2
    refine V.callVI dX12_vote_14 ml_X12_277 mo_X12_orNone mv_X12_orNone rfl (fun q hq => by cases hq; rfl) (by decide) (Or.inl ⟨rfl, SHL_lt rfl⟩) (th_X12_orNone (srh9.ly ly) q11) rfl rfl ⟨Nat.le_of_ble_eq_true rfl, Nat.le_of_ble_eq_true rfl, fun _ => ⟨rfl, rfl⟩⟩ (Nat.le_of_ble_eq_true rfl) rfl (post_I (fun sq => ?_))
    have srh12 : SR h h12 := srh9.trans sq
    clear sq q11
    refine V.goto (tgt := 25) dX12_vote_17 (by decide) ?_
    refine V.ireturn dX12_vote_25 rfl rfl ⟨rfl, rfl⟩ ly.1 ?_
    exact ret_I hf srh12
set_option maxRecDepth 100000 in
theorem th_X12_votesFor_4 {h0 : HP} (ly : Lay h0) {rr : Int32} {hh : HP}  : ∀ (n : Nat) (l1 : Int32) (l2 : Int32) (l3 : Int32) (h : HP), SR h0 h → f_X12_votesFor_4 n l1 l2 l3 h = some (rr, hh) → V cX12_votesFor miX12_votesFor (ZI h0 miX12_votesFor rr hh) 130 4 [.ref 113, .int l1, .int l2, .int l3] [] h := by
  intro n
  induction n with
  | zero => intro l1 l2 l3 h srh hf; exact absurd hf (by unfold f_X12_votesFor_4; simp)
  | succ n ih =>
    intro l1 l2 l3 h srh hf
    unfold f_X12_votesFor_4 at hf
    refine V.iload_n dX12_votesFor_4 rfl rfl ?_
    refine V.aload_n dX12_votesFor_5 rfl rfl rfl ?_
    refine V.getR (r := 114) dX12_votesFor_6 fl_X12_7 rfl (Or.inl ⟨rfl, SHL_lt rfl⟩) rfl (ly_113_0 (srh.ly ly)) ?_
    refine V.bipush (v := 6) dX12_votesFor_9 rfl ?_
    refine V.iaload dX12_votesFor_11 rfl (Or.inl ⟨rfl, SHL_lt rfl⟩) (vp_lit (by decide)) ?_
    rw [show Int32.toNatClampNeg 6 = 6 from rfl]
    refine V.icmp_ge (tgt := 38) dX12_votesFor_12 (by decide) (fun c1 => ?_) (fun c1 => ?_)
    · replace hf := ite_p hf c1
      refine V.iload_n dX12_votesFor_38 rfl rfl ?_
      refine V.ireturn dX12_votesFor_39 rfl rfl ⟨rfl, rfl⟩ ly.1 ?_
      exact ret_I hf srh
    · replace hf := ite_n hf c1
      refine V.iload_n dX12_votesFor_15 rfl rfl ?_
      refine V.aload_n dX12_votesFor_16 rfl rfl rfl ?_
      refine V.iload_n dX12_votesFor_17 rfl rfl ?_
      obtain ⟨r4, h3, q2, hf2⟩ := bd2_el hf
      replace hf := hf2
      clear hf2
      refine V.callVI dX12_votesFor_18 ml_X12_383 mo_X12_voteOf mv_X12_voteOf rfl (fun q hq => by cases hq; rfl) (by decide) (Or.inl ⟨rfl, SHL_lt rfl⟩) (th_X12_voteOf (srh.ly ly) q2) rfl rfl ⟨Nat.le_of_ble_eq_true rfl, Nat.le_of_ble_eq_true rfl, fun _ => ⟨rfl, rfl⟩⟩ (Nat.le_of_ble_eq_true rfl) rfl (post_I (fun sq => ?_))
      have srh3 : SR h0 h3 := srh.trans sq
      clear sq q2
      refine V.iload_n dX12_votesFor_21 rfl rfl ?_
      refine V.icmp_ne (tgt := 29) dX12_votesFor_22 (by decide) (fun c5 => ?_) (fun c5 => ?_)
      · replace hf := ite_n hf c5
        refine V.iconst (v := 0) dX12_votesFor_29 rfl ?_
        refine V.iadd dX12_votesFor_30 ?_
        refine V.nmi (fun x6 ex6 => ?_)
        replace hf := lt_el hf x6 ex6
        refine V.istore_n (ls' := [.ref 113, .int l1, .int x6, .int l3]) dX12_votesFor_31 rfl (by decide) rfl ?_
        obtain ⟨x7, ex7⟩ : ∃ y : Int32, y = l3 + 1 := ⟨_, rfl⟩
        replace hf := lt_el hf x7 ex7
        refine V.iinc (v := x7) (ls' := [.ref 113, .int l1, .int x6, .int x7]) dX12_votesFor_32 rfl (by decide) ex7.symm rfl ?_
        refine V.goto (tgt := 4) dX12_votesFor_35 (by decide) ?_
        exact ih l1 x6 x7 h3 srh3 hf
      · replace hf := ite_p hf c5
        refine V.iconst (v := 1) dX12_votesFor_25 rfl ?_
        refine V.goto (tgt := 30) dX12_votesFor_26 (by decide) ?_
        refine V.iadd dX12_votesFor_30 ?_
        refine V.nmi (fun x8 ex8 => ?_)
        replace hf := lt_el hf x8 ex8
        refine V.istore_n (ls' := [.ref 113, .int l1, .int x8, .int l3]) dX12_votesFor_31 rfl (by decide) rfl ?_
        obtain ⟨x9, ex9⟩ : ∃ y : Int32, y = l3 + 1 := ⟨_, rfl⟩
        replace hf := lt_el hf x9 ex9
        refine V.iinc (v := x9) (ls' := [.ref 113, .int l1, .int x8, .int x9]) dX12_votesFor_32 rfl (by decide) ex9.symm rfl ?_
        refine V.goto (tgt := 4) dX12_votesFor_35 (by decide) ?_
        exact ih l1 x8 x9 h3 srh3 hf
set_option maxRecDepth 100000 in
theorem th_X12_votesFor {h : HP} (ly : Lay h) {a1 : Int32} {rr : Int32} {hh : HP} (hf : f_X12_votesFor h a1 = some (rr, hh)) : Spec yX12_votesFor cX12_votesFor miX12_votesFor [.ref 113, .int a1] h (pI fun r' h' => (r' = rr ∧ h' = hh) ∧ SR h hh) := by
  refine Spec.of (ls0 := [.ref 113, .int a1, .null, .null]) mo_X12_votesFor (Nat.le_of_ble_eq_true rfl) rfl ?_
  rw [ly.1]
  have srh : SR h h := SR.refl h
  unfold f_X12_votesFor at hf
  refine V.iconst (v := 0) dX12_votesFor_0 rfl ?_
  refine V.istore_n (ls' := [.ref 113, .int a1, .int 0, .null]) dX12_votesFor_1 rfl (by decide) rfl ?_
  refine V.iconst (v := 0) dX12_votesFor_2 rfl ?_
  refine V.istore_n (ls' := [.ref 113, .int a1, .int 0, .int 0]) dX12_votesFor_3 rfl (by decide) rfl ?_
  exact th_X12_votesFor_4 ly FU a1 0 0 h srh hf
set_option maxRecDepth 100000 in
theorem th_X12_votes {h : HP} (ly : Lay h) {a1 : Int32} {rr : Int32} {hh : HP} (hf : f_X12_votes h a1 = some (rr, hh)) : Spec yX12_votes cX12_votes miX12_votes [.ref 113, .int a1] h (pI fun r' h' => (r' = rr ∧ h' = hh) ∧ SR h hh) := by
  refine Spec.of (ls0 := [.ref 113, .int a1]) mo_X12_votes (Nat.le_of_ble_eq_true rfl) rfl ?_
  rw [ly.1]
  have srh : SR h h := SR.refl h
  unfold f_X12_votes at hf
  refine V.aload_n dX12_votes_0 rfl rfl rfl ?_
  refine V.iload_n dX12_votes_1 rfl rfl ?_
  obtain ⟨r3, h2, q1, hf2⟩ := bd2_el hf
  replace hf := hf2
  clear hf2
  refine V.callVI dX12_votes_2 ml_X12_284 mo_X12_isRule mv_X12_isRule rfl (fun q hq => by cases hq; rfl) (by decide) (Or.inl ⟨rfl, SHL_lt rfl⟩) (th_X12_isRule (srh.ly ly) q1) rfl rfl ⟨Nat.le_of_ble_eq_true rfl, Nat.le_of_ble_eq_true rfl, fun _ => ⟨rfl, rfl⟩⟩ (Nat.le_of_ble_eq_true rfl) rfl (post_I (fun sq => ?_))
  have srh2 : SR h h2 := srh.trans sq
  clear sq q1
  refine V.if_eq (tgt := 20) dX12_votes_5 (by decide) (fun c4 => ?_) (fun c4 => ?_)
  · replace hf := ite_p hf c4
    refine V.aload_n dX12_votes_20 rfl rfl rfl ?_
    refine V.iconst (v := 1) dX12_votes_21 rfl ?_
    obtain ⟨r7, h6, q5, hf2⟩ := bd2_el hf
    replace hf := hf2
    clear hf2
    refine V.callVI dX12_votes_22 ml_X12_81 mo_X12_refuse mv_X12_refuse rfl (fun q hq => by cases hq; rfl) (by decide) (Or.inl ⟨rfl, SHL_lt rfl⟩) (th_X12_refuse (srh2.ly ly) q5) rfl rfl ⟨Nat.le_of_ble_eq_true rfl, Nat.le_of_ble_eq_true rfl, fun _ => ⟨rfl, rfl⟩⟩ (Nat.le_of_ble_eq_true rfl) rfl (post_I (fun sq => ?_))
    have srh6 : SR h h6 := srh2.trans sq
    clear sq q5
    refine V.ireturn dX12_votes_25 rfl rfl ⟨rfl, rfl⟩ ly.1 ?_
    exact ret_I hf srh6
  · replace hf := ite_n hf c4
    refine V.aload_n dX12_votes_8 rfl rfl rfl ?_
    refine V.aload_n dX12_votes_9 rfl rfl rfl ?_
    refine V.iload_n dX12_votes_10 rfl rfl ?_
    obtain ⟨r10, h9, q8, hf2⟩ := bd2_el hf
    replace hf := hf2
    clear hf2
    refine V.callVI dX12_votes_11 ml_X12_386 mo_X12_votesFor mv_X12_votesFor rfl (fun q hq => by cases hq; rfl) (by decide) (Or.inl ⟨rfl, SHL_lt rfl⟩) (th_X12_votesFor (srh2.ly ly) q8) rfl rfl ⟨Nat.le_of_ble_eq_true rfl, Nat.le_of_ble_eq_true rfl, fun _ => ⟨rfl, rfl⟩⟩ (Nat.le_of_ble_eq_true rfl) rfl (post_I (fun sq => ?_))
    have srh9 : SR h h9 := srh2.trans sq
    clear sq q8
    obtain ⟨r13, h12, q11, hf2⟩ := bd2_el hf
    replace hf := hf2
    clear hf2
    refine V.callVI dX12_votes_14 ml_X12_85 mo_X12_gives mv_X12_gives rfl (fun q hq => by cases hq; rfl) (by decide) (Or.inl ⟨rfl, SHL_lt rfl⟩) (th_X12_gives (srh9.ly ly) q11) rfl rfl ⟨Nat.le_of_ble_eq_true rfl, Nat.le_of_ble_eq_true rfl, fun _ => ⟨rfl, rfl⟩⟩ (Nat.le_of_ble_eq_true rfl) rfl (post_I (fun sq => ?_))
    have srh12 : SR h h12 := srh9.trans sq
    clear sq q11
    refine V.goto (tgt := 25) dX12_votes_17 (by decide) ?_
    refine V.ireturn dX12_votes_25 rfl rfl ⟨rfl, rfl⟩ ly.1 ?_
    exact ret_I hf srh12
set_option maxRecDepth 100000 in
theorem th_X12_elects_25 {h0 : HP} (ly : Lay h0) {rr : Int32} {hh : HP}  : ∀ (n : Nat) (l1 : Int32) (l2 : Int32) (h : HP), SR h0 h → f_X12_elects_25 n l1 l2 h = some (rr, hh) → V cX12_elects miX12_elects (ZI h0 miX12_elects rr hh) 130 25 [.ref 113, .int l1, .int l2] [] h := by
  intro n
  induction n with
  | zero => intro l1 l2 h srh hf; exact absurd hf (by unfold f_X12_elects_25; simp)
  | succ n ih =>
    intro l1 l2 h srh hf
    unfold f_X12_elects_25 at hf
    refine V.iload_n dX12_elects_25 rfl rfl ?_
    refine V.aload_n dX12_elects_26 rfl rfl rfl ?_
    refine V.getR (r := 114) dX12_elects_27 fl_X12_7 rfl (Or.inl ⟨rfl, SHL_lt rfl⟩) rfl (ly_113_0 (srh.ly ly)) ?_
    refine V.iconst (v := 5) dX12_elects_30 rfl ?_
    refine V.iaload dX12_elects_31 rfl (Or.inl ⟨rfl, SHL_lt rfl⟩) (vp_lit (by decide)) ?_
    rw [show Int32.toNatClampNeg 5 = 5 from rfl]
    refine V.icmp_ge (tgt := 56) dX12_elects_32 (by decide) (fun c3 => ?_) (fun c3 => ?_)
    · replace hf := ite_p hf c3
      refine V.aload_n dX12_elects_56 rfl rfl rfl ?_
      refine V.getR (r := 114) dX12_elects_57 fl_X12_7 rfl (Or.inl ⟨rfl, SHL_lt rfl⟩) rfl (ly_113_0 (srh.ly ly)) ?_
      refine V.bipush (v := 10) dX12_elects_60 rfl ?_
      refine V.iload_n dX12_elects_62 rfl rfl ?_
      refine V.iastore dX12_elects_63 rfl (Or.inl ⟨rfl, SHL_lt rfl⟩) (vp_lit (by decide)) ?_
      rw [show Int32.toNatClampNeg 10 = 10 from rfl]
      refine V.nameH (fun g4 eg4 => ?_)
      replace hf := lt_el hf g4 eg4
      have srg4 : SR h0 g4 := by rw [eg4]; exact srh.I _ _ _
      refine V.iconst (v := 1) dX12_elects_64 rfl ?_
      refine V.ireturn dX12_elects_65 rfl rfl ⟨rfl, rfl⟩ ly.1 ?_
      exact ret_I hf srg4
    · replace hf := ite_n hf c3
      refine V.aload_n dX12_elects_35 rfl rfl rfl ?_
      refine V.iload_n dX12_elects_36 rfl rfl ?_
      obtain ⟨r7, h6, q5, hf2⟩ := bd2_el hf
      replace hf := hf2
      clear hf2
      refine V.callVI dX12_elects_37 ml_X12_386 mo_X12_votesFor mv_X12_votesFor rfl (fun q hq => by cases hq; rfl) (by decide) (Or.inl ⟨rfl, SHL_lt rfl⟩) (th_X12_votesFor (srh.ly ly) q5) rfl rfl ⟨Nat.le_of_ble_eq_true rfl, Nat.le_of_ble_eq_true rfl, fun _ => ⟨rfl, rfl⟩⟩ (Nat.le_of_ble_eq_true rfl) rfl (post_I (fun sq => ?_))
      have srh6 : SR h0 h6 := srh.trans sq
      clear sq q5
      refine V.aload_n dX12_elects_40 rfl rfl rfl ?_
      refine V.iload_n dX12_elects_41 rfl rfl ?_
      obtain ⟨r10, h9, q8, hf2⟩ := bd2_el hf
      replace hf := hf2
      clear hf2
      refine V.callVI dX12_elects_42 ml_X12_386 mo_X12_votesFor mv_X12_votesFor rfl (fun q hq => by cases hq; rfl) (by decide) (Or.inl ⟨rfl, SHL_lt rfl⟩) (th_X12_votesFor (srh6.ly ly) q8) rfl rfl ⟨Nat.le_of_ble_eq_true rfl, Nat.le_of_ble_eq_true rfl, fun _ => ⟨rfl, rfl⟩⟩ (Nat.le_of_ble_eq_true rfl) rfl (post_I (fun sq => ?_))
      have srh9 : SR h0 h9 := srh6.trans sq
      clear sq q8
      refine V.icmp_le (tgt := 50) dX12_elects_45 (by decide) (fun c11 => ?_) (fun c11 => ?_)
      · replace hf := ite_p hf c11
        obtain ⟨x12, ex12⟩ : ∃ y : Int32, y = l2 + 1 := ⟨_, rfl⟩
        replace hf := lt_el hf x12 ex12
        refine V.iinc (v := x12) (ls' := [.ref 113, .int l1, .int x12]) dX12_elects_50 rfl (by decide) ex12.symm rfl ?_
        refine V.goto (tgt := 25) dX12_elects_53 (by decide) ?_
        exact ih l1 x12 h9 srh9 hf
      · replace hf := ite_n hf c11
        refine V.iload_n dX12_elects_48 rfl rfl ?_
        refine V.istore_n (ls' := [.ref 113, .int l2, .int l2]) dX12_elects_49 rfl (by decide) rfl ?_
        obtain ⟨x13, ex13⟩ : ∃ y : Int32, y = l2 + 1 := ⟨_, rfl⟩
        replace hf := lt_el hf x13 ex13
        refine V.iinc (v := x13) (ls' := [.ref 113, .int l2, .int x13]) dX12_elects_50 rfl (by decide) ex13.symm rfl ?_
        refine V.goto (tgt := 25) dX12_elects_53 (by decide) ?_
        exact ih l2 x13 h9 srh9 hf
set_option maxRecDepth 100000 in
theorem th_X12_elects {h : HP} (ly : Lay h)  {rr : Int32} {hh : HP} (hf : f_X12_elects h = some (rr, hh)) : Spec yX12_elects cX12_elects miX12_elects [.ref 113] h (pI fun r' h' => (r' = rr ∧ h' = hh) ∧ SR h hh) := by
  refine Spec.of (ls0 := [.ref 113, .null, .null]) mo_X12_elects (Nat.le_of_ble_eq_true rfl) rfl ?_
  rw [ly.1]
  have srh : SR h h := SR.refl h
  unfold f_X12_elects at hf
  refine V.aload_n dX12_elects_0 rfl rfl rfl ?_
  refine V.getR (r := 114) dX12_elects_1 fl_X12_7 rfl (Or.inl ⟨rfl, SHL_lt rfl⟩) rfl (ly_113_0 (srh.ly ly)) ?_
  refine V.iconst (v := 5) dX12_elects_4 rfl ?_
  refine V.iaload dX12_elects_5 rfl (Or.inl ⟨rfl, SHL_lt rfl⟩) (vp_lit (by decide)) ?_
  rw [show Int32.toNatClampNeg 5 = 5 from rfl]
  refine V.if_eq (tgt := 19) dX12_elects_6 (by decide) (fun c1 => ?_) (fun c1 => ?_)
  · replace hf := ite_p hf c1
    refine V.iconst (v := 0) dX12_elects_19 rfl ?_
    refine V.ireturn dX12_elects_20 rfl rfl ⟨rfl, rfl⟩ ly.1 ?_
    exact ret_I hf srh
  · replace hf := ite_n hf c1
    refine V.aload_n dX12_elects_9 rfl rfl rfl ?_
    refine V.getR (r := 114) dX12_elects_10 fl_X12_7 rfl (Or.inl ⟨rfl, SHL_lt rfl⟩) rfl (ly_113_0 (srh.ly ly)) ?_
    refine V.bipush (v := 6) dX12_elects_13 rfl ?_
    refine V.iaload dX12_elects_15 rfl (Or.inl ⟨rfl, SHL_lt rfl⟩) (vp_lit (by decide)) ?_
    rw [show Int32.toNatClampNeg 6 = 6 from rfl]
    refine V.if_ne (tgt := 21) dX12_elects_16 (by decide) (fun c2 => ?_) (fun c2 => ?_)
    · replace hf := ite_n hf c2
      refine V.iconst (v := 0) dX12_elects_21 rfl ?_
      refine V.istore_n (ls' := [.ref 113, .int 0, .null]) dX12_elects_22 rfl (by decide) rfl ?_
      refine V.iconst (v := 1) dX12_elects_23 rfl ?_
      refine V.istore_n (ls' := [.ref 113, .int 0, .int 1]) dX12_elects_24 rfl (by decide) rfl ?_
      exact th_X12_elects_25 ly FU 0 1 h srh hf
    · replace hf := ite_p hf c2
      refine V.iconst (v := 0) dX12_elects_19 rfl ?_
      refine V.ireturn dX12_elects_20 rfl rfl ⟨rfl, rfl⟩ ly.1 ?_
      exact ret_I hf srh
set_option maxRecDepth 100000 in
theorem th_X12_elect {h : HP} (ly : Lay h)  {rr : Int32} {hh : HP} (hf : f_X12_elect h = some (rr, hh)) : Spec yX12_elect cX12_elect miX12_elect [.ref 113] h (pI fun r' h' => (r' = rr ∧ h' = hh) ∧ SR h hh) := by
  refine Spec.of (ls0 := [.ref 113]) mo_X12_elect (Nat.le_of_ble_eq_true rfl) rfl ?_
  rw [ly.1]
  have srh : SR h h := SR.refl h
  unfold f_X12_elect at hf
  refine V.aload_n dX12_elect_0 rfl rfl rfl ?_
  obtain ⟨r3, h2, q1, hf2⟩ := bd2_el hf
  replace hf := hf2
  clear hf2
  refine V.callVI dX12_elect_1 ml_X12_389 mo_X12_elects mv_X12_elects rfl (fun q hq => by cases hq; rfl) (by decide) (Or.inl ⟨rfl, SHL_lt rfl⟩) (th_X12_elects (srh.ly ly) q1) rfl rfl ⟨Nat.le_of_ble_eq_true rfl, Nat.le_of_ble_eq_true rfl, fun _ => ⟨rfl, rfl⟩⟩ (Nat.le_of_ble_eq_true rfl) rfl (post_I (fun sq => ?_))
  have srh2 : SR h h2 := srh.trans sq
  clear sq q1
  refine V.if_eq (tgt := 21) dX12_elect_4 (by decide) (fun c4 => ?_) (fun c4 => ?_)
  · replace hf := ite_p hf c4
    refine V.aload_n dX12_elect_21 rfl rfl rfl ?_
    refine V.bipush (v := 6) dX12_elect_22 rfl ?_
    obtain ⟨r7, h6, q5, hf2⟩ := bd2_el hf
    replace hf := hf2
    clear hf2
    refine V.callVI dX12_elect_24 ml_X12_81 mo_X12_refuse mv_X12_refuse rfl (fun q hq => by cases hq; rfl) (by decide) (Or.inl ⟨rfl, SHL_lt rfl⟩) (th_X12_refuse (srh2.ly ly) q5) rfl rfl ⟨Nat.le_of_ble_eq_true rfl, Nat.le_of_ble_eq_true rfl, fun _ => ⟨rfl, rfl⟩⟩ (Nat.le_of_ble_eq_true rfl) rfl (post_I (fun sq => ?_))
    have srh6 : SR h h6 := srh2.trans sq
    clear sq q5
    refine V.ireturn dX12_elect_27 rfl rfl ⟨rfl, rfl⟩ ly.1 ?_
    exact ret_I hf srh6
  · replace hf := ite_n hf c4
    refine V.aload_n dX12_elect_7 rfl rfl rfl ?_
    refine V.aload_n dX12_elect_8 rfl rfl rfl ?_
    refine V.getR (r := 114) dX12_elect_9 fl_X12_7 rfl (Or.inl ⟨rfl, SHL_lt rfl⟩) rfl (ly_113_0 (srh2.ly ly)) ?_
    refine V.bipush (v := 10) dX12_elect_12 rfl ?_
    refine V.iaload dX12_elect_14 rfl (Or.inl ⟨rfl, SHL_lt rfl⟩) (vp_lit (by decide)) ?_
    rw [show Int32.toNatClampNeg 10 = 10 from rfl]
    obtain ⟨r10, h9, q8, hf2⟩ := bd2_el hf
    replace hf := hf2
    clear hf2
    refine V.callVI dX12_elect_15 ml_X12_85 mo_X12_gives mv_X12_gives rfl (fun q hq => by cases hq; rfl) (by decide) (Or.inl ⟨rfl, SHL_lt rfl⟩) (th_X12_gives (srh2.ly ly) q8) rfl rfl ⟨Nat.le_of_ble_eq_true rfl, Nat.le_of_ble_eq_true rfl, fun _ => ⟨rfl, rfl⟩⟩ (Nat.le_of_ble_eq_true rfl) rfl (post_I (fun sq => ?_))
    have srh9 : SR h h9 := srh2.trans sq
    clear sq q8
    refine V.goto (tgt := 27) dX12_elect_18 (by decide) ?_
    refine V.ireturn dX12_elect_27 rfl rfl ⟨rfl, rfl⟩ ly.1 ?_
    exact ret_I hf srh9
set_option maxRecDepth 100000 in
theorem th_X12_reads_36 {h0 : HP} (ly : Lay h0) {rr : Int32} {hh : HP}  : ∀  (h : HP), SR h0 h → f_X12_reads_36 h = some (rr, hh) → V cX12_reads miX12_reads (ZI h0 miX12_reads rr hh) 130 36 [.ref 113, .null, .null, .null, .null] [] h := by
  intro  h srh hf
  unfold f_X12_reads_36 at hf
  refine V.aload_n dX12_reads_36 rfl rfl rfl ?_
  refine V.iconst (v := 1) dX12_reads_37 rfl ?_
  obtain ⟨r21, h20, q19, hf2⟩ := bd2_el hf
  replace hf := hf2
  clear hf2
  refine V.callVI dX12_reads_38 ml_X12_81 mo_X12_refuse mv_X12_refuse rfl (fun q hq => by cases hq; rfl) (by decide) (Or.inl ⟨rfl, SHL_lt rfl⟩) (th_X12_refuse (srh.ly ly) q19) rfl rfl ⟨Nat.le_of_ble_eq_true rfl, Nat.le_of_ble_eq_true rfl, fun _ => ⟨rfl, rfl⟩⟩ (Nat.le_of_ble_eq_true rfl) rfl (post_I (fun sq => ?_))
  have srh20 : SR h0 h20 := srh.trans sq
  clear sq q19
  refine V.ireturn dX12_reads_41 rfl rfl ⟨rfl, rfl⟩ ly.1 ?_
  exact ret_I hf srh20
set_option maxRecDepth 100000 in
theorem th_X12_reads_67 {h0 : HP} (ly : Lay h0) {rr : Int32} {hh : HP}  : ∀ (n : Nat) (l1 : Int32) (l3 : Int32) (l4 : Int32) (h : HP), SR h0 h → f_X12_reads_67 n l1 l3 l4 h = some (rr, hh) → V cX12_reads miX12_reads (ZI h0 miX12_reads rr hh) 130 67 [.ref 113, .int l1, .null, .int l3, .int l4] [] h := by
  intro n
  induction n with
  | zero => intro l1 l3 l4 h srh hf; exact absurd hf (by unfold f_X12_reads_67; simp)
  | succ n ih =>
    intro l1 l3 l4 h srh hf
    unfold f_X12_reads_67 at hf
    refine V.iload dX12_reads_67 rfl ?_
    refine V.aload_n dX12_reads_69 rfl rfl rfl ?_
    refine V.getR (r := 114) dX12_reads_70 fl_X12_7 rfl (Or.inl ⟨rfl, SHL_lt rfl⟩) rfl (ly_113_0 (srh.ly ly)) ?_
    refine V.iconst (v := 1) dX12_reads_73 rfl ?_
    refine V.iaload dX12_reads_74 rfl (Or.inl ⟨rfl, SHL_lt rfl⟩) (vp_lit (by decide)) ?_
    rw [show Int32.toNatClampNeg 1 = 1 from rfl]
    refine V.icmp_ge (tgt := 110) dX12_reads_75 (by decide) (fun c13 => ?_) (fun c13 => ?_)
    · replace hf := ite_p hf c13
      refine V.aload_n dX12_reads_110 rfl rfl rfl ?_
      refine V.iload_n dX12_reads_111 rfl rfl ?_
      obtain ⟨r16, h15, q14, hf2⟩ := bd2_el hf
      replace hf := hf2
      clear hf2
      refine V.callVI dX12_reads_112 ml_X12_85 mo_X12_gives mv_X12_gives rfl (fun q hq => by cases hq; rfl) (by decide) (Or.inl ⟨rfl, SHL_lt rfl⟩) (th_X12_gives (srh.ly ly) q14) rfl rfl ⟨Nat.le_of_ble_eq_true rfl, Nat.le_of_ble_eq_true rfl, fun _ => ⟨rfl, rfl⟩⟩ (Nat.le_of_ble_eq_true rfl) rfl (post_I (fun sq => ?_))
      have srh15 : SR h0 h15 := srh.trans sq
      clear sq q14
      refine V.ireturn dX12_reads_115 rfl rfl ⟨rfl, rfl⟩ ly.1 ?_
      exact ret_I hf srh15
    · replace hf := ite_n hf c13
      refine V.iload_n dX12_reads_78 rfl rfl ?_
      refine V.aload_n dX12_reads_79 rfl rfl rfl ?_
      refine V.getR (r := 114) dX12_reads_80 fl_X12_7 rfl (Or.inl ⟨rfl, SHL_lt rfl⟩) rfl (ly_113_0 (srh.ly ly)) ?_
      refine V.iconst (v := 3) dX12_reads_83 rfl ?_
      refine V.iaload dX12_reads_84 rfl (Or.inl ⟨rfl, SHL_lt rfl⟩) (vp_lit (by decide)) ?_
      rw [show Int32.toNatClampNeg 3 = 3 from rfl]
      refine V.aload_n dX12_reads_85 rfl rfl rfl ?_
      refine V.getR (r := 114) dX12_reads_86 fl_X12_7 rfl (Or.inl ⟨rfl, SHL_lt rfl⟩) rfl (ly_113_0 (srh.ly ly)) ?_
      refine V.iconst (v := 0) dX12_reads_89 rfl ?_
      refine V.iaload dX12_reads_90 rfl (Or.inl ⟨rfl, SHL_lt rfl⟩) (vp_lit (by decide)) ?_
      rw [show Int32.toNatClampNeg 0 = 0 from rfl]
      refine V.iload dX12_reads_91 rfl ?_
      refine V.imul dX12_reads_93 ?_
      refine V.iload_n dX12_reads_94 rfl rfl ?_
      refine V.iadd dX12_reads_95 ?_
      refine V.ishr dX12_reads_96 ?_
      refine V.iconst (v := 1) dX12_reads_97 rfl ?_
      refine V.iand dX12_reads_98 ?_
      refine V.iload dX12_reads_99 rfl ?_
      refine V.ishl dX12_reads_101 ?_
      refine V.ior dX12_reads_102 ?_
      refine V.nmi (fun x17 ex17 => ?_)
      replace hf := lt_el hf x17 ex17
      refine V.istore_n (ls' := [.ref 113, .int l1, .null, .int x17, .int l4]) dX12_reads_103 rfl (by decide) rfl ?_
      obtain ⟨x18, ex18⟩ : ∃ y : Int32, y = l4 + 1 := ⟨_, rfl⟩
      replace hf := lt_el hf x18 ex18
      refine V.iinc (v := x18) (ls' := [.ref 113, .int l1, .null, .int x17, .int x18]) dX12_reads_104 rfl (by decide) ex18.symm rfl ?_
      refine V.goto (tgt := 67) dX12_reads_107 (by decide) ?_
      exact ih l1 x17 x18 h srh hf
set_option maxRecDepth 100000 in
theorem th_X12_reads_33 {h0 : HP} (ly : Lay h0) {rr : Int32} {hh : HP}  : ∀ (l1 : Int32) (l2 : Int32) (s0 : Int32) (s1 : Int32) (h : HP), SR h0 h → f_X12_reads_33 l1 l2 s0 s1 h = some (rr, hh) → V cX12_reads miX12_reads (ZI h0 miX12_reads rr hh) 130 33 [.ref 113, .int l1, .int l2, .null, .null] [.int s1, .int s0] h := by
  intro l1 l2 s0 s1 h srh hf
  unfold f_X12_reads_33 at hf
  refine V.icmp_lt (tgt := 42) dX12_reads_33 (by decide) (fun c5 => ?_) (fun c5 => ?_)
  · replace hf := ite_p hf c5
    refine V.iload_n dX12_reads_42 rfl rfl ?_
    refine V.if_ne (tgt := 62) dX12_reads_43 (by decide) (fun c6 => ?_) (fun c6 => ?_)
    · replace hf := ite_n hf c6
      refine V.iconst (v := 0) dX12_reads_62 rfl ?_
      refine V.istore_n (ls' := [.ref 113, .int l1, .int l2, .int 0, .null]) dX12_reads_63 rfl (by decide) rfl ?_
      refine V.iconst (v := 0) dX12_reads_64 rfl ?_
      refine V.istore (ls' := [.ref 113, .int l1, .int l2, .int 0, .int 0]) dX12_reads_65 (by decide) rfl ?_
      refine V.less (ls' := [.ref 113, .int l1, .null, .int 0, .int 0]) ⟨Or.inr rfl, Or.inr rfl, Or.inl rfl, Or.inr rfl, Or.inr rfl, trivial⟩ ?_
      exact th_X12_reads_67 ly FU l1 0 0 h srh hf
    · replace hf := ite_p hf c6
      refine V.aload_n dX12_reads_46 rfl rfl rfl ?_
      refine V.aload_n dX12_reads_47 rfl rfl rfl ?_
      refine V.aload_n dX12_reads_48 rfl rfl rfl ?_
      refine V.getR (r := 114) dX12_reads_49 fl_X12_7 rfl (Or.inl ⟨rfl, SHL_lt rfl⟩) rfl (ly_113_0 (srh.ly ly)) ?_
      refine V.iconst (v := 3) dX12_reads_52 rfl ?_
      refine V.iaload dX12_reads_53 rfl (Or.inl ⟨rfl, SHL_lt rfl⟩) (vp_lit (by decide)) ?_
      rw [show Int32.toNatClampNeg 3 = 3 from rfl]
      refine V.iload_n dX12_reads_54 rfl rfl ?_
      obtain ⟨r9, h8, q7, hf2⟩ := bd2_el hf
      replace hf := hf2
      clear hf2
      refine V.callVI dX12_reads_55 ml_X12_304 mo_X12_rowOf mv_X12_rowOf rfl (fun q hq => by cases hq; rfl) (by decide) (Or.inl ⟨rfl, SHL_lt rfl⟩) (th_X12_rowOf (srh.ly ly) q7) rfl rfl ⟨Nat.le_of_ble_eq_true rfl, Nat.le_of_ble_eq_true rfl, fun _ => ⟨rfl, rfl⟩⟩ (Nat.le_of_ble_eq_true rfl) rfl (post_I (fun sq => ?_))
      have srh8 : SR h0 h8 := srh.trans sq
      clear sq q7
      obtain ⟨r12, h11, q10, hf2⟩ := bd2_el hf
      replace hf := hf2
      clear hf2
      refine V.callVI dX12_reads_58 ml_X12_85 mo_X12_gives mv_X12_gives rfl (fun q hq => by cases hq; rfl) (by decide) (Or.inl ⟨rfl, SHL_lt rfl⟩) (th_X12_gives (srh8.ly ly) q10) rfl rfl ⟨Nat.le_of_ble_eq_true rfl, Nat.le_of_ble_eq_true rfl, fun _ => ⟨rfl, rfl⟩⟩ (Nat.le_of_ble_eq_true rfl) rfl (post_I (fun sq => ?_))
      have srh11 : SR h0 h11 := srh8.trans sq
      clear sq q10
      refine V.ireturn dX12_reads_61 rfl rfl ⟨rfl, rfl⟩ ly.1 ?_
      exact ret_I hf srh11
  · replace hf := ite_n hf c5
    refine V.less (ls' := [.ref 113, .null, .null, .null, .null]) ⟨Or.inr rfl, Or.inl rfl, Or.inl rfl, Or.inl rfl, Or.inl rfl, trivial⟩ ?_
    exact th_X12_reads_36 ly h srh hf
set_option maxRecDepth 100000 in
theorem th_X12_reads {h : HP} (ly : Lay h) {a1 : Int32} {a2 : Int32} {rr : Int32} {hh : HP} (hf : f_X12_reads h a1 a2 = some (rr, hh)) : Spec yX12_reads cX12_reads miX12_reads [.ref 113, .int a1, .int a2] h (pI fun r' h' => (r' = rr ∧ h' = hh) ∧ SR h hh) := by
  refine Spec.of (ls0 := [.ref 113, .int a1, .int a2, .null, .null]) mo_X12_reads (Nat.le_of_ble_eq_true rfl) rfl ?_
  rw [ly.1]
  have srh : SR h h := SR.refl h
  unfold f_X12_reads at hf
  refine V.iload_n dX12_reads_0 rfl rfl ?_
  refine V.if_lt (tgt := 36) dX12_reads_1 (by decide) (fun c1 => ?_) (fun c1 => ?_)
  · replace hf := ite_p hf c1
    refine V.less (ls' := [.ref 113, .null, .null, .null, .null]) ⟨Or.inr rfl, Or.inl rfl, Or.inl rfl, Or.inl rfl, Or.inl rfl, trivial⟩ ?_
    exact th_X12_reads_36 ly h srh hf
  · replace hf := ite_n hf c1
    refine V.iload_n dX12_reads_4 rfl rfl ?_
    refine V.iconst (v := 1) dX12_reads_5 rfl ?_
    refine V.icmp_gt (tgt := 36) dX12_reads_6 (by decide) (fun c2 => ?_) (fun c2 => ?_)
    · replace hf := ite_p hf c2
      refine V.less (ls' := [.ref 113, .null, .null, .null, .null]) ⟨Or.inr rfl, Or.inl rfl, Or.inl rfl, Or.inl rfl, Or.inl rfl, trivial⟩ ?_
      exact th_X12_reads_36 ly h srh hf
    · replace hf := ite_n hf c2
      refine V.iload_n dX12_reads_9 rfl rfl ?_
      refine V.if_lt (tgt := 36) dX12_reads_10 (by decide) (fun c3 => ?_) (fun c3 => ?_)
      · replace hf := ite_p hf c3
        refine V.less (ls' := [.ref 113, .null, .null, .null, .null]) ⟨Or.inr rfl, Or.inl rfl, Or.inl rfl, Or.inl rfl, Or.inl rfl, trivial⟩ ?_
        exact th_X12_reads_36 ly h srh hf
      · replace hf := ite_n hf c3
        refine V.iload_n dX12_reads_13 rfl rfl ?_
        refine V.iload_n dX12_reads_14 rfl rfl ?_
        refine V.if_ne (tgt := 27) dX12_reads_15 (by decide) (fun c4 => ?_) (fun c4 => ?_)
        · replace hf := ite_n hf c4
          refine V.aload_n dX12_reads_27 rfl rfl rfl ?_
          refine V.getR (r := 114) dX12_reads_28 fl_X12_7 rfl (Or.inl ⟨rfl, SHL_lt rfl⟩) rfl (ly_113_0 (srh.ly ly)) ?_
          refine V.iconst (v := 0) dX12_reads_31 rfl ?_
          refine V.iaload dX12_reads_32 rfl (Or.inl ⟨rfl, SHL_lt rfl⟩) (vp_lit (by decide)) ?_
          rw [show Int32.toNatClampNeg 0 = 0 from rfl]
          exact th_X12_reads_33 ly a1 a2 a1 (hI h 114 0) h srh hf
        · replace hf := ite_p hf c4
          refine V.aload_n dX12_reads_18 rfl rfl rfl ?_
          refine V.getR (r := 114) dX12_reads_19 fl_X12_7 rfl (Or.inl ⟨rfl, SHL_lt rfl⟩) rfl (ly_113_0 (srh.ly ly)) ?_
          refine V.iconst (v := 1) dX12_reads_22 rfl ?_
          refine V.iaload dX12_reads_23 rfl (Or.inl ⟨rfl, SHL_lt rfl⟩) (vp_lit (by decide)) ?_
          rw [show Int32.toNatClampNeg 1 = 1 from rfl]
          refine V.goto (tgt := 33) dX12_reads_24 (by decide) ?_
          exact th_X12_reads_33 ly a1 a2 a1 (hI h 114 1) h srh hf
set_option maxRecDepth 100000 in
theorem th_X12_mirror_29 {h0 : HP} (ly : Lay h0) {rr : Int32} {hh : HP} {K4 : Int32 → Int32 → HP → Option (Int32 × HP)} (kok4 : ∀ (l1 : Int32) (l2 : Int32) (g : HP), SR h0 g → K4 l1 l2 g = some (rr, hh) → V cX12_mirror miX12_mirror (ZI h0 miX12_mirror rr hh) 130 4 [.ref 113, .int l1, .int l2, .null, .null] [] g) : ∀ (n : Nat) (l1 : Int32) (l2 : Int32) (l3 : Int32) (l4 : Int32) (h : HP), SR h0 h → f_X12_mirror_29 K4 n l1 l2 l3 l4 h = some (rr, hh) → V cX12_mirror miX12_mirror (ZI h0 miX12_mirror rr hh) 130 29 [.ref 113, .int l1, .int l2, .int l3, .int l4] [] h := by
  intro n
  induction n with
  | zero => intro l1 l2 l3 l4 h srh hf; exact absurd hf (by unfold f_X12_mirror_29; simp)
  | succ n ih =>
    intro l1 l2 l3 l4 h srh hf
    unfold f_X12_mirror_29 at hf
    refine V.iload dX12_mirror_29 rfl ?_
    refine V.aload_n dX12_mirror_31 rfl rfl rfl ?_
    refine V.getR (r := 114) dX12_mirror_32 fl_X12_7 rfl (Or.inl ⟨rfl, SHL_lt rfl⟩) rfl (ly_113_0 (srh.ly ly)) ?_
    refine V.iconst (v := 0) dX12_mirror_35 rfl ?_
    refine V.iaload dX12_mirror_36 rfl (Or.inl ⟨rfl, SHL_lt rfl⟩) (vp_lit (by decide)) ?_
    rw [show Int32.toNatClampNeg 0 = 0 from rfl]
    refine V.icmp_ge (tgt := 80) dX12_mirror_37 (by decide) (fun c12 => ?_) (fun c12 => ?_)
    · replace hf := ite_p hf c12
      obtain ⟨x13, ex13⟩ : ∃ y : Int32, y = l2 + 1 := ⟨_, rfl⟩
      replace hf := lt_el hf x13 ex13
      refine V.iinc (v := x13) (ls' := [.ref 113, .int l1, .int x13, .int l3, .int l4]) dX12_mirror_80 rfl (by decide) ex13.symm rfl ?_
      refine V.goto (tgt := 4) dX12_mirror_83 (by decide) ?_
      refine V.less (ls' := [.ref 113, .int l1, .int x13, .null, .null]) ⟨Or.inr rfl, Or.inr rfl, Or.inr rfl, Or.inl rfl, Or.inl rfl, trivial⟩ ?_
      exact kok4 l1 x13 h srh hf
    · replace hf := ite_n hf c12
      refine V.iload_n dX12_mirror_40 rfl rfl ?_
      refine V.if_eq (tgt := 72) dX12_mirror_41 (by decide) (fun c14 => ?_) (fun c14 => ?_)
      · replace hf := ite_p hf c14
        refine V.iconst (v := 0) dX12_mirror_72 rfl ?_
        refine V.istore_n (ls' := [.ref 113, .int 0, .int l2, .int l3, .int l4]) dX12_mirror_73 rfl (by decide) rfl ?_
        obtain ⟨x15, ex15⟩ : ∃ y : Int32, y = l4 + 1 := ⟨_, rfl⟩
        replace hf := lt_el hf x15 ex15
        refine V.iinc (v := x15) (ls' := [.ref 113, .int 0, .int l2, .int l3, .int x15]) dX12_mirror_74 rfl (by decide) ex15.symm rfl ?_
        refine V.goto (tgt := 29) dX12_mirror_77 (by decide) ?_
        exact ih 0 l2 l3 x15 h srh hf
      · replace hf := ite_n hf c14
        refine V.iload_n dX12_mirror_44 rfl rfl ?_
        refine V.iload dX12_mirror_45 rfl ?_
        refine V.ishr dX12_mirror_47 ?_
        refine V.iconst (v := 1) dX12_mirror_48 rfl ?_
        refine V.iand dX12_mirror_49 ?_
        refine V.iload_n dX12_mirror_50 rfl rfl ?_
        refine V.aload_n dX12_mirror_51 rfl rfl rfl ?_
        refine V.getR (r := 114) dX12_mirror_52 fl_X12_7 rfl (Or.inl ⟨rfl, SHL_lt rfl⟩) rfl (ly_113_0 (srh.ly ly)) ?_
        refine V.iconst (v := 0) dX12_mirror_55 rfl ?_
        refine V.iaload dX12_mirror_56 rfl (Or.inl ⟨rfl, SHL_lt rfl⟩) (vp_lit (by decide)) ?_
        rw [show Int32.toNatClampNeg 0 = 0 from rfl]
        refine V.iconst (v := 1) dX12_mirror_57 rfl ?_
        refine V.isub dX12_mirror_58 ?_
        refine V.iload dX12_mirror_59 rfl ?_
        refine V.isub dX12_mirror_61 ?_
        refine V.ishr dX12_mirror_62 ?_
        refine V.iconst (v := 1) dX12_mirror_63 rfl ?_
        refine V.iand dX12_mirror_64 ?_
        refine V.icmp_ne (tgt := 72) dX12_mirror_65 (by decide) (fun c16 => ?_) (fun c16 => ?_)
        · replace hf := ite_n hf c16
          refine V.iconst (v := 0) dX12_mirror_72 rfl ?_
          refine V.istore_n (ls' := [.ref 113, .int 0, .int l2, .int l3, .int l4]) dX12_mirror_73 rfl (by decide) rfl ?_
          obtain ⟨x17, ex17⟩ : ∃ y : Int32, y = l4 + 1 := ⟨_, rfl⟩
          replace hf := lt_el hf x17 ex17
          refine V.iinc (v := x17) (ls' := [.ref 113, .int 0, .int l2, .int l3, .int x17]) dX12_mirror_74 rfl (by decide) ex17.symm rfl ?_
          refine V.goto (tgt := 29) dX12_mirror_77 (by decide) ?_
          exact ih 0 l2 l3 x17 h srh hf
        · replace hf := ite_p hf c16
          refine V.iconst (v := 1) dX12_mirror_68 rfl ?_
          refine V.goto (tgt := 73) dX12_mirror_69 (by decide) ?_
          refine V.istore_n (ls' := [.ref 113, .int 1, .int l2, .int l3, .int l4]) dX12_mirror_73 rfl (by decide) rfl ?_
          obtain ⟨x18, ex18⟩ : ∃ y : Int32, y = l4 + 1 := ⟨_, rfl⟩
          replace hf := lt_el hf x18 ex18
          refine V.iinc (v := x18) (ls' := [.ref 113, .int 1, .int l2, .int l3, .int x18]) dX12_mirror_74 rfl (by decide) ex18.symm rfl ?_
          refine V.goto (tgt := 29) dX12_mirror_77 (by decide) ?_
          exact ih 1 l2 l3 x18 h srh hf
set_option maxRecDepth 100000 in
theorem th_X12_mirror_4 {h0 : HP} (ly : Lay h0) {rr : Int32} {hh : HP}  : ∀ (n : Nat) (l1 : Int32) (l2 : Int32) (h : HP), SR h0 h → f_X12_mirror_4 n l1 l2 h = some (rr, hh) → V cX12_mirror miX12_mirror (ZI h0 miX12_mirror rr hh) 130 4 [.ref 113, .int l1, .int l2, .null, .null] [] h := by
  intro n
  induction n with
  | zero => intro l1 l2 h srh hf; exact absurd hf (by unfold f_X12_mirror_4; simp)
  | succ n ih =>
    intro l1 l2 h srh hf
    unfold f_X12_mirror_4 at hf
    refine V.iload_n dX12_mirror_4 rfl rfl ?_
    refine V.aload_n dX12_mirror_5 rfl rfl rfl ?_
    refine V.getR (r := 114) dX12_mirror_6 fl_X12_7 rfl (Or.inl ⟨rfl, SHL_lt rfl⟩) rfl (ly_113_0 (srh.ly ly)) ?_
    refine V.iconst (v := 1) dX12_mirror_9 rfl ?_
    refine V.iaload dX12_mirror_10 rfl (Or.inl ⟨rfl, SHL_lt rfl⟩) (vp_lit (by decide)) ?_
    rw [show Int32.toNatClampNeg 1 = 1 from rfl]
    refine V.icmp_ge (tgt := 86) dX12_mirror_11 (by decide) (fun c1 => ?_) (fun c1 => ?_)
    · replace hf := ite_p hf c1
      refine V.aload_n dX12_mirror_86 rfl rfl rfl ?_
      refine V.iload_n dX12_mirror_87 rfl rfl ?_
      refine V.if_eq (tgt := 95) dX12_mirror_88 (by decide) (fun c2 => ?_) (fun c2 => ?_)
      · replace hf := ite_p hf c2
        refine V.iconst (v := 0) dX12_mirror_95 rfl ?_
        obtain ⟨r5, h4, q3, hf2⟩ := bd2_el hf
        replace hf := hf2
        clear hf2
        refine V.callVI dX12_mirror_96 ml_X12_85 mo_X12_gives mv_X12_gives rfl (fun q hq => by cases hq; rfl) (by decide) (Or.inl ⟨rfl, SHL_lt rfl⟩) (th_X12_gives (srh.ly ly) q3) rfl rfl ⟨Nat.le_of_ble_eq_true rfl, Nat.le_of_ble_eq_true rfl, fun _ => ⟨rfl, rfl⟩⟩ (Nat.le_of_ble_eq_true rfl) rfl (post_I (fun sq => ?_))
        have srh4 : SR h0 h4 := srh.trans sq
        clear sq q3
        refine V.ireturn dX12_mirror_99 rfl rfl ⟨rfl, rfl⟩ ly.1 ?_
        exact ret_I hf srh4
      · replace hf := ite_n hf c2
        refine V.iconst (v := 1) dX12_mirror_91 rfl ?_
        refine V.goto (tgt := 96) dX12_mirror_92 (by decide) ?_
        obtain ⟨r8, h7, q6, hf2⟩ := bd2_el hf
        replace hf := hf2
        clear hf2
        refine V.callVI dX12_mirror_96 ml_X12_85 mo_X12_gives mv_X12_gives rfl (fun q hq => by cases hq; rfl) (by decide) (Or.inl ⟨rfl, SHL_lt rfl⟩) (th_X12_gives (srh.ly ly) q6) rfl rfl ⟨Nat.le_of_ble_eq_true rfl, Nat.le_of_ble_eq_true rfl, fun _ => ⟨rfl, rfl⟩⟩ (Nat.le_of_ble_eq_true rfl) rfl (post_I (fun sq => ?_))
        have srh7 : SR h0 h7 := srh.trans sq
        clear sq q6
        refine V.ireturn dX12_mirror_99 rfl rfl ⟨rfl, rfl⟩ ly.1 ?_
        exact ret_I hf srh7
    · replace hf := ite_n hf c1
      refine V.aload_n dX12_mirror_14 rfl rfl rfl ?_
      refine V.aload_n dX12_mirror_15 rfl rfl rfl ?_
      refine V.getR (r := 114) dX12_mirror_16 fl_X12_7 rfl (Or.inl ⟨rfl, SHL_lt rfl⟩) rfl (ly_113_0 (srh.ly ly)) ?_
      refine V.iconst (v := 3) dX12_mirror_19 rfl ?_
      refine V.iaload dX12_mirror_20 rfl (Or.inl ⟨rfl, SHL_lt rfl⟩) (vp_lit (by decide)) ?_
      rw [show Int32.toNatClampNeg 3 = 3 from rfl]
      refine V.iload_n dX12_mirror_21 rfl rfl ?_
      obtain ⟨r11, h10, q9, hf2⟩ := bd2_el hf
      replace hf := hf2
      clear hf2
      refine V.callVI dX12_mirror_22 ml_X12_304 mo_X12_rowOf mv_X12_rowOf rfl (fun q hq => by cases hq; rfl) (by decide) (Or.inl ⟨rfl, SHL_lt rfl⟩) (th_X12_rowOf (srh.ly ly) q9) rfl rfl ⟨Nat.le_of_ble_eq_true rfl, Nat.le_of_ble_eq_true rfl, fun _ => ⟨rfl, rfl⟩⟩ (Nat.le_of_ble_eq_true rfl) rfl (post_I (fun sq => ?_))
      have srh10 : SR h0 h10 := srh.trans sq
      clear sq q9
      refine V.istore_n (ls' := [.ref 113, .int l1, .int l2, .int r11, .null]) dX12_mirror_25 rfl (by decide) rfl ?_
      refine V.iconst (v := 0) dX12_mirror_26 rfl ?_
      refine V.istore (ls' := [.ref 113, .int l1, .int l2, .int r11, .int 0]) dX12_mirror_27 (by decide) rfl ?_
      exact th_X12_mirror_29 ly ih FU l1 l2 r11 0 h10 srh10 hf
set_option maxRecDepth 100000 in
theorem th_X12_mirror {h : HP} (ly : Lay h)  {rr : Int32} {hh : HP} (hf : f_X12_mirror h = some (rr, hh)) : Spec yX12_mirror cX12_mirror miX12_mirror [.ref 113] h (pI fun r' h' => (r' = rr ∧ h' = hh) ∧ SR h hh) := by
  refine Spec.of (ls0 := [.ref 113, .null, .null, .null, .null]) mo_X12_mirror (Nat.le_of_ble_eq_true rfl) rfl ?_
  rw [ly.1]
  have srh : SR h h := SR.refl h
  unfold f_X12_mirror at hf
  refine V.iconst (v := 1) dX12_mirror_0 rfl ?_
  refine V.istore_n (ls' := [.ref 113, .int 1, .null, .null, .null]) dX12_mirror_1 rfl (by decide) rfl ?_
  refine V.iconst (v := 0) dX12_mirror_2 rfl ?_
  refine V.istore_n (ls' := [.ref 113, .int 1, .int 0, .null, .null]) dX12_mirror_3 rfl (by decide) rfl ?_
  exact th_X12_mirror_4 ly FU 1 0 h srh hf
set_option maxRecDepth 100000 in
theorem th_X12_heapOf_23 {h0 : HP} (ly : Lay h0) {rr : Int32} {hh : HP} {K13 : Int32 → Int32 → HP → Option (Int32 × HP)} (kok13 : ∀ (l2 : Int32) (l3 : Int32) (g : HP), SR h0 g → K13 l2 l3 g = some (rr, hh) → V cX12_heapOf miX12_heapOf (ZI h0 miX12_heapOf rr hh) 130 13 [.ref 113, .null, .int l2, .int l3, .null] [] g) : ∀ (n : Nat) (l2 : Int32) (l3 : Int32) (l4 : Int32) (h : HP), SR h0 h → f_X12_heapOf_23 K13 n l2 l3 l4 h = some (rr, hh) → V cX12_heapOf miX12_heapOf (ZI h0 miX12_heapOf rr hh) 130 23 [.ref 113, .null, .int l2, .int l3, .int l4] [] h := by
  intro n
  induction n with
  | zero => intro l2 l3 l4 h srh hf; exact absurd hf (by unfold f_X12_heapOf_23; simp)
  | succ n ih =>
    intro l2 l3 l4 h srh hf
    unfold f_X12_heapOf_23 at hf
    refine V.iload dX12_heapOf_23 rfl ?_
    refine V.aload_n dX12_heapOf_25 rfl rfl rfl ?_
    obtain ⟨r5, h4, q3, hf2⟩ := bd2_el hf
    replace hf := hf2
    clear hf2
    refine V.callVI dX12_heapOf_26 ml_X12_262 mo_X12_places mv_X12_places rfl (fun q hq => by cases hq; rfl) (by decide) (Or.inl ⟨rfl, SHL_lt rfl⟩) (th_X12_places (srh.ly ly) q3) rfl rfl ⟨Nat.le_of_ble_eq_true rfl, Nat.le_of_ble_eq_true rfl, fun _ => ⟨rfl, rfl⟩⟩ (Nat.le_of_ble_eq_true rfl) rfl (post_I (fun sq => ?_))
    have srh4 : SR h0 h4 := srh.trans sq
    clear sq q3
    refine V.icmp_ge (tgt := 65) dX12_heapOf_29 (by decide) (fun c6 => ?_) (fun c6 => ?_)
    · replace hf := ite_p hf c6
      refine V.goto (tgt := 13) dX12_heapOf_65 (by decide) ?_
      refine V.less (ls' := [.ref 113, .null, .int l2, .int l3, .null]) ⟨Or.inr rfl, Or.inl rfl, Or.inr rfl, Or.inr rfl, Or.inl rfl, trivial⟩ ?_
      exact kok13 l2 l3 h4 srh4 hf
    · replace hf := ite_n hf c6
      refine V.iload_n dX12_heapOf_32 rfl rfl ?_
      refine V.iload dX12_heapOf_33 rfl ?_
      refine V.ishr dX12_heapOf_35 ?_
      refine V.iconst (v := 1) dX12_heapOf_36 rfl ?_
      refine V.iand dX12_heapOf_37 ?_
      refine V.iconst (v := 1) dX12_heapOf_38 rfl ?_
      refine V.icmp_ne (tgt := 59) dX12_heapOf_39 (by decide) (fun c7 => ?_) (fun c7 => ?_)
      · replace hf := ite_n hf c7
        obtain ⟨x8, ex8⟩ : ∃ y : Int32, y = l4 + 1 := ⟨_, rfl⟩
        replace hf := lt_el hf x8 ex8
        refine V.iinc (v := x8) (ls' := [.ref 113, .null, .int l2, .int l3, .int x8]) dX12_heapOf_59 rfl (by decide) ex8.symm rfl ?_
        refine V.goto (tgt := 23) dX12_heapOf_62 (by decide) ?_
        exact ih l2 l3 x8 h4 srh4 hf
      · replace hf := ite_p hf c7
        refine V.iload_n dX12_heapOf_42 rfl rfl ?_
        refine V.aload_n dX12_heapOf_43 rfl rfl rfl ?_
        refine V.getR (r := 122) dX12_heapOf_44 fl_X12_47 rfl (Or.inl ⟨rfl, SHL_lt rfl⟩) rfl (ly_113_23 (srh4.ly ly)) ?_
        refine V.iload dX12_heapOf_47 rfl ?_
        obtain ⟨b9, hf2⟩ := gdi_el hf
        replace hf := hf2
        clear hf2
        refine V.iaload dX12_heapOf_49 rfl (Or.inl ⟨rfl, SHL_lt rfl⟩) b9 ?_
        refine V.aload_n dX12_heapOf_50 rfl rfl rfl ?_
        refine V.getR (r := 114) dX12_heapOf_51 fl_X12_7 rfl (Or.inl ⟨rfl, SHL_lt rfl⟩) rfl (ly_113_0 (srh4.ly ly)) ?_
        refine V.iconst (v := 3) dX12_heapOf_54 rfl ?_
        refine V.iaload dX12_heapOf_55 rfl (Or.inl ⟨rfl, SHL_lt rfl⟩) (vp_lit (by decide)) ?_
        rw [show Int32.toNatClampNeg 3 = 3 from rfl]
        refine V.iand dX12_heapOf_56 ?_
        refine V.ior dX12_heapOf_57 ?_
        refine V.nmi (fun x10 ex10 => ?_)
        replace hf := lt_el hf x10 ex10
        refine V.istore_n (ls' := [.ref 113, .null, .int x10, .int l3, .int l4]) dX12_heapOf_58 rfl (by decide) rfl ?_
        obtain ⟨x11, ex11⟩ : ∃ y : Int32, y = l4 + 1 := ⟨_, rfl⟩
        replace hf := lt_el hf x11 ex11
        refine V.iinc (v := x11) (ls' := [.ref 113, .null, .int x10, .int l3, .int x11]) dX12_heapOf_59 rfl (by decide) ex11.symm rfl ?_
        refine V.goto (tgt := 23) dX12_heapOf_62 (by decide) ?_
        exact ih x10 l3 x11 h4 srh4 hf
set_option maxRecDepth 100000 in
theorem th_X12_heapOf_13 {h0 : HP} (ly : Lay h0) {rr : Int32} {hh : HP}  : ∀ (n : Nat) (l2 : Int32) (l3 : Int32) (h : HP), SR h0 h → f_X12_heapOf_13 n l2 l3 h = some (rr, hh) → V cX12_heapOf miX12_heapOf (ZI h0 miX12_heapOf rr hh) 130 13 [.ref 113, .null, .int l2, .int l3, .null] [] h := by
  intro n
  induction n with
  | zero => intro l2 l3 h srh hf; exact absurd hf (by unfold f_X12_heapOf_13; simp)
  | succ n ih =>
    intro l2 l3 h srh hf
    unfold f_X12_heapOf_13 at hf
    refine V.iload_n dX12_heapOf_13 rfl rfl ?_
    refine V.iload_n dX12_heapOf_14 rfl rfl ?_
    refine V.icmp_eq (tgt := 68) dX12_heapOf_15 (by decide) (fun c2 => ?_) (fun c2 => ?_)
    · replace hf := ite_p hf c2
      refine V.iload_n dX12_heapOf_68 rfl rfl ?_
      refine V.ireturn dX12_heapOf_69 rfl rfl ⟨rfl, rfl⟩ ly.1 ?_
      exact ret_I hf srh
    · replace hf := ite_n hf c2
      refine V.iload_n dX12_heapOf_18 rfl rfl ?_
      refine V.istore_n (ls' := [.ref 113, .null, .int l2, .int l2, .null]) dX12_heapOf_19 rfl (by decide) rfl ?_
      refine V.iconst (v := 0) dX12_heapOf_20 rfl ?_
      refine V.istore (ls' := [.ref 113, .null, .int l2, .int l2, .int 0]) dX12_heapOf_21 (by decide) rfl ?_
      exact th_X12_heapOf_23 ly ih FU l2 l2 0 h srh hf
set_option maxRecDepth 100000 in
theorem th_X12_heapOf {h : HP} (ly : Lay h) {a1 : Int32} {rr : Int32} {hh : HP} (hf : f_X12_heapOf h a1 = some (rr, hh)) : Spec yX12_heapOf cX12_heapOf miX12_heapOf [.ref 113, .int a1] h (pI fun r' h' => (r' = rr ∧ h' = hh) ∧ SR h hh) := by
  refine Spec.of (ls0 := [.ref 113, .int a1, .null, .null, .null]) mo_X12_heapOf (Nat.le_of_ble_eq_true rfl) rfl ?_
  rw [ly.1]
  have srh : SR h h := SR.refl h
  unfold f_X12_heapOf at hf
  refine V.aload_n dX12_heapOf_0 rfl rfl rfl ?_
  refine V.getR (r := 114) dX12_heapOf_1 fl_X12_7 rfl (Or.inl ⟨rfl, SHL_lt rfl⟩) rfl (ly_113_0 (srh.ly ly)) ?_
  refine V.iconst (v := 3) dX12_heapOf_4 rfl ?_
  refine V.iaload dX12_heapOf_5 rfl (Or.inl ⟨rfl, SHL_lt rfl⟩) (vp_lit (by decide)) ?_
  rw [show Int32.toNatClampNeg 3 = 3 from rfl]
  refine V.iconst (v := 1) dX12_heapOf_6 rfl ?_
  refine V.iload_n dX12_heapOf_7 rfl rfl ?_
  refine V.ishl dX12_heapOf_8 ?_
  refine V.iand dX12_heapOf_9 ?_
  refine V.nmi (fun x1 ex1 => ?_)
  replace hf := lt_el hf x1 ex1
  refine V.istore_n (ls' := [.ref 113, .int a1, .int x1, .null, .null]) dX12_heapOf_10 rfl (by decide) rfl ?_
  refine V.iconst (v := 0) dX12_heapOf_11 rfl ?_
  refine V.istore_n (ls' := [.ref 113, .int a1, .int x1, .int 0, .null]) dX12_heapOf_12 rfl (by decide) rfl ?_
  refine V.less (ls' := [.ref 113, .null, .int x1, .int 0, .null]) ⟨Or.inr rfl, Or.inl rfl, Or.inr rfl, Or.inr rfl, Or.inl rfl, trivial⟩ ?_
  exact th_X12_heapOf_13 ly FU x1 0 h srh hf
set_option maxRecDepth 100000 in
theorem th_X12_heaps_26 {h0 : HP} (ly : Lay h0) {rr : Int32} {hh : HP}  : ∀ (n : Nat) (l1 : Int32) (l2 : Int32) (l3 : Int32) (l4 : Int32) (h : HP), SR h0 h → f_X12_heaps_26 n l1 l2 l3 l4 h = some (rr, hh) → V cX12_heaps miX12_heaps (ZI h0 miX12_heaps rr hh) 130 26 [.ref 113, .int l1, .int l2, .int l3, .int l4, .null] [] h := by
  intro n
  induction n with
  | zero => intro l1 l2 l3 l4 h srh hf; exact absurd hf (by unfold f_X12_heaps_26; simp)
  | succ n ih =>
    intro l1 l2 l3 l4 h srh hf
    unfold f_X12_heaps_26 at hf
    refine V.iload dX12_heaps_26 rfl ?_
    refine V.aload_n dX12_heaps_28 rfl rfl rfl ?_
    obtain ⟨r13, h12, q11, hf2⟩ := bd2_el hf
    replace hf := hf2
    clear hf2
    refine V.callVI dX12_heaps_29 ml_X12_262 mo_X12_places mv_X12_places rfl (fun q hq => by cases hq; rfl) (by decide) (Or.inl ⟨rfl, SHL_lt rfl⟩) (th_X12_places (srh.ly ly) q11) rfl rfl ⟨Nat.le_of_ble_eq_true rfl, Nat.le_of_ble_eq_true rfl, fun _ => ⟨rfl, rfl⟩⟩ (Nat.le_of_ble_eq_true rfl) rfl (post_I (fun sq => ?_))
    have srh12 : SR h0 h12 := srh.trans sq
    clear sq q11
    refine V.icmp_ge (tgt := 84) dX12_heaps_32 (by decide) (fun c14 => ?_) (fun c14 => ?_)
    · replace hf := ite_p hf c14
      refine V.aload_n dX12_heaps_84 rfl rfl rfl ?_
      refine V.iload_n dX12_heaps_85 rfl rfl ?_
      refine V.if_ne (tgt := 93) dX12_heaps_86 (by decide) (fun c15 => ?_) (fun c15 => ?_)
      · replace hf := ite_n hf c15
        refine V.iload_n dX12_heaps_93 rfl rfl ?_
        obtain ⟨r18, h17, q16, hf2⟩ := bd2_el hf
        replace hf := hf2
        clear hf2
        refine V.callVI dX12_heaps_94 ml_X12_85 mo_X12_gives mv_X12_gives rfl (fun q hq => by cases hq; rfl) (by decide) (Or.inl ⟨rfl, SHL_lt rfl⟩) (th_X12_gives (srh12.ly ly) q16) rfl rfl ⟨Nat.le_of_ble_eq_true rfl, Nat.le_of_ble_eq_true rfl, fun _ => ⟨rfl, rfl⟩⟩ (Nat.le_of_ble_eq_true rfl) rfl (post_I (fun sq => ?_))
        have srh17 : SR h0 h17 := srh12.trans sq
        clear sq q16
        refine V.ireturn dX12_heaps_97 rfl rfl ⟨rfl, rfl⟩ ly.1 ?_
        exact ret_I hf srh17
      · replace hf := ite_p hf c15
        refine V.iload_n dX12_heaps_89 rfl rfl ?_
        refine V.goto (tgt := 94) dX12_heaps_90 (by decide) ?_
        obtain ⟨r21, h20, q19, hf2⟩ := bd2_el hf
        replace hf := hf2
        clear hf2
        refine V.callVI dX12_heaps_94 ml_X12_85 mo_X12_gives mv_X12_gives rfl (fun q hq => by cases hq; rfl) (by decide) (Or.inl ⟨rfl, SHL_lt rfl⟩) (th_X12_gives (srh12.ly ly) q19) rfl rfl ⟨Nat.le_of_ble_eq_true rfl, Nat.le_of_ble_eq_true rfl, fun _ => ⟨rfl, rfl⟩⟩ (Nat.le_of_ble_eq_true rfl) rfl (post_I (fun sq => ?_))
        have srh20 : SR h0 h20 := srh12.trans sq
        clear sq q19
        refine V.ireturn dX12_heaps_97 rfl rfl ⟨rfl, rfl⟩ ly.1 ?_
        exact ret_I hf srh20
    · replace hf := ite_n hf c14
      refine V.aload_n dX12_heaps_35 rfl rfl rfl ?_
      refine V.iload dX12_heaps_36 rfl ?_
      obtain ⟨r24, h23, q22, hf2⟩ := bd2_el hf
      replace hf := hf2
      clear hf2
      refine V.callVI dX12_heaps_38 ml_X12_392 mo_X12_heapOf mv_X12_heapOf rfl (fun q hq => by cases hq; rfl) (by decide) (Or.inl ⟨rfl, SHL_lt rfl⟩) (th_X12_heapOf (srh12.ly ly) q22) rfl rfl ⟨Nat.le_of_ble_eq_true rfl, Nat.le_of_ble_eq_true rfl, fun _ => ⟨rfl, rfl⟩⟩ (Nat.le_of_ble_eq_true rfl) rfl (post_I (fun sq => ?_))
      have srh23 : SR h0 h23 := srh12.trans sq
      clear sq q22
      refine V.istore (ls' := [.ref 113, .int l1, .int l2, .int l3, .int l4, .int r24]) dX12_heaps_41 (by decide) rfl ?_
      refine V.iload_n dX12_heaps_43 rfl rfl ?_
      refine V.iload dX12_heaps_44 rfl ?_
      obtain ⟨r27, h26, q25, hf2⟩ := bd2_el hf
      replace hf := hf2
      clear hf2
      refine V.callSI dX12_heaps_46 ml_X12_226 mo_X12_bits ms_X12_bits (th_X12_bits (srh23.ly ly) q25) rfl rfl ⟨Nat.le_of_ble_eq_true rfl, Nat.le_of_ble_eq_true rfl, fun _ => ⟨rfl, rfl⟩⟩ (Nat.le_of_ble_eq_true rfl) rfl (post_I (fun sq => ?_))
      have srh26 : SR h0 h26 := srh23.trans sq
      clear sq q25
      refine V.max dX12_heaps_49 lk_X12_335 max_ok rfl ⟨Nat.le_of_ble_eq_true rfl, Nat.le_of_ble_eq_true rfl⟩ ?_
      refine V.nmi (fun x28 ex28 => ?_)
      replace hf := lt_el hf x28 ex28
      refine V.istore_n (ls' := [.ref 113, .int l1, .int l2, .int x28, .int l4, .int r24]) dX12_heaps_52 rfl (by decide) rfl ?_
      refine V.iload_n dX12_heaps_53 rfl rfl ?_
      refine V.iload dX12_heaps_54 rfl ?_
      refine V.if_eq (tgt := 75) dX12_heaps_56 (by decide) (fun c29 => ?_) (fun c29 => ?_)
      · replace hf := ite_p hf c29
        refine V.iconst (v := 0) dX12_heaps_75 rfl ?_
        refine V.iadd dX12_heaps_76 ?_
        refine V.nmi (fun x30 ex30 => ?_)
        replace hf := lt_el hf x30 ex30
        refine V.istore_n (ls' := [.ref 113, .int l1, .int x30, .int x28, .int l4, .int r24]) dX12_heaps_77 rfl (by decide) rfl ?_
        obtain ⟨x31, ex31⟩ : ∃ y : Int32, y = l4 + 1 := ⟨_, rfl⟩
        replace hf := lt_el hf x31 ex31
        refine V.iinc (v := x31) (ls' := [.ref 113, .int l1, .int x30, .int x28, .int x31, .int r24]) dX12_heaps_78 rfl (by decide) ex31.symm rfl ?_
        refine V.goto (tgt := 26) dX12_heaps_81 (by decide) ?_
        refine V.less (ls' := [.ref 113, .int l1, .int x30, .int x28, .int x31, .null]) ⟨Or.inr rfl, Or.inr rfl, Or.inr rfl, Or.inr rfl, Or.inr rfl, Or.inl rfl, trivial⟩ ?_
        exact ih l1 x30 x28 x31 h26 srh26 hf
      · replace hf := ite_n hf c29
        refine V.iload dX12_heaps_59 rfl ?_
        refine V.iconst (v := 1) dX12_heaps_61 rfl ?_
        refine V.iload dX12_heaps_62 rfl ?_
        refine V.ishl dX12_heaps_64 ?_
        refine V.iconst (v := 1) dX12_heaps_65 rfl ?_
        refine V.isub dX12_heaps_66 ?_
        refine V.iand dX12_heaps_67 ?_
        refine V.if_ne (tgt := 75) dX12_heaps_68 (by decide) (fun c32 => ?_) (fun c32 => ?_)
        · replace hf := ite_n hf c32
          refine V.iconst (v := 0) dX12_heaps_75 rfl ?_
          refine V.iadd dX12_heaps_76 ?_
          refine V.nmi (fun x33 ex33 => ?_)
          replace hf := lt_el hf x33 ex33
          refine V.istore_n (ls' := [.ref 113, .int l1, .int x33, .int x28, .int l4, .int r24]) dX12_heaps_77 rfl (by decide) rfl ?_
          obtain ⟨x34, ex34⟩ : ∃ y : Int32, y = l4 + 1 := ⟨_, rfl⟩
          replace hf := lt_el hf x34 ex34
          refine V.iinc (v := x34) (ls' := [.ref 113, .int l1, .int x33, .int x28, .int x34, .int r24]) dX12_heaps_78 rfl (by decide) ex34.symm rfl ?_
          refine V.goto (tgt := 26) dX12_heaps_81 (by decide) ?_
          refine V.less (ls' := [.ref 113, .int l1, .int x33, .int x28, .int x34, .null]) ⟨Or.inr rfl, Or.inr rfl, Or.inr rfl, Or.inr rfl, Or.inr rfl, Or.inl rfl, trivial⟩ ?_
          exact ih l1 x33 x28 x34 h26 srh26 hf
        · replace hf := ite_p hf c32
          refine V.iconst (v := 1) dX12_heaps_71 rfl ?_
          refine V.goto (tgt := 76) dX12_heaps_72 (by decide) ?_
          refine V.iadd dX12_heaps_76 ?_
          refine V.nmi (fun x35 ex35 => ?_)
          replace hf := lt_el hf x35 ex35
          refine V.istore_n (ls' := [.ref 113, .int l1, .int x35, .int x28, .int l4, .int r24]) dX12_heaps_77 rfl (by decide) rfl ?_
          obtain ⟨x36, ex36⟩ : ∃ y : Int32, y = l4 + 1 := ⟨_, rfl⟩
          replace hf := lt_el hf x36 ex36
          refine V.iinc (v := x36) (ls' := [.ref 113, .int l1, .int x35, .int x28, .int x36, .int r24]) dX12_heaps_78 rfl (by decide) ex36.symm rfl ?_
          refine V.goto (tgt := 26) dX12_heaps_81 (by decide) ?_
          refine V.less (ls' := [.ref 113, .int l1, .int x35, .int x28, .int x36, .null]) ⟨Or.inr rfl, Or.inr rfl, Or.inr rfl, Or.inr rfl, Or.inr rfl, Or.inl rfl, trivial⟩ ?_
          exact ih l1 x35 x28 x36 h26 srh26 hf
set_option maxRecDepth 100000 in
theorem th_X12_heaps {h : HP} (ly : Lay h) {a1 : Int32} {rr : Int32} {hh : HP} (hf : f_X12_heaps h a1 = some (rr, hh)) : Spec yX12_heaps cX12_heaps miX12_heaps [.ref 113, .int a1] h (pI fun r' h' => (r' = rr ∧ h' = hh) ∧ SR h hh) := by
  refine Spec.of (ls0 := [.ref 113, .int a1, .null, .null, .null, .null]) mo_X12_heaps (Nat.le_of_ble_eq_true rfl) rfl ?_
  rw [ly.1]
  have srh : SR h h := SR.refl h
  unfold f_X12_heaps at hf
  refine V.iload_n dX12_heaps_0 rfl rfl ?_
  refine V.if_lt (tgt := 9) dX12_heaps_1 (by decide) (fun c1 => ?_) (fun c1 => ?_)
  · replace hf := ite_p hf c1
    refine V.aload_n dX12_heaps_9 rfl rfl rfl ?_
    refine V.iconst (v := 1) dX12_heaps_10 rfl ?_
    obtain ⟨r4, h3, q2, hf2⟩ := bd2_el hf
    replace hf := hf2
    clear hf2
    refine V.callVI dX12_heaps_11 ml_X12_81 mo_X12_refuse mv_X12_refuse rfl (fun q hq => by cases hq; rfl) (by decide) (Or.inl ⟨rfl, SHL_lt rfl⟩) (th_X12_refuse (srh.ly ly) q2) rfl rfl ⟨Nat.le_of_ble_eq_true rfl, Nat.le_of_ble_eq_true rfl, fun _ => ⟨rfl, rfl⟩⟩ (Nat.le_of_ble_eq_true rfl) rfl (post_I (fun sq => ?_))
    have srh3 : SR h h3 := srh.trans sq
    clear sq q2
    refine V.ireturn dX12_heaps_14 rfl rfl ⟨rfl, rfl⟩ ly.1 ?_
    exact ret_I hf srh3
  · replace hf := ite_n hf c1
    refine V.iload_n dX12_heaps_4 rfl rfl ?_
    refine V.iconst (v := 1) dX12_heaps_5 rfl ?_
    refine V.icmp_le (tgt := 15) dX12_heaps_6 (by decide) (fun c5 => ?_) (fun c5 => ?_)
    · replace hf := ite_p hf c5
      refine V.aload_n dX12_heaps_15 rfl rfl rfl ?_
      obtain ⟨h7, q6, hf2⟩ := bd_el hf
      replace hf := hf2
      clear hf2
      refine V.callVV dX12_heaps_16 ml_X12_271 mo_X12_laysNear mv_X12_laysNear rfl (fun q hq => by cases hq; rfl) (by decide) (Or.inl ⟨rfl, SHL_lt rfl⟩) (th_X12_laysNear (srh.ly ly) q6) rfl rfl ⟨Nat.le_of_ble_eq_true rfl, Nat.le_of_ble_eq_true rfl, fun _ => ⟨rfl, rfl⟩⟩ (Nat.le_of_ble_eq_true rfl) (Or.inl rfl) (post_V (fun sq => ?_))
      have srh7 : SR h h7 := srh.trans sq
      clear sq q6
      refine V.iconst (v := 0) dX12_heaps_19 rfl ?_
      refine V.istore_n (ls' := [.ref 113, .int a1, .int 0, .null, .null, .null]) dX12_heaps_20 rfl (by decide) rfl ?_
      refine V.iconst (v := 0) dX12_heaps_21 rfl ?_
      refine V.istore_n (ls' := [.ref 113, .int a1, .int 0, .int 0, .null, .null]) dX12_heaps_22 rfl (by decide) rfl ?_
      refine V.iconst (v := 0) dX12_heaps_23 rfl ?_
      refine V.istore (ls' := [.ref 113, .int a1, .int 0, .int 0, .int 0, .null]) dX12_heaps_24 (by decide) rfl ?_
      exact th_X12_heaps_26 ly FU a1 0 0 0 h7 srh7 hf
    · replace hf := ite_n hf c5
      refine V.aload_n dX12_heaps_9 rfl rfl rfl ?_
      refine V.iconst (v := 1) dX12_heaps_10 rfl ?_
      obtain ⟨r10, h9, q8, hf2⟩ := bd2_el hf
      replace hf := hf2
      clear hf2
      refine V.callVI dX12_heaps_11 ml_X12_81 mo_X12_refuse mv_X12_refuse rfl (fun q hq => by cases hq; rfl) (by decide) (Or.inl ⟨rfl, SHL_lt rfl⟩) (th_X12_refuse (srh.ly ly) q8) rfl rfl ⟨Nat.le_of_ble_eq_true rfl, Nat.le_of_ble_eq_true rfl, fun _ => ⟨rfl, rfl⟩⟩ (Nat.le_of_ble_eq_true rfl) rfl (post_I (fun sq => ?_))
      have srh9 : SR h h9 := srh.trans sq
      clear sq q8
      refine V.ireturn dX12_heaps_14 rfl rfl ⟨rfl, rfl⟩ ly.1 ?_
      exact ret_I hf srh9
set_option maxRecDepth 100000 in
theorem th_X12_heap {h : HP} (ly : Lay h) {a1 : Int32} {a2 : Int32} {rr : Int32} {hh : HP} (hf : f_X12_heap h a1 a2 = some (rr, hh)) : Spec yX12_heap cX12_heap miX12_heap [.ref 113, .int a1, .int a2] h (pI fun r' h' => (r' = rr ∧ h' = hh) ∧ SR h hh) := by
  refine Spec.of (ls0 := [.ref 113, .int a1, .int a2, .null]) mo_X12_heap (Nat.le_of_ble_eq_true rfl) rfl ?_
  rw [ly.1]
  have srh : SR h h := SR.refl h
  unfold f_X12_heap at hf
  refine V.aload_n dX12_heap_0 rfl rfl rfl ?_
  refine V.iload_n dX12_heap_1 rfl rfl ?_
  refine V.iload_n dX12_heap_2 rfl rfl ?_
  obtain ⟨r3, h2, q1, hf2⟩ := bd2_el hf
  replace hf := hf2
  clear hf2
  refine V.callVI dX12_heap_3 ml_X12_259 mo_X12_wrongHouse mv_X12_wrongHouse rfl (fun q hq => by cases hq; rfl) (by decide) (Or.inl ⟨rfl, SHL_lt rfl⟩) (th_X12_wrongHouse (srh.ly ly) q1) rfl rfl ⟨Nat.le_of_ble_eq_true rfl, Nat.le_of_ble_eq_true rfl, fun _ => ⟨rfl, rfl⟩⟩ (Nat.le_of_ble_eq_true rfl) rfl (post_I (fun sq => ?_))
  have srh2 : SR h h2 := srh.trans sq
  clear sq q1
  refine V.istore_n (ls' := [.ref 113, .int a1, .int a2, .int r3]) dX12_heap_6 rfl (by decide) rfl ?_
  refine V.iload_n dX12_heap_7 rfl rfl ?_
  refine V.if_le (tgt := 17) dX12_heap_8 (by decide) (fun c4 => ?_) (fun c4 => ?_)
  · replace hf := ite_p hf c4
    refine V.aload_n dX12_heap_17 rfl rfl rfl ?_
    obtain ⟨h6, q5, hf2⟩ := bd_el hf
    replace hf := hf2
    clear hf2
    refine V.callVV dX12_heap_18 ml_X12_271 mo_X12_laysNear mv_X12_laysNear rfl (fun q hq => by cases hq; rfl) (by decide) (Or.inl ⟨rfl, SHL_lt rfl⟩) (th_X12_laysNear (srh2.ly ly) q5) rfl rfl ⟨Nat.le_of_ble_eq_true rfl, Nat.le_of_ble_eq_true rfl, fun _ => ⟨rfl, rfl⟩⟩ (Nat.le_of_ble_eq_true rfl) (Or.inl rfl) (post_V (fun sq => ?_))
    have srh6 : SR h h6 := srh2.trans sq
    clear sq q5
    refine V.aload_n dX12_heap_21 rfl rfl rfl ?_
    refine V.aload_n dX12_heap_22 rfl rfl rfl ?_
    refine V.aload_n dX12_heap_23 rfl rfl rfl ?_
    refine V.getR (r := 114) dX12_heap_24 fl_X12_7 rfl (Or.inl ⟨rfl, SHL_lt rfl⟩) rfl (ly_113_0 (srh6.ly ly)) ?_
    refine V.iconst (v := 0) dX12_heap_27 rfl ?_
    refine V.iaload dX12_heap_28 rfl (Or.inl ⟨rfl, SHL_lt rfl⟩) (vp_lit (by decide)) ?_
    rw [show Int32.toNatClampNeg 0 = 0 from rfl]
    refine V.iload_n dX12_heap_29 rfl rfl ?_
    refine V.imul dX12_heap_30 ?_
    refine V.iload_n dX12_heap_31 rfl rfl ?_
    refine V.iadd dX12_heap_32 ?_
    obtain ⟨r9, h8, q7, hf2⟩ := bd2_el hf
    replace hf := hf2
    clear hf2
    refine V.callVI dX12_heap_33 ml_X12_392 mo_X12_heapOf mv_X12_heapOf rfl (fun q hq => by cases hq; rfl) (by decide) (Or.inl ⟨rfl, SHL_lt rfl⟩) (th_X12_heapOf (srh6.ly ly) q7) rfl rfl ⟨Nat.le_of_ble_eq_true rfl, Nat.le_of_ble_eq_true rfl, fun _ => ⟨rfl, rfl⟩⟩ (Nat.le_of_ble_eq_true rfl) rfl (post_I (fun sq => ?_))
    have srh8 : SR h h8 := srh6.trans sq
    clear sq q7
    obtain ⟨r12, h11, q10, hf2⟩ := bd2_el hf
    replace hf := hf2
    clear hf2
    refine V.callSI dX12_heap_36 ml_X12_226 mo_X12_bits ms_X12_bits (th_X12_bits (srh8.ly ly) q10) rfl rfl ⟨Nat.le_of_ble_eq_true rfl, Nat.le_of_ble_eq_true rfl, fun _ => ⟨rfl, rfl⟩⟩ (Nat.le_of_ble_eq_true rfl) rfl (post_I (fun sq => ?_))
    have srh11 : SR h h11 := srh8.trans sq
    clear sq q10
    obtain ⟨r15, h14, q13, hf2⟩ := bd2_el hf
    replace hf := hf2
    clear hf2
    refine V.callVI dX12_heap_39 ml_X12_85 mo_X12_gives mv_X12_gives rfl (fun q hq => by cases hq; rfl) (by decide) (Or.inl ⟨rfl, SHL_lt rfl⟩) (th_X12_gives (srh11.ly ly) q13) rfl rfl ⟨Nat.le_of_ble_eq_true rfl, Nat.le_of_ble_eq_true rfl, fun _ => ⟨rfl, rfl⟩⟩ (Nat.le_of_ble_eq_true rfl) rfl (post_I (fun sq => ?_))
    have srh14 : SR h h14 := srh11.trans sq
    clear sq q13
    refine V.ireturn dX12_heap_42 rfl rfl ⟨rfl, rfl⟩ ly.1 ?_
    exact ret_I hf srh14
  · replace hf := ite_n hf c4
    refine V.aload_n dX12_heap_11 rfl rfl rfl ?_
    refine V.iload_n dX12_heap_12 rfl rfl ?_
    obtain ⟨r18, h17, q16, hf2⟩ := bd2_el hf
    replace hf := hf2
    clear hf2
    refine V.callVI dX12_heap_13 ml_X12_81 mo_X12_refuse mv_X12_refuse rfl (fun q hq => by cases hq; rfl) (by decide) (Or.inl ⟨rfl, SHL_lt rfl⟩) (th_X12_refuse (srh2.ly ly) q16) rfl rfl ⟨Nat.le_of_ble_eq_true rfl, Nat.le_of_ble_eq_true rfl, fun _ => ⟨rfl, rfl⟩⟩ (Nat.le_of_ble_eq_true rfl) rfl (post_I (fun sq => ?_))
    have srh17 : SR h h17 := srh2.trans sq
    clear sq q16
    refine V.ireturn dX12_heap_16 rfl rfl ⟨rfl, rfl⟩ ly.1 ?_
    exact ret_I hf srh17
set_option maxRecDepth 100000 in
theorem th_X12_company_24 {h0 : HP} (ly : Lay h0) {rr : Int32} {hh : HP}  : ∀ (n : Nat) (l1 : Int32) (l2 : Int32) (h : HP), SR h0 h → f_X12_company_24 n l1 l2 h = some (rr, hh) → V cX12_company miX12_company (ZI h0 miX12_company rr hh) 130 24 [.ref 113, .int l1, .int l2] [] h := by
  intro n
  induction n with
  | zero => intro l1 l2 h srh hf; exact absurd hf (by unfold f_X12_company_24; simp)
  | succ n ih =>
    intro l1 l2 h srh hf
    unfold f_X12_company_24 at hf
    refine V.iload_n dX12_company_24 rfl rfl ?_
    refine V.aload_n dX12_company_25 rfl rfl rfl ?_
    obtain ⟨r10, h9, q8, hf2⟩ := bd2_el hf
    replace hf := hf2
    clear hf2
    refine V.callVI dX12_company_26 ml_X12_262 mo_X12_places mv_X12_places rfl (fun q hq => by cases hq; rfl) (by decide) (Or.inl ⟨rfl, SHL_lt rfl⟩) (th_X12_places (srh.ly ly) q8) rfl rfl ⟨Nat.le_of_ble_eq_true rfl, Nat.le_of_ble_eq_true rfl, fun _ => ⟨rfl, rfl⟩⟩ (Nat.le_of_ble_eq_true rfl) rfl (post_I (fun sq => ?_))
    have srh9 : SR h0 h9 := srh.trans sq
    clear sq q8
    refine V.icmp_ge (tgt := 75) dX12_company_29 (by decide) (fun c11 => ?_) (fun c11 => ?_)
    · replace hf := ite_p hf c11
      refine V.aload_n dX12_company_75 rfl rfl rfl ?_
      refine V.iload_n dX12_company_76 rfl rfl ?_
      refine V.i2l dX12_company_77 ?_
      refine V.aload_n dX12_company_78 rfl rfl rfl ?_
      refine V.getR (r := 114) dX12_company_79 fl_X12_7 rfl (Or.inl ⟨rfl, SHL_lt rfl⟩) rfl (ly_113_0 (srh9.ly ly)) ?_
      refine V.iconst (v := 3) dX12_company_82 rfl ?_
      refine V.iaload dX12_company_83 rfl (Or.inl ⟨rfl, SHL_lt rfl⟩) (vp_lit (by decide)) ?_
      rw [show Int32.toNatClampNeg 3 = 3 from rfl]
      obtain ⟨r14, h13, q12, hf2⟩ := bd2_el hf
      replace hf := hf2
      clear hf2
      refine V.callSI dX12_company_84 ml_X12_226 mo_X12_bits ms_X12_bits (th_X12_bits (srh9.ly ly) q12) rfl rfl ⟨Nat.le_of_ble_eq_true rfl, Nat.le_of_ble_eq_true rfl, fun _ => ⟨rfl, rfl⟩⟩ (Nat.le_of_ble_eq_true rfl) rfl (post_I (fun sq => ?_))
      have srh13 : SR h0 h13 := srh9.trans sq
      clear sq q12
      refine V.i2l dX12_company_87 ?_
      obtain ⟨r17, h16, q15, hf2⟩ := bd2_el hf
      replace hf := hf2
      clear hf2
      refine V.callVI dX12_company_88 ml_X12_395 mo_X12_tellsBy mv_X12_tellsBy rfl (fun q hq => by cases hq; rfl) (by decide) (Or.inl ⟨rfl, SHL_lt rfl⟩) (th_X12_tellsBy (srh13.ly ly) q15) rfl rfl ⟨Nat.le_of_ble_eq_true rfl, Nat.le_of_ble_eq_true rfl, fun _ => ⟨rfl, rfl⟩⟩ (Nat.le_of_ble_eq_true rfl) rfl (post_I (fun sq => ?_))
      have srh16 : SR h0 h16 := srh13.trans sq
      clear sq q15
      obtain ⟨b18, hf2⟩ := gd_el hf
      replace hf := hf2
      clear hf2
      refine V.ireturn dX12_company_91 rfl (narB b18) ⟨rfl, rfl⟩ ly.1 ?_
      exact ret_I hf srh16
    · replace hf := ite_n hf c11
      refine V.iload_n dX12_company_32 rfl rfl ?_
      refine V.aload_n dX12_company_33 rfl rfl rfl ?_
      refine V.getR (r := 114) dX12_company_34 fl_X12_7 rfl (Or.inl ⟨rfl, SHL_lt rfl⟩) rfl (ly_113_0 (srh9.ly ly)) ?_
      refine V.iconst (v := 3) dX12_company_37 rfl ?_
      refine V.iaload dX12_company_38 rfl (Or.inl ⟨rfl, SHL_lt rfl⟩) (vp_lit (by decide)) ?_
      rw [show Int32.toNatClampNeg 3 = 3 from rfl]
      refine V.iload_n dX12_company_39 rfl rfl ?_
      refine V.ishr dX12_company_40 ?_
      refine V.iconst (v := 1) dX12_company_41 rfl ?_
      refine V.iand dX12_company_42 ?_
      refine V.iconst (v := 1) dX12_company_43 rfl ?_
      refine V.icmp_ne (tgt := 66) dX12_company_44 (by decide) (fun c19 => ?_) (fun c19 => ?_)
      · replace hf := ite_n hf c19
        refine V.iconst (v := 0) dX12_company_66 rfl ?_
        refine V.iadd dX12_company_67 ?_
        refine V.nmi (fun x20 ex20 => ?_)
        replace hf := lt_el hf x20 ex20
        refine V.istore_n (ls' := [.ref 113, .int x20, .int l2]) dX12_company_68 rfl (by decide) rfl ?_
        obtain ⟨x21, ex21⟩ : ∃ y : Int32, y = l2 + 1 := ⟨_, rfl⟩
        replace hf := lt_el hf x21 ex21
        refine V.iinc (v := x21) (ls' := [.ref 113, .int x20, .int x21]) dX12_company_69 rfl (by decide) ex21.symm rfl ?_
        refine V.goto (tgt := 24) dX12_company_72 (by decide) ?_
        exact ih x20 x21 h9 srh9 hf
      · replace hf := ite_p hf c19
        refine V.aload_n dX12_company_47 rfl rfl rfl ?_
        refine V.getR (r := 122) dX12_company_48 fl_X12_47 rfl (Or.inl ⟨rfl, SHL_lt rfl⟩) rfl (ly_113_23 (srh9.ly ly)) ?_
        refine V.iload_n dX12_company_51 rfl rfl ?_
        obtain ⟨b22, hf2⟩ := gdi_el hf
        replace hf := hf2
        clear hf2
        refine V.iaload dX12_company_52 rfl (Or.inl ⟨rfl, SHL_lt rfl⟩) b22 ?_
        refine V.aload_n dX12_company_53 rfl rfl rfl ?_
        refine V.getR (r := 114) dX12_company_54 fl_X12_7 rfl (Or.inl ⟨rfl, SHL_lt rfl⟩) rfl (ly_113_0 (srh9.ly ly)) ?_
        refine V.iconst (v := 3) dX12_company_57 rfl ?_
        refine V.iaload dX12_company_58 rfl (Or.inl ⟨rfl, SHL_lt rfl⟩) (vp_lit (by decide)) ?_
        rw [show Int32.toNatClampNeg 3 = 3 from rfl]
        refine V.iand dX12_company_59 ?_
        obtain ⟨r25, h24, q23, hf2⟩ := bd2_el hf
        replace hf := hf2
        clear hf2
        refine V.callSI dX12_company_60 ml_X12_226 mo_X12_bits ms_X12_bits (th_X12_bits (srh9.ly ly) q23) rfl rfl ⟨Nat.le_of_ble_eq_true rfl, Nat.le_of_ble_eq_true rfl, fun _ => ⟨rfl, rfl⟩⟩ (Nat.le_of_ble_eq_true rfl) rfl (post_I (fun sq => ?_))
        have srh24 : SR h0 h24 := srh9.trans sq
        clear sq q23
        refine V.goto (tgt := 67) dX12_company_63 (by decide) ?_
        refine V.iadd dX12_company_67 ?_
        refine V.nmi (fun x26 ex26 => ?_)
        replace hf := lt_el hf x26 ex26
        refine V.istore_n (ls' := [.ref 113, .int x26, .int l2]) dX12_company_68 rfl (by decide) rfl ?_
        obtain ⟨x27, ex27⟩ : ∃ y : Int32, y = l2 + 1 := ⟨_, rfl⟩
        replace hf := lt_el hf x27 ex27
        refine V.iinc (v := x27) (ls' := [.ref 113, .int x26, .int x27]) dX12_company_69 rfl (by decide) ex27.symm rfl ?_
        refine V.goto (tgt := 24) dX12_company_72 (by decide) ?_
        exact ih x26 x27 h24 srh24 hf
set_option maxRecDepth 100000 in
theorem th_X12_company {h : HP} (ly : Lay h)  {rr : Int32} {hh : HP} (hf : f_X12_company h = some (rr, hh)) : Spec yX12_company cX12_company miX12_company [.ref 113] h (pI fun r' h' => (r' = rr ∧ h' = hh) ∧ SR h hh) := by
  refine Spec.of (ls0 := [.ref 113, .null, .null]) mo_X12_company (Nat.le_of_ble_eq_true rfl) rfl ?_
  rw [ly.1]
  have srh : SR h h := SR.refl h
  unfold f_X12_company at hf
  refine V.aload_n dX12_company_0 rfl rfl rfl ?_
  refine V.getR (r := 114) dX12_company_1 fl_X12_7 rfl (Or.inl ⟨rfl, SHL_lt rfl⟩) rfl (ly_113_0 (srh.ly ly)) ?_
  refine V.iconst (v := 3) dX12_company_4 rfl ?_
  refine V.iaload dX12_company_5 rfl (Or.inl ⟨rfl, SHL_lt rfl⟩) (vp_lit (by decide)) ?_
  rw [show Int32.toNatClampNeg 3 = 3 from rfl]
  refine V.if_ne (tgt := 16) dX12_company_6 (by decide) (fun c1 => ?_) (fun c1 => ?_)
  · replace hf := ite_n hf c1
    refine V.aload_n dX12_company_16 rfl rfl rfl ?_
    obtain ⟨h3, q2, hf2⟩ := bd_el hf
    replace hf := hf2
    clear hf2
    refine V.callVV dX12_company_17 ml_X12_271 mo_X12_laysNear mv_X12_laysNear rfl (fun q hq => by cases hq; rfl) (by decide) (Or.inl ⟨rfl, SHL_lt rfl⟩) (th_X12_laysNear (srh.ly ly) q2) rfl rfl ⟨Nat.le_of_ble_eq_true rfl, Nat.le_of_ble_eq_true rfl, fun _ => ⟨rfl, rfl⟩⟩ (Nat.le_of_ble_eq_true rfl) (Or.inl rfl) (post_V (fun sq => ?_))
    have srh3 : SR h h3 := srh.trans sq
    clear sq q2
    refine V.iconst (v := 0) dX12_company_20 rfl ?_
    refine V.istore_n (ls' := [.ref 113, .int 0, .null]) dX12_company_21 rfl (by decide) rfl ?_
    refine V.iconst (v := 0) dX12_company_22 rfl ?_
    refine V.istore_n (ls' := [.ref 113, .int 0, .int 0]) dX12_company_23 rfl (by decide) rfl ?_
    exact th_X12_company_24 ly FU 0 0 h3 srh3 hf
  · replace hf := ite_p hf c1
    refine V.aload_n dX12_company_9 rfl rfl rfl ?_
    refine V.bipush (v := 6) dX12_company_10 rfl ?_
    obtain ⟨r6, h5, q4, hf2⟩ := bd2_el hf
    replace hf := hf2
    clear hf2
    refine V.callVI dX12_company_12 ml_X12_88 mo_X12_is mv_X12_is rfl (fun q hq => by cases hq; rfl) (by decide) (Or.inl ⟨rfl, SHL_lt rfl⟩) (th_X12_is (srh.ly ly) q4) rfl rfl ⟨Nat.le_of_ble_eq_true rfl, Nat.le_of_ble_eq_true rfl, fun _ => ⟨rfl, rfl⟩⟩ (Nat.le_of_ble_eq_true rfl) rfl (post_I (fun sq => ?_))
    have srh5 : SR h h5 := srh.trans sq
    clear sq q4
    obtain ⟨b7, hf2⟩ := gd_el hf
    replace hf := hf2
    clear hf2
    refine V.ireturn dX12_company_15 rfl (narB b7) ⟨rfl, rfl⟩ ly.1 ?_
    exact ret_I hf srh5
set_option maxRecDepth 100000 in
theorem th_X12_draw {h : HP} (ly : Lay h) {a1 : Int32} {rr : Int32} {hh : HP} (hf : f_X12_draw h a1 = some (rr, hh)) : Spec yX12_draw cX12_draw miX12_draw [.ref 113, .int a1] h (pI fun r' h' => (r' = rr ∧ h' = hh) ∧ SR h hh) := by
  refine Spec.of (ls0 := [.ref 113, .int a1]) mo_X12_draw (Nat.le_of_ble_eq_true rfl) rfl ?_
  rw [ly.1]
  have srh : SR h h := SR.refl h
  unfold f_X12_draw at hf
  refine V.aload_n dX12_draw_0 rfl rfl rfl ?_
  refine V.aload_n dX12_draw_1 rfl rfl rfl ?_
  refine V.getI dX12_draw_2 fl_X12_399 rfl (Or.inl ⟨rfl, SHL_lt rfl⟩) rfl rfl ?_
  refine V.sipush (v := 2879) dX12_draw_5 rfl ?_
  refine V.imul dX12_draw_8 ?_
  refine V.sipush (v := 11083) dX12_draw_9 rfl ?_
  refine V.iadd dX12_draw_12 ?_
  refine V.ldcw (v := 65536) dX12_draw_13 kc_X12_402 ?_
  refine V.irem dX12_draw_16 (by decide) ?_
  refine V.putI dX12_draw_17 fl_X12_399 rfl (Or.inl ⟨rfl, SHL_lt rfl⟩) rfl (fun q hq => by cases hq; rfl) ⟨rfl, rfl⟩ ?_
  refine V.nameH (fun g1 eg1 => ?_)
  replace hf := lt_el hf g1 eg1
  have srg1 : SR h g1 := by rw [eg1]; exact srh.I _ _ _
  refine V.aload_n dX12_draw_20 rfl rfl rfl ?_
  refine V.getI dX12_draw_21 fl_X12_399 rfl (Or.inl ⟨rfl, SHL_lt rfl⟩) rfl rfl ?_
  refine V.bipush (v := 8) dX12_draw_24 rfl ?_
  refine V.idiv dX12_draw_26 (by decide) ?_
  refine V.iload_n dX12_draw_27 rfl rfl ?_
  obtain ⟨b2, hf2⟩ := gd_el hf
  replace hf := hf2
  clear hf2
  refine V.irem dX12_draw_28 b2 ?_
  refine V.ireturn dX12_draw_29 rfl rfl ⟨rfl, rfl⟩ ly.1 ?_
  exact ret_I hf srg1
set_option maxRecDepth 100000 in
theorem th_X12_storms_18 {h0 : HP} (ly : Lay h0) {rr : Int32} {hh : HP}  : ∀ (n : Nat) (l1 : Int32) (l2 : Int32) (l3 : Int32) (h : HP), SR h0 h → f_X12_storms_18 n l1 l2 l3 h = some (rr, hh) → V cX12_storms miX12_storms (ZI h0 miX12_storms rr hh) 130 18 [.ref 113, .int l1, .int l2, .int l3] [] h := by
  intro n
  induction n with
  | zero => intro l1 l2 l3 h srh hf; exact absurd hf (by unfold f_X12_storms_18; simp)
  | succ n ih =>
    intro l1 l2 l3 h srh hf
    unfold f_X12_storms_18 at hf
    refine V.iload_n dX12_storms_18 rfl rfl ?_
    refine V.aload_n dX12_storms_19 rfl rfl rfl ?_
    obtain ⟨r4, h3, q2, hf2⟩ := bd2_el hf
    replace hf := hf2
    clear hf2
    refine V.callVI dX12_storms_20 ml_X12_262 mo_X12_places mv_X12_places rfl (fun q hq => by cases hq; rfl) (by decide) (Or.inl ⟨rfl, SHL_lt rfl⟩) (th_X12_places (srh.ly ly) q2) rfl rfl ⟨Nat.le_of_ble_eq_true rfl, Nat.le_of_ble_eq_true rfl, fun _ => ⟨rfl, rfl⟩⟩ (Nat.le_of_ble_eq_true rfl) rfl (post_I (fun sq => ?_))
    have srh3 : SR h0 h3 := srh.trans sq
    clear sq q2
    refine V.icmp_ge (tgt := 77) dX12_storms_23 (by decide) (fun c5 => ?_) (fun c5 => ?_)
    · replace hf := ite_p hf c5
      refine V.iconst (v := 1) dX12_storms_77 rfl ?_
      refine V.ireturn dX12_storms_78 rfl rfl ⟨rfl, rfl⟩ ly.1 ?_
      exact ret_I hf srh3
    · replace hf := ite_n hf c5
      refine V.iload_n dX12_storms_26 rfl rfl ?_
      refine V.iload_n dX12_storms_27 rfl rfl ?_
      refine V.ishr dX12_storms_28 ?_
      refine V.iconst (v := 1) dX12_storms_29 rfl ?_
      refine V.iand dX12_storms_30 ?_
      refine V.if_eq (tgt := 71) dX12_storms_31 (by decide) (fun c6 => ?_) (fun c6 => ?_)
      · replace hf := ite_p hf c6
        obtain ⟨x7, ex7⟩ : ∃ y : Int32, y = l3 + 1 := ⟨_, rfl⟩
        replace hf := lt_el hf x7 ex7
        refine V.iinc (v := x7) (ls' := [.ref 113, .int l1, .int l2, .int x7]) dX12_storms_71 rfl (by decide) ex7.symm rfl ?_
        refine V.goto (tgt := 18) dX12_storms_74 (by decide) ?_
        exact ih l1 l2 x7 h3 srh3 hf
      · replace hf := ite_n hf c6
        refine V.aload_n dX12_storms_34 rfl rfl rfl ?_
        refine V.bipush (v := 16) dX12_storms_35 rfl ?_
        obtain ⟨r10, h9, q8, hf2⟩ := bd2_el hf
        replace hf := hf2
        clear hf2
        refine V.callVI dX12_storms_37 ml_X12_403 mo_X12_draw mv_X12_draw rfl (fun q hq => by cases hq; rfl) (by decide) (Or.inl ⟨rfl, SHL_lt rfl⟩) (th_X12_draw (srh3.ly ly) q8) rfl rfl ⟨Nat.le_of_ble_eq_true rfl, Nat.le_of_ble_eq_true rfl, fun _ => ⟨rfl, rfl⟩⟩ (Nat.le_of_ble_eq_true rfl) rfl (post_I (fun sq => ?_))
        have srh9 : SR h0 h9 := srh3.trans sq
        clear sq q8
        refine V.iload_n dX12_storms_40 rfl rfl ?_
        refine V.icmp_lt (tgt := 47) dX12_storms_41 (by decide) (fun c11 => ?_) (fun c11 => ?_)
        · replace hf := ite_p hf c11
          refine V.aload_n dX12_storms_47 rfl rfl rfl ?_
          refine V.getR (r := 114) dX12_storms_48 fl_X12_7 rfl (Or.inl ⟨rfl, SHL_lt rfl⟩) rfl (ly_113_0 (srh9.ly ly)) ?_
          refine V.iconst (v := 3) dX12_storms_51 rfl ?_
          refine V.dup2 dX12_storms_52 rfl rfl ?_
          refine V.iaload dX12_storms_53 rfl (Or.inl ⟨rfl, SHL_lt rfl⟩) (vp_lit (by decide)) ?_
          rw [show Int32.toNatClampNeg 3 = 3 from rfl]
          refine V.iconst (v := 1) dX12_storms_54 rfl ?_
          refine V.iload_n dX12_storms_55 rfl rfl ?_
          refine V.ishl dX12_storms_56 ?_
          refine V.iconst (v := (-1)) dX12_storms_57 rfl ?_
          refine V.ixor dX12_storms_58 ?_
          refine V.iand dX12_storms_59 ?_
          refine V.iastore dX12_storms_60 rfl (Or.inl ⟨rfl, SHL_lt rfl⟩) (vp_lit (by decide)) ?_
          rw [show Int32.toNatClampNeg 3 = 3 from rfl]
          refine V.nameH (fun g12 eg12 => ?_)
          replace hf := lt_el hf g12 eg12
          have srg12 : SR h0 g12 := by rw [eg12]; exact srh9.I _ _ _
          refine V.aload_n dX12_storms_61 rfl rfl rfl ?_
          refine V.getR (r := 128) dX12_storms_62 fl_X12_65 rfl (Or.inl ⟨rfl, SHL_lt rfl⟩) rfl (ly_113_35 (srg12.ly ly)) ?_
          refine V.iconst (v := 2) dX12_storms_65 rfl ?_
          refine V.dup2 dX12_storms_66 rfl rfl ?_
          refine V.iaload dX12_storms_67 rfl (Or.inl ⟨rfl, SHL_lt rfl⟩) (vp_lit (by decide)) ?_
          rw [show Int32.toNatClampNeg 2 = 2 from rfl]
          refine V.iconst (v := 1) dX12_storms_68 rfl ?_
          refine V.iadd dX12_storms_69 ?_
          refine V.iastore dX12_storms_70 rfl (Or.inl ⟨rfl, SHL_lt rfl⟩) (vp_lit (by decide)) ?_
          rw [show Int32.toNatClampNeg 2 = 2 from rfl]
          refine V.nameH (fun g13 eg13 => ?_)
          replace hf := lt_el hf g13 eg13
          have srg13 : SR h0 g13 := by rw [eg13]; exact srg12.I _ _ _
          obtain ⟨x14, ex14⟩ : ∃ y : Int32, y = l3 + 1 := ⟨_, rfl⟩
          replace hf := lt_el hf x14 ex14
          refine V.iinc (v := x14) (ls' := [.ref 113, .int l1, .int l2, .int x14]) dX12_storms_71 rfl (by decide) ex14.symm rfl ?_
          refine V.goto (tgt := 18) dX12_storms_74 (by decide) ?_
          exact ih l1 l2 x14 g13 srg13 hf
        · replace hf := ite_n hf c11
          refine V.goto (tgt := 71) dX12_storms_44 (by decide) ?_
          obtain ⟨x15, ex15⟩ : ∃ y : Int32, y = l3 + 1 := ⟨_, rfl⟩
          replace hf := lt_el hf x15 ex15
          refine V.iinc (v := x15) (ls' := [.ref 113, .int l1, .int l2, .int x15]) dX12_storms_71 rfl (by decide) ex15.symm rfl ?_
          refine V.goto (tgt := 18) dX12_storms_74 (by decide) ?_
          exact ih l1 l2 x15 h9 srh9 hf
set_option maxRecDepth 100000 in
theorem th_X12_storms {h : HP} (ly : Lay h) {a1 : Int32} {rr : Int32} {hh : HP} (hf : f_X12_storms h a1 = some (rr, hh)) : Spec yX12_storms cX12_storms miX12_storms [.ref 113, .int a1] h (pI fun r' h' => (r' = rr ∧ h' = hh) ∧ SR h hh) := by
  refine Spec.of (ls0 := [.ref 113, .int a1, .null, .null]) mo_X12_storms (Nat.le_of_ble_eq_true rfl) rfl ?_
  rw [ly.1]
  have srh : SR h h := SR.refl h
  unfold f_X12_storms at hf
  refine V.aload_n dX12_storms_0 rfl rfl rfl ?_
  refine V.getR (r := 114) dX12_storms_1 fl_X12_7 rfl (Or.inl ⟨rfl, SHL_lt rfl⟩) rfl (ly_113_0 (srh.ly ly)) ?_
  refine V.iconst (v := 3) dX12_storms_4 rfl ?_
  refine V.iaload dX12_storms_5 rfl (Or.inl ⟨rfl, SHL_lt rfl⟩) (vp_lit (by decide)) ?_
  rw [show Int32.toNatClampNeg 3 = 3 from rfl]
  refine V.aload_n dX12_storms_6 rfl rfl rfl ?_
  refine V.getR (r := 114) dX12_storms_7 fl_X12_7 rfl (Or.inl ⟨rfl, SHL_lt rfl⟩) rfl (ly_113_0 (srh.ly ly)) ?_
  refine V.iconst (v := 4) dX12_storms_10 rfl ?_
  refine V.iaload dX12_storms_11 rfl (Or.inl ⟨rfl, SHL_lt rfl⟩) (vp_lit (by decide)) ?_
  rw [show Int32.toNatClampNeg 4 = 4 from rfl]
  refine V.iconst (v := (-1)) dX12_storms_12 rfl ?_
  refine V.ixor dX12_storms_13 ?_
  refine V.iand dX12_storms_14 ?_
  refine V.nmi (fun x1 ex1 => ?_)
  replace hf := lt_el hf x1 ex1
  refine V.istore_n (ls' := [.ref 113, .int a1, .int x1, .null]) dX12_storms_15 rfl (by decide) rfl ?_
  refine V.iconst (v := 0) dX12_storms_16 rfl ?_
  refine V.istore_n (ls' := [.ref 113, .int a1, .int x1, .int 0]) dX12_storms_17 rfl (by decide) rfl ?_
  exact th_X12_storms_18 ly FU a1 x1 0 h srh hf
set_option maxRecDepth 100000 in
theorem th_X12_isBorn {h : HP} (ly : Lay h)  {rr : Int32} {hh : HP} (hf : f_X12_isBorn h = some (rr, hh)) : Spec yX12_isBorn cX12_isBorn miX12_isBorn [.ref 113] h (pI fun r' h' => (r' = rr ∧ h' = hh) ∧ SR h hh) := by
  refine Spec.of (ls0 := [.ref 113, .null, .null]) mo_X12_isBorn (Nat.le_of_ble_eq_true rfl) rfl ?_
  rw [ly.1]
  have srh : SR h h := SR.refl h
  unfold f_X12_isBorn at hf
  refine V.aload_n dX12_isBorn_0 rfl rfl rfl ?_
  refine V.aload_n dX12_isBorn_1 rfl rfl rfl ?_
  refine V.getR (r := 114) dX12_isBorn_2 fl_X12_7 rfl (Or.inl ⟨rfl, SHL_lt rfl⟩) rfl (ly_113_0 (srh.ly ly)) ?_
  refine V.iconst (v := 0) dX12_isBorn_5 rfl ?_
  refine V.iaload dX12_isBorn_6 rfl (Or.inl ⟨rfl, SHL_lt rfl⟩) (vp_lit (by decide)) ?_
  rw [show Int32.toNatClampNeg 0 = 0 from rfl]
  obtain ⟨r3, h2, q1, hf2⟩ := bd2_el hf
  replace hf := hf2
  clear hf2
  refine V.callVI dX12_isBorn_7 ml_X12_403 mo_X12_draw mv_X12_draw rfl (fun q hq => by cases hq; rfl) (by decide) (Or.inl ⟨rfl, SHL_lt rfl⟩) (th_X12_draw (srh.ly ly) q1) rfl rfl ⟨Nat.le_of_ble_eq_true rfl, Nat.le_of_ble_eq_true rfl, fun _ => ⟨rfl, rfl⟩⟩ (Nat.le_of_ble_eq_true rfl) rfl (post_I (fun sq => ?_))
  have srh2 : SR h h2 := srh.trans sq
  clear sq q1
  refine V.istore_n (ls' := [.ref 113, .int r3, .null]) dX12_isBorn_10 rfl (by decide) rfl ?_
  refine V.aload_n dX12_isBorn_11 rfl rfl rfl ?_
  refine V.iload_n dX12_isBorn_12 rfl rfl ?_
  refine V.aload_n dX12_isBorn_13 rfl rfl rfl ?_
  refine V.aload_n dX12_isBorn_14 rfl rfl rfl ?_
  refine V.getR (r := 114) dX12_isBorn_15 fl_X12_7 rfl (Or.inl ⟨rfl, SHL_lt rfl⟩) rfl (ly_113_0 (srh2.ly ly)) ?_
  refine V.iconst (v := 1) dX12_isBorn_18 rfl ?_
  refine V.iaload dX12_isBorn_19 rfl (Or.inl ⟨rfl, SHL_lt rfl⟩) (vp_lit (by decide)) ?_
  rw [show Int32.toNatClampNeg 1 = 1 from rfl]
  obtain ⟨r6, h5, q4, hf2⟩ := bd2_el hf
  replace hf := hf2
  clear hf2
  refine V.callVI dX12_isBorn_20 ml_X12_403 mo_X12_draw mv_X12_draw rfl (fun q hq => by cases hq; rfl) (by decide) (Or.inl ⟨rfl, SHL_lt rfl⟩) (th_X12_draw (srh2.ly ly) q4) rfl rfl ⟨Nat.le_of_ble_eq_true rfl, Nat.le_of_ble_eq_true rfl, fun _ => ⟨rfl, rfl⟩⟩ (Nat.le_of_ble_eq_true rfl) rfl (post_I (fun sq => ?_))
  have srh5 : SR h h5 := srh2.trans sq
  clear sq q4
  obtain ⟨r9, h8, q7, hf2⟩ := bd2_el hf
  replace hf := hf2
  clear hf2
  refine V.callVI dX12_isBorn_23 ml_X12_256 mo_X12_bitOf mv_X12_bitOf rfl (fun q hq => by cases hq; rfl) (by decide) (Or.inl ⟨rfl, SHL_lt rfl⟩) (th_X12_bitOf (srh5.ly ly) q7) rfl rfl ⟨Nat.le_of_ble_eq_true rfl, Nat.le_of_ble_eq_true rfl, fun _ => ⟨rfl, rfl⟩⟩ (Nat.le_of_ble_eq_true rfl) rfl (post_I (fun sq => ?_))
  have srh8 : SR h h8 := srh5.trans sq
  clear sq q7
  refine V.istore_n (ls' := [.ref 113, .int r3, .int r9]) dX12_isBorn_26 rfl (by decide) rfl ?_
  refine V.aload_n dX12_isBorn_27 rfl rfl rfl ?_
  obtain ⟨r12, h11, q10, hf2⟩ := bd2_el hf
  replace hf := hf2
  clear hf2
  refine V.callVI dX12_isBorn_28 ml_X12_268 mo_X12_free mv_X12_free rfl (fun q hq => by cases hq; rfl) (by decide) (Or.inl ⟨rfl, SHL_lt rfl⟩) (th_X12_free (srh8.ly ly) q10) rfl rfl ⟨Nat.le_of_ble_eq_true rfl, Nat.le_of_ble_eq_true rfl, fun _ => ⟨rfl, rfl⟩⟩ (Nat.le_of_ble_eq_true rfl) rfl (post_I (fun sq => ?_))
  have srh11 : SR h h11 := srh8.trans sq
  clear sq q10
  refine V.aload_n dX12_isBorn_31 rfl rfl rfl ?_
  refine V.getR (r := 114) dX12_isBorn_32 fl_X12_7 rfl (Or.inl ⟨rfl, SHL_lt rfl⟩) rfl (ly_113_0 (srh11.ly ly)) ?_
  refine V.iconst (v := 3) dX12_isBorn_35 rfl ?_
  refine V.iaload dX12_isBorn_36 rfl (Or.inl ⟨rfl, SHL_lt rfl⟩) (vp_lit (by decide)) ?_
  rw [show Int32.toNatClampNeg 3 = 3 from rfl]
  refine V.iconst (v := (-1)) dX12_isBorn_37 rfl ?_
  refine V.ixor dX12_isBorn_38 ?_
  refine V.iand dX12_isBorn_39 ?_
  refine V.iload_n dX12_isBorn_40 rfl rfl ?_
  refine V.iand dX12_isBorn_41 ?_
  refine V.if_ne (tgt := 47) dX12_isBorn_42 (by decide) (fun c13 => ?_) (fun c13 => ?_)
  · replace hf := ite_n hf c13
    refine V.aload_n dX12_isBorn_47 rfl rfl rfl ?_
    refine V.getR (r := 114) dX12_isBorn_48 fl_X12_7 rfl (Or.inl ⟨rfl, SHL_lt rfl⟩) rfl (ly_113_0 (srh11.ly ly)) ?_
    refine V.iconst (v := 3) dX12_isBorn_51 rfl ?_
    refine V.dup2 dX12_isBorn_52 rfl rfl ?_
    refine V.iaload dX12_isBorn_53 rfl (Or.inl ⟨rfl, SHL_lt rfl⟩) (vp_lit (by decide)) ?_
    rw [show Int32.toNatClampNeg 3 = 3 from rfl]
    refine V.iload_n dX12_isBorn_54 rfl rfl ?_
    refine V.ior dX12_isBorn_55 ?_
    refine V.iastore dX12_isBorn_56 rfl (Or.inl ⟨rfl, SHL_lt rfl⟩) (vp_lit (by decide)) ?_
    rw [show Int32.toNatClampNeg 3 = 3 from rfl]
    refine V.nameH (fun g14 eg14 => ?_)
    replace hf := lt_el hf g14 eg14
    have srg14 : SR h g14 := by rw [eg14]; exact srh11.I _ _ _
    refine V.aload_n dX12_isBorn_57 rfl rfl rfl ?_
    refine V.getR (r := 128) dX12_isBorn_58 fl_X12_65 rfl (Or.inl ⟨rfl, SHL_lt rfl⟩) rfl (ly_113_35 (srg14.ly ly)) ?_
    refine V.iconst (v := 3) dX12_isBorn_61 rfl ?_
    refine V.dup2 dX12_isBorn_62 rfl rfl ?_
    refine V.iaload dX12_isBorn_63 rfl (Or.inl ⟨rfl, SHL_lt rfl⟩) (vp_lit (by decide)) ?_
    rw [show Int32.toNatClampNeg 3 = 3 from rfl]
    refine V.iconst (v := 1) dX12_isBorn_64 rfl ?_
    refine V.iadd dX12_isBorn_65 ?_
    refine V.iastore dX12_isBorn_66 rfl (Or.inl ⟨rfl, SHL_lt rfl⟩) (vp_lit (by decide)) ?_
    rw [show Int32.toNatClampNeg 3 = 3 from rfl]
    refine V.nameH (fun g15 eg15 => ?_)
    replace hf := lt_el hf g15 eg15
    have srg15 : SR h g15 := by rw [eg15]; exact srg14.I _ _ _
    refine V.iconst (v := 1) dX12_isBorn_67 rfl ?_
    refine V.ireturn dX12_isBorn_68 rfl rfl ⟨rfl, rfl⟩ ly.1 ?_
    exact ret_I hf srg15
  · replace hf := ite_p hf c13
    refine V.iconst (v := 0) dX12_isBorn_45 rfl ?_
    refine V.ireturn dX12_isBorn_46 rfl rfl ⟨rfl, rfl⟩ ly.1 ?_
    exact ret_I hf srh11
set_option maxRecDepth 100000 in
theorem th_X12_does_54 {h0 : HP} (ly : Lay h0) {rr : Int32} {hh : HP}  : ∀ (n : Nat) (l2 : Int32) (l3 : Int32) (h : HP), SR h0 h → f_X12_does_54 n l2 l3 h = some (rr, hh) → V cX12_does miX12_does (ZI h0 miX12_does rr hh) 130 54 [.ref 113, .null, .int l2, .int l3] [] h := by
  intro n
  induction n with
  | zero => intro l2 l3 h srh hf; exact absurd hf (by unfold f_X12_does_54; simp)
  | succ n ih =>
    intro l2 l3 h srh hf
    unfold f_X12_does_54 at hf
    refine V.iload_n dX12_does_54 rfl rfl ?_
    refine V.iload_n dX12_does_55 rfl rfl ?_
    refine V.icmp_ge (tgt := 69) dX12_does_56 (by decide) (fun c34 => ?_) (fun c34 => ?_)
    · replace hf := ite_p hf c34
      refine V.aload_n dX12_does_69 rfl rfl rfl ?_
      refine V.getR (r := 128) dX12_does_70 fl_X12_65 rfl (Or.inl ⟨rfl, SHL_lt rfl⟩) rfl (ly_113_35 (srh.ly ly)) ?_
      refine V.iconst (v := 1) dX12_does_73 rfl ?_
      refine V.dup2 dX12_does_74 rfl rfl ?_
      refine V.iaload dX12_does_75 rfl (Or.inl ⟨rfl, SHL_lt rfl⟩) (vp_lit (by decide)) ?_
      rw [show Int32.toNatClampNeg 1 = 1 from rfl]
      refine V.iload_n dX12_does_76 rfl rfl ?_
      refine V.iadd dX12_does_77 ?_
      refine V.iastore dX12_does_78 rfl (Or.inl ⟨rfl, SHL_lt rfl⟩) (vp_lit (by decide)) ?_
      rw [show Int32.toNatClampNeg 1 = 1 from rfl]
      refine V.nameH (fun g35 eg35 => ?_)
      replace hf := lt_el hf g35 eg35
      have srg35 : SR h0 g35 := by rw [eg35]; exact srh.I _ _ _
      refine V.iconst (v := 1) dX12_does_79 rfl ?_
      refine V.ireturn dX12_does_80 rfl rfl ⟨rfl, rfl⟩ ly.1 ?_
      exact ret_I hf srg35
    · replace hf := ite_n hf c34
      refine V.aload_n dX12_does_59 rfl rfl rfl ?_
      obtain ⟨h37, q36, hf2⟩ := bd_el hf
      replace hf := hf2
      clear hf2
      refine V.callVV dX12_does_60 ml_X12_309 mo_X12_goes mv_X12_goes rfl (fun q hq => by cases hq; rfl) (by decide) (Or.inl ⟨rfl, SHL_lt rfl⟩) (th_X12_goes (srh.ly ly) q36) rfl rfl ⟨Nat.le_of_ble_eq_true rfl, Nat.le_of_ble_eq_true rfl, fun _ => ⟨rfl, rfl⟩⟩ (Nat.le_of_ble_eq_true rfl) (Or.inl rfl) (post_V (fun sq => ?_))
      have srh37 : SR h0 h37 := srh.trans sq
      clear sq q36
      obtain ⟨x38, ex38⟩ : ∃ y : Int32, y = l3 + 1 := ⟨_, rfl⟩
      replace hf := lt_el hf x38 ex38
      refine V.iinc (v := x38) (ls' := [.ref 113, .null, .int l2, .int x38]) dX12_does_63 rfl (by decide) ex38.symm rfl ?_
      refine V.goto (tgt := 54) dX12_does_66 (by decide) ?_
      exact ih l2 x38 h37 srh37 hf
set_option maxRecDepth 100000 in
theorem th_X12_does {h : HP} (ly : Lay h) {a1 : Int32} {rr : Int32} {hh : HP} (hf : f_X12_does h a1 = some (rr, hh)) : Spec yX12_does cX12_does miX12_does [.ref 113, .int a1] h (pI fun r' h' => (r' = rr ∧ h' = hh) ∧ SR h hh) := by
  refine Spec.of (ls0 := [.ref 113, .int a1, .null, .null]) mo_X12_does (Nat.le_of_ble_eq_true rfl) rfl ?_
  rw [ly.1]
  have srh : SR h h := SR.refl h
  unfold f_X12_does at hf
  refine V.aload_n dX12_does_0 rfl rfl rfl ?_
  refine V.getR (r := 114) dX12_does_1 fl_X12_7 rfl (Or.inl ⟨rfl, SHL_lt rfl⟩) rfl (ly_113_0 (srh.ly ly)) ?_
  refine V.iload_n dX12_does_4 rfl rfl ?_
  refine V.iconst (v := 1) dX12_does_5 rfl ?_
  refine V.iadd dX12_does_6 ?_
  obtain ⟨b1, hf2⟩ := gdi_el hf
  replace hf := hf2
  clear hf2
  refine V.iaload dX12_does_7 rfl (Or.inl ⟨rfl, SHL_lt rfl⟩) b1 ?_
  refine V.nmi (fun x2 ex2 => ?_)
  replace hf := lt_el hf x2 ex2
  refine V.istore_n (ls' := [.ref 113, .int a1, .int x2, .null]) dX12_does_8 rfl (by decide) rfl ?_
  refine V.aload_n dX12_does_9 rfl rfl rfl ?_
  refine V.getR (r := 114) dX12_does_10 fl_X12_7 rfl (Or.inl ⟨rfl, SHL_lt rfl⟩) rfl (ly_113_0 (srh.ly ly)) ?_
  refine V.iload_n dX12_does_13 rfl rfl ?_
  obtain ⟨b3, hf2⟩ := gdi_el hf
  replace hf := hf2
  clear hf2
  refine V.iaload dX12_does_14 rfl (Or.inl ⟨rfl, SHL_lt rfl⟩) b3 ?_
  refine V.nmi (fun x4 ex4 => ?_)
  replace hf := lt_el hf x4 ex4
  by_cases c5 : x4 = 9
  · replace hf := ite_p hf c5
    refine V.tableIn (tgt := 52) dX12_does_15 (by rw [c5]; decide) (by rw [c5]; decide) (by rw [c5]; rfl) (by decide) ?_
    refine V.iconst (v := 0) dX12_does_52 rfl ?_
    refine V.istore_n (ls' := [.ref 113, .int a1, .int x2, .int 0]) dX12_does_53 rfl (by decide) rfl ?_
    refine V.less (ls' := [.ref 113, .null, .int x2, .int 0]) ⟨Or.inr rfl, Or.inl rfl, Or.inr rfl, Or.inr rfl, trivial⟩ ?_
    exact th_X12_does_54 ly FU x2 0 h srh hf
  replace hf := ite_n hf c5
  by_cases c6 : x4 = 10
  · replace hf := ite_p hf c6
    refine V.tableIn (tgt := 81) dX12_does_15 (by rw [c6]; decide) (by rw [c6]; decide) (by rw [c6]; rfl) (by decide) ?_
    refine V.aload_n dX12_does_81 rfl rfl rfl ?_
    refine V.iload_n dX12_does_82 rfl rfl ?_
    refine V.aload_n dX12_does_83 rfl rfl rfl ?_
    refine V.getR (r := 114) dX12_does_84 fl_X12_7 rfl (Or.inl ⟨rfl, SHL_lt rfl⟩) rfl (ly_113_0 (srh.ly ly)) ?_
    refine V.iload_n dX12_does_87 rfl rfl ?_
    refine V.iconst (v := 2) dX12_does_88 rfl ?_
    refine V.iadd dX12_does_89 ?_
    obtain ⟨b7, hf2⟩ := gdi_el hf
    replace hf := hf2
    clear hf2
    refine V.iaload dX12_does_90 rfl (Or.inl ⟨rfl, SHL_lt rfl⟩) b7 ?_
    obtain ⟨r10, h9, q8, hf2⟩ := bd2_el hf
    replace hf := hf2
    clear hf2
    refine V.callVI dX12_does_91 ml_X12_290 mo_X12_wrongLamp mv_X12_wrongLamp rfl (fun q hq => by cases hq; rfl) (by decide) (Or.inl ⟨rfl, SHL_lt rfl⟩) (th_X12_wrongLamp (srh.ly ly) q8) rfl rfl ⟨Nat.le_of_ble_eq_true rfl, Nat.le_of_ble_eq_true rfl, fun _ => ⟨rfl, rfl⟩⟩ (Nat.le_of_ble_eq_true rfl) rfl (post_I (fun sq => ?_))
    have srh9 : SR h h9 := srh.trans sq
    clear sq q8
    refine V.if_le (tgt := 99) dX12_does_94 (by decide) (fun c11 => ?_) (fun c11 => ?_)
    · replace hf := ite_p hf c11
      refine V.aload_n dX12_does_99 rfl rfl rfl ?_
      refine V.getR (r := 114) dX12_does_100 fl_X12_7 rfl (Or.inl ⟨rfl, SHL_lt rfl⟩) rfl (ly_113_0 (srh9.ly ly)) ?_
      refine V.iconst (v := 3) dX12_does_103 rfl ?_
      refine V.dup2 dX12_does_104 rfl rfl ?_
      refine V.iaload dX12_does_105 rfl (Or.inl ⟨rfl, SHL_lt rfl⟩) (vp_lit (by decide)) ?_
      rw [show Int32.toNatClampNeg 3 = 3 from rfl]
      refine V.aload_n dX12_does_106 rfl rfl rfl ?_
      refine V.iload_n dX12_does_107 rfl rfl ?_
      refine V.aload_n dX12_does_108 rfl rfl rfl ?_
      refine V.getR (r := 114) dX12_does_109 fl_X12_7 rfl (Or.inl ⟨rfl, SHL_lt rfl⟩) rfl (ly_113_0 (srh9.ly ly)) ?_
      refine V.iload_n dX12_does_112 rfl rfl ?_
      refine V.iconst (v := 2) dX12_does_113 rfl ?_
      refine V.iadd dX12_does_114 ?_
      obtain ⟨b12, hf2⟩ := gdi_el hf
      replace hf := hf2
      clear hf2
      refine V.iaload dX12_does_115 rfl (Or.inl ⟨rfl, SHL_lt rfl⟩) b12 ?_
      obtain ⟨r15, h14, q13, hf2⟩ := bd2_el hf
      replace hf := hf2
      clear hf2
      refine V.callVI dX12_does_116 ml_X12_256 mo_X12_bitOf mv_X12_bitOf rfl (fun q hq => by cases hq; rfl) (by decide) (Or.inl ⟨rfl, SHL_lt rfl⟩) (th_X12_bitOf (srh9.ly ly) q13) rfl rfl ⟨Nat.le_of_ble_eq_true rfl, Nat.le_of_ble_eq_true rfl, fun _ => ⟨rfl, rfl⟩⟩ (Nat.le_of_ble_eq_true rfl) rfl (post_I (fun sq => ?_))
      have srh14 : SR h h14 := srh9.trans sq
      clear sq q13
      refine V.ixor dX12_does_119 ?_
      refine V.iastore dX12_does_120 rfl (Or.inl ⟨rfl, SHL_lt rfl⟩) (vp_lit (by decide)) ?_
      rw [show Int32.toNatClampNeg 3 = 3 from rfl]
      refine V.nameH (fun g16 eg16 => ?_)
      replace hf := lt_el hf g16 eg16
      have srg16 : SR h g16 := by rw [eg16]; exact srh14.I _ _ _
      refine V.iconst (v := 1) dX12_does_121 rfl ?_
      refine V.ireturn dX12_does_122 rfl rfl ⟨rfl, rfl⟩ ly.1 ?_
      exact ret_I hf srg16
    · replace hf := ite_n hf c11
      refine V.iconst (v := 0) dX12_does_97 rfl ?_
      refine V.ireturn dX12_does_98 rfl rfl ⟨rfl, rfl⟩ ly.1 ?_
      exact ret_I hf srh9
  replace hf := ite_n hf c6
  by_cases c17 : x4 = 11
  · replace hf := ite_p hf c17
    refine V.tableIn (tgt := 123) dX12_does_15 (by rw [c17]; decide) (by rw [c17]; decide) (by rw [c17]; rfl) (by decide) ?_
    refine V.aload_n dX12_does_123 rfl rfl rfl ?_
    refine V.getR (r := 114) dX12_does_124 fl_X12_7 rfl (Or.inl ⟨rfl, SHL_lt rfl⟩) rfl (ly_113_0 (srh.ly ly)) ?_
    refine V.bipush (v := 10) dX12_does_127 rfl ?_
    refine V.iload_n dX12_does_129 rfl rfl ?_
    refine V.iastore dX12_does_130 rfl (Or.inl ⟨rfl, SHL_lt rfl⟩) (vp_lit (by decide)) ?_
    rw [show Int32.toNatClampNeg 10 = 10 from rfl]
    refine V.nameH (fun g18 eg18 => ?_)
    replace hf := lt_el hf g18 eg18
    have srg18 : SR h g18 := by rw [eg18]; exact srh.I _ _ _
    refine V.iconst (v := 1) dX12_does_131 rfl ?_
    refine V.ireturn dX12_does_132 rfl rfl ⟨rfl, rfl⟩ ly.1 ?_
    exact ret_I hf srg18
  replace hf := ite_n hf c17
  by_cases c19 : x4 = 12
  · replace hf := ite_p hf c19
    refine V.tableIn (tgt := 133) dX12_does_15 (by rw [c19]; decide) (by rw [c19]; decide) (by rw [c19]; rfl) (by decide) ?_
    refine V.aload_n dX12_does_133 rfl rfl rfl ?_
    obtain ⟨r22, h21, q20, hf2⟩ := bd2_el hf
    replace hf := hf2
    clear hf2
    refine V.callVI dX12_does_134 ml_X12_389 mo_X12_elects mv_X12_elects rfl (fun q hq => by cases hq; rfl) (by decide) (Or.inl ⟨rfl, SHL_lt rfl⟩) (th_X12_elects (srh.ly ly) q20) rfl rfl ⟨Nat.le_of_ble_eq_true rfl, Nat.le_of_ble_eq_true rfl, fun _ => ⟨rfl, rfl⟩⟩ (Nat.le_of_ble_eq_true rfl) rfl (post_I (fun sq => ?_))
    have srh21 : SR h h21 := srh.trans sq
    clear sq q20
    obtain ⟨b23, hf2⟩ := gd_el hf
    replace hf := hf2
    clear hf2
    refine V.ireturn dX12_does_137 rfl (narB b23) ⟨rfl, rfl⟩ ly.1 ?_
    exact ret_I hf srh21
  replace hf := ite_n hf c19
  by_cases c24 : x4 = 13
  · replace hf := ite_p hf c24
    refine V.tableIn (tgt := 138) dX12_does_15 (by rw [c24]; decide) (by rw [c24]; decide) (by rw [c24]; rfl) (by decide) ?_
    refine V.aload_n dX12_does_138 rfl rfl rfl ?_
    refine V.iload_n dX12_does_139 rfl rfl ?_
    obtain ⟨r27, h26, q25, hf2⟩ := bd2_el hf
    replace hf := hf2
    clear hf2
    refine V.callVI dX12_does_140 ml_X12_406 mo_X12_storms mv_X12_storms rfl (fun q hq => by cases hq; rfl) (by decide) (Or.inl ⟨rfl, SHL_lt rfl⟩) (th_X12_storms (srh.ly ly) q25) rfl rfl ⟨Nat.le_of_ble_eq_true rfl, Nat.le_of_ble_eq_true rfl, fun _ => ⟨rfl, rfl⟩⟩ (Nat.le_of_ble_eq_true rfl) rfl (post_I (fun sq => ?_))
    have srh26 : SR h h26 := srh.trans sq
    clear sq q25
    obtain ⟨b28, hf2⟩ := gd_el hf
    replace hf := hf2
    clear hf2
    refine V.ireturn dX12_does_143 rfl (narB b28) ⟨rfl, rfl⟩ ly.1 ?_
    exact ret_I hf srh26
  replace hf := ite_n hf c24
  by_cases c29 : x4 = 14
  · replace hf := ite_p hf c29
    refine V.tableIn (tgt := 144) dX12_does_15 (by rw [c29]; decide) (by rw [c29]; decide) (by rw [c29]; rfl) (by decide) ?_
    refine V.aload_n dX12_does_144 rfl rfl rfl ?_
    obtain ⟨r32, h31, q30, hf2⟩ := bd2_el hf
    replace hf := hf2
    clear hf2
    refine V.callVI dX12_does_145 ml_X12_409 mo_X12_isBorn mv_X12_isBorn rfl (fun q hq => by cases hq; rfl) (by decide) (Or.inl ⟨rfl, SHL_lt rfl⟩) (th_X12_isBorn (srh.ly ly) q30) rfl rfl ⟨Nat.le_of_ble_eq_true rfl, Nat.le_of_ble_eq_true rfl, fun _ => ⟨rfl, rfl⟩⟩ (Nat.le_of_ble_eq_true rfl) rfl (post_I (fun sq => ?_))
    have srh31 : SR h h31 := srh.trans sq
    clear sq q30
    obtain ⟨b33, hf2⟩ := gd_el hf
    replace hf := hf2
    clear hf2
    refine V.ireturn dX12_does_148 rfl (narB b33) ⟨rfl, rfl⟩ ly.1 ?_
    exact ret_I hf srh31
  replace hf := ite_n hf c29
  have nc5 := lv_neT c5 (a := 9) rfl
  have nc6 := lv_neT c6 (a := 10) rfl
  have nc17 := lv_neT c17 (a := 11) rfl
  have nc19 := lv_neT c19 (a := 12) rfl
  have nc24 := lv_neT c24 (a := 13) rfl
  have nc29 := lv_neT c29 (a := 14) rfl
  refine V.tableOut (tgt := 149) dX12_does_15 (by omega) (by decide) ?_
  refine V.iconst (v := 1) dX12_does_149 rfl ?_
  refine V.ireturn dX12_does_150 rfl rfl ⟨rfl, rfl⟩ ly.1 ?_
  exact ret_I hf srh
set_option maxRecDepth 100000 in
theorem th_X12_holds {h : HP} (ly : Lay h) {a1 : Int32} {rr : Int32} {hh : HP} (hf : f_X12_holds h a1 = some (rr, hh)) : Spec yX12_holds cX12_holds miX12_holds [.ref 113, .int a1] h (pI fun r' h' => (r' = rr ∧ h' = hh) ∧ SR h hh) := by
  refine Spec.of (ls0 := [.ref 113, .int a1, .null, .null]) mo_X12_holds (Nat.le_of_ble_eq_true rfl) rfl ?_
  rw [ly.1]
  have srh : SR h h := SR.refl h
  unfold f_X12_holds at hf
  refine V.aload_n dX12_holds_0 rfl rfl rfl ?_
  refine V.getR (r := 114) dX12_holds_1 fl_X12_7 rfl (Or.inl ⟨rfl, SHL_lt rfl⟩) rfl (ly_113_0 (srh.ly ly)) ?_
  refine V.iload_n dX12_holds_4 rfl rfl ?_
  obtain ⟨b1, hf2⟩ := gdi_el hf
  replace hf := hf2
  clear hf2
  refine V.iaload dX12_holds_5 rfl (Or.inl ⟨rfl, SHL_lt rfl⟩) b1 ?_
  refine V.sipush (v := 1500) dX12_holds_6 rfl ?_
  refine V.isub dX12_holds_9 ?_
  refine V.nmi (fun x2 ex2 => ?_)
  replace hf := lt_el hf x2 ex2
  refine V.istore_n (ls' := [.ref 113, .int a1, .int x2, .null]) dX12_holds_10 rfl (by decide) rfl ?_
  refine V.iload_n dX12_holds_11 rfl rfl ?_
  refine V.bipush (v := 21) dX12_holds_12 rfl ?_
  refine V.icmp_ne (tgt := 22) dX12_holds_14 (by decide) (fun c3 => ?_) (fun c3 => ?_)
  · replace hf := ite_n hf c3
    refine V.iload_n dX12_holds_22 rfl rfl ?_
    refine V.bipush (v := 20) dX12_holds_23 rfl ?_
    refine V.icmp_ne (tgt := 64) dX12_holds_25 (by decide) (fun c4 => ?_) (fun c4 => ?_)
    · replace hf := ite_n hf c4
      refine V.aload_n dX12_holds_64 rfl rfl rfl ?_
      refine V.getR (r := 114) dX12_holds_65 fl_X12_7 rfl (Or.inl ⟨rfl, SHL_lt rfl⟩) rfl (ly_113_0 (srh.ly ly)) ?_
      refine V.iconst (v := 3) dX12_holds_68 rfl ?_
      refine V.iaload dX12_holds_69 rfl (Or.inl ⟨rfl, SHL_lt rfl⟩) (vp_lit (by decide)) ?_
      rw [show Int32.toNatClampNeg 3 = 3 from rfl]
      obtain ⟨r7, h6, q5, hf2⟩ := bd2_el hf
      replace hf := hf2
      clear hf2
      refine V.callSI dX12_holds_70 ml_X12_226 mo_X12_bits ms_X12_bits (th_X12_bits (srh.ly ly) q5) rfl rfl ⟨Nat.le_of_ble_eq_true rfl, Nat.le_of_ble_eq_true rfl, fun _ => ⟨rfl, rfl⟩⟩ (Nat.le_of_ble_eq_true rfl) rfl (post_I (fun sq => ?_))
      have srh6 : SR h h6 := srh.trans sq
      clear sq q5
      refine V.istore_n (ls' := [.ref 113, .int a1, .int x2, .int r7]) dX12_holds_73 rfl (by decide) rfl ?_
      refine V.aload_n dX12_holds_74 rfl rfl rfl ?_
      refine V.getR (r := 114) dX12_holds_75 fl_X12_7 rfl (Or.inl ⟨rfl, SHL_lt rfl⟩) rfl (ly_113_0 (srh6.ly ly)) ?_
      refine V.iload_n dX12_holds_78 rfl rfl ?_
      refine V.iconst (v := 5) dX12_holds_79 rfl ?_
      refine V.iadd dX12_holds_80 ?_
      obtain ⟨b8, hf2⟩ := gdi_el hf
      replace hf := hf2
      clear hf2
      refine V.iaload dX12_holds_81 rfl (Or.inl ⟨rfl, SHL_lt rfl⟩) b8 ?_
      refine V.bipush (v := 60) dX12_holds_82 rfl ?_
      refine V.icmp_ne (tgt := 107) dX12_holds_84 (by decide) (fun c9 => ?_) (fun c9 => ?_)
      · replace hf := ite_n hf c9
        refine V.aload_n dX12_holds_107 rfl rfl rfl ?_
        refine V.getR (r := 114) dX12_holds_108 fl_X12_7 rfl (Or.inl ⟨rfl, SHL_lt rfl⟩) rfl (ly_113_0 (srh6.ly ly)) ?_
        refine V.iload_n dX12_holds_111 rfl rfl ?_
        refine V.iconst (v := 5) dX12_holds_112 rfl ?_
        refine V.iadd dX12_holds_113 ?_
        obtain ⟨b10, hf2⟩ := gdi_el hf
        replace hf := hf2
        clear hf2
        refine V.iaload dX12_holds_114 rfl (Or.inl ⟨rfl, SHL_lt rfl⟩) b10 ?_
        refine V.bipush (v := 62) dX12_holds_115 rfl ?_
        refine V.icmp_ne (tgt := 140) dX12_holds_117 (by decide) (fun c11 => ?_) (fun c11 => ?_)
        · replace hf := ite_n hf c11
          refine V.iload_n dX12_holds_140 rfl rfl ?_
          refine V.aload_n dX12_holds_141 rfl rfl rfl ?_
          refine V.getR (r := 114) dX12_holds_142 fl_X12_7 rfl (Or.inl ⟨rfl, SHL_lt rfl⟩) rfl (ly_113_0 (srh6.ly ly)) ?_
          refine V.iload_n dX12_holds_145 rfl rfl ?_
          refine V.iconst (v := 1) dX12_holds_146 rfl ?_
          refine V.iadd dX12_holds_147 ?_
          obtain ⟨b12, hf2⟩ := gdi_el hf
          replace hf := hf2
          clear hf2
          refine V.iaload dX12_holds_148 rfl (Or.inl ⟨rfl, SHL_lt rfl⟩) b12 ?_
          refine V.icmp_ne (tgt := 156) dX12_holds_149 (by decide) (fun c13 => ?_) (fun c13 => ?_)
          · replace hf := ite_n hf c13
            refine V.iconst (v := 0) dX12_holds_156 rfl ?_
            refine V.ireturn dX12_holds_157 rfl rfl ⟨rfl, rfl⟩ ly.1 ?_
            exact ret_I hf srh6
          · replace hf := ite_p hf c13
            refine V.iconst (v := 1) dX12_holds_152 rfl ?_
            refine V.goto (tgt := 157) dX12_holds_153 (by decide) ?_
            refine V.ireturn dX12_holds_157 rfl rfl ⟨rfl, rfl⟩ ly.1 ?_
            exact ret_I hf srh6
        · replace hf := ite_p hf c11
          refine V.iload_n dX12_holds_120 rfl rfl ?_
          refine V.aload_n dX12_holds_121 rfl rfl rfl ?_
          refine V.getR (r := 114) dX12_holds_122 fl_X12_7 rfl (Or.inl ⟨rfl, SHL_lt rfl⟩) rfl (ly_113_0 (srh6.ly ly)) ?_
          refine V.iload_n dX12_holds_125 rfl rfl ?_
          refine V.iconst (v := 1) dX12_holds_126 rfl ?_
          refine V.iadd dX12_holds_127 ?_
          obtain ⟨b14, hf2⟩ := gdi_el hf
          replace hf := hf2
          clear hf2
          refine V.iaload dX12_holds_128 rfl (Or.inl ⟨rfl, SHL_lt rfl⟩) b14 ?_
          refine V.icmp_le (tgt := 136) dX12_holds_129 (by decide) (fun c15 => ?_) (fun c15 => ?_)
          · replace hf := ite_p hf c15
            refine V.iconst (v := 0) dX12_holds_136 rfl ?_
            refine V.goto (tgt := 157) dX12_holds_137 (by decide) ?_
            refine V.ireturn dX12_holds_157 rfl rfl ⟨rfl, rfl⟩ ly.1 ?_
            exact ret_I hf srh6
          · replace hf := ite_n hf c15
            refine V.iconst (v := 1) dX12_holds_132 rfl ?_
            refine V.goto (tgt := 157) dX12_holds_133 (by decide) ?_
            refine V.ireturn dX12_holds_157 rfl rfl ⟨rfl, rfl⟩ ly.1 ?_
            exact ret_I hf srh6
      · replace hf := ite_p hf c9
        refine V.iload_n dX12_holds_87 rfl rfl ?_
        refine V.aload_n dX12_holds_88 rfl rfl rfl ?_
        refine V.getR (r := 114) dX12_holds_89 fl_X12_7 rfl (Or.inl ⟨rfl, SHL_lt rfl⟩) rfl (ly_113_0 (srh6.ly ly)) ?_
        refine V.iload_n dX12_holds_92 rfl rfl ?_
        refine V.iconst (v := 1) dX12_holds_93 rfl ?_
        refine V.iadd dX12_holds_94 ?_
        obtain ⟨b16, hf2⟩ := gdi_el hf
        replace hf := hf2
        clear hf2
        refine V.iaload dX12_holds_95 rfl (Or.inl ⟨rfl, SHL_lt rfl⟩) b16 ?_
        refine V.icmp_ge (tgt := 103) dX12_holds_96 (by decide) (fun c17 => ?_) (fun c17 => ?_)
        · replace hf := ite_p hf c17
          refine V.iconst (v := 0) dX12_holds_103 rfl ?_
          refine V.goto (tgt := 157) dX12_holds_104 (by decide) ?_
          refine V.ireturn dX12_holds_157 rfl rfl ⟨rfl, rfl⟩ ly.1 ?_
          exact ret_I hf srh6
        · replace hf := ite_n hf c17
          refine V.iconst (v := 1) dX12_holds_99 rfl ?_
          refine V.goto (tgt := 157) dX12_holds_100 (by decide) ?_
          refine V.ireturn dX12_holds_157 rfl rfl ⟨rfl, rfl⟩ ly.1 ?_
          exact ret_I hf srh6
    · replace hf := ite_p hf c4
      refine V.aload_n dX12_holds_28 rfl rfl rfl ?_
      refine V.getR (r := 114) dX12_holds_29 fl_X12_7 rfl (Or.inl ⟨rfl, SHL_lt rfl⟩) rfl (ly_113_0 (srh.ly ly)) ?_
      refine V.iconst (v := 3) dX12_holds_32 rfl ?_
      refine V.iaload dX12_holds_33 rfl (Or.inl ⟨rfl, SHL_lt rfl⟩) (vp_lit (by decide)) ?_
      rw [show Int32.toNatClampNeg 3 = 3 from rfl]
      refine V.aload_n dX12_holds_34 rfl rfl rfl ?_
      refine V.aload_n dX12_holds_35 rfl rfl rfl ?_
      refine V.getR (r := 114) dX12_holds_36 fl_X12_7 rfl (Or.inl ⟨rfl, SHL_lt rfl⟩) rfl (ly_113_0 (srh.ly ly)) ?_
      refine V.iload_n dX12_holds_39 rfl rfl ?_
      refine V.iconst (v := 1) dX12_holds_40 rfl ?_
      refine V.iadd dX12_holds_41 ?_
      obtain ⟨b18, hf2⟩ := gdi_el hf
      replace hf := hf2
      clear hf2
      refine V.iaload dX12_holds_42 rfl (Or.inl ⟨rfl, SHL_lt rfl⟩) b18 ?_
      refine V.aload_n dX12_holds_43 rfl rfl rfl ?_
      refine V.getR (r := 114) dX12_holds_44 fl_X12_7 rfl (Or.inl ⟨rfl, SHL_lt rfl⟩) rfl (ly_113_0 (srh.ly ly)) ?_
      refine V.iload_n dX12_holds_47 rfl rfl ?_
      refine V.iconst (v := 2) dX12_holds_48 rfl ?_
      refine V.iadd dX12_holds_49 ?_
      obtain ⟨b19, hf2⟩ := gdi_el hf
      replace hf := hf2
      clear hf2
      refine V.iaload dX12_holds_50 rfl (Or.inl ⟨rfl, SHL_lt rfl⟩) b19 ?_
      obtain ⟨r22, h21, q20, hf2⟩ := bd2_el hf
      replace hf := hf2
      clear hf2
      refine V.callVI dX12_holds_51 ml_X12_256 mo_X12_bitOf mv_X12_bitOf rfl (fun q hq => by cases hq; rfl) (by decide) (Or.inl ⟨rfl, SHL_lt rfl⟩) (th_X12_bitOf (srh.ly ly) q20) rfl rfl ⟨Nat.le_of_ble_eq_true rfl, Nat.le_of_ble_eq_true rfl, fun _ => ⟨rfl, rfl⟩⟩ (Nat.le_of_ble_eq_true rfl) rfl (post_I (fun sq => ?_))
      have srh21 : SR h h21 := srh.trans sq
      clear sq q20
      refine V.iand dX12_holds_54 ?_
      refine V.if_eq (tgt := 62) dX12_holds_55 (by decide) (fun c23 => ?_) (fun c23 => ?_)
      · replace hf := ite_p hf c23
        refine V.iconst (v := 0) dX12_holds_62 rfl ?_
        refine V.ireturn dX12_holds_63 rfl rfl ⟨rfl, rfl⟩ ly.1 ?_
        exact ret_I hf srh21
      · replace hf := ite_n hf c23
        refine V.iconst (v := 1) dX12_holds_58 rfl ?_
        refine V.goto (tgt := 63) dX12_holds_59 (by decide) ?_
        refine V.ireturn dX12_holds_63 rfl rfl ⟨rfl, rfl⟩ ly.1 ?_
        exact ret_I hf srh21
  · replace hf := ite_p hf c3
    refine V.aload_n dX12_holds_17 rfl rfl rfl ?_
    obtain ⟨r26, h25, q24, hf2⟩ := bd2_el hf
    replace hf := hf2
    clear hf2
    refine V.callVI dX12_holds_18 ml_X12_330 mo_X12_isStill mv_X12_isStill rfl (fun q hq => by cases hq; rfl) (by decide) (Or.inl ⟨rfl, SHL_lt rfl⟩) (th_X12_isStill (srh.ly ly) q24) rfl rfl ⟨Nat.le_of_ble_eq_true rfl, Nat.le_of_ble_eq_true rfl, fun _ => ⟨rfl, rfl⟩⟩ (Nat.le_of_ble_eq_true rfl) rfl (post_I (fun sq => ?_))
    have srh25 : SR h h25 := srh.trans sq
    clear sq q24
    obtain ⟨b27, hf2⟩ := gd_el hf
    replace hf := hf2
    clear hf2
    refine V.ireturn dX12_holds_21 rfl (narB b27) ⟨rfl, rfl⟩ ly.1 ?_
    exact ret_I hf srh25
set_option maxRecDepth 100000 in
theorem th_X12_behindEnds_95 {h0 : HP} (ly : Lay h0) {rr : Int32} {hh : HP} {K2 : Int32 → HP → Option (Int32 × HP)} (kok2 : ∀ (l2 : Int32) (g : HP), SR h0 g → K2 l2 g = some (rr, hh) → V cX12_behindEnds miX12_behindEnds (ZI h0 miX12_behindEnds rr hh) 130 2 [.ref 113, .null, .int l2, .null, .null] [] g) : ∀ (l2 : Int32) (l3 : Int32) (l4 : Int32) (s1 : Int32) (s2 : Int32) (s3 : Int32) (h : HP), SR h0 h → f_X12_behindEnds_95 K2 l2 l3 l4 s1 s2 s3 h = some (rr, hh) → V cX12_behindEnds miX12_behindEnds (ZI h0 miX12_behindEnds rr hh) 130 95 [.ref 113, .null, .int l2, .int l3, .int l4] [.int s3, .int s2, .int s1, .ref 127] h := by
  intro l2 l3 l4 s1 s2 s3 h srh hf
  unfold f_X12_behindEnds_95 at hf
  refine V.isub dX12_behindEnds_95 ?_
  obtain ⟨b12, hf2⟩ := gdi_el hf
  replace hf := hf2
  clear hf2
  refine V.iastore dX12_behindEnds_96 rfl (Or.inl ⟨rfl, SHL_lt rfl⟩) b12 ?_
  refine V.nameH (fun g13 eg13 => ?_)
  replace hf := lt_el hf g13 eg13
  have srg13 : SR h0 g13 := by rw [eg13]; exact srh.I _ _ _
  refine V.iload dX12_behindEnds_97 rfl ?_
  refine V.if_eq (tgt := 108) dX12_behindEnds_99 (by decide) (fun c14 => ?_) (fun c14 => ?_)
  · replace hf := ite_p hf c14
    refine V.iload_n dX12_behindEnds_108 rfl rfl ?_
    refine V.iconst (v := 1) dX12_behindEnds_109 rfl ?_
    refine V.iadd dX12_behindEnds_110 ?_
    refine V.nmi (fun x15 ex15 => ?_)
    replace hf := lt_el hf x15 ex15
    refine V.istore_n (ls' := [.ref 113, .null, .int x15, .int l3, .int l4]) dX12_behindEnds_111 rfl (by decide) rfl ?_
    refine V.goto (tgt := 2) dX12_behindEnds_112 (by decide) ?_
    refine V.less (ls' := [.ref 113, .null, .int x15, .null, .null]) ⟨Or.inr rfl, Or.inl rfl, Or.inr rfl, Or.inl rfl, Or.inl rfl, trivial⟩ ?_
    exact kok2 x15 g13 srg13 hf
  · replace hf := ite_n hf c14
    refine V.iload_n dX12_behindEnds_102 rfl rfl ?_
    refine V.iconst (v := 1) dX12_behindEnds_103 rfl ?_
    refine V.iadd dX12_behindEnds_104 ?_
    refine V.goto (tgt := 111) dX12_behindEnds_105 (by decide) ?_
    refine V.nmi (fun x16 ex16 => ?_)
    replace hf := lt_el hf x16 ex16
    refine V.istore_n (ls' := [.ref 113, .null, .int x16, .int l3, .int l4]) dX12_behindEnds_111 rfl (by decide) rfl ?_
    refine V.goto (tgt := 2) dX12_behindEnds_112 (by decide) ?_
    refine V.less (ls' := [.ref 113, .null, .int x16, .null, .null]) ⟨Or.inr rfl, Or.inl rfl, Or.inr rfl, Or.inl rfl, Or.inl rfl, trivial⟩ ?_
    exact kok2 x16 g13 srg13 hf
set_option maxRecDepth 100000 in
theorem th_X12_behindEnds_76 {h0 : HP} (ly : Lay h0) {rr : Int32} {hh : HP} {K2 : Int32 → HP → Option (Int32 × HP)} (kok2 : ∀ (l2 : Int32) (g : HP), SR h0 g → K2 l2 g = some (rr, hh) → V cX12_behindEnds miX12_behindEnds (ZI h0 miX12_behindEnds rr hh) 130 2 [.ref 113, .null, .int l2, .null, .null] [] g) : ∀ (l2 : Int32) (l3 : Int32) (s0 : Int32) (h : HP), SR h0 h → f_X12_behindEnds_76 K2 l2 l3 s0 h = some (rr, hh) → V cX12_behindEnds miX12_behindEnds (ZI h0 miX12_behindEnds rr hh) 130 76 [.ref 113, .null, .int l2, .int l3, .null] [.int s0] h := by
  intro l2 l3 s0 h srh hf
  unfold f_X12_behindEnds_76 at hf
  refine V.istore (ls' := [.ref 113, .null, .int l2, .int l3, .int s0]) dX12_behindEnds_76 (by decide) rfl ?_
  refine V.aload_n dX12_behindEnds_78 rfl rfl rfl ?_
  refine V.getR (r := 127) dX12_behindEnds_79 fl_X12_62 rfl (Or.inl ⟨rfl, SHL_lt rfl⟩) rfl (ly_113_34 (srh.ly ly)) ?_
  refine V.iload_n dX12_behindEnds_82 rfl rfl ?_
  refine V.dup2 dX12_behindEnds_83 rfl rfl ?_
  obtain ⟨b10, hf2⟩ := gdi_el hf
  replace hf := hf2
  clear hf2
  refine V.iaload dX12_behindEnds_84 rfl (Or.inl ⟨rfl, SHL_lt rfl⟩) b10 ?_
  refine V.iload dX12_behindEnds_85 rfl ?_
  refine V.if_eq (tgt := 94) dX12_behindEnds_87 (by decide) (fun c11 => ?_) (fun c11 => ?_)
  · replace hf := ite_p hf c11
    refine V.iconst (v := 0) dX12_behindEnds_94 rfl ?_
    exact th_X12_behindEnds_95 ly kok2 l2 l3 s0 l3 (hI h 127 (Int32.toNatClampNeg l3)) 0 h srh hf
  · replace hf := ite_n hf c11
    refine V.iconst (v := 1) dX12_behindEnds_90 rfl ?_
    refine V.goto (tgt := 95) dX12_behindEnds_91 (by decide) ?_
    exact th_X12_behindEnds_95 ly kok2 l2 l3 s0 l3 (hI h 127 (Int32.toNatClampNeg l3)) 1 h srh hf
set_option maxRecDepth 100000 in
theorem th_X12_behindEnds_2 {h0 : HP} (ly : Lay h0) {rr : Int32} {hh : HP}  : ∀ (n : Nat) (l2 : Int32) (h : HP), SR h0 h → f_X12_behindEnds_2 n l2 h = some (rr, hh) → V cX12_behindEnds miX12_behindEnds (ZI h0 miX12_behindEnds rr hh) 130 2 [.ref 113, .null, .int l2, .null, .null] [] h := by
  intro n
  induction n with
  | zero => intro l2 h srh hf; exact absurd hf (by unfold f_X12_behindEnds_2; simp)
  | succ n ih =>
    intro l2 h srh hf
    unfold f_X12_behindEnds_2 at hf
    refine V.iload_n dX12_behindEnds_2 rfl rfl ?_
    refine V.aload_n dX12_behindEnds_3 rfl rfl rfl ?_
    refine V.getR (r := 114) dX12_behindEnds_4 fl_X12_7 rfl (Or.inl ⟨rfl, SHL_lt rfl⟩) rfl (ly_113_0 (srh.ly ly)) ?_
    refine V.bipush (v := 11) dX12_behindEnds_7 rfl ?_
    refine V.iaload dX12_behindEnds_9 rfl (Or.inl ⟨rfl, SHL_lt rfl⟩) (vp_lit (by decide)) ?_
    rw [show Int32.toNatClampNeg 11 = 11 from rfl]
    refine V.icmp_ge (tgt := 115) dX12_behindEnds_10 (by decide) (fun c1 => ?_) (fun c1 => ?_)
    · replace hf := ite_p hf c1
      refine V.iload_n dX12_behindEnds_115 rfl rfl ?_
      refine V.ireturn dX12_behindEnds_116 rfl rfl ⟨rfl, rfl⟩ ly.1 ?_
      exact ret_I hf srh
    · replace hf := ite_n hf c1
      refine V.aload_n dX12_behindEnds_13 rfl rfl rfl ?_
      refine V.getR (r := 114) dX12_behindEnds_14 fl_X12_7 rfl (Or.inl ⟨rfl, SHL_lt rfl⟩) rfl (ly_113_0 (srh.ly ly)) ?_
      refine V.bipush (v := 44) dX12_behindEnds_17 rfl ?_
      refine V.bipush (v := 6) dX12_behindEnds_19 rfl ?_
      refine V.iload_n dX12_behindEnds_21 rfl rfl ?_
      refine V.imul dX12_behindEnds_22 ?_
      refine V.iadd dX12_behindEnds_23 ?_
      obtain ⟨b2, hf2⟩ := gdi_el hf
      replace hf := hf2
      clear hf2
      refine V.iaload dX12_behindEnds_24 rfl (Or.inl ⟨rfl, SHL_lt rfl⟩) b2 ?_
      refine V.bipush (v := 17) dX12_behindEnds_25 rfl ?_
      refine V.icmp_ne (tgt := 115) dX12_behindEnds_27 (by decide) (fun c3 => ?_) (fun c3 => ?_)
      · replace hf := ite_n hf c3
        refine V.iload_n dX12_behindEnds_115 rfl rfl ?_
        refine V.ireturn dX12_behindEnds_116 rfl rfl ⟨rfl, rfl⟩ ly.1 ?_
        exact ret_I hf srh
      · replace hf := ite_p hf c3
        refine V.aload_n dX12_behindEnds_30 rfl rfl rfl ?_
        refine V.getR (r := 114) dX12_behindEnds_31 fl_X12_7 rfl (Or.inl ⟨rfl, SHL_lt rfl⟩) rfl (ly_113_0 (srh.ly ly)) ?_
        refine V.bipush (v := 44) dX12_behindEnds_34 rfl ?_
        refine V.bipush (v := 6) dX12_behindEnds_36 rfl ?_
        refine V.iload_n dX12_behindEnds_38 rfl rfl ?_
        refine V.imul dX12_behindEnds_39 ?_
        refine V.iadd dX12_behindEnds_40 ?_
        refine V.iconst (v := 4) dX12_behindEnds_41 rfl ?_
        refine V.iadd dX12_behindEnds_42 ?_
        obtain ⟨b4, hf2⟩ := gdi_el hf
        replace hf := hf2
        clear hf2
        refine V.iaload dX12_behindEnds_43 rfl (Or.inl ⟨rfl, SHL_lt rfl⟩) b4 ?_
        refine V.nmi (fun x5 ex5 => ?_)
        replace hf := lt_el hf x5 ex5
        refine V.istore_n (ls' := [.ref 113, .null, .int l2, .int x5, .null]) dX12_behindEnds_44 rfl (by decide) rfl ?_
        refine V.aload_n dX12_behindEnds_45 rfl rfl rfl ?_
        refine V.getR (r := 114) dX12_behindEnds_46 fl_X12_7 rfl (Or.inl ⟨rfl, SHL_lt rfl⟩) rfl (ly_113_0 (srh.ly ly)) ?_
        refine V.bipush (v := 44) dX12_behindEnds_49 rfl ?_
        refine V.bipush (v := 6) dX12_behindEnds_51 rfl ?_
        refine V.iload_n dX12_behindEnds_53 rfl rfl ?_
        refine V.imul dX12_behindEnds_54 ?_
        refine V.iadd dX12_behindEnds_55 ?_
        obtain ⟨b6, hf2⟩ := gdi_el hf
        replace hf := hf2
        clear hf2
        refine V.iaload dX12_behindEnds_56 rfl (Or.inl ⟨rfl, SHL_lt rfl⟩) b6 ?_
        refine V.bipush (v := 16) dX12_behindEnds_57 rfl ?_
        refine V.icmp_ne (tgt := 75) dX12_behindEnds_59 (by decide) (fun c7 => ?_) (fun c7 => ?_)
        · replace hf := ite_n hf c7
          refine V.iconst (v := 0) dX12_behindEnds_75 rfl ?_
          exact th_X12_behindEnds_76 ly ih l2 x5 0 h srh hf
        · replace hf := ite_p hf c7
          refine V.aload_n dX12_behindEnds_62 rfl rfl rfl ?_
          refine V.getR (r := 127) dX12_behindEnds_63 fl_X12_62 rfl (Or.inl ⟨rfl, SHL_lt rfl⟩) rfl (ly_113_34 (srh.ly ly)) ?_
          refine V.iload_n dX12_behindEnds_66 rfl rfl ?_
          obtain ⟨b8, hf2⟩ := gdi_el hf
          replace hf := hf2
          clear hf2
          refine V.iaload dX12_behindEnds_67 rfl (Or.inl ⟨rfl, SHL_lt rfl⟩) b8 ?_
          refine V.if_le (tgt := 75) dX12_behindEnds_68 (by decide) (fun c9 => ?_) (fun c9 => ?_)
          · replace hf := ite_p hf c9
            refine V.iconst (v := 0) dX12_behindEnds_75 rfl ?_
            exact th_X12_behindEnds_76 ly ih l2 x5 0 h srh hf
          · replace hf := ite_n hf c9
            refine V.iconst (v := 1) dX12_behindEnds_71 rfl ?_
            refine V.goto (tgt := 76) dX12_behindEnds_72 (by decide) ?_
            exact th_X12_behindEnds_76 ly ih l2 x5 1 h srh hf
set_option maxRecDepth 100000 in
theorem th_X12_behindEnds {h : HP} (ly : Lay h) {a1 : Int32} {rr : Int32} {hh : HP} (hf : f_X12_behindEnds h a1 = some (rr, hh)) : Spec yX12_behindEnds cX12_behindEnds miX12_behindEnds [.ref 113, .int a1] h (pI fun r' h' => (r' = rr ∧ h' = hh) ∧ SR h hh) := by
  refine Spec.of (ls0 := [.ref 113, .int a1, .null, .null, .null]) mo_X12_behindEnds (Nat.le_of_ble_eq_true rfl) rfl ?_
  rw [ly.1]
  have srh : SR h h := SR.refl h
  unfold f_X12_behindEnds at hf
  refine V.iload_n dX12_behindEnds_0 rfl rfl ?_
  refine V.istore_n (ls' := [.ref 113, .int a1, .int a1, .null, .null]) dX12_behindEnds_1 rfl (by decide) rfl ?_
  refine V.less (ls' := [.ref 113, .null, .int a1, .null, .null]) ⟨Or.inr rfl, Or.inl rfl, Or.inr rfl, Or.inl rfl, Or.inl rfl, trivial⟩ ?_
  exact th_X12_behindEnds_2 ly FU a1 h srh hf
set_option maxRecDepth 100000 in
theorem th_X12_lives_140 {h0 : HP} (ly : Lay h0) {hh : HP} {K32 : Int32 → HP → Option HP} (kok32 : ∀ (l2 : Int32) (g : HP), SR h0 g → K32 l2 g = some hh → V cX12_lives miX12_lives (ZV h0 miX12_lives hh) 130 32 [.ref 113, .null, .int l2, .null] [] g) : ∀ (l2 : Int32) (l3 : Int32) (h : HP), SR h0 h → f_X12_lives_140 K32 l2 l3 h = some hh → V cX12_lives miX12_lives (ZV h0 miX12_lives hh) 130 140 [.ref 113, .null, .int l2, .int l3] [] h := by
  intro l2 l3 h srh hf
  unfold f_X12_lives_140 at hf
  refine V.aload_n dX12_lives_140 rfl rfl rfl ?_
  refine V.aload_n dX12_lives_141 rfl rfl rfl ?_
  refine V.getR (r := 114) dX12_lives_142 fl_X12_7 rfl (Or.inl ⟨rfl, SHL_lt rfl⟩) rfl (ly_113_0 (srh.ly ly)) ?_
  refine V.iload_n dX12_lives_145 rfl rfl ?_
  obtain ⟨b25, hf2⟩ := gdi_el hf
  replace hf := hf2
  clear hf2
  refine V.iaload dX12_lives_146 rfl (Or.inl ⟨rfl, SHL_lt rfl⟩) b25 ?_
  refine V.sipush (v := 1500) dX12_lives_147 rfl ?_
  refine V.icmp_lt (tgt := 174) dX12_lives_150 (by decide) (fun c26 => ?_) (fun c26 => ?_)
  · replace hf := ite_p hf c26
    refine V.iload_n dX12_lives_174 rfl rfl ?_
    refine V.iconst (v := 1) dX12_lives_175 rfl ?_
    refine V.iadd dX12_lives_176 ?_
    obtain ⟨r29, h28, q27, hf2⟩ := bd2_el hf
    replace hf := hf2
    clear hf2
    refine V.callVI dX12_lives_177 ml_X12_421 mo_X12_behindEnds mv_X12_behindEnds rfl (fun q hq => by cases hq; rfl) (by decide) (Or.inl ⟨rfl, SHL_lt rfl⟩) (th_X12_behindEnds (srh.ly ly) q27) rfl rfl ⟨Nat.le_of_ble_eq_true rfl, Nat.le_of_ble_eq_true rfl, fun _ => ⟨rfl, rfl⟩⟩ (Nat.le_of_ble_eq_true rfl) rfl (post_I (fun sq => ?_))
    have srh28 : SR h0 h28 := srh.trans sq
    clear sq q27
    refine V.istore_n (ls' := [.ref 113, .null, .int r29, .int l3]) dX12_lives_180 rfl (by decide) rfl ?_
    refine V.goto (tgt := 32) dX12_lives_181 (by decide) ?_
    refine V.less (ls' := [.ref 113, .null, .int r29, .null]) ⟨Or.inr rfl, Or.inl rfl, Or.inr rfl, Or.inl rfl, trivial⟩ ?_
    exact kok32 r29 h28 srh28 hf
  · replace hf := ite_n hf c26
    refine V.aload_n dX12_lives_153 rfl rfl rfl ?_
    refine V.iload_n dX12_lives_154 rfl rfl ?_
    obtain ⟨r32, h31, q30, hf2⟩ := bd2_el hf
    replace hf := hf2
    clear hf2
    refine V.callVI dX12_lives_155 ml_X12_418 mo_X12_holds mv_X12_holds rfl (fun q hq => by cases hq; rfl) (by decide) (Or.inl ⟨rfl, SHL_lt rfl⟩) (th_X12_holds (srh.ly ly) q30) rfl rfl ⟨Nat.le_of_ble_eq_true rfl, Nat.le_of_ble_eq_true rfl, fun _ => ⟨rfl, rfl⟩⟩ (Nat.le_of_ble_eq_true rfl) rfl (post_I (fun sq => ?_))
    have srh31 : SR h0 h31 := srh.trans sq
    clear sq q30
    refine V.if_ne (tgt := 174) dX12_lives_158 (by decide) (fun c33 => ?_) (fun c33 => ?_)
    · replace hf := ite_n hf c33
      refine V.iload_n dX12_lives_174 rfl rfl ?_
      refine V.iconst (v := 1) dX12_lives_175 rfl ?_
      refine V.iadd dX12_lives_176 ?_
      obtain ⟨r36, h35, q34, hf2⟩ := bd2_el hf
      replace hf := hf2
      clear hf2
      refine V.callVI dX12_lives_177 ml_X12_421 mo_X12_behindEnds mv_X12_behindEnds rfl (fun q hq => by cases hq; rfl) (by decide) (Or.inl ⟨rfl, SHL_lt rfl⟩) (th_X12_behindEnds (srh31.ly ly) q34) rfl rfl ⟨Nat.le_of_ble_eq_true rfl, Nat.le_of_ble_eq_true rfl, fun _ => ⟨rfl, rfl⟩⟩ (Nat.le_of_ble_eq_true rfl) rfl (post_I (fun sq => ?_))
      have srh35 : SR h0 h35 := srh31.trans sq
      clear sq q34
      refine V.istore_n (ls' := [.ref 113, .null, .int r36, .int l3]) dX12_lives_180 rfl (by decide) rfl ?_
      refine V.goto (tgt := 32) dX12_lives_181 (by decide) ?_
      refine V.less (ls' := [.ref 113, .null, .int r36, .null]) ⟨Or.inr rfl, Or.inl rfl, Or.inr rfl, Or.inl rfl, trivial⟩ ?_
      exact kok32 r36 h35 srh35 hf
    · replace hf := ite_p hf c33
      refine V.aload_n dX12_lives_161 rfl rfl rfl ?_
      refine V.getR (r := 114) dX12_lives_162 fl_X12_7 rfl (Or.inl ⟨rfl, SHL_lt rfl⟩) rfl (ly_113_0 (srh31.ly ly)) ?_
      refine V.iload_n dX12_lives_165 rfl rfl ?_
      refine V.iconst (v := 4) dX12_lives_166 rfl ?_
      refine V.iadd dX12_lives_167 ?_
      obtain ⟨b37, hf2⟩ := gdi_el hf
      replace hf := hf2
      clear hf2
      refine V.iaload dX12_lives_168 rfl (Or.inl ⟨rfl, SHL_lt rfl⟩) b37 ?_
      refine V.iconst (v := 1) dX12_lives_169 rfl ?_
      refine V.iadd dX12_lives_170 ?_
      refine V.goto (tgt := 177) dX12_lives_171 (by decide) ?_
      obtain ⟨r40, h39, q38, hf2⟩ := bd2_el hf
      replace hf := hf2
      clear hf2
      refine V.callVI dX12_lives_177 ml_X12_421 mo_X12_behindEnds mv_X12_behindEnds rfl (fun q hq => by cases hq; rfl) (by decide) (Or.inl ⟨rfl, SHL_lt rfl⟩) (th_X12_behindEnds (srh31.ly ly) q38) rfl rfl ⟨Nat.le_of_ble_eq_true rfl, Nat.le_of_ble_eq_true rfl, fun _ => ⟨rfl, rfl⟩⟩ (Nat.le_of_ble_eq_true rfl) rfl (post_I (fun sq => ?_))
      have srh39 : SR h0 h39 := srh31.trans sq
      clear sq q38
      refine V.istore_n (ls' := [.ref 113, .null, .int r40, .int l3]) dX12_lives_180 rfl (by decide) rfl ?_
      refine V.goto (tgt := 32) dX12_lives_181 (by decide) ?_
      refine V.less (ls' := [.ref 113, .null, .int r40, .null]) ⟨Or.inr rfl, Or.inl rfl, Or.inr rfl, Or.inl rfl, trivial⟩ ?_
      exact kok32 r40 h39 srh39 hf
set_option maxRecDepth 100000 in
theorem th_X12_lives_111 {h0 : HP} (ly : Lay h0) {hh : HP} {K32 : Int32 → HP → Option HP} (kok32 : ∀ (l2 : Int32) (g : HP), SR h0 g → K32 l2 g = some hh → V cX12_lives miX12_lives (ZV h0 miX12_lives hh) 130 32 [.ref 113, .null, .int l2, .null] [] g) : ∀ (l2 : Int32) (l3 : Int32) (s1 : Int32) (s2 : Int32) (s3 : Int32) (h : HP), SR h0 h → f_X12_lives_111 K32 l2 l3 s1 s2 s3 h = some hh → V cX12_lives miX12_lives (ZV h0 miX12_lives hh) 130 111 [.ref 113, .null, .int l2, .int l3] [.int s3, .int s2, .int s1, .ref 128] h := by
  intro l2 l3 s1 s2 s3 h srh hf
  unfold f_X12_lives_111 at hf
  refine V.iadd dX12_lives_111 ?_
  obtain ⟨b18, hf2⟩ := gdi_el hf
  replace hf := hf2
  clear hf2
  refine V.iastore dX12_lives_112 rfl (Or.inl ⟨rfl, SHL_lt rfl⟩) b18 ?_
  refine V.nameH (fun g19 eg19 => ?_)
  replace hf := lt_el hf g19 eg19
  have srg19 : SR h0 g19 := by rw [eg19]; exact srh.I _ _ _
  refine V.aload_n dX12_lives_113 rfl rfl rfl ?_
  refine V.getR (r := 114) dX12_lives_114 fl_X12_7 rfl (Or.inl ⟨rfl, SHL_lt rfl⟩) rfl (ly_113_0 (srg19.ly ly)) ?_
  refine V.iload_n dX12_lives_117 rfl rfl ?_
  obtain ⟨b20, hf2⟩ := gdi_el hf
  replace hf := hf2
  clear hf2
  refine V.iaload dX12_lives_118 rfl (Or.inl ⟨rfl, SHL_lt rfl⟩) b20 ?_
  refine V.bipush (v := 16) dX12_lives_119 rfl ?_
  refine V.icmp_ne (tgt := 140) dX12_lives_121 (by decide) (fun c21 => ?_) (fun c21 => ?_)
  · replace hf := ite_n hf c21
    exact th_X12_lives_140 ly kok32 l2 l3 g19 srg19 hf
  · replace hf := ite_p hf c21
    refine V.aload_n dX12_lives_124 rfl rfl rfl ?_
    refine V.getR (r := 127) dX12_lives_125 fl_X12_62 rfl (Or.inl ⟨rfl, SHL_lt rfl⟩) rfl (ly_113_34 (srg19.ly ly)) ?_
    refine V.iload_n dX12_lives_128 rfl rfl ?_
    refine V.aload_n dX12_lives_129 rfl rfl rfl ?_
    refine V.getR (r := 114) dX12_lives_130 fl_X12_7 rfl (Or.inl ⟨rfl, SHL_lt rfl⟩) rfl (ly_113_0 (srg19.ly ly)) ?_
    refine V.iload_n dX12_lives_133 rfl rfl ?_
    refine V.iconst (v := 1) dX12_lives_134 rfl ?_
    refine V.iadd dX12_lives_135 ?_
    obtain ⟨b22, hf2⟩ := gdi_el hf
    replace hf := hf2
    clear hf2
    refine V.iaload dX12_lives_136 rfl (Or.inl ⟨rfl, SHL_lt rfl⟩) b22 ?_
    refine V.iconst (v := 1) dX12_lives_137 rfl ?_
    refine V.isub dX12_lives_138 ?_
    obtain ⟨b23, hf2⟩ := gdi_el hf
    replace hf := hf2
    clear hf2
    refine V.iastore dX12_lives_139 rfl (Or.inl ⟨rfl, SHL_lt rfl⟩) b23 ?_
    refine V.nameH (fun g24 eg24 => ?_)
    replace hf := lt_el hf g24 eg24
    have srg24 : SR h0 g24 := by rw [eg24]; exact srg19.I _ _ _
    exact th_X12_lives_140 ly kok32 l2 l3 g24 srg24 hf
set_option maxRecDepth 100000 in
theorem th_X12_lives_32 {h0 : HP} (ly : Lay h0) {hh : HP}  : ∀ (n : Nat) (l2 : Int32) (h : HP), SR h0 h → f_X12_lives_32 n l2 h = some hh → V cX12_lives miX12_lives (ZV h0 miX12_lives hh) 130 32 [.ref 113, .null, .int l2, .null] [] h := by
  intro n
  induction n with
  | zero => intro l2 h srh hf; exact absurd hf (by unfold f_X12_lives_32; simp)
  | succ n ih =>
    intro l2 h srh hf
    unfold f_X12_lives_32 at hf
    refine V.iload_n dX12_lives_32 rfl rfl ?_
    refine V.aload_n dX12_lives_33 rfl rfl rfl ?_
    refine V.getR (r := 114) dX12_lives_34 fl_X12_7 rfl (Or.inl ⟨rfl, SHL_lt rfl⟩) rfl (ly_113_0 (srh.ly ly)) ?_
    refine V.bipush (v := 11) dX12_lives_37 rfl ?_
    refine V.iaload dX12_lives_39 rfl (Or.inl ⟨rfl, SHL_lt rfl⟩) (vp_lit (by decide)) ?_
    rw [show Int32.toNatClampNeg 11 = 11 from rfl]
    refine V.icmp_ge (tgt := 184) dX12_lives_40 (by decide) (fun c7 => ?_) (fun c7 => ?_)
    · replace hf := ite_p hf c7
      refine V.vreturn' dX12_lives_184 rfl ly.1 (Or.inl ⟨rfl, rfl⟩) ?_
      exact ret_V hf srh
    · replace hf := ite_n hf c7
      refine V.aload_n dX12_lives_43 rfl rfl rfl ?_
      refine V.getI dX12_lives_44 fl_X12_412 rfl (Or.inl ⟨rfl, SHL_lt rfl⟩) rfl rfl ?_
      refine V.sipush (v := 300) dX12_lives_47 rfl ?_
      refine V.icmp_ne (tgt := 61) dX12_lives_50 (by decide) (fun c8 => ?_) (fun c8 => ?_)
      · replace hf := ite_n hf c8
        refine V.bipush (v := 44) dX12_lives_61 rfl ?_
        refine V.bipush (v := 6) dX12_lives_63 rfl ?_
        refine V.iload_n dX12_lives_65 rfl rfl ?_
        refine V.imul dX12_lives_66 ?_
        refine V.iadd dX12_lives_67 ?_
        refine V.nmi (fun x9 ex9 => ?_)
        replace hf := lt_el hf x9 ex9
        refine V.istore_n (ls' := [.ref 113, .null, .int l2, .int x9]) dX12_lives_68 rfl (by decide) rfl ?_
        refine V.aload_n dX12_lives_69 rfl rfl rfl ?_
        refine V.dup dX12_lives_70 rfl ?_
        refine V.getI dX12_lives_71 fl_X12_412 rfl (Or.inl ⟨rfl, SHL_lt rfl⟩) rfl rfl ?_
        refine V.iconst (v := 1) dX12_lives_74 rfl ?_
        refine V.iadd dX12_lives_75 ?_
        refine V.putI dX12_lives_76 fl_X12_412 rfl (Or.inl ⟨rfl, SHL_lt rfl⟩) rfl (fun q hq => by cases hq; rfl) ⟨rfl, rfl⟩ ?_
        refine V.nameH (fun g10 eg10 => ?_)
        replace hf := lt_el hf g10 eg10
        have srg10 : SR h0 g10 := by rw [eg10]; exact srh.I _ _ _
        refine V.aload_n dX12_lives_79 rfl rfl rfl ?_
        refine V.getR (r := 114) dX12_lives_80 fl_X12_7 rfl (Or.inl ⟨rfl, SHL_lt rfl⟩) rfl (ly_113_0 (srg10.ly ly)) ?_
        refine V.iload_n dX12_lives_83 rfl rfl ?_
        obtain ⟨b11, hf2⟩ := gdi_el hf
        replace hf := hf2
        clear hf2
        refine V.iaload dX12_lives_84 rfl (Or.inl ⟨rfl, SHL_lt rfl⟩) b11 ?_
        refine V.bipush (v := 18) dX12_lives_85 rfl ?_
        refine V.icmp_ne (tgt := 91) dX12_lives_87 (by decide) (fun c12 => ?_) (fun c12 => ?_)
        · replace hf := ite_n hf c12
          refine V.aload_n dX12_lives_91 rfl rfl rfl ?_
          refine V.getR (r := 128) dX12_lives_92 fl_X12_65 rfl (Or.inl ⟨rfl, SHL_lt rfl⟩) rfl (ly_113_35 (srg10.ly ly)) ?_
          refine V.iconst (v := 0) dX12_lives_95 rfl ?_
          refine V.dup2 dX12_lives_96 rfl rfl ?_
          refine V.iaload dX12_lives_97 rfl (Or.inl ⟨rfl, SHL_lt rfl⟩) (vp_lit (by decide)) ?_
          rw [show Int32.toNatClampNeg 0 = 0 from rfl]
          refine V.aload_n dX12_lives_98 rfl rfl rfl ?_
          refine V.iload_n dX12_lives_99 rfl rfl ?_
          obtain ⟨r15, h14, q13, hf2⟩ := bd2_el hf
          replace hf := hf2
          clear hf2
          refine V.callVI dX12_lives_100 ml_X12_415 mo_X12_does mv_X12_does rfl (fun q hq => by cases hq; rfl) (by decide) (Or.inl ⟨rfl, SHL_lt rfl⟩) (th_X12_does (srg10.ly ly) q13) rfl rfl ⟨Nat.le_of_ble_eq_true rfl, Nat.le_of_ble_eq_true rfl, fun _ => ⟨rfl, rfl⟩⟩ (Nat.le_of_ble_eq_true rfl) rfl (post_I (fun sq => ?_))
          have srh14 : SR h0 h14 := srg10.trans sq
          clear sq q13
          refine V.if_eq (tgt := 110) dX12_lives_103 (by decide) (fun c16 => ?_) (fun c16 => ?_)
          · replace hf := ite_p hf c16
            refine V.iconst (v := 1) dX12_lives_110 rfl ?_
            exact th_X12_lives_111 ly ih l2 x9 0 (hI g10 128 0) 1 h14 srh14 hf
          · replace hf := ite_n hf c16
            refine V.iconst (v := 0) dX12_lives_106 rfl ?_
            refine V.goto (tgt := 111) dX12_lives_107 (by decide) ?_
            exact th_X12_lives_111 ly ih l2 x9 0 (hI g10 128 0) 0 h14 srh14 hf
        · replace hf := ite_p hf c12
          refine V.vreturn' dX12_lives_90 rfl ly.1 (Or.inl ⟨rfl, rfl⟩) ?_
          exact ret_V hf srg10
      · replace hf := ite_p hf c8
        refine V.aload_n dX12_lives_53 rfl rfl rfl ?_
        refine V.getR (r := 128) dX12_lives_54 fl_X12_65 rfl (Or.inl ⟨rfl, SHL_lt rfl⟩) rfl (ly_113_35 (srh.ly ly)) ?_
        refine V.iconst (v := 4) dX12_lives_57 rfl ?_
        refine V.iconst (v := 1) dX12_lives_58 rfl ?_
        refine V.iastore dX12_lives_59 rfl (Or.inl ⟨rfl, SHL_lt rfl⟩) (vp_lit (by decide)) ?_
        rw [show Int32.toNatClampNeg 4 = 4 from rfl]
        refine V.nameH (fun g17 eg17 => ?_)
        replace hf := lt_el hf g17 eg17
        have srg17 : SR h0 g17 := by rw [eg17]; exact srh.I _ _ _
        refine V.vreturn' dX12_lives_60 rfl ly.1 (Or.inl ⟨rfl, rfl⟩) ?_
        exact ret_V hf srg17
set_option maxRecDepth 100000 in
theorem th_X12_lives_12 {h0 : HP} (ly : Lay h0) {hh : HP}  : ∀ (n : Nat) (l2 : Int32) (h : HP), SR h0 h → f_X12_lives_12 n l2 h = some hh → V cX12_lives miX12_lives (ZV h0 miX12_lives hh) 130 12 [.ref 113, .null, .int l2, .null] [] h := by
  intro n
  induction n with
  | zero => intro l2 h srh hf; exact absurd hf (by unfold f_X12_lives_12; simp)
  | succ n ih =>
    intro l2 h srh hf
    unfold f_X12_lives_12 at hf
    refine V.iload_n dX12_lives_12 rfl rfl ?_
    refine V.iconst (v := 5) dX12_lives_13 rfl ?_
    refine V.icmp_ge (tgt := 30) dX12_lives_14 (by decide) (fun c3 => ?_) (fun c3 => ?_)
    · replace hf := ite_p hf c3
      refine V.iconst (v := 0) dX12_lives_30 rfl ?_
      refine V.istore_n (ls' := [.ref 113, .null, .int 0, .null]) dX12_lives_31 rfl (by decide) rfl ?_
      exact th_X12_lives_32 ly FU 0 h srh hf
    · replace hf := ite_n hf c3
      refine V.aload_n dX12_lives_17 rfl rfl rfl ?_
      refine V.getR (r := 128) dX12_lives_18 fl_X12_65 rfl (Or.inl ⟨rfl, SHL_lt rfl⟩) rfl (ly_113_35 (srh.ly ly)) ?_
      refine V.iload_n dX12_lives_21 rfl rfl ?_
      refine V.iconst (v := 0) dX12_lives_22 rfl ?_
      obtain ⟨b4, hf2⟩ := gdi_el hf
      replace hf := hf2
      clear hf2
      refine V.iastore dX12_lives_23 rfl (Or.inl ⟨rfl, SHL_lt rfl⟩) b4 ?_
      refine V.nameH (fun g5 eg5 => ?_)
      replace hf := lt_el hf g5 eg5
      have srg5 : SR h0 g5 := by rw [eg5]; exact srh.I _ _ _
      obtain ⟨x6, ex6⟩ : ∃ y : Int32, y = l2 + 1 := ⟨_, rfl⟩
      replace hf := lt_el hf x6 ex6
      refine V.iinc (v := x6) (ls' := [.ref 113, .null, .int x6, .null]) dX12_lives_24 rfl (by decide) ex6.symm rfl ?_
      refine V.goto (tgt := 12) dX12_lives_27 (by decide) ?_
      exact ih x6 g5 srg5 hf
set_option maxRecDepth 100000 in
theorem th_X12_lives {h : HP} (ly : Lay h) {a1 : Int32} {hh : HP} (hf : f_X12_lives h a1 = some hh) : Spec yX12_lives cX12_lives miX12_lives [.ref 113, .int a1] h (pV fun h' => h' = hh ∧ SR h hh) := by
  refine Spec.of (ls0 := [.ref 113, .int a1, .null, .null]) mo_X12_lives (Nat.le_of_ble_eq_true rfl) rfl ?_
  rw [ly.1]
  have srh : SR h h := SR.refl h
  unfold f_X12_lives at hf
  refine V.aload_n dX12_lives_0 rfl rfl rfl ?_
  refine V.iload_n dX12_lives_1 rfl rfl ?_
  refine V.putI dX12_lives_2 fl_X12_399 rfl (Or.inl ⟨rfl, SHL_lt rfl⟩) rfl (fun q hq => by cases hq; rfl) ⟨rfl, rfl⟩ ?_
  refine V.nameH (fun g1 eg1 => ?_)
  replace hf := lt_el hf g1 eg1
  have srg1 : SR h g1 := by rw [eg1]; exact srh.I _ _ _
  refine V.aload_n dX12_lives_5 rfl rfl rfl ?_
  refine V.iconst (v := 0) dX12_lives_6 rfl ?_
  refine V.putI dX12_lives_7 fl_X12_412 rfl (Or.inl ⟨rfl, SHL_lt rfl⟩) rfl (fun q hq => by cases hq; rfl) ⟨rfl, rfl⟩ ?_
  refine V.nameH (fun g2 eg2 => ?_)
  replace hf := lt_el hf g2 eg2
  have srg2 : SR h g2 := by rw [eg2]; exact srg1.I _ _ _
  refine V.iconst (v := 0) dX12_lives_10 rfl ?_
  refine V.istore_n (ls' := [.ref 113, .int a1, .int 0, .null]) dX12_lives_11 rfl (by decide) rfl ?_
  refine V.less (ls' := [.ref 113, .null, .int 0, .null]) ⟨Or.inr rfl, Or.inl rfl, Or.inr rfl, Or.inl rfl, trivial⟩ ?_
  exact th_X12_lives_12 ly FU 0 g2 srg2 hf
set_option maxRecDepth 100000 in
theorem th_X12_live_43 {h0 : HP} (ly : Lay h0) {rr : Int32} {hh : HP}  : ∀ (n : Nat) (l2 : Int32) (h : HP), SR h0 h → f_X12_live_43 n l2 h = some (rr, hh) → V cX12_live miX12_live (ZI h0 miX12_live rr hh) 130 43 [.ref 113, .null, .int l2] [] h := by
  intro n
  induction n with
  | zero => intro l2 h srh hf; exact absurd hf (by unfold f_X12_live_43; simp)
  | succ n ih =>
    intro l2 h srh hf
    unfold f_X12_live_43 at hf
    refine V.iload_n dX12_live_43 rfl rfl ?_
    refine V.iconst (v := 5) dX12_live_44 rfl ?_
    refine V.icmp_ge (tgt := 66) dX12_live_45 (by decide) (fun c14 => ?_) (fun c14 => ?_)
    · replace hf := ite_p hf c14
      refine V.aload_n dX12_live_66 rfl rfl rfl ?_
      refine V.iconst (v := 1) dX12_live_67 rfl ?_
      refine V.putI dX12_live_68 fl_X12_427 rfl (Or.inl ⟨rfl, SHL_lt rfl⟩) rfl (fun q hq => by cases hq; rfl) ⟨rfl, rfl⟩ ?_
      refine V.nameH (fun g15 eg15 => ?_)
      replace hf := lt_el hf g15 eg15
      have srg15 : SR h0 g15 := by rw [eg15]; exact srh.I _ _ _
      refine V.aload_n dX12_live_71 rfl rfl rfl ?_
      refine V.aload_n dX12_live_72 rfl rfl rfl ?_
      refine V.getI dX12_live_73 fl_X12_412 rfl (Or.inl ⟨rfl, SHL_lt rfl⟩) rfl rfl ?_
      obtain ⟨r18, h17, q16, hf2⟩ := bd2_el hf
      replace hf := hf2
      clear hf2
      refine V.callVI dX12_live_76 ml_X12_85 mo_X12_gives mv_X12_gives rfl (fun q hq => by cases hq; rfl) (by decide) (Or.inl ⟨rfl, SHL_lt rfl⟩) (th_X12_gives (srg15.ly ly) q16) rfl rfl ⟨Nat.le_of_ble_eq_true rfl, Nat.le_of_ble_eq_true rfl, fun _ => ⟨rfl, rfl⟩⟩ (Nat.le_of_ble_eq_true rfl) rfl (post_I (fun sq => ?_))
      have srh17 : SR h0 h17 := srg15.trans sq
      clear sq q16
      refine V.ireturn dX12_live_79 rfl rfl ⟨rfl, rfl⟩ ly.1 ?_
      exact ret_I hf srh17
    · replace hf := ite_n hf c14
      refine V.aload_n dX12_live_48 rfl rfl rfl ?_
      refine V.getR (r := 129) dX12_live_49 fl_X12_68 rfl (Or.inl ⟨rfl, SHL_lt rfl⟩) rfl (ly_113_36 (srh.ly ly)) ?_
      refine V.iload_n dX12_live_52 rfl rfl ?_
      refine V.aload_n dX12_live_53 rfl rfl rfl ?_
      refine V.getR (r := 128) dX12_live_54 fl_X12_65 rfl (Or.inl ⟨rfl, SHL_lt rfl⟩) rfl (ly_113_35 (srh.ly ly)) ?_
      refine V.iload_n dX12_live_57 rfl rfl ?_
      obtain ⟨b19, hf2⟩ := gdi_el hf
      replace hf := hf2
      clear hf2
      refine V.iaload dX12_live_58 rfl (Or.inl ⟨rfl, SHL_lt rfl⟩) b19 ?_
      obtain ⟨b20, hf2⟩ := gdi_el hf
      replace hf := hf2
      clear hf2
      refine V.iastore dX12_live_59 rfl (Or.inl ⟨rfl, SHL_lt rfl⟩) b20 ?_
      refine V.nameH (fun g21 eg21 => ?_)
      replace hf := lt_el hf g21 eg21
      have srg21 : SR h0 g21 := by rw [eg21]; exact srh.I _ _ _
      obtain ⟨x22, ex22⟩ : ∃ y : Int32, y = l2 + 1 := ⟨_, rfl⟩
      replace hf := lt_el hf x22 ex22
      refine V.iinc (v := x22) (ls' := [.ref 113, .null, .int x22]) dX12_live_60 rfl (by decide) ex22.symm rfl ?_
      refine V.goto (tgt := 43) dX12_live_63 (by decide) ?_
      exact ih x22 g21 srg21 hf
set_option maxRecDepth 100000 in
theorem th_X12_live {h : HP} (ly : Lay h) {a1 : Int32} {rr : Int32} {hh : HP} (hf : f_X12_live h a1 = some (rr, hh)) : Spec yX12_live cX12_live miX12_live [.ref 113, .int a1] h (pI fun r' h' => (r' = rr ∧ h' = hh) ∧ SR h hh) := by
  refine Spec.of (ls0 := [.ref 113, .int a1, .null]) mo_X12_live (Nat.le_of_ble_eq_true rfl) rfl ?_
  rw [ly.1]
  have srh : SR h h := SR.refl h
  unfold f_X12_live at hf
  refine V.iload_n dX12_live_0 rfl rfl ?_
  refine V.i2l dX12_live_1 ?_
  refine V.lconst (v := 0) dX12_live_2 rfl ?_
  refine V.ldc2 (v := 9999) dX12_live_3 kc_X12_333 ?_
  obtain ⟨r3, h2, q1, hf2⟩ := bd2_el hf
  replace hf := hf2
  clear hf2
  refine V.callSI dX12_live_6 ml_X12_295 mo_X12_isFrom ms_X12_isFrom (th_X12_isFrom (srh.ly ly) q1) rfl rfl ⟨Nat.le_of_ble_eq_true rfl, Nat.le_of_ble_eq_true rfl, fun _ => ⟨rfl, rfl⟩⟩ (Nat.le_of_ble_eq_true rfl) rfl (post_I (fun sq => ?_))
  have srh2 : SR h h2 := srh.trans sq
  clear sq q1
  refine V.if_ne (tgt := 18) dX12_live_9 (by decide) (fun c4 => ?_) (fun c4 => ?_)
  · replace hf := ite_n hf c4
    refine V.aload_n dX12_live_18 rfl rfl rfl ?_
    refine V.getR (r := 114) dX12_live_19 fl_X12_7 rfl (Or.inl ⟨rfl, SHL_lt rfl⟩) rfl (ly_113_0 (srh2.ly ly)) ?_
    refine V.bipush (v := 11) dX12_live_22 rfl ?_
    refine V.iaload dX12_live_24 rfl (Or.inl ⟨rfl, SHL_lt rfl⟩) (vp_lit (by decide)) ?_
    rw [show Int32.toNatClampNeg 11 = 11 from rfl]
    refine V.iconst (v := (-1)) dX12_live_25 rfl ?_
    refine V.icmp_ne (tgt := 36) dX12_live_26 (by decide) (fun c5 => ?_) (fun c5 => ?_)
    · replace hf := ite_n hf c5
      refine V.aload_n dX12_live_36 rfl rfl rfl ?_
      refine V.iload_n dX12_live_37 rfl rfl ?_
      obtain ⟨h7, q6, hf2⟩ := bd_el hf
      replace hf := hf2
      clear hf2
      refine V.callVV dX12_live_38 ml_X12_424 mo_X12_lives mv_X12_lives rfl (fun q hq => by cases hq; rfl) (by decide) (Or.inl ⟨rfl, SHL_lt rfl⟩) (th_X12_lives (srh2.ly ly) q6) rfl rfl ⟨Nat.le_of_ble_eq_true rfl, Nat.le_of_ble_eq_true rfl, fun _ => ⟨rfl, rfl⟩⟩ (Nat.le_of_ble_eq_true rfl) (Or.inl rfl) (post_V (fun sq => ?_))
      have srh7 : SR h h7 := srh2.trans sq
      clear sq q6
      refine V.iconst (v := 0) dX12_live_41 rfl ?_
      refine V.istore_n (ls' := [.ref 113, .int a1, .int 0]) dX12_live_42 rfl (by decide) rfl ?_
      refine V.less (ls' := [.ref 113, .null, .int 0]) ⟨Or.inr rfl, Or.inl rfl, Or.inr rfl, trivial⟩ ?_
      exact th_X12_live_43 ly FU 0 h7 srh7 hf
    · replace hf := ite_p hf c5
      refine V.aload_n dX12_live_29 rfl rfl rfl ?_
      refine V.bipush (v := 6) dX12_live_30 rfl ?_
      obtain ⟨r10, h9, q8, hf2⟩ := bd2_el hf
      replace hf := hf2
      clear hf2
      refine V.callVI dX12_live_32 ml_X12_81 mo_X12_refuse mv_X12_refuse rfl (fun q hq => by cases hq; rfl) (by decide) (Or.inl ⟨rfl, SHL_lt rfl⟩) (th_X12_refuse (srh2.ly ly) q8) rfl rfl ⟨Nat.le_of_ble_eq_true rfl, Nat.le_of_ble_eq_true rfl, fun _ => ⟨rfl, rfl⟩⟩ (Nat.le_of_ble_eq_true rfl) rfl (post_I (fun sq => ?_))
      have srh9 : SR h h9 := srh2.trans sq
      clear sq q8
      refine V.ireturn dX12_live_35 rfl rfl ⟨rfl, rfl⟩ ly.1 ?_
      exact ret_I hf srh9
  · replace hf := ite_p hf c4
    refine V.aload_n dX12_live_12 rfl rfl rfl ?_
    refine V.iconst (v := 1) dX12_live_13 rfl ?_
    obtain ⟨r13, h12, q11, hf2⟩ := bd2_el hf
    replace hf := hf2
    clear hf2
    refine V.callVI dX12_live_14 ml_X12_81 mo_X12_refuse mv_X12_refuse rfl (fun q hq => by cases hq; rfl) (by decide) (Or.inl ⟨rfl, SHL_lt rfl⟩) (th_X12_refuse (srh2.ly ly) q11) rfl rfl ⟨Nat.le_of_ble_eq_true rfl, Nat.le_of_ble_eq_true rfl, fun _ => ⟨rfl, rfl⟩⟩ (Nat.le_of_ble_eq_true rfl) rfl (post_I (fun sq => ?_))
    have srh12 : SR h h12 := srh2.trans sq
    clear sq q11
    refine V.ireturn dX12_live_17 rfl rfl ⟨rfl, rfl⟩ ly.1 ?_
    exact ret_I hf srh12
set_option maxRecDepth 100000 in
theorem th_X12_lived {h : HP} (ly : Lay h) {a1 : Int32} {rr : Int32} {hh : HP} (hf : f_X12_lived h a1 = some (rr, hh)) : Spec yX12_lived cX12_lived miX12_lived [.ref 113, .int a1] h (pI fun r' h' => (r' = rr ∧ h' = hh) ∧ SR h hh) := by
  refine Spec.of (ls0 := [.ref 113, .int a1]) mo_X12_lived (Nat.le_of_ble_eq_true rfl) rfl ?_
  rw [ly.1]
  have srh : SR h h := SR.refl h
  unfold f_X12_lived at hf
  refine V.iload_n dX12_lived_0 rfl rfl ?_
  refine V.if_lt (tgt := 9) dX12_lived_1 (by decide) (fun c1 => ?_) (fun c1 => ?_)
  · replace hf := ite_p hf c1
    refine V.aload_n dX12_lived_9 rfl rfl rfl ?_
    refine V.iconst (v := 1) dX12_lived_10 rfl ?_
    obtain ⟨r4, h3, q2, hf2⟩ := bd2_el hf
    replace hf := hf2
    clear hf2
    refine V.callVI dX12_lived_11 ml_X12_81 mo_X12_refuse mv_X12_refuse rfl (fun q hq => by cases hq; rfl) (by decide) (Or.inl ⟨rfl, SHL_lt rfl⟩) (th_X12_refuse (srh.ly ly) q2) rfl rfl ⟨Nat.le_of_ble_eq_true rfl, Nat.le_of_ble_eq_true rfl, fun _ => ⟨rfl, rfl⟩⟩ (Nat.le_of_ble_eq_true rfl) rfl (post_I (fun sq => ?_))
    have srh3 : SR h h3 := srh.trans sq
    clear sq q2
    refine V.goto (tgt := 43) dX12_lived_14 (by decide) ?_
    refine V.ireturn dX12_lived_43 rfl rfl ⟨rfl, rfl⟩ ly.1 ?_
    exact ret_I hf srh3
  · replace hf := ite_n hf c1
    refine V.iload_n dX12_lived_4 rfl rfl ?_
    refine V.iconst (v := 4) dX12_lived_5 rfl ?_
    refine V.icmp_le (tgt := 17) dX12_lived_6 (by decide) (fun c5 => ?_) (fun c5 => ?_)
    · replace hf := ite_p hf c5
      refine V.aload_n dX12_lived_17 rfl rfl rfl ?_
      refine V.getI dX12_lived_18 fl_X12_427 rfl (Or.inl ⟨rfl, SHL_lt rfl⟩) rfl rfl ?_
      refine V.if_eq (tgt := 37) dX12_lived_21 (by decide) (fun c6 => ?_) (fun c6 => ?_)
      · replace hf := ite_p hf c6
        refine V.aload_n dX12_lived_37 rfl rfl rfl ?_
        refine V.bipush (v := 6) dX12_lived_38 rfl ?_
        obtain ⟨r9, h8, q7, hf2⟩ := bd2_el hf
        replace hf := hf2
        clear hf2
        refine V.callVI dX12_lived_40 ml_X12_81 mo_X12_refuse mv_X12_refuse rfl (fun q hq => by cases hq; rfl) (by decide) (Or.inl ⟨rfl, SHL_lt rfl⟩) (th_X12_refuse (srh.ly ly) q7) rfl rfl ⟨Nat.le_of_ble_eq_true rfl, Nat.le_of_ble_eq_true rfl, fun _ => ⟨rfl, rfl⟩⟩ (Nat.le_of_ble_eq_true rfl) rfl (post_I (fun sq => ?_))
        have srh8 : SR h h8 := srh.trans sq
        clear sq q7
        refine V.ireturn dX12_lived_43 rfl rfl ⟨rfl, rfl⟩ ly.1 ?_
        exact ret_I hf srh8
      · replace hf := ite_n hf c6
        refine V.aload_n dX12_lived_24 rfl rfl rfl ?_
        refine V.aload_n dX12_lived_25 rfl rfl rfl ?_
        refine V.getR (r := 129) dX12_lived_26 fl_X12_68 rfl (Or.inl ⟨rfl, SHL_lt rfl⟩) rfl (ly_113_36 (srh.ly ly)) ?_
        refine V.iload_n dX12_lived_29 rfl rfl ?_
        obtain ⟨b10, hf2⟩ := gdi_el hf
        replace hf := hf2
        clear hf2
        refine V.iaload dX12_lived_30 rfl (Or.inl ⟨rfl, SHL_lt rfl⟩) b10 ?_
        obtain ⟨r13, h12, q11, hf2⟩ := bd2_el hf
        replace hf := hf2
        clear hf2
        refine V.callVI dX12_lived_31 ml_X12_85 mo_X12_gives mv_X12_gives rfl (fun q hq => by cases hq; rfl) (by decide) (Or.inl ⟨rfl, SHL_lt rfl⟩) (th_X12_gives (srh.ly ly) q11) rfl rfl ⟨Nat.le_of_ble_eq_true rfl, Nat.le_of_ble_eq_true rfl, fun _ => ⟨rfl, rfl⟩⟩ (Nat.le_of_ble_eq_true rfl) rfl (post_I (fun sq => ?_))
        have srh12 : SR h h12 := srh.trans sq
        clear sq q11
        refine V.goto (tgt := 43) dX12_lived_34 (by decide) ?_
        refine V.ireturn dX12_lived_43 rfl rfl ⟨rfl, rfl⟩ ly.1 ?_
        exact ret_I hf srh12
    · replace hf := ite_n hf c5
      refine V.aload_n dX12_lived_9 rfl rfl rfl ?_
      refine V.iconst (v := 1) dX12_lived_10 rfl ?_
      obtain ⟨r16, h15, q14, hf2⟩ := bd2_el hf
      replace hf := hf2
      clear hf2
      refine V.callVI dX12_lived_11 ml_X12_81 mo_X12_refuse mv_X12_refuse rfl (fun q hq => by cases hq; rfl) (by decide) (Or.inl ⟨rfl, SHL_lt rfl⟩) (th_X12_refuse (srh.ly ly) q14) rfl rfl ⟨Nat.le_of_ble_eq_true rfl, Nat.le_of_ble_eq_true rfl, fun _ => ⟨rfl, rfl⟩⟩ (Nat.le_of_ble_eq_true rfl) rfl (post_I (fun sq => ?_))
      have srh15 : SR h h15 := srh.trans sq
      clear sq q14
      refine V.goto (tgt := 43) dX12_lived_14 (by decide) ?_
      refine V.ireturn dX12_lived_43 rfl rfl ⟨rfl, rfl⟩ ly.1 ?_
      exact ret_I hf srh15
set_option maxRecDepth 100000 in
theorem th_X12_mean_124 {h0 : HP} (ly : Lay h0) {rr : Int32} {hh : HP} {K94 : Int32 → Int32 → Int64 → Int32 → HP → Option (Int32 × HP)} (kok94 : ∀ (l1 : Int32) (l2 : Int32) (l3 : Int64) (l5 : Int32) (g : HP), SR h0 g → K94 l1 l2 l3 l5 g = some (rr, hh) → V cX12_mean miX12_mean (ZI h0 miX12_mean rr hh) 130 94 [.ref 113, .int l1, .int l2, .long l3, .null, .int l5, .null] [] g) : ∀ (n : Nat) (l1 : Int32) (l2 : Int32) (l3 : Int64) (l5 : Int32) (l6 : Int32) (h : HP), SR h0 h → f_X12_mean_124 K94 n l1 l2 l3 l5 l6 h = some (rr, hh) → V cX12_mean miX12_mean (ZI h0 miX12_mean rr hh) 130 124 [.ref 113, .int l1, .int l2, .long l3, .null, .int l5, .int l6] [] h := by
  intro n
  induction n with
  | zero => intro l1 l2 l3 l5 l6 h srh hf; exact absurd hf (by unfold f_X12_mean_124; simp)
  | succ n ih =>
    intro l1 l2 l3 l5 l6 h srh hf
    unfold f_X12_mean_124 at hf
    refine V.iload dX12_mean_124 rfl ?_
    refine V.bipush (v := 44) dX12_mean_126 rfl ?_
    refine V.icmp_ge (tgt := 155) dX12_mean_128 (by decide) (fun c43 => ?_) (fun c43 => ?_)
    · replace hf := ite_p hf c43
      obtain ⟨x44, ex44⟩ : ∃ y : Int32, y = l5 + 1 := ⟨_, rfl⟩
      replace hf := lt_el hf x44 ex44
      refine V.iinc (v := x44) (ls' := [.ref 113, .int l1, .int l2, .long l3, .null, .int x44, .int l6]) dX12_mean_155 rfl (by decide) ex44.symm rfl ?_
      refine V.goto (tgt := 94) dX12_mean_158 (by decide) ?_
      refine V.less (ls' := [.ref 113, .int l1, .int l2, .long l3, .null, .int x44, .null]) ⟨Or.inr rfl, Or.inr rfl, Or.inr rfl, Or.inr rfl, Or.inl rfl, Or.inr rfl, Or.inl rfl, trivial⟩ ?_
      exact kok94 l1 l2 l3 x44 h srh hf
    · replace hf := ite_n hf c43
      refine V.aload_n dX12_mean_131 rfl rfl rfl ?_
      refine V.getR (r := 114) dX12_mean_132 fl_X12_7 rfl (Or.inl ⟨rfl, SHL_lt rfl⟩) rfl (ly_113_0 (srh.ly ly)) ?_
      refine V.iload dX12_mean_135 rfl ?_
      refine V.aload_n dX12_mean_137 rfl rfl rfl ?_
      refine V.getR (r := 114) dX12_mean_138 fl_X12_7 rfl (Or.inl ⟨rfl, SHL_lt rfl⟩) rfl (ly_113_0 (srh.ly ly)) ?_
      refine V.sipush (v := 2050) dX12_mean_141 rfl ?_
      refine V.iload dX12_mean_144 rfl ?_
      refine V.iadd dX12_mean_146 ?_
      obtain ⟨b45, hf2⟩ := gdi_el hf
      replace hf := hf2
      clear hf2
      refine V.iaload dX12_mean_147 rfl (Or.inl ⟨rfl, SHL_lt rfl⟩) b45 ?_
      obtain ⟨b46, hf2⟩ := gdi_el hf
      replace hf := hf2
      clear hf2
      refine V.iastore dX12_mean_148 rfl (Or.inl ⟨rfl, SHL_lt rfl⟩) b46 ?_
      refine V.nameH (fun g47 eg47 => ?_)
      replace hf := lt_el hf g47 eg47
      have srg47 : SR h0 g47 := by rw [eg47]; exact srh.I _ _ _
      obtain ⟨x48, ex48⟩ : ∃ y : Int32, y = l6 + 1 := ⟨_, rfl⟩
      replace hf := lt_el hf x48 ex48
      refine V.iinc (v := x48) (ls' := [.ref 113, .int l1, .int l2, .long l3, .null, .int l5, .int x48]) dX12_mean_149 rfl (by decide) ex48.symm rfl ?_
      refine V.goto (tgt := 124) dX12_mean_152 (by decide) ?_
      exact ih l1 l2 l3 l5 x48 g47 srg47 hf
set_option maxRecDepth 100000 in
theorem th_X12_mean_94 {h0 : HP} (ly : Lay h0) {rr : Int32} {hh : HP}  : ∀ (n : Nat) (l1 : Int32) (l2 : Int32) (l3 : Int64) (l5 : Int32) (h : HP), SR h0 h → f_X12_mean_94 n l1 l2 l3 l5 h = some (rr, hh) → V cX12_mean miX12_mean (ZI h0 miX12_mean rr hh) 130 94 [.ref 113, .int l1, .int l2, .long l3, .null, .int l5, .null] [] h := by
  intro n
  induction n with
  | zero => intro l1 l2 l3 l5 h srh hf; exact absurd hf (by unfold f_X12_mean_94; simp)
  | succ n ih =>
    intro l1 l2 l3 l5 h srh hf
    unfold f_X12_mean_94 at hf
    refine V.iload dX12_mean_94 rfl ?_
    refine V.iload_n dX12_mean_96 rfl rfl ?_
    refine V.icmp_ge (tgt := 161) dX12_mean_97 (by decide) (fun c32 => ?_) (fun c32 => ?_)
    · replace hf := ite_p hf c32
      refine V.aload_n dX12_mean_161 rfl rfl rfl ?_
      refine V.lload_n dX12_mean_162 rfl rfl ?_
      refine V.iload_n dX12_mean_163 rfl rfl ?_
      refine V.i2l dX12_mean_164 ?_
      obtain ⟨r35, h34, q33, hf2⟩ := bd2_el hf
      replace hf := hf2
      clear hf2
      refine V.callVI dX12_mean_165 ml_X12_395 mo_X12_tellsBy mv_X12_tellsBy rfl (fun q hq => by cases hq; rfl) (by decide) (Or.inl ⟨rfl, SHL_lt rfl⟩) (th_X12_tellsBy (srh.ly ly) q33) rfl rfl ⟨Nat.le_of_ble_eq_true rfl, Nat.le_of_ble_eq_true rfl, fun _ => ⟨rfl, rfl⟩⟩ (Nat.le_of_ble_eq_true rfl) rfl (post_I (fun sq => ?_))
      have srh34 : SR h0 h34 := srh.trans sq
      clear sq q33
      obtain ⟨b36, hf2⟩ := gd_el hf
      replace hf := hf2
      clear hf2
      refine V.ireturn dX12_mean_168 rfl (narB b36) ⟨rfl, rfl⟩ ly.1 ?_
      exact ret_I hf srh34
    · replace hf := ite_n hf c32
      refine V.aload_n dX12_mean_100 rfl rfl rfl ?_
      refine V.iload_n dX12_mean_101 rfl rfl ?_
      refine V.iload dX12_mean_102 rfl ?_
      refine V.iadd dX12_mean_104 ?_
      obtain ⟨h38, q37, hf2⟩ := bd_el hf
      replace hf := hf2
      clear hf2
      refine V.callVV dX12_mean_105 ml_X12_424 mo_X12_lives mv_X12_lives rfl (fun q hq => by cases hq; rfl) (by decide) (Or.inl ⟨rfl, SHL_lt rfl⟩) (th_X12_lives (srh.ly ly) q37) rfl rfl ⟨Nat.le_of_ble_eq_true rfl, Nat.le_of_ble_eq_true rfl, fun _ => ⟨rfl, rfl⟩⟩ (Nat.le_of_ble_eq_true rfl) (Or.inl rfl) (post_V (fun sq => ?_))
      have srh38 : SR h0 h38 := srh.trans sq
      clear sq q37
      refine V.lload_n dX12_mean_108 rfl rfl ?_
      refine V.aload_n dX12_mean_109 rfl rfl rfl ?_
      refine V.getR (r := 114) dX12_mean_110 fl_X12_7 rfl (Or.inl ⟨rfl, SHL_lt rfl⟩) rfl (ly_113_0 (srh38.ly ly)) ?_
      refine V.iconst (v := 3) dX12_mean_113 rfl ?_
      refine V.iaload dX12_mean_114 rfl (Or.inl ⟨rfl, SHL_lt rfl⟩) (vp_lit (by decide)) ?_
      rw [show Int32.toNatClampNeg 3 = 3 from rfl]
      obtain ⟨r41, h40, q39, hf2⟩ := bd2_el hf
      replace hf := hf2
      clear hf2
      refine V.callSI dX12_mean_115 ml_X12_226 mo_X12_bits ms_X12_bits (th_X12_bits (srh38.ly ly) q39) rfl rfl ⟨Nat.le_of_ble_eq_true rfl, Nat.le_of_ble_eq_true rfl, fun _ => ⟨rfl, rfl⟩⟩ (Nat.le_of_ble_eq_true rfl) rfl (post_I (fun sq => ?_))
      have srh40 : SR h0 h40 := srh38.trans sq
      clear sq q39
      refine V.i2l dX12_mean_118 ?_
      refine V.ladd dX12_mean_119 ?_
      refine V.nml (fun x42 ex42 => ?_)
      replace hf := lt_el hf x42 ex42
      refine V.lstore_n (ls' := [.ref 113, .int l1, .int l2, .long x42, .null, .int l5, .null]) dX12_mean_120 rfl (by decide) rfl ?_
      refine V.iconst (v := 0) dX12_mean_121 rfl ?_
      refine V.istore (ls' := [.ref 113, .int l1, .int l2, .long x42, .null, .int l5, .int 0]) dX12_mean_122 (by decide) rfl ?_
      exact th_X12_mean_124 ly ih FU l1 l2 x42 l5 0 h40 srh40 hf
set_option maxRecDepth 100000 in
theorem th_X12_mean_61 {h0 : HP} (ly : Lay h0) {rr : Int32} {hh : HP}  : ∀ (n : Nat) (l1 : Int32) (l2 : Int32) (l3 : Int32) (h : HP), SR h0 h → f_X12_mean_61 n l1 l2 l3 h = some (rr, hh) → V cX12_mean miX12_mean (ZI h0 miX12_mean rr hh) 130 61 [.ref 113, .int l1, .int l2, .int l3, .null, .null, .null] [] h := by
  intro n
  induction n with
  | zero => intro l1 l2 l3 h srh hf; exact absurd hf (by unfold f_X12_mean_61; simp)
  | succ n ih =>
    intro l1 l2 l3 h srh hf
    unfold f_X12_mean_61 at hf
    refine V.iload_n dX12_mean_61 rfl rfl ?_
    refine V.bipush (v := 44) dX12_mean_62 rfl ?_
    refine V.icmp_ge (tgt := 89) dX12_mean_64 (by decide) (fun c27 => ?_) (fun c27 => ?_)
    · replace hf := ite_p hf c27
      refine V.lconst (v := 0) dX12_mean_89 rfl ?_
      refine V.lstore_n (ls' := [.ref 113, .int l1, .int l2, .long 0, .null, .null, .null]) dX12_mean_90 rfl (by decide) rfl ?_
      refine V.iconst (v := 0) dX12_mean_91 rfl ?_
      refine V.istore (ls' := [.ref 113, .int l1, .int l2, .long 0, .null, .int 0, .null]) dX12_mean_92 (by decide) rfl ?_
      exact th_X12_mean_94 ly FU l1 l2 0 0 h srh hf
    · replace hf := ite_n hf c27
      refine V.aload_n dX12_mean_67 rfl rfl rfl ?_
      refine V.getR (r := 114) dX12_mean_68 fl_X12_7 rfl (Or.inl ⟨rfl, SHL_lt rfl⟩) rfl (ly_113_0 (srh.ly ly)) ?_
      refine V.sipush (v := 2050) dX12_mean_71 rfl ?_
      refine V.iload_n dX12_mean_74 rfl rfl ?_
      refine V.iadd dX12_mean_75 ?_
      refine V.aload_n dX12_mean_76 rfl rfl rfl ?_
      refine V.getR (r := 114) dX12_mean_77 fl_X12_7 rfl (Or.inl ⟨rfl, SHL_lt rfl⟩) rfl (ly_113_0 (srh.ly ly)) ?_
      refine V.iload_n dX12_mean_80 rfl rfl ?_
      obtain ⟨b28, hf2⟩ := gdi_el hf
      replace hf := hf2
      clear hf2
      refine V.iaload dX12_mean_81 rfl (Or.inl ⟨rfl, SHL_lt rfl⟩) b28 ?_
      obtain ⟨b29, hf2⟩ := gdi_el hf
      replace hf := hf2
      clear hf2
      refine V.iastore dX12_mean_82 rfl (Or.inl ⟨rfl, SHL_lt rfl⟩) b29 ?_
      refine V.nameH (fun g30 eg30 => ?_)
      replace hf := lt_el hf g30 eg30
      have srg30 : SR h0 g30 := by rw [eg30]; exact srh.I _ _ _
      obtain ⟨x31, ex31⟩ : ∃ y : Int32, y = l3 + 1 := ⟨_, rfl⟩
      replace hf := lt_el hf x31 ex31
      refine V.iinc (v := x31) (ls' := [.ref 113, .int l1, .int l2, .int x31, .null, .null, .null]) dX12_mean_83 rfl (by decide) ex31.symm rfl ?_
      refine V.goto (tgt := 61) dX12_mean_86 (by decide) ?_
      exact ih l1 l2 x31 g30 srg30 hf
set_option maxRecDepth 100000 in
theorem th_X12_mean {h : HP} (ly : Lay h) {a1 : Int32} {a2 : Int32} {rr : Int32} {hh : HP} (hf : f_X12_mean h a1 a2 = some (rr, hh)) : Spec yX12_mean cX12_mean miX12_mean [.ref 113, .int a1, .int a2] h (pI fun r' h' => (r' = rr ∧ h' = hh) ∧ SR h hh) := by
  refine Spec.of (ls0 := [.ref 113, .int a1, .int a2, .null, .null, .null, .null]) mo_X12_mean (Nat.le_of_ble_eq_true rfl) rfl ?_
  rw [ly.1]
  have srh : SR h h := SR.refl h
  unfold f_X12_mean at hf
  refine V.iload_n dX12_mean_0 rfl rfl ?_
  refine V.i2l dX12_mean_1 ?_
  refine V.lconst (v := 0) dX12_mean_2 rfl ?_
  refine V.ldc2 (v := 9999) dX12_mean_3 kc_X12_333 ?_
  obtain ⟨r3, h2, q1, hf2⟩ := bd2_el hf
  replace hf := hf2
  clear hf2
  refine V.callSI dX12_mean_6 ml_X12_295 mo_X12_isFrom ms_X12_isFrom (th_X12_isFrom (srh.ly ly) q1) rfl rfl ⟨Nat.le_of_ble_eq_true rfl, Nat.le_of_ble_eq_true rfl, fun _ => ⟨rfl, rfl⟩⟩ (Nat.le_of_ble_eq_true rfl) rfl (post_I (fun sq => ?_))
  have srh2 : SR h h2 := srh.trans sq
  clear sq q1
  refine V.if_eq (tgt := 35) dX12_mean_9 (by decide) (fun c4 => ?_) (fun c4 => ?_)
  · replace hf := ite_p hf c4
    refine V.aload_n dX12_mean_35 rfl rfl rfl ?_
    refine V.iconst (v := 1) dX12_mean_36 rfl ?_
    obtain ⟨r7, h6, q5, hf2⟩ := bd2_el hf
    replace hf := hf2
    clear hf2
    refine V.callVI dX12_mean_37 ml_X12_88 mo_X12_is mv_X12_is rfl (fun q hq => by cases hq; rfl) (by decide) (Or.inl ⟨rfl, SHL_lt rfl⟩) (th_X12_is (srh2.ly ly) q5) rfl rfl ⟨Nat.le_of_ble_eq_true rfl, Nat.le_of_ble_eq_true rfl, fun _ => ⟨rfl, rfl⟩⟩ (Nat.le_of_ble_eq_true rfl) rfl (post_I (fun sq => ?_))
    have srh6 : SR h h6 := srh2.trans sq
    clear sq q5
    obtain ⟨b8, hf2⟩ := gd_el hf
    replace hf := hf2
    clear hf2
    refine V.ireturn dX12_mean_40 rfl (narB b8) ⟨rfl, rfl⟩ ly.1 ?_
    exact ret_I hf srh6
  · replace hf := ite_n hf c4
    refine V.iload_n dX12_mean_12 rfl rfl ?_
    refine V.i2l dX12_mean_13 ?_
    refine V.lconst (v := 1) dX12_mean_14 rfl ?_
    refine V.ldc2 (v := 20) dX12_mean_15 kc_X12_431 ?_
    obtain ⟨r11, h10, q9, hf2⟩ := bd2_el hf
    replace hf := hf2
    clear hf2
    refine V.callSI dX12_mean_18 ml_X12_295 mo_X12_isFrom ms_X12_isFrom (th_X12_isFrom (srh2.ly ly) q9) rfl rfl ⟨Nat.le_of_ble_eq_true rfl, Nat.le_of_ble_eq_true rfl, fun _ => ⟨rfl, rfl⟩⟩ (Nat.le_of_ble_eq_true rfl) rfl (post_I (fun sq => ?_))
    have srh10 : SR h h10 := srh2.trans sq
    clear sq q9
    refine V.if_eq (tgt := 35) dX12_mean_21 (by decide) (fun c12 => ?_) (fun c12 => ?_)
    · replace hf := ite_p hf c12
      refine V.aload_n dX12_mean_35 rfl rfl rfl ?_
      refine V.iconst (v := 1) dX12_mean_36 rfl ?_
      obtain ⟨r15, h14, q13, hf2⟩ := bd2_el hf
      replace hf := hf2
      clear hf2
      refine V.callVI dX12_mean_37 ml_X12_88 mo_X12_is mv_X12_is rfl (fun q hq => by cases hq; rfl) (by decide) (Or.inl ⟨rfl, SHL_lt rfl⟩) (th_X12_is (srh10.ly ly) q13) rfl rfl ⟨Nat.le_of_ble_eq_true rfl, Nat.le_of_ble_eq_true rfl, fun _ => ⟨rfl, rfl⟩⟩ (Nat.le_of_ble_eq_true rfl) rfl (post_I (fun sq => ?_))
      have srh14 : SR h h14 := srh10.trans sq
      clear sq q13
      obtain ⟨b16, hf2⟩ := gd_el hf
      replace hf := hf2
      clear hf2
      refine V.ireturn dX12_mean_40 rfl (narB b16) ⟨rfl, rfl⟩ ly.1 ?_
      exact ret_I hf srh14
    · replace hf := ite_n hf c12
      refine V.iload_n dX12_mean_24 rfl rfl ?_
      refine V.iload_n dX12_mean_25 rfl rfl ?_
      refine V.iadd dX12_mean_26 ?_
      refine V.iconst (v := 1) dX12_mean_27 rfl ?_
      refine V.isub dX12_mean_28 ?_
      refine V.sipush (v := 9999) dX12_mean_29 rfl ?_
      refine V.icmp_le (tgt := 41) dX12_mean_32 (by decide) (fun c17 => ?_) (fun c17 => ?_)
      · replace hf := ite_p hf c17
        refine V.aload_n dX12_mean_41 rfl rfl rfl ?_
        refine V.getR (r := 114) dX12_mean_42 fl_X12_7 rfl (Or.inl ⟨rfl, SHL_lt rfl⟩) rfl (ly_113_0 (srh10.ly ly)) ?_
        refine V.bipush (v := 11) dX12_mean_45 rfl ?_
        refine V.iaload dX12_mean_47 rfl (Or.inl ⟨rfl, SHL_lt rfl⟩) (vp_lit (by decide)) ?_
        rw [show Int32.toNatClampNeg 11 = 11 from rfl]
        refine V.iconst (v := (-1)) dX12_mean_48 rfl ?_
        refine V.icmp_ne (tgt := 59) dX12_mean_49 (by decide) (fun c18 => ?_) (fun c18 => ?_)
        · replace hf := ite_n hf c18
          refine V.iconst (v := 0) dX12_mean_59 rfl ?_
          refine V.istore_n (ls' := [.ref 113, .int a1, .int a2, .int 0, .null, .null, .null]) dX12_mean_60 rfl (by decide) rfl ?_
          exact th_X12_mean_61 ly FU a1 a2 0 h10 srh10 hf
        · replace hf := ite_p hf c18
          refine V.aload_n dX12_mean_52 rfl rfl rfl ?_
          refine V.bipush (v := 6) dX12_mean_53 rfl ?_
          obtain ⟨r21, h20, q19, hf2⟩ := bd2_el hf
          replace hf := hf2
          clear hf2
          refine V.callVI dX12_mean_55 ml_X12_88 mo_X12_is mv_X12_is rfl (fun q hq => by cases hq; rfl) (by decide) (Or.inl ⟨rfl, SHL_lt rfl⟩) (th_X12_is (srh10.ly ly) q19) rfl rfl ⟨Nat.le_of_ble_eq_true rfl, Nat.le_of_ble_eq_true rfl, fun _ => ⟨rfl, rfl⟩⟩ (Nat.le_of_ble_eq_true rfl) rfl (post_I (fun sq => ?_))
          have srh20 : SR h h20 := srh10.trans sq
          clear sq q19
          obtain ⟨b22, hf2⟩ := gd_el hf
          replace hf := hf2
          clear hf2
          refine V.ireturn dX12_mean_58 rfl (narB b22) ⟨rfl, rfl⟩ ly.1 ?_
          exact ret_I hf srh20
      · replace hf := ite_n hf c17
        refine V.aload_n dX12_mean_35 rfl rfl rfl ?_
        refine V.iconst (v := 1) dX12_mean_36 rfl ?_
        obtain ⟨r25, h24, q23, hf2⟩ := bd2_el hf
        replace hf := hf2
        clear hf2
        refine V.callVI dX12_mean_37 ml_X12_88 mo_X12_is mv_X12_is rfl (fun q hq => by cases hq; rfl) (by decide) (Or.inl ⟨rfl, SHL_lt rfl⟩) (th_X12_is (srh10.ly ly) q23) rfl rfl ⟨Nat.le_of_ble_eq_true rfl, Nat.le_of_ble_eq_true rfl, fun _ => ⟨rfl, rfl⟩⟩ (Nat.le_of_ble_eq_true rfl) rfl (post_I (fun sq => ?_))
        have srh24 : SR h h24 := srh10.trans sq
        clear sq q23
        obtain ⟨b26, hf2⟩ := gd_el hf
        replace hf := hf2
        clear hf2
        refine V.ireturn dX12_mean_40 rfl (narB b26) ⟨rfl, rfl⟩ ly.1 ?_
        exact ret_I hf srh24
set_option maxRecDepth 100000 in
theorem th_X12_copies_41 {h0 : HP} (ly : Lay h0) {hh : HP}  : ∀ (n : Nat) (l1 : Int32) (l2 : Int32) (l3 : Int32) (h : HP), SR h0 h → f_X12_copies_41 n l1 l2 l3 h = some hh → V cX12_copies miX12_copies (ZV h0 miX12_copies hh) 130 41 [.ref 113, .int l1, .int l2, .int l3] [] h := by
  intro n
  induction n with
  | zero => intro l1 l2 l3 h srh hf; exact absurd hf (by unfold f_X12_copies_41; simp)
  | succ n ih =>
    intro l1 l2 l3 h srh hf
    unfold f_X12_copies_41 at hf
    refine V.iload_n dX12_copies_41 rfl rfl ?_
    refine V.bipush (v := 10) dX12_copies_42 rfl ?_
    refine V.icmp_ge (tgt := 75) dX12_copies_44 (by decide) (fun c6 => ?_) (fun c6 => ?_)
    · replace hf := ite_p hf c6
      refine V.vreturn' dX12_copies_75 rfl ly.1 (Or.inl ⟨rfl, rfl⟩) ?_
      exact ret_V hf srh
    · replace hf := ite_n hf c6
      refine V.aload_n dX12_copies_47 rfl rfl rfl ?_
      refine V.getR (r := 115) dX12_copies_48 fl_X12_13 rfl (Or.inl ⟨rfl, SHL_lt rfl⟩) rfl (ly_113_1 (srh.ly ly)) ?_
      refine V.bipush (v := 10) dX12_copies_51 rfl ?_
      refine V.iload_n dX12_copies_53 rfl rfl ?_
      refine V.imul dX12_copies_54 ?_
      refine V.iload_n dX12_copies_55 rfl rfl ?_
      refine V.iadd dX12_copies_56 ?_
      refine V.aload_n dX12_copies_57 rfl rfl rfl ?_
      refine V.getR (r := 115) dX12_copies_58 fl_X12_13 rfl (Or.inl ⟨rfl, SHL_lt rfl⟩) rfl (ly_113_1 (srh.ly ly)) ?_
      refine V.bipush (v := 10) dX12_copies_61 rfl ?_
      refine V.iload_n dX12_copies_63 rfl rfl ?_
      refine V.imul dX12_copies_64 ?_
      refine V.iload_n dX12_copies_65 rfl rfl ?_
      refine V.iadd dX12_copies_66 ?_
      obtain ⟨b7, hf2⟩ := gdi_el hf
      replace hf := hf2
      clear hf2
      refine V.laload dX12_copies_67 rfl (Or.inl ⟨rfl, SHL_lt rfl⟩) b7 ?_
      obtain ⟨b8, hf2⟩ := gdi_el hf
      replace hf := hf2
      clear hf2
      refine V.lastore dX12_copies_68 rfl (Or.inl ⟨rfl, SHL_lt rfl⟩) b8 ?_
      refine V.nameH (fun g9 eg9 => ?_)
      replace hf := lt_el hf g9 eg9
      have srg9 : SR h0 g9 := by rw [eg9]; exact srh.L _ _ _
      obtain ⟨x10, ex10⟩ : ∃ y : Int32, y = l3 + 1 := ⟨_, rfl⟩
      replace hf := lt_el hf x10 ex10
      refine V.iinc (v := x10) (ls' := [.ref 113, .int l1, .int l2, .int x10]) dX12_copies_69 rfl (by decide) ex10.symm rfl ?_
      refine V.goto (tgt := 41) dX12_copies_72 (by decide) ?_
      exact ih l1 l2 x10 g9 srg9 hf
set_option maxRecDepth 100000 in
theorem th_X12_copies_2 {h0 : HP} (ly : Lay h0) {hh : HP}  : ∀ (n : Nat) (l1 : Int32) (l2 : Int32) (l3 : Int32) (h : HP), SR h0 h → f_X12_copies_2 n l1 l2 l3 h = some hh → V cX12_copies miX12_copies (ZV h0 miX12_copies hh) 130 2 [.ref 113, .int l1, .int l2, .int l3] [] h := by
  intro n
  induction n with
  | zero => intro l1 l2 l3 h srh hf; exact absurd hf (by unfold f_X12_copies_2; simp)
  | succ n ih =>
    intro l1 l2 l3 h srh hf
    unfold f_X12_copies_2 at hf
    refine V.iload_n dX12_copies_2 rfl rfl ?_
    refine V.sipush (v := 410) dX12_copies_3 rfl ?_
    refine V.icmp_ge (tgt := 39) dX12_copies_6 (by decide) (fun c1 => ?_) (fun c1 => ?_)
    · replace hf := ite_p hf c1
      refine V.iconst (v := 0) dX12_copies_39 rfl ?_
      refine V.istore_n (ls' := [.ref 113, .int l1, .int l2, .int 0]) dX12_copies_40 rfl (by decide) rfl ?_
      exact th_X12_copies_41 ly FU l1 l2 0 h srh hf
    · replace hf := ite_n hf c1
      refine V.aload_n dX12_copies_9 rfl rfl rfl ?_
      refine V.getR (r := 114) dX12_copies_10 fl_X12_7 rfl (Or.inl ⟨rfl, SHL_lt rfl⟩) rfl (ly_113_0 (srh.ly ly)) ?_
      refine V.sipush (v := 410) dX12_copies_13 rfl ?_
      refine V.iload_n dX12_copies_16 rfl rfl ?_
      refine V.imul dX12_copies_17 ?_
      refine V.iload_n dX12_copies_18 rfl rfl ?_
      refine V.iadd dX12_copies_19 ?_
      refine V.aload_n dX12_copies_20 rfl rfl rfl ?_
      refine V.getR (r := 114) dX12_copies_21 fl_X12_7 rfl (Or.inl ⟨rfl, SHL_lt rfl⟩) rfl (ly_113_0 (srh.ly ly)) ?_
      refine V.sipush (v := 410) dX12_copies_24 rfl ?_
      refine V.iload_n dX12_copies_27 rfl rfl ?_
      refine V.imul dX12_copies_28 ?_
      refine V.iload_n dX12_copies_29 rfl rfl ?_
      refine V.iadd dX12_copies_30 ?_
      obtain ⟨b2, hf2⟩ := gdi_el hf
      replace hf := hf2
      clear hf2
      refine V.iaload dX12_copies_31 rfl (Or.inl ⟨rfl, SHL_lt rfl⟩) b2 ?_
      obtain ⟨b3, hf2⟩ := gdi_el hf
      replace hf := hf2
      clear hf2
      refine V.iastore dX12_copies_32 rfl (Or.inl ⟨rfl, SHL_lt rfl⟩) b3 ?_
      refine V.nameH (fun g4 eg4 => ?_)
      replace hf := lt_el hf g4 eg4
      have srg4 : SR h0 g4 := by rw [eg4]; exact srh.I _ _ _
      obtain ⟨x5, ex5⟩ : ∃ y : Int32, y = l3 + 1 := ⟨_, rfl⟩
      replace hf := lt_el hf x5 ex5
      refine V.iinc (v := x5) (ls' := [.ref 113, .int l1, .int l2, .int x5]) dX12_copies_33 rfl (by decide) ex5.symm rfl ?_
      refine V.goto (tgt := 2) dX12_copies_36 (by decide) ?_
      exact ih l1 l2 x5 g4 srg4 hf
set_option maxRecDepth 100000 in
theorem th_X12_copies {h : HP} (ly : Lay h) {a1 : Int32} {a2 : Int32} {hh : HP} (hf : f_X12_copies h a1 a2 = some hh) : Spec yX12_copies cX12_copies miX12_copies [.ref 113, .int a1, .int a2] h (pV fun h' => h' = hh ∧ SR h hh) := by
  refine Spec.of (ls0 := [.ref 113, .int a1, .int a2, .null]) mo_X12_copies (Nat.le_of_ble_eq_true rfl) rfl ?_
  rw [ly.1]
  have srh : SR h h := SR.refl h
  unfold f_X12_copies at hf
  refine V.iconst (v := 0) dX12_copies_0 rfl ?_
  refine V.istore_n (ls' := [.ref 113, .int a1, .int a2, .int 0]) dX12_copies_1 rfl (by decide) rfl ?_
  exact th_X12_copies_2 ly FU a1 a2 0 h srh hf
set_option maxRecDepth 100000 in
theorem th_X12_mark {h : HP} (ly : Lay h)  {rr : Int32} {hh : HP} (hf : f_X12_mark h = some (rr, hh)) : Spec yX12_mark cX12_mark miX12_mark [.ref 113] h (pI fun r' h' => (r' = rr ∧ h' = hh) ∧ SR h hh) := by
  refine Spec.of (ls0 := [.ref 113]) mo_X12_mark (Nat.le_of_ble_eq_true rfl) rfl ?_
  rw [ly.1]
  have srh : SR h h := SR.refl h
  unfold f_X12_mark at hf
  refine V.aload_n dX12_mark_0 rfl rfl rfl ?_
  refine V.getI dX12_mark_1 fl_X12_433 rfl (Or.inl ⟨rfl, SHL_lt rfl⟩) rfl rfl ?_
  refine V.iconst (v := 3) dX12_mark_4 rfl ?_
  refine V.icmp_ne (tgt := 14) dX12_mark_5 (by decide) (fun c1 => ?_) (fun c1 => ?_)
  · replace hf := ite_n hf c1
    refine V.aload_n dX12_mark_14 rfl rfl rfl ?_
    refine V.dup dX12_mark_15 rfl ?_
    refine V.getI dX12_mark_16 fl_X12_433 rfl (Or.inl ⟨rfl, SHL_lt rfl⟩) rfl rfl ?_
    refine V.iconst (v := 1) dX12_mark_19 rfl ?_
    refine V.iadd dX12_mark_20 ?_
    refine V.putI dX12_mark_21 fl_X12_433 rfl (Or.inl ⟨rfl, SHL_lt rfl⟩) rfl (fun q hq => by cases hq; rfl) ⟨rfl, rfl⟩ ?_
    refine V.nameH (fun g2 eg2 => ?_)
    replace hf := lt_el hf g2 eg2
    have srg2 : SR h g2 := by rw [eg2]; exact srh.I _ _ _
    refine V.aload_n dX12_mark_24 rfl rfl rfl ?_
    refine V.iconst (v := 0) dX12_mark_25 rfl ?_
    refine V.aload_n dX12_mark_26 rfl rfl rfl ?_
    refine V.getI dX12_mark_27 fl_X12_433 rfl (Or.inl ⟨rfl, SHL_lt rfl⟩) rfl rfl ?_
    obtain ⟨h4, q3, hf2⟩ := bd_el hf
    replace hf := hf2
    clear hf2
    refine V.callVV dX12_mark_30 ml_X12_436 mo_X12_copies mv_X12_copies rfl (fun q hq => by cases hq; rfl) (by decide) (Or.inl ⟨rfl, SHL_lt rfl⟩) (th_X12_copies (srg2.ly ly) q3) rfl rfl ⟨Nat.le_of_ble_eq_true rfl, Nat.le_of_ble_eq_true rfl, fun _ => ⟨rfl, rfl⟩⟩ (Nat.le_of_ble_eq_true rfl) (Or.inl rfl) (post_V (fun sq => ?_))
    have srh4 : SR h h4 := srg2.trans sq
    clear sq q3
    refine V.aload_n dX12_mark_33 rfl rfl rfl ?_
    refine V.aload_n dX12_mark_34 rfl rfl rfl ?_
    refine V.getI dX12_mark_35 fl_X12_433 rfl (Or.inl ⟨rfl, SHL_lt rfl⟩) rfl rfl ?_
    obtain ⟨r7, h6, q5, hf2⟩ := bd2_el hf
    replace hf := hf2
    clear hf2
    refine V.callVI dX12_mark_38 ml_X12_85 mo_X12_gives mv_X12_gives rfl (fun q hq => by cases hq; rfl) (by decide) (Or.inl ⟨rfl, SHL_lt rfl⟩) (th_X12_gives (srh4.ly ly) q5) rfl rfl ⟨Nat.le_of_ble_eq_true rfl, Nat.le_of_ble_eq_true rfl, fun _ => ⟨rfl, rfl⟩⟩ (Nat.le_of_ble_eq_true rfl) rfl (post_I (fun sq => ?_))
    have srh6 : SR h h6 := srh4.trans sq
    clear sq q5
    refine V.ireturn dX12_mark_41 rfl rfl ⟨rfl, rfl⟩ ly.1 ?_
    exact ret_I hf srh6
  · replace hf := ite_p hf c1
    refine V.aload_n dX12_mark_8 rfl rfl rfl ?_
    refine V.iconst (v := 4) dX12_mark_9 rfl ?_
    obtain ⟨r10, h9, q8, hf2⟩ := bd2_el hf
    replace hf := hf2
    clear hf2
    refine V.callVI dX12_mark_10 ml_X12_81 mo_X12_refuse mv_X12_refuse rfl (fun q hq => by cases hq; rfl) (by decide) (Or.inl ⟨rfl, SHL_lt rfl⟩) (th_X12_refuse (srh.ly ly) q8) rfl rfl ⟨Nat.le_of_ble_eq_true rfl, Nat.le_of_ble_eq_true rfl, fun _ => ⟨rfl, rfl⟩⟩ (Nat.le_of_ble_eq_true rfl) rfl (post_I (fun sq => ?_))
    have srh9 : SR h h9 := srh.trans sq
    clear sq q8
    refine V.ireturn dX12_mark_13 rfl rfl ⟨rfl, rfl⟩ ly.1 ?_
    exact ret_I hf srh9
set_option maxRecDepth 100000 in
theorem th_X12_back {h : HP} (ly : Lay h)  {rr : Int32} {hh : HP} (hf : f_X12_back h = some (rr, hh)) : Spec yX12_back cX12_back miX12_back [.ref 113] h (pI fun r' h' => (r' = rr ∧ h' = hh) ∧ SR h hh) := by
  refine Spec.of (ls0 := [.ref 113]) mo_X12_back (Nat.le_of_ble_eq_true rfl) rfl ?_
  rw [ly.1]
  have srh : SR h h := SR.refl h
  unfold f_X12_back at hf
  refine V.aload_n dX12_back_0 rfl rfl rfl ?_
  refine V.getI dX12_back_1 fl_X12_433 rfl (Or.inl ⟨rfl, SHL_lt rfl⟩) rfl rfl ?_
  refine V.if_ne (tgt := 14) dX12_back_4 (by decide) (fun c1 => ?_) (fun c1 => ?_)
  · replace hf := ite_n hf c1
    refine V.aload_n dX12_back_14 rfl rfl rfl ?_
    refine V.aload_n dX12_back_15 rfl rfl rfl ?_
    refine V.getI dX12_back_16 fl_X12_433 rfl (Or.inl ⟨rfl, SHL_lt rfl⟩) rfl rfl ?_
    refine V.iconst (v := 0) dX12_back_19 rfl ?_
    obtain ⟨h3, q2, hf2⟩ := bd_el hf
    replace hf := hf2
    clear hf2
    refine V.callVV dX12_back_20 ml_X12_436 mo_X12_copies mv_X12_copies rfl (fun q hq => by cases hq; rfl) (by decide) (Or.inl ⟨rfl, SHL_lt rfl⟩) (th_X12_copies (srh.ly ly) q2) rfl rfl ⟨Nat.le_of_ble_eq_true rfl, Nat.le_of_ble_eq_true rfl, fun _ => ⟨rfl, rfl⟩⟩ (Nat.le_of_ble_eq_true rfl) (Or.inl rfl) (post_V (fun sq => ?_))
    have srh3 : SR h h3 := srh.trans sq
    clear sq q2
    refine V.aload_n dX12_back_23 rfl rfl rfl ?_
    refine V.dup dX12_back_24 rfl ?_
    refine V.getI dX12_back_25 fl_X12_433 rfl (Or.inl ⟨rfl, SHL_lt rfl⟩) rfl rfl ?_
    refine V.iconst (v := 1) dX12_back_28 rfl ?_
    refine V.isub dX12_back_29 ?_
    refine V.putI dX12_back_30 fl_X12_433 rfl (Or.inl ⟨rfl, SHL_lt rfl⟩) rfl (fun q hq => by cases hq; rfl) ⟨rfl, rfl⟩ ?_
    refine V.nameH (fun g4 eg4 => ?_)
    replace hf := lt_el hf g4 eg4
    have srg4 : SR h g4 := by rw [eg4]; exact srh3.I _ _ _
    refine V.aload_n dX12_back_33 rfl rfl rfl ?_
    refine V.aload_n dX12_back_34 rfl rfl rfl ?_
    refine V.getI dX12_back_35 fl_X12_433 rfl (Or.inl ⟨rfl, SHL_lt rfl⟩) rfl rfl ?_
    obtain ⟨r7, h6, q5, hf2⟩ := bd2_el hf
    replace hf := hf2
    clear hf2
    refine V.callVI dX12_back_38 ml_X12_85 mo_X12_gives mv_X12_gives rfl (fun q hq => by cases hq; rfl) (by decide) (Or.inl ⟨rfl, SHL_lt rfl⟩) (th_X12_gives (srg4.ly ly) q5) rfl rfl ⟨Nat.le_of_ble_eq_true rfl, Nat.le_of_ble_eq_true rfl, fun _ => ⟨rfl, rfl⟩⟩ (Nat.le_of_ble_eq_true rfl) rfl (post_I (fun sq => ?_))
    have srh6 : SR h h6 := srg4.trans sq
    clear sq q5
    refine V.ireturn dX12_back_41 rfl rfl ⟨rfl, rfl⟩ ly.1 ?_
    exact ret_I hf srh6
  · replace hf := ite_p hf c1
    refine V.aload_n dX12_back_7 rfl rfl rfl ?_
    refine V.bipush (v := 6) dX12_back_8 rfl ?_
    obtain ⟨r10, h9, q8, hf2⟩ := bd2_el hf
    replace hf := hf2
    clear hf2
    refine V.callVI dX12_back_10 ml_X12_81 mo_X12_refuse mv_X12_refuse rfl (fun q hq => by cases hq; rfl) (by decide) (Or.inl ⟨rfl, SHL_lt rfl⟩) (th_X12_refuse (srh.ly ly) q8) rfl rfl ⟨Nat.le_of_ble_eq_true rfl, Nat.le_of_ble_eq_true rfl, fun _ => ⟨rfl, rfl⟩⟩ (Nat.le_of_ble_eq_true rfl) rfl (post_I (fun sq => ?_))
    have srh9 : SR h h9 := srh.trans sq
    clear sq q8
    refine V.ireturn dX12_back_13 rfl rfl ⟨rfl, rfl⟩ ly.1 ?_
    exact ret_I hf srh9
