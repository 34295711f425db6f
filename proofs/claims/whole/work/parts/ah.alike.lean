/-! ===== makings: the tokens, with the kept words ===== -/
def WB : List Int32 := [119, 105, 100, 101, 32, 114, 105, 110, 103, 32, 114, 111, 119, 32, 114, 117, 108, 101, 32, 98, 111, 114, 110, 32, 115, 116, 97, 121, 115, 32, 99, 105, 116, 105, 122, 101, 110, 32, 108, 105, 107, 101, 115, 32, 116, 111, 32, 110, 105, 103, 104, 116, 32, 116, 117, 114, 110, 32, 109, 97, 121, 111, 114, 32, 101, 108, 101, 99, 116, 32, 115, 116, 111, 114, 109, 32, 98, 105, 114, 116, 104, 32, 119, 104, 101, 110, 32, 108, 105, 116, 32, 108, 97, 109, 112, 32, 115, 97, 109, 101, 32, 108, 111, 111, 112, 32, 101, 110, 100, 32, 115, 116, 111, 112]
theorem WB_is : sBy 0 = WB := by decide +kernel
def kWd (i : Nat) : Nat := (WB.take i).count 32
/-- the codes of the words from place 114 - n on -/
def wF : Nat → (Nat → Int64) → (Nat → Int64)
  | 0, f => f
  | n + 1, f => if WB.getD (114 - (n + 1)) 0 = 32 then wF n f else wF n (vp_updL f (kWd (114 - (n + 1))) (f (kWd (114 - (n + 1))) * 27 + (WB.getD (114 - (n + 1)) 0 - 97 + 1).toInt64))
theorem kWd_ok : ∀ i, i < 114 → kWd i < 22 ∧ kWd (i + 1) = (if WB.getD i 0 = 32 then kWd i + 1 else kWd i) := by decide +kernel
theorem wF_kw : ∀ k, k < 22 → wF 114 (fun _ => 0) k = kwC k := by decide +kernel
theorem uL_rLx (h : HP) (a j : Nat) (f : Nat → Int64) (x : Int64) : uL (rL h a f) a j x = rL h a (vp_updL f j x) := by
  show rL (rL h a f) a (vp_updL (hL (rL h a f) a) j x) = _
  rw [hL_rL_s, rL_rL]
theorem hR_new_n {h : HP} {a b j : Nat} (q : hR h a j = b) (n : a ≠ h.1) : hR (rNew h) a j = b := by
  rw [← q]; exact congrFun (if_neg n) j
theorem hR_put_s (h : HP) (a j x : Nat) : hR (uR h a j x) a j = x := by
  show (if a = a then updN (hR h a) j x else hR h a) j = x
  rw [if_pos rfl]; exact if_pos rfl
theorem hR_put_n {h : HP} {a b j c i x : Nat} (q : hR h a j = b) (n : a ≠ c ∨ j ≠ i) : hR (uR h c i x) a j = b := by
  rw [← q]
  show (if a = c then updN (hR h c) i x else hR h a) j = _
  by_cases e : a = c
  · rw [if_pos e, e]; exact if_neg (by omega)
  · rw [if_neg e]
theorem V.callVSK {cc : ByteArray} {mi : Mi} {Z : Zt} {n0 pc : Nat} {ls st : List Value} {h : HP} {y : MethodName} {cc' : ByteArray} {mi' : Mi} {idx i n : Nat} {As rest : List Value} {P : Int32 → HP → Prop} (hi : i < 2) (hd : decode cc pc = .ok (.invokevirtual idx, 3)) (hlk : Cond.methodLink mi.1 idx y ∈ lw_tbl) (hm : MOK y cc' mi' n) (hv : MOKv y) (hcl : y.cls = "java/lang/String")
    (hS : Spec y cc' mi' (.ref (NUL + (i + 2)) :: As) h (pI P)) (hst : st = As.reverse ++ .ref (NUL + (i + 2)) :: rest) (hn : As.length = n) (hR : RmOK mi.2.2.2.1 mi'.2.2.2.1 mi'.2.1) (hcat : (rest.map fun v => v.category).sum ≤ 8)
    (hfit0 : mi.2.2.2.1.cells = 0 ∨ ((h.1 - n0 + mi'.2.2.2.1.cells ≤ mi.2.2.2.1.cells ∧ SLT h.1 - SLT n0 + mi'.2.2.2.1.slots ≤ mi.2.2.2.1.slots) ∧ SLT (h.1 + mi'.2.2.2.1.cells) = SLT h.1 + mi'.2.2.2.1.slots))
    (k : ∀ (r : Int32) (h' : HP), P r h' → V cc mi Z n0 (pc + 3) ls (.int r :: rest) h') : V cc mi Z n0 pc ls st h :=
  V.callVS hi hd hlk hm hv hcl hS hst hn hR hcat hfit0 (fun v h' hp => by obtain ⟨r, rfl, hp⟩ := hp; exact k r h' hp)
set_option maxRecDepth 100000 in
theorem lp_words {h0 h : HP} (n0 : h0.1 = 6) (n1 : h.1 = 13) (q1 : hR h 5 1 = 7) {P : HP → Prop} : ∀ n i f, i + n = 114 → P (rL h 7 (wF n f)) → V cX4_init miX4_init (ZM h0 miX4_init.2.2.2.1 (pV P)) 6 80 [.ref 5, .int (nI (kWd i)), .int (nI i), .null] [] (rL h 7 f) := by
  intro n
  induction n with
  | zero =>
    intro i f hi hP
    have hi : i = 114 := by omega
    subst hi
    refine V.iload_n dX4_init_80 rfl rfl ?_
    refine V.ldcS (i := 0) (by decide) dX4_init_81 rfl rfl ?_
    refine V.callVSK (i := 0) (by decide) dX4_init_83 lkS_X4_44 mo_J0_length_8abf5 mv_J0_length_8abf5 rfl (sp_LEN (by decide)) rfl rfl ⟨Nat.le_of_ble_eq_true rfl, Nat.le_of_ble_eq_true rfl, fun h9 => absurd h9 (by decide)⟩ (Nat.le_of_ble_eq_true rfl) (Or.inr (by rw [show (rL h 7 f).1 = 13 from n1]; exact ⟨⟨by decide, by decide +kernel⟩, by decide +kernel⟩)) (fun r h' p => ?_)
    obtain ⟨er, p⟩ := p
    have p := p.symm
    subst p
    rw [er, show (sBy 0).length = 114 by rw [WB_is]; decide]
    refine V.icmp_ge (tgt := 144) dX4_init_86 (by decide) (fun _ => ?_) (fun c => absurd (Int32.le_refl _) c)
    refine V.vreturn' dX4_init_144 rfl n0 (Or.inr ⟨n1, by rw [show (rL h 7 f).1 = 13 from n1]; decide +kernel⟩) ?_
    exact hP
  | succ n ih =>
    intro i f hi hP
    have hlt : i < 114 := by omega
    obtain ⟨k1, k2⟩ := kWd_ok i hlt
    have ei : 114 - (n + 1) = i := by omega
    refine V.iload_n dX4_init_80 rfl rfl ?_
    refine V.ldcS (i := 0) (by decide) dX4_init_81 rfl rfl ?_
    refine V.callVSK (i := 0) (by decide) dX4_init_83 lkS_X4_44 mo_J0_length_8abf5 mv_J0_length_8abf5 rfl (sp_LEN (by decide)) rfl rfl ⟨Nat.le_of_ble_eq_true rfl, Nat.le_of_ble_eq_true rfl, fun h9 => absurd h9 (by decide)⟩ (Nat.le_of_ble_eq_true rfl) (Or.inr (by rw [show (rL h 7 f).1 = 13 from n1]; exact ⟨⟨by decide, by decide +kernel⟩, by decide +kernel⟩)) (fun r h' p => ?_)
    obtain ⟨er, p⟩ := p
    have p := p.symm
    subst p
    rw [er, show (sBy 0).length = 114 by rw [WB_is]; decide]
    refine V.icmp_ge (tgt := 144) dX4_init_86 (by decide) (fun c => absurd ((nI_leI (by decide) (by omega)).mp c) (by omega)) (fun _ => ?_)
    refine V.ldcS (i := 0) (by decide) dX4_init_89 rfl rfl ?_
    refine V.iload_n dX4_init_91 rfl rfl ?_
    refine V.callVSK (i := 0) (by decide) dX4_init_92 lkS_X4_50 mo_J0_charAt_5068e mv_J0_charAt_5068e rfl (sp_CHA (k := i) (by decide) (by rw [WB_is]; exact hlt)) rfl rfl ⟨Nat.le_of_ble_eq_true rfl, Nat.le_of_ble_eq_true rfl, fun h9 => absurd h9 (by decide)⟩ (Nat.le_of_ble_eq_true rfl) (Or.inr (by rw [show (rL h 7 f).1 = 13 from n1]; exact ⟨⟨by decide, by decide +kernel⟩, by decide +kernel⟩)) (fun c h' p => ?_)
    obtain ⟨ec, p⟩ := p
    have p := p.symm
    subst p
    rw [WB_is] at ec
    have hP := hP
    unfold wF at hP
    rw [ei, ← ec] at hP
    rw [← ec] at k2
    refine V.istore_n (ls' := [.ref 5, .int (nI (kWd i)), .int (nI i), .int c]) dX4_init_95 rfl (by decide) rfl ?_
    refine V.iload_n dX4_init_96 rfl rfl ?_
    refine V.bipush (v := 32) dX4_init_97 rfl ?_
    refine V.icmp_ne (tgt := 108) dX4_init_99 (by decide) (fun d => ?_) (fun d => ?_)
    · rw [if_neg d] at hP k2
      refine V.iload_n dX4_init_108 rfl rfl ?_
      refine V.bipush (v := 22) dX4_init_109 rfl ?_
      refine V.icmp_ge (tgt := 138) dX4_init_111 (by decide) (fun c => absurd ((nI_leI (a := 22) (by decide) (by omega)).mp c) (by omega)) (fun _ => ?_)
      refine V.aload_n dX4_init_114 rfl rfl rfl ?_
      refine V.getR (r := 7) dX4_init_115 fl_X4_15 rfl (Or.inr (by rw [show (rL h 7 f).1 = 13 from n1]; decide)) rfl q1 ?_
      refine V.iload_n dX4_init_118 rfl rfl ?_
      refine V.aload_n dX4_init_119 rfl rfl rfl ?_
      refine V.getR (r := 7) dX4_init_120 fl_X4_15 rfl (Or.inr (by rw [show (rL h 7 f).1 = 13 from n1]; decide)) rfl q1 ?_
      refine V.iload_n dX4_init_123 rfl rfl ?_
      refine V.laload dX4_init_124 (n := 22) rfl (Or.inr (by rw [show (rL h 7 f).1 = 13 from n1]; decide)) (vp_in_nI k1 (by decide)) ?_
      rw [nI_clamp (show kWd i < 2 ^ 31 by omega), hL_rL_s]
      refine V.ldc2 (v := 27) dX4_init_125 kc_X4_54 ?_
      refine V.lmul dX4_init_128 ?_
      refine V.iload_n dX4_init_129 rfl rfl ?_
      refine V.bipush (v := 97) dX4_init_130 rfl ?_
      refine V.isub dX4_init_132 ?_
      refine V.iconst (v := 1) dX4_init_133 rfl ?_
      refine V.iadd dX4_init_134 ?_
      refine V.i2l dX4_init_135 ?_
      refine V.ladd dX4_init_136 ?_
      refine V.lastore dX4_init_137 (n := 22) rfl (Or.inr (by rw [show (rL h 7 f).1 = 13 from n1]; decide)) (vp_in_nI k1 (by decide)) ?_
      rw [nI_clamp (show kWd i < 2 ^ 31 by omega), uL_rLx]
      refine V.iinc (v := nI (i + 1)) (ls' := [.ref 5, .int (nI (kWd i)), .int (nI (i + 1)), .int c]) dX4_init_138 rfl (by decide) (nI_1 i) rfl ?_
      refine V.goto (tgt := 80) dX4_init_141 (by decide) ?_
      refine V.less (ls' := [.ref 5, .int (nI (kWd i)), .int (nI (i + 1)), .null]) ⟨Or.inr rfl, Or.inr rfl, Or.inr rfl, Or.inl rfl, trivial⟩ ?_
      rw [← k2]
      exact ih (i + 1) _ (by omega) (by rw [k2]; exact hP)
    · rw [if_pos d] at hP k2
      refine V.iinc (v := nI (kWd i + 1)) (ls' := [.ref 5, .int (nI (kWd i + 1)), .int (nI i), .int c]) dX4_init_102 rfl (by decide) (nI_1 _) rfl ?_
      refine V.goto (tgt := 138) dX4_init_105 (by decide) ?_
      refine V.iinc (v := nI (i + 1)) (ls' := [.ref 5, .int (nI (kWd i + 1)), .int (nI (i + 1)), .int c]) dX4_init_138 rfl (by decide) (nI_1 i) rfl ?_
      refine V.goto (tgt := 80) dX4_init_141 (by decide) ?_
      refine V.less (ls' := [.ref 5, .int (nI (kWd i + 1)), .int (nI (i + 1)), .null]) ⟨Or.inr rfl, Or.inr rfl, Or.inr rfl, Or.inl rfl, trivial⟩ ?_
      rw [← k2]
      exact ih (i + 1) _ (by omega) hP
def mK0 (h : HP) (a : Nat) : HP :=
  let h1 := rNew h
  let h2 := uR h1 a 0 (a + 1)
  let h3 := rNew h2
  let h4 := uR h3 a 1 (a + 2)
  let h5 := rNew h4
  let h6 := uR h5 a 2 (a + 3)
  let h7 := rNew h6
  let h8 := uR h7 a 3 (a + 4)
  let h9 := rNew h8
  let h10 := uR h9 a 4 (a + 5)
  let h11 := rNew h10
  let h12 := uR h11 a 5 (a + 6)
  let h13 := rNew h12
  let h14 := uR h13 a 6 (a + 7)
  let h15 := uI h14 a 12 (-1)
  let h16 := uI h15 a 13 (-1)
  h16
theorem mK0_1 {h : HP} {a n : Nat} (k : h.1 = n) : (mK0 h a).1 = n + 7 := by
  rw [← k]; rfl
def mK (h : HP) (a : Nat) : HP := rL (mK0 h a) (a + 2) (wF 114 (hL (mK0 h a) (a + 2)))
theorem mK_1 {h : HP} {a n : Nat} (k : h.1 = n) : (mK h a).1 = n + 7 := mK0_1 k
set_option maxRecDepth 100000 in
theorem mk_X4_5 {h : HP} (n0 : h.1 = 6) : Spec yX4_init cX4_init miX4_init [.ref 5] h (pV fun h' => h' = mK h 5) := by
  refine Spec.of (ls0 := [.ref 5, .null, .null, .null]) mo_X4_init (Nat.le_of_ble_eq_true rfl) rfl ?_
  rw [n0]
  refine V.aload_n dX4_init_0 rfl rfl rfl ?_
  refine V.objInit dX4_init_1 lk_X4_3 oi_in oi_co rfl ⟨Nat.le_of_ble_eq_true rfl, Nat.le_of_ble_eq_true rfl⟩ ?_
  refine V.aload_n dX4_init_4 rfl rfl rfl ?_
  refine V.sipush (v := 900) dX4_init_5 rfl ?_
  refine V.newarray (t := 2) (N := 900) dX4_init_8 rfl (by decide) ac_byte (by rw [n0]; rfl) (by decide) rfl (by decide) (by rw [n0]; exact ⟨by decide, by decide +kernel⟩) (by rw [n0]; decide +kernel) ?_
  rw [n0]
  refine V.nmh (fun h1 e1 => ?_)
  have n1 : h1.1 = 7 := by rw [e1]; show h.1 + 1 = 7; rw [n0]
  refine V.putRk dX4_init_10 fl_X4_11 rfl (Or.inr (by rw [n1]; decide)) rfl rfl (fun q hq => by cases hq; exact Or.inr ⟨rfl, rfl, rfl⟩) (fun q hq _ => by cases hq; exact fo_X4_11) ?_
  refine V.nmh (fun h2 e2 => ?_)
  have n2 : h2.1 = 7 := by rw [e2]; exact n1
  refine V.aload_n dX4_init_13 rfl rfl rfl ?_
  refine V.bipush (v := 22) dX4_init_14 rfl ?_
  refine V.newarray (t := 1) (N := 22) dX4_init_16 rfl (by decide) ac_long (by rw [n2]; rfl) (by decide) rfl (by decide) (by rw [n2]; exact ⟨by decide, by decide +kernel⟩) (by rw [n2]; decide +kernel) ?_
  rw [n2]
  refine V.nmh (fun h3 e3 => ?_)
  have n3 : h3.1 = 8 := by rw [e3]; show h2.1 + 1 = 8; rw [n2]
  refine V.putRk dX4_init_18 fl_X4_15 rfl (Or.inr (by rw [n3]; decide)) rfl rfl (fun q hq => by cases hq; exact Or.inr ⟨rfl, rfl, rfl⟩) (fun q hq _ => by cases hq; exact fo_X4_15) ?_
  refine V.nmh (fun h4 e4 => ?_)
  have n4 : h4.1 = 8 := by rw [e4]; exact n3
  refine V.aload_n dX4_init_21 rfl rfl rfl ?_
  refine V.sipush (v := 901) dX4_init_22 rfl ?_
  refine V.newarray (t := 2) (N := 901) dX4_init_25 rfl (by decide) ac_byte (by rw [n4]; rfl) (by decide) rfl (by decide) (by rw [n4]; exact ⟨by decide, by decide +kernel⟩) (by rw [n4]; decide +kernel) ?_
  rw [n4]
  refine V.nmh (fun h5 e5 => ?_)
  have n5 : h5.1 = 9 := by rw [e5]; show h4.1 + 1 = 9; rw [n4]
  refine V.putRk dX4_init_27 fl_X4_19 rfl (Or.inr (by rw [n5]; decide)) rfl rfl (fun q hq => by cases hq; exact Or.inr ⟨rfl, rfl, rfl⟩) (fun q hq _ => by cases hq; exact fo_X4_19) ?_
  refine V.nmh (fun h6 e6 => ?_)
  have n6 : h6.1 = 9 := by rw [e6]; exact n5
  refine V.aload_n dX4_init_30 rfl rfl rfl ?_
  refine V.sipush (v := 901) dX4_init_31 rfl ?_
  refine V.newarray (t := 3) (N := 901) dX4_init_34 rfl (by decide) ac_short (by rw [n6]; rfl) (by decide) rfl (by decide) (by rw [n6]; exact ⟨by decide, by decide +kernel⟩) (by rw [n6]; decide +kernel) ?_
  rw [n6]
  refine V.nmh (fun h7 e7 => ?_)
  have n7 : h7.1 = 10 := by rw [e7]; show h6.1 + 1 = 10; rw [n6]
  refine V.putRk dX4_init_36 fl_X4_22 rfl (Or.inr (by rw [n7]; decide)) rfl rfl (fun q hq => by cases hq; exact Or.inr ⟨rfl, rfl, rfl⟩) (fun q hq _ => by cases hq; exact fo_X4_22) ?_
  refine V.nmh (fun h8 e8 => ?_)
  have n8 : h8.1 = 10 := by rw [e8]; exact n7
  refine V.aload_n dX4_init_39 rfl rfl rfl ?_
  refine V.sipush (v := 901) dX4_init_40 rfl ?_
  refine V.newarray (t := 3) (N := 901) dX4_init_43 rfl (by decide) ac_short (by rw [n8]; rfl) (by decide) rfl (by decide) (by rw [n8]; exact ⟨by decide, by decide +kernel⟩) (by rw [n8]; decide +kernel) ?_
  rw [n8]
  refine V.nmh (fun h9 e9 => ?_)
  have n9 : h9.1 = 11 := by rw [e9]; show h8.1 + 1 = 11; rw [n8]
  refine V.putRk dX4_init_45 fl_X4_26 rfl (Or.inr (by rw [n9]; decide)) rfl rfl (fun q hq => by cases hq; exact Or.inr ⟨rfl, rfl, rfl⟩) (fun q hq _ => by cases hq; exact fo_X4_26) ?_
  refine V.nmh (fun h10 e10 => ?_)
  have n10 : h10.1 = 11 := by rw [e10]; exact n9
  refine V.aload_n dX4_init_48 rfl rfl rfl ?_
  refine V.sipush (v := 901) dX4_init_49 rfl ?_
  refine V.newarray (t := 3) (N := 901) dX4_init_52 rfl (by decide) ac_short (by rw [n10]; rfl) (by decide) rfl (by decide) (by rw [n10]; exact ⟨by decide, by decide +kernel⟩) (by rw [n10]; decide +kernel) ?_
  rw [n10]
  refine V.nmh (fun h11 e11 => ?_)
  have n11 : h11.1 = 12 := by rw [e11]; show h10.1 + 1 = 12; rw [n10]
  refine V.putRk dX4_init_54 fl_X4_29 rfl (Or.inr (by rw [n11]; decide)) rfl rfl (fun q hq => by cases hq; exact Or.inr ⟨rfl, rfl, rfl⟩) (fun q hq _ => by cases hq; exact fo_X4_29) ?_
  refine V.nmh (fun h12 e12 => ?_)
  have n12 : h12.1 = 12 := by rw [e12]; exact n11
  refine V.aload_n dX4_init_57 rfl rfl rfl ?_
  refine V.sipush (v := 901) dX4_init_58 rfl ?_
  refine V.newarray (t := 1) (N := 901) dX4_init_61 rfl (by decide) ac_long (by rw [n12]; rfl) (by decide) rfl (by decide) (by rw [n12]; exact ⟨by decide, by decide +kernel⟩) (by rw [n12]; decide +kernel) ?_
  rw [n12]
  refine V.nmh (fun h13 e13 => ?_)
  have n13 : h13.1 = 13 := by rw [e13]; show h12.1 + 1 = 13; rw [n12]
  refine V.putRk dX4_init_63 fl_X4_32 rfl (Or.inr (by rw [n13]; decide)) rfl rfl (fun q hq => by cases hq; exact Or.inr ⟨rfl, rfl, rfl⟩) (fun q hq _ => by cases hq; exact fo_X4_32) ?_
  refine V.nmh (fun h14 e14 => ?_)
  have n14 : h14.1 = 13 := by rw [e14]; exact n13
  refine V.aload_n dX4_init_66 rfl rfl rfl ?_
  refine V.iconst (v := (-1)) dX4_init_67 rfl ?_
  refine V.putI dX4_init_68 fl_X4_35 rfl (Or.inr (by rw [n14]; decide)) rfl (fun q hq => by cases hq; rfl) ⟨rfl, rfl⟩ ?_
  refine V.nmh (fun h15 e15 => ?_)
  have n15 : h15.1 = 13 := by rw [e15]; exact n14
  refine V.aload_n dX4_init_71 rfl rfl rfl ?_
  refine V.iconst (v := (-1)) dX4_init_72 rfl ?_
  refine V.putI dX4_init_73 fl_X4_39 rfl (Or.inr (by rw [n15]; decide)) rfl (fun q hq => by cases hq; rfl) ⟨rfl, rfl⟩ ?_
  refine V.nmh (fun h16 e16 => ?_)
  have n16 : h16.1 = 13 := by rw [e16]; exact n15
  have q4 : hR h4 5 1 = 7 := by rw [e4]; exact hR_put_s _ _ _ _
  have q5 : hR h5 5 1 = 7 := by rw [e5]; exact hR_new_n q4 (by rw [n4]; decide)
  have q6 : hR h6 5 1 = 7 := by rw [e6]; exact hR_put_n q5 (by decide)
  have q7 : hR h7 5 1 = 7 := by rw [e7]; exact hR_new_n q6 (by rw [n6]; decide)
  have q8 : hR h8 5 1 = 7 := by rw [e8]; exact hR_put_n q7 (by decide)
  have q9 : hR h9 5 1 = 7 := by rw [e9]; exact hR_new_n q8 (by rw [n8]; decide)
  have q10 : hR h10 5 1 = 7 := by rw [e10]; exact hR_put_n q9 (by decide)
  have q11 : hR h11 5 1 = 7 := by rw [e11]; exact hR_new_n q10 (by rw [n10]; decide)
  have q12 : hR h12 5 1 = 7 := by rw [e12]; exact hR_put_n q11 (by decide)
  have q13 : hR h13 5 1 = 7 := by rw [e13]; exact hR_new_n q12 (by rw [n12]; decide)
  have q14 : hR h14 5 1 = 7 := by rw [e14]; exact hR_put_n q13 (by decide)
  have q15 : hR h15 5 1 = 7 := by rw [e15]; exact q14
  have q16 : hR h16 5 1 = 7 := by rw [e16]; exact q15
  have es : h16 = mK0 h 5 := by rw [e16, e15, e14, e13, e12, e11, e10, e9, e8, e7, e6, e5, e4, e3, e2, e1]; rfl
  clear e16 e15 e14 e13 e12 e11 e10 e9 e8 e7 e6 e5 e4 e3 e2 e1
  refine V.iconst (v := 0) dX4_init_76 rfl ?_
  refine V.istore_n (ls' := [.ref 5, .int 0, .null, .null]) dX4_init_77 rfl (by decide) rfl ?_
  refine V.iconst (v := 0) dX4_init_78 rfl ?_
  refine V.istore_n (ls' := [.ref 5, .int 0, .int 0, .null]) dX4_init_79 rfl (by decide) rfl ?_
  have key := lp_words (h0 := h) n0 n16 q16 (P := fun h' => h' = mK h 5) 114 0 (hL h16 7) (by omega) (by rw [es]; rfl)
  rw [rL_self] at key
  exact key
