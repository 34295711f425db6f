/-! ===== makings: the class, the reference, both made ===== -/
def hz : HP := (0, fun _ _ => 0, fun _ _ => 0, fun _ _ => NUL)
def mW01 (h : HP) (a : Nat) : HP :=
  let h1 := rNew h
  let h2 := mA h1 (a + 1)
  let h3 := uR h2 a 0 (a + 1)
  let h4 := rNew h3
  let h5 := mK h4 (a + 5)
  let h6 := uR h5 a 1 (a + 5)
  let h7 := rNew h6
  let h8 := rNew h7
  let h9 := mT h8 (a + 14)
  let h10 := uR h9 (a + 13) 0 (a + 14)
  let h11 := rNew h10
  let h12 := mT h11 (a + 31)
  let h13 := uR h12 (a + 13) 1 (a + 31)
  let h14 := rNew h13
  let h15 := mT h14 (a + 48)
  let h16 := uR h15 (a + 13) 2 (a + 48)
  let h17 := uR h16 a 2 (a + 13)
  let h18 := rNew h17
  let h19 := mN h18 (a + 65)
  let h20 := uR h19 a 3 (a + 65)
  h20
def mW02 (h : HP) (a : Nat) : HP :=
  let h21 := rNew h
  let h22 := mPth h21 (a + 72)
  let h23 := uR h22 a 4 (a + 72)
  let h24 := rNew h23
  let h25 := mU h24 (a + 73)
  let h26 := uR h25 a 5 (a + 73)
  let h27 := rNew h26
  let h28 := mL h27 (a + 75)
  let h29 := uR h28 a 6 (a + 75)
  let h30 := rNew h29
  let h31 := mL h30 (a + 77)
  let h32 := uR h31 a 7 (a + 77)
  let h33 := rNew h32
  let h34 := mT h33 (a + 79)
  let h35 := uR h34 a 8 (a + 79)
  let h36 := rNew h35
  let h37 := mT h36 (a + 96)
  let h38 := uR h37 a 9 (a + 96)
  let h39 := uL h38 a 13 1
  h39
def mWz (h : HP) : HP := mW02 (mW01 h 0) 0
def mW (h : HP) : HP := oneD (mWz h)
def hA : HP := mW (rNew hz)
theorem mWz_P : P0 (mWz (rNew hz)) ∧ hR (mWz (rNew hz)) 0 8 = 79 := by unfold P0; decide +kernel
set_option maxRecDepth 100000 in
theorem mk_X11_0 {h : HP} (eh : h = rNew hz) : Spec yX11_init cX11_init miX11_init [.ref 0] h (pV fun h' => h' = mW h) := by
  have n0 : h.1 = 1 := by rw [eh]; rfl
  refine Spec.of (ls0 := [.ref 0]) mo_X11_init (Nat.le_of_ble_eq_true rfl) rfl ?_
  rw [n0]
  refine V.aload_n dX11_init_0 rfl rfl rfl ?_
  refine V.objInit dX11_init_1 lk_X11_1 oi_in oi_co rfl ⟨Nat.le_of_ble_eq_true rfl, Nat.le_of_ble_eq_true rfl⟩ ?_
  refine V.aload_n dX11_init_4 rfl rfl rfl ?_
  refine V.new dX11_init_5 (ci := 6) (z := 0) rfl cok_X7 kl_X11_7 (by rw [n0]; rfl) (by rw [n0]; exact ⟨by decide, by decide +kernel⟩) (by rw [n0]; decide +kernel) ?_
  rw [n0]
  refine V.nmh (fun h1 e1 => ?_)
  have n1 : h1.1 = 2 := by rw [e1]; show h.1 + 1 = 2; rw [n0]
  refine V.dup dX11_init_8 rfl ?_
  refine V.callIV dX11_init_9 ml_X11_9 mo_X7_init mj_X7_init rfl rfl (mk_X7_1 n1) rfl rfl ⟨Nat.le_of_ble_eq_true rfl, Nat.le_of_ble_eq_true rfl, fun h9 => absurd h9 (by decide)⟩ (Nat.le_of_ble_eq_true rfl) (Or.inr (by rw [n1]; exact ⟨⟨by decide, by decide +kernel⟩, by decide +kernel⟩)) (fun h2 e2 => ?_)
  have n2 : h2.1 = 5 := by rw [e2]; exact mA_1 n1
  refine V.putRk dX11_init_12 fl_X11_10 rfl (Or.inr (by rw [n2]; decide)) rfl rfl (fun q hq => by cases hq; exact Or.inr ⟨rfl, rfl, rfl⟩) (fun q hq _ => by cases hq; exact fo_X11_10) ?_
  refine V.nmh (fun h3 e3 => ?_)
  have n3 : h3.1 = 5 := by rw [e3]; exact n2
  refine V.aload_n dX11_init_15 rfl rfl rfl ?_
  refine V.new dX11_init_16 (ci := 4) (z := 0) rfl cok_X4 kl_X11_16 (by rw [n3]; rfl) (by rw [n3]; exact ⟨by decide, by decide +kernel⟩) (by rw [n3]; decide +kernel) ?_
  rw [n3]
  refine V.nmh (fun h4 e4 => ?_)
  have n4 : h4.1 = 6 := by rw [e4]; show h3.1 + 1 = 6; rw [n3]
  refine V.dup dX11_init_19 rfl ?_
  refine V.callIV dX11_init_20 ml_X11_18 mo_X4_init mj_X4_init rfl rfl (mk_X4_5 n4) rfl rfl ⟨Nat.le_of_ble_eq_true rfl, Nat.le_of_ble_eq_true rfl, fun h9 => absurd h9 (by decide)⟩ (Nat.le_of_ble_eq_true rfl) (Or.inr (by rw [n4]; exact ⟨⟨by decide, by decide +kernel⟩, by decide +kernel⟩)) (fun h5 e5 => ?_)
  have n5 : h5.1 = 13 := by rw [e5]; exact mK_1 n4
  refine V.putRk dX11_init_23 fl_X11_19 rfl (Or.inr (by rw [n5]; decide)) rfl rfl (fun q hq => by cases hq; exact Or.inr ⟨rfl, rfl, rfl⟩) (fun q hq _ => by cases hq; exact fo_X11_19) ?_
  refine V.nmh (fun h6 e6 => ?_)
  have n6 : h6.1 = 13 := by rw [e6]; exact n5
  refine V.aload_n dX11_init_26 rfl rfl rfl ?_
  refine V.iconst (v := 3) dX11_init_27 rfl ?_
  refine V.anewarray (N := 3) dX11_init_28 kl_X11_23 ao_Town (by rw [n6]; rfl) (by decide) rfl (by decide) (by rw [n6]; exact ⟨by decide, by decide +kernel⟩) (by rw [n6]; decide +kernel) ?_
  rw [n6]
  refine V.nmh (fun h7 e7 => ?_)
  have n7 : h7.1 = 14 := by rw [e7]; show h6.1 + 1 = 14; rw [n6]
  refine V.dup dX11_init_31 rfl ?_
  refine V.iconst (v := 0) dX11_init_32 rfl ?_
  refine V.new dX11_init_33 (ci := 5) (z := 0) rfl cok_X5 kl_X11_23 (by rw [n7]; rfl) (by rw [n7]; exact ⟨by decide, by decide +kernel⟩) (by rw [n7]; decide +kernel) ?_
  rw [n7]
  refine V.nmh (fun h8 e8 => ?_)
  have n8 : h8.1 = 15 := by rw [e8]; show h7.1 + 1 = 15; rw [n7]
  refine V.dup dX11_init_36 rfl ?_
  refine V.callIV dX11_init_37 ml_X11_25 mo_X5_init mj_X5_init rfl rfl (mk_X5_14 n8) rfl rfl ⟨Nat.le_of_ble_eq_true rfl, Nat.le_of_ble_eq_true rfl, fun h9 => absurd h9 (by decide)⟩ (Nat.le_of_ble_eq_true rfl) (Or.inr (by rw [n8]; exact ⟨⟨by decide, by decide +kernel⟩, by decide +kernel⟩)) (fun h9 e9 => ?_)
  have n9 : h9.1 = 31 := by rw [e9]; exact mT_1 n8
  refine V.aastore dX11_init_40 rfl (Or.inr (by rw [n9]; decide)) (by unfold vp_in; decide) (ci := 5) (z := 0) rfl (Or.inr (by rw [n9]; decide)) ?_
  refine V.nmh (fun h10 e10 => ?_)
  have n10 : h10.1 = 31 := by rw [e10]; exact n9
  refine V.dup dX11_init_41 rfl ?_
  refine V.iconst (v := 1) dX11_init_42 rfl ?_
  refine V.new dX11_init_43 (ci := 5) (z := 0) rfl cok_X5 kl_X11_23 (by rw [n10]; rfl) (by rw [n10]; exact ⟨by decide, by decide +kernel⟩) (by rw [n10]; decide +kernel) ?_
  rw [n10]
  refine V.nmh (fun h11 e11 => ?_)
  have n11 : h11.1 = 32 := by rw [e11]; show h10.1 + 1 = 32; rw [n10]
  refine V.dup dX11_init_46 rfl ?_
  refine V.callIV dX11_init_47 ml_X11_25 mo_X5_init mj_X5_init rfl rfl (mk_X5_31 n11) rfl rfl ⟨Nat.le_of_ble_eq_true rfl, Nat.le_of_ble_eq_true rfl, fun h9 => absurd h9 (by decide)⟩ (Nat.le_of_ble_eq_true rfl) (Or.inr (by rw [n11]; exact ⟨⟨by decide, by decide +kernel⟩, by decide +kernel⟩)) (fun h12 e12 => ?_)
  have n12 : h12.1 = 48 := by rw [e12]; exact mT_1 n11
  refine V.aastore dX11_init_50 rfl (Or.inr (by rw [n12]; decide)) (by unfold vp_in; decide) (ci := 5) (z := 0) rfl (Or.inr (by rw [n12]; decide)) ?_
  refine V.nmh (fun h13 e13 => ?_)
  have n13 : h13.1 = 48 := by rw [e13]; exact n12
  refine V.dup dX11_init_51 rfl ?_
  refine V.iconst (v := 2) dX11_init_52 rfl ?_
  refine V.new dX11_init_53 (ci := 5) (z := 0) rfl cok_X5 kl_X11_23 (by rw [n13]; rfl) (by rw [n13]; exact ⟨by decide, by decide +kernel⟩) (by rw [n13]; decide +kernel) ?_
  rw [n13]
  refine V.nmh (fun h14 e14 => ?_)
  have n14 : h14.1 = 49 := by rw [e14]; show h13.1 + 1 = 49; rw [n13]
  refine V.dup dX11_init_56 rfl ?_
  refine V.callIV dX11_init_57 ml_X11_25 mo_X5_init mj_X5_init rfl rfl (mk_X5_48 n14) rfl rfl ⟨Nat.le_of_ble_eq_true rfl, Nat.le_of_ble_eq_true rfl, fun h9 => absurd h9 (by decide)⟩ (Nat.le_of_ble_eq_true rfl) (Or.inr (by rw [n14]; exact ⟨⟨by decide, by decide +kernel⟩, by decide +kernel⟩)) (fun h15 e15 => ?_)
  have n15 : h15.1 = 65 := by rw [e15]; exact mT_1 n14
  refine V.aastore dX11_init_60 rfl (Or.inr (by rw [n15]; decide)) (by unfold vp_in; decide) (ci := 5) (z := 0) rfl (Or.inr (by rw [n15]; decide)) ?_
  refine V.nmh (fun h16 e16 => ?_)
  have n16 : h16.1 = 65 := by rw [e16]; exact n15
  refine V.putRk dX11_init_61 fl_X11_26 rfl (Or.inr (by rw [n16]; decide)) rfl rfl (fun q hq => by cases hq; exact Or.inr ⟨rfl, rfl, rfl⟩) (fun q hq _ => by cases hq; exact fo_X11_26) ?_
  refine V.nmh (fun h17 e17 => ?_)
  have n17 : h17.1 = 65 := by rw [e17]; exact n16
  refine V.aload_n dX11_init_64 rfl rfl rfl ?_
  refine V.new dX11_init_65 (ci := 0) (z := 0) rfl cok_X0 kl_X11_30 (by rw [n17]; rfl) (by rw [n17]; exact ⟨by decide, by decide +kernel⟩) (by rw [n17]; decide +kernel) ?_
  rw [n17]
  refine V.nmh (fun h18 e18 => ?_)
  have n18 : h18.1 = 66 := by rw [e18]; show h17.1 + 1 = 66; rw [n17]
  refine V.dup dX11_init_68 rfl ?_
  refine V.callIV dX11_init_69 ml_X11_32 mo_X0_init mj_X0_init rfl rfl (mk_X0_65 n18) rfl rfl ⟨Nat.le_of_ble_eq_true rfl, Nat.le_of_ble_eq_true rfl, fun h9 => absurd h9 (by decide)⟩ (Nat.le_of_ble_eq_true rfl) (Or.inr (by rw [n18]; exact ⟨⟨by decide, by decide +kernel⟩, by decide +kernel⟩)) (fun h19 e19 => ?_)
  have n19 : h19.1 = 72 := by rw [e19]; exact mN_1 n18
  refine V.putRk dX11_init_72 fl_X11_33 rfl (Or.inr (by rw [n19]; decide)) rfl rfl (fun q hq => by cases hq; exact Or.inr ⟨rfl, rfl, rfl⟩) (fun q hq _ => by cases hq; exact fo_X11_33) ?_
  refine V.nmh (fun h20 e20 => ?_)
  have n20 : h20.1 = 72 := by rw [e20]; exact n19
  refine V.aload_n dX11_init_75 rfl rfl rfl ?_
  refine V.new dX11_init_76 (ci := 3) (z := 0) rfl cok_X3 kl_X11_37 (by rw [n20]; rfl) (by rw [n20]; exact ⟨by decide, by decide +kernel⟩) (by rw [n20]; decide +kernel) ?_
  rw [n20]
  refine V.nmh (fun h21 e21 => ?_)
  have n21 : h21.1 = 73 := by rw [e21]; show h20.1 + 1 = 73; rw [n20]
  refine V.dup dX11_init_79 rfl ?_
  refine V.callIV dX11_init_80 ml_X11_39 mo_X3_init mj_X3_init rfl rfl (mk_X3_72 n21) rfl rfl ⟨Nat.le_of_ble_eq_true rfl, Nat.le_of_ble_eq_true rfl, fun h9 => absurd h9 (by decide)⟩ (Nat.le_of_ble_eq_true rfl) (Or.inr (by rw [n21]; exact ⟨⟨by decide, by decide +kernel⟩, by decide +kernel⟩)) (fun h22 e22 => ?_)
  have n22 : h22.1 = 73 := by rw [e22]; exact mPth_1 n21
  refine V.putRk dX11_init_83 fl_X11_40 rfl (Or.inr (by rw [n22]; decide)) rfl rfl (fun q hq => by cases hq; exact Or.inr ⟨rfl, rfl, rfl⟩) (fun q hq _ => by cases hq; exact fo_X11_40) ?_
  refine V.nmh (fun h23 e23 => ?_)
  have n23 : h23.1 = 73 := by rw [e23]; exact n22
  refine V.aload_n dX11_init_86 rfl rfl rfl ?_
  refine V.new dX11_init_87 (ci := 7) (z := 0) rfl cok_X8 kl_X11_44 (by rw [n23]; rfl) (by rw [n23]; exact ⟨by decide, by decide +kernel⟩) (by rw [n23]; decide +kernel) ?_
  rw [n23]
  refine V.nmh (fun h24 e24 => ?_)
  have n24 : h24.1 = 74 := by rw [e24]; show h23.1 + 1 = 74; rw [n23]
  refine V.dup dX11_init_90 rfl ?_
  refine V.callIV dX11_init_91 ml_X11_46 mo_X8_init mj_X8_init rfl rfl (mk_X8_73 n24) rfl rfl ⟨Nat.le_of_ble_eq_true rfl, Nat.le_of_ble_eq_true rfl, fun h9 => absurd h9 (by decide)⟩ (Nat.le_of_ble_eq_true rfl) (Or.inr (by rw [n24]; exact ⟨⟨by decide, by decide +kernel⟩, by decide +kernel⟩)) (fun h25 e25 => ?_)
  have n25 : h25.1 = 75 := by rw [e25]; exact mU_1 n24
  refine V.putRk dX11_init_94 fl_X11_47 rfl (Or.inr (by rw [n25]; decide)) rfl rfl (fun q hq => by cases hq; exact Or.inr ⟨rfl, rfl, rfl⟩) (fun q hq _ => by cases hq; exact fo_X11_47) ?_
  refine V.nmh (fun h26 e26 => ?_)
  have n26 : h26.1 = 75 := by rw [e26]; exact n25
  refine V.aload_n dX11_init_97 rfl rfl rfl ?_
  refine V.new dX11_init_98 (ci := 2) (z := 0) rfl cok_X2 kl_X11_51 (by rw [n26]; rfl) (by rw [n26]; exact ⟨by decide, by decide +kernel⟩) (by rw [n26]; decide +kernel) ?_
  rw [n26]
  refine V.nmh (fun h27 e27 => ?_)
  have n27 : h27.1 = 76 := by rw [e27]; show h26.1 + 1 = 76; rw [n26]
  refine V.dup dX11_init_101 rfl ?_
  refine V.callIV dX11_init_102 ml_X11_53 mo_X2_init mj_X2_init rfl rfl (mk_X2_75 n27) rfl rfl ⟨Nat.le_of_ble_eq_true rfl, Nat.le_of_ble_eq_true rfl, fun h9 => absurd h9 (by decide)⟩ (Nat.le_of_ble_eq_true rfl) (Or.inr (by rw [n27]; exact ⟨⟨by decide, by decide +kernel⟩, by decide +kernel⟩)) (fun h28 e28 => ?_)
  have n28 : h28.1 = 77 := by rw [e28]; exact mL_1 n27
  refine V.putRk dX11_init_105 fl_X11_54 rfl (Or.inr (by rw [n28]; decide)) rfl rfl (fun q hq => by cases hq; exact Or.inr ⟨rfl, rfl, rfl⟩) (fun q hq _ => by cases hq; exact fo_X11_54) ?_
  refine V.nmh (fun h29 e29 => ?_)
  have n29 : h29.1 = 77 := by rw [e29]; exact n28
  refine V.aload_n dX11_init_108 rfl rfl rfl ?_
  refine V.new dX11_init_109 (ci := 2) (z := 0) rfl cok_X2 kl_X11_51 (by rw [n29]; rfl) (by rw [n29]; exact ⟨by decide, by decide +kernel⟩) (by rw [n29]; decide +kernel) ?_
  rw [n29]
  refine V.nmh (fun h30 e30 => ?_)
  have n30 : h30.1 = 78 := by rw [e30]; show h29.1 + 1 = 78; rw [n29]
  refine V.dup dX11_init_112 rfl ?_
  refine V.callIV dX11_init_113 ml_X11_53 mo_X2_init mj_X2_init rfl rfl (mk_X2_77 n30) rfl rfl ⟨Nat.le_of_ble_eq_true rfl, Nat.le_of_ble_eq_true rfl, fun h9 => absurd h9 (by decide)⟩ (Nat.le_of_ble_eq_true rfl) (Or.inr (by rw [n30]; exact ⟨⟨by decide, by decide +kernel⟩, by decide +kernel⟩)) (fun h31 e31 => ?_)
  have n31 : h31.1 = 79 := by rw [e31]; exact mL_1 n30
  refine V.putRk dX11_init_116 fl_X11_58 rfl (Or.inr (by rw [n31]; decide)) rfl rfl (fun q hq => by cases hq; exact Or.inr ⟨rfl, rfl, rfl⟩) (fun q hq _ => by cases hq; exact fo_X11_58) ?_
  refine V.nmh (fun h32 e32 => ?_)
  have n32 : h32.1 = 79 := by rw [e32]; exact n31
  refine V.aload_n dX11_init_119 rfl rfl rfl ?_
  refine V.new dX11_init_120 (ci := 5) (z := 0) rfl cok_X5 kl_X11_23 (by rw [n32]; rfl) (by rw [n32]; exact ⟨by decide, by decide +kernel⟩) (by rw [n32]; decide +kernel) ?_
  rw [n32]
  refine V.nmh (fun h33 e33 => ?_)
  have n33 : h33.1 = 80 := by rw [e33]; show h32.1 + 1 = 80; rw [n32]
  refine V.dup dX11_init_123 rfl ?_
  refine V.callIV dX11_init_124 ml_X11_25 mo_X5_init mj_X5_init rfl rfl (mk_X5_79 n33) rfl rfl ⟨Nat.le_of_ble_eq_true rfl, Nat.le_of_ble_eq_true rfl, fun h9 => absurd h9 (by decide)⟩ (Nat.le_of_ble_eq_true rfl) (Or.inr (by rw [n33]; exact ⟨⟨by decide, by decide +kernel⟩, by decide +kernel⟩)) (fun h34 e34 => ?_)
  have n34 : h34.1 = 96 := by rw [e34]; exact mT_1 n33
  refine V.putRk dX11_init_127 fl_X11_61 rfl (Or.inr (by rw [n34]; decide)) rfl rfl (fun q hq => by cases hq; exact Or.inl rfl) (fun q hq h9 => by cases hq; exact absurd h9 (by decide)) ?_
  refine V.nmh (fun h35 e35 => ?_)
  have n35 : h35.1 = 96 := by rw [e35]; exact n34
  refine V.aload_n dX11_init_130 rfl rfl rfl ?_
  refine V.new dX11_init_131 (ci := 5) (z := 0) rfl cok_X5 kl_X11_23 (by rw [n35]; rfl) (by rw [n35]; exact ⟨by decide, by decide +kernel⟩) (by rw [n35]; decide +kernel) ?_
  rw [n35]
  refine V.nmh (fun h36 e36 => ?_)
  have n36 : h36.1 = 97 := by rw [e36]; show h35.1 + 1 = 97; rw [n35]
  refine V.dup dX11_init_134 rfl ?_
  refine V.callIV dX11_init_135 ml_X11_25 mo_X5_init mj_X5_init rfl rfl (mk_X5_96 n36) rfl rfl ⟨Nat.le_of_ble_eq_true rfl, Nat.le_of_ble_eq_true rfl, fun h9 => absurd h9 (by decide)⟩ (Nat.le_of_ble_eq_true rfl) (Or.inr (by rw [n36]; exact ⟨⟨by decide, by decide +kernel⟩, by decide +kernel⟩)) (fun h37 e37 => ?_)
  have n37 : h37.1 = 113 := by rw [e37]; exact mT_1 n36
  refine V.putRk dX11_init_138 fl_X11_65 rfl (Or.inr (by rw [n37]; decide)) rfl rfl (fun q hq => by cases hq; exact Or.inl rfl) (fun q hq h9 => by cases hq; exact absurd h9 (by decide)) ?_
  refine V.nmh (fun h38 e38 => ?_)
  have n38 : h38.1 = 113 := by rw [e38]; exact n37
  refine V.aload_n dX11_init_141 rfl rfl rfl ?_
  refine V.lconst (v := 1) dX11_init_142 rfl ?_
  refine V.putL dX11_init_143 fl_X11_68 rfl (Or.inr (by rw [n38]; decide)) rfl (fun q hq => by cases hq; rfl) ?_
  refine V.nmh (fun h39 e39 => ?_)
  have n39 : h39.1 = 113 := by rw [e39]; exact n38
  refine V.aload_n dX11_init_146 rfl rfl rfl ?_
  have sh20 : h20 = mW01 h 0 := by rw [e20, e19, e18, e17, e16, e15, e14, e13, e12, e11, e10, e9, e8, e7, e6, e5, e4, e3, e2, e1]; rfl
  have sh39 : h39 = mW02 h20 0 := by rw [e39, e38, e37, e36, e35, e34, e33, e32, e31, e30, e29, e28, e27, e26, e25, e24, e23, e22, e21]; rfl
  have es : h39 = mWz h := by rw [sh39, sh20]; rfl
  have pp : P0 h39 := by rw [es, eh]; exact mWz_P.1
  have pr : hR h39 0 8 = 79 := by rw [es, eh]; exact mWz_P.2
  clear e39 e38 e37 e36 e35 e34 e33 e32 e31 e30 e29 e28 e27 e26 e25 e24 e23 e22 e21 e20 e19 e18 e17 e16 e15 e14 e13 e12 e11 e10 e9 e8 e7 e6 e5 e4 e3 e2 e1 sh20 sh39
  refine V.getR (r := 79) dX11_init_147 fl_X11_61 rfl (Or.inr (by rw [n39]; decide)) rfl pr ?_
  refine V.callVV dX11_init_150 ml_X11_72 mo_X5_makeOneDarkHouse mv_X5_makeOneDarkHouse (z := 0) (ci := 5) rfl (fun q hq => by cases hq; rfl) (by decide) (Or.inr (by rw [n39]; decide)) (sq_oneDark pp) rfl rfl ⟨Nat.le_of_ble_eq_true rfl, Nat.le_of_ble_eq_true rfl, fun h9 => absurd h9 (by decide)⟩ (Nat.le_of_ble_eq_true rfl) (Or.inr (by rw [n39]; exact ⟨⟨by decide, by decide +kernel⟩, by decide +kernel⟩)) (fun hx ex => ?_)
  have nx : hx.1 = 113 := by rw [ex]; exact n39
  refine V.vreturn' dX11_init_153 rfl n0 (Or.inr ⟨nx, by rw [nx]; decide +kernel⟩) ?_
  rw [ex, es]
  rfl
def mM01 (h : HP) (a : Nat) : HP :=
  let h1 := rNew h
  let h2 := uR h1 a 0 (a + 1)
  let h3 := rNew h2
  let h4 := uR h3 a 1 (a + 2)
  let h5 := uL h4 a 4 1
  let h6 := rNew h5
  let h7 := uR h6 a 5 (a + 3)
  let h8 := rNew h7
  let h9 := uI h8 (a + 4) 0 (-1)
  let h10 := uI h9 (a + 4) 1 (-1)
  let h11 := uI h10 (a + 4) 2 (-1)
  let h12 := uI h11 (a + 4) 3 (-1)
  let h13 := uR h12 a 6 (a + 4)
  let h14 := rNew h13
  let h15 := uR h14 a 7 (a + 5)
  let h16 := rNew h15
  let h17 := uR h16 a 8 (a + 6)
  let h18 := rNew h17
  let h19 := uR h18 a 9 (a + 7)
  let h20 := uI h19 a 16 (-1)
  h20
def mM02 (h : HP) (a : Nat) : HP :=
  let h21 := uI h a 17 (-1)
  let h22 := rNew h21
  let h23 := uR h22 a 20 (a + 8)
  let h24 := rNew h23
  let h25 := uR h24 a 23 (a + 9)
  let h26 := rNew h25
  let h27 := uR h26 a 24 (a + 10)
  let h28 := rNew h27
  let h29 := uR h28 a 27 (a + 11)
  let h30 := rNew h29
  let h31 := uR h30 a 28 (a + 12)
  let h32 := rNew h31
  let h33 := uR h32 a 29 (a + 13)
  let h34 := rNew h33
  let h35 := uR h34 a 34 (a + 14)
  let h36 := rNew h35
  let h37 := uR h36 a 35 (a + 15)
  let h38 := rNew h37
  let h39 := uR h38 a 36 (a + 16)
  h39
def mMz (h : HP) : HP := mM02 (mM01 h 113) 113
def hB : HP := mMz (rNew hA)
theorem hB_L : Lay hB := ⟨by decide +kernel, by decide +kernel⟩
