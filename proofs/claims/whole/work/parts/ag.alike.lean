/-! ===== makings: the small objects ===== -/
/-- what Hill() makes, itself at a -/
def mH (h : HP) (a : Nat) : HP :=
  let h1 := uI h a 0 1
  let h2 := rNew h1
  let h3 := uR h2 a 9 (a + 1)
  h3
theorem mH_1 {h : HP} {a n : Nat} (k : h.1 = n) : (mH h a).1 = n + 1 := by
  rw [← k]; rfl
set_option maxRecDepth 100000 in
theorem mk_X1_15 {h : HP} (n0 : h.1 = 16) : Spec yX1_init cX1_init miX1_init [.ref 15] h (pV fun h' => h' = mH h 15) := by
  refine Spec.of (ls0 := [.ref 15]) mo_X1_init (Nat.le_of_ble_eq_true rfl) rfl ?_
  rw [n0]
  refine V.aload_n dX1_init_0 rfl rfl rfl ?_
  refine V.objInit dX1_init_1 lk_X1_1 oi_in oi_co rfl ⟨Nat.le_of_ble_eq_true rfl, Nat.le_of_ble_eq_true rfl⟩ ?_
  refine V.aload_n dX1_init_4 rfl rfl rfl ?_
  refine V.iconst (v := 1) dX1_init_5 rfl ?_
  refine V.putI dX1_init_6 fl_X1_7 rfl (Or.inr (by rw [n0]; decide)) rfl (fun q hq => by cases hq; rfl) ⟨rfl, rfl⟩ ?_
  refine V.nmh (fun h1 e1 => ?_)
  have n1 : h1.1 = 16 := by rw [e1]; exact n0
  refine V.aload_n dX1_init_9 rfl rfl rfl ?_
  refine V.iconst (v := 5) dX1_init_10 rfl ?_
  refine V.newarray (t := 0) (N := 5) dX1_init_11 rfl (by decide) ac_int (by rw [n1]; rfl) (by decide) rfl (by decide) (by rw [n1]; exact ⟨by decide, by decide +kernel⟩) (by rw [n1]; decide +kernel) ?_
  rw [n1]
  refine V.nmh (fun h2 e2 => ?_)
  have n2 : h2.1 = 17 := by rw [e2]; show h1.1 + 1 = 17; rw [n1]
  refine V.putRk dX1_init_13 fl_X1_13 rfl (Or.inr (by rw [n2]; decide)) rfl rfl (fun q hq => by cases hq; exact Or.inr ⟨rfl, rfl, rfl⟩) (fun q hq _ => by cases hq; exact fo_X1_13) ?_
  refine V.nmh (fun h3 e3 => ?_)
  have n3 : h3.1 = 17 := by rw [e3]; exact n2
  refine V.vreturn' dX1_init_16 rfl n0 (Or.inr ⟨n3, by rw [n3]; decide +kernel⟩) ?_
  rw [e3, e2, e1]
  rfl
set_option maxRecDepth 100000 in
theorem mk_X1_32 {h : HP} (n0 : h.1 = 33) : Spec yX1_init cX1_init miX1_init [.ref 32] h (pV fun h' => h' = mH h 32) := by
  refine Spec.of (ls0 := [.ref 32]) mo_X1_init (Nat.le_of_ble_eq_true rfl) rfl ?_
  rw [n0]
  refine V.aload_n dX1_init_0 rfl rfl rfl ?_
  refine V.objInit dX1_init_1 lk_X1_1 oi_in oi_co rfl ⟨Nat.le_of_ble_eq_true rfl, Nat.le_of_ble_eq_true rfl⟩ ?_
  refine V.aload_n dX1_init_4 rfl rfl rfl ?_
  refine V.iconst (v := 1) dX1_init_5 rfl ?_
  refine V.putI dX1_init_6 fl_X1_7 rfl (Or.inr (by rw [n0]; decide)) rfl (fun q hq => by cases hq; rfl) ⟨rfl, rfl⟩ ?_
  refine V.nmh (fun h1 e1 => ?_)
  have n1 : h1.1 = 33 := by rw [e1]; exact n0
  refine V.aload_n dX1_init_9 rfl rfl rfl ?_
  refine V.iconst (v := 5) dX1_init_10 rfl ?_
  refine V.newarray (t := 0) (N := 5) dX1_init_11 rfl (by decide) ac_int (by rw [n1]; rfl) (by decide) rfl (by decide) (by rw [n1]; exact ⟨by decide, by decide +kernel⟩) (by rw [n1]; decide +kernel) ?_
  rw [n1]
  refine V.nmh (fun h2 e2 => ?_)
  have n2 : h2.1 = 34 := by rw [e2]; show h1.1 + 1 = 34; rw [n1]
  refine V.putRk dX1_init_13 fl_X1_13 rfl (Or.inr (by rw [n2]; decide)) rfl rfl (fun q hq => by cases hq; exact Or.inr ⟨rfl, rfl, rfl⟩) (fun q hq _ => by cases hq; exact fo_X1_13) ?_
  refine V.nmh (fun h3 e3 => ?_)
  have n3 : h3.1 = 34 := by rw [e3]; exact n2
  refine V.vreturn' dX1_init_16 rfl n0 (Or.inr ⟨n3, by rw [n3]; decide +kernel⟩) ?_
  rw [e3, e2, e1]
  rfl
set_option maxRecDepth 100000 in
theorem mk_X1_49 {h : HP} (n0 : h.1 = 50) : Spec yX1_init cX1_init miX1_init [.ref 49] h (pV fun h' => h' = mH h 49) := by
  refine Spec.of (ls0 := [.ref 49]) mo_X1_init (Nat.le_of_ble_eq_true rfl) rfl ?_
  rw [n0]
  refine V.aload_n dX1_init_0 rfl rfl rfl ?_
  refine V.objInit dX1_init_1 lk_X1_1 oi_in oi_co rfl ⟨Nat.le_of_ble_eq_true rfl, Nat.le_of_ble_eq_true rfl⟩ ?_
  refine V.aload_n dX1_init_4 rfl rfl rfl ?_
  refine V.iconst (v := 1) dX1_init_5 rfl ?_
  refine V.putI dX1_init_6 fl_X1_7 rfl (Or.inr (by rw [n0]; decide)) rfl (fun q hq => by cases hq; rfl) ⟨rfl, rfl⟩ ?_
  refine V.nmh (fun h1 e1 => ?_)
  have n1 : h1.1 = 50 := by rw [e1]; exact n0
  refine V.aload_n dX1_init_9 rfl rfl rfl ?_
  refine V.iconst (v := 5) dX1_init_10 rfl ?_
  refine V.newarray (t := 0) (N := 5) dX1_init_11 rfl (by decide) ac_int (by rw [n1]; rfl) (by decide) rfl (by decide) (by rw [n1]; exact ⟨by decide, by decide +kernel⟩) (by rw [n1]; decide +kernel) ?_
  rw [n1]
  refine V.nmh (fun h2 e2 => ?_)
  have n2 : h2.1 = 51 := by rw [e2]; show h1.1 + 1 = 51; rw [n1]
  refine V.putRk dX1_init_13 fl_X1_13 rfl (Or.inr (by rw [n2]; decide)) rfl rfl (fun q hq => by cases hq; exact Or.inr ⟨rfl, rfl, rfl⟩) (fun q hq _ => by cases hq; exact fo_X1_13) ?_
  refine V.nmh (fun h3 e3 => ?_)
  have n3 : h3.1 = 51 := by rw [e3]; exact n2
  refine V.vreturn' dX1_init_16 rfl n0 (Or.inr ⟨n3, by rw [n3]; decide +kernel⟩) ?_
  rw [e3, e2, e1]
  rfl
set_option maxRecDepth 100000 in
theorem mk_X1_67 {h : HP} (n0 : h.1 = 68) : Spec yX1_init cX1_init miX1_init [.ref 67] h (pV fun h' => h' = mH h 67) := by
  refine Spec.of (ls0 := [.ref 67]) mo_X1_init (Nat.le_of_ble_eq_true rfl) rfl ?_
  rw [n0]
  refine V.aload_n dX1_init_0 rfl rfl rfl ?_
  refine V.objInit dX1_init_1 lk_X1_1 oi_in oi_co rfl ⟨Nat.le_of_ble_eq_true rfl, Nat.le_of_ble_eq_true rfl⟩ ?_
  refine V.aload_n dX1_init_4 rfl rfl rfl ?_
  refine V.iconst (v := 1) dX1_init_5 rfl ?_
  refine V.putI dX1_init_6 fl_X1_7 rfl (Or.inr (by rw [n0]; decide)) rfl (fun q hq => by cases hq; rfl) ⟨rfl, rfl⟩ ?_
  refine V.nmh (fun h1 e1 => ?_)
  have n1 : h1.1 = 68 := by rw [e1]; exact n0
  refine V.aload_n dX1_init_9 rfl rfl rfl ?_
  refine V.iconst (v := 5) dX1_init_10 rfl ?_
  refine V.newarray (t := 0) (N := 5) dX1_init_11 rfl (by decide) ac_int (by rw [n1]; rfl) (by decide) rfl (by decide) (by rw [n1]; exact ⟨by decide, by decide +kernel⟩) (by rw [n1]; decide +kernel) ?_
  rw [n1]
  refine V.nmh (fun h2 e2 => ?_)
  have n2 : h2.1 = 69 := by rw [e2]; show h1.1 + 1 = 69; rw [n1]
  refine V.putRk dX1_init_13 fl_X1_13 rfl (Or.inr (by rw [n2]; decide)) rfl rfl (fun q hq => by cases hq; exact Or.inr ⟨rfl, rfl, rfl⟩) (fun q hq _ => by cases hq; exact fo_X1_13) ?_
  refine V.nmh (fun h3 e3 => ?_)
  have n3 : h3.1 = 69 := by rw [e3]; exact n2
  refine V.vreturn' dX1_init_16 rfl n0 (Or.inr ⟨n3, by rw [n3]; decide +kernel⟩) ?_
  rw [e3, e2, e1]
  rfl
set_option maxRecDepth 100000 in
theorem mk_X1_80 {h : HP} (n0 : h.1 = 81) : Spec yX1_init cX1_init miX1_init [.ref 80] h (pV fun h' => h' = mH h 80) := by
  refine Spec.of (ls0 := [.ref 80]) mo_X1_init (Nat.le_of_ble_eq_true rfl) rfl ?_
  rw [n0]
  refine V.aload_n dX1_init_0 rfl rfl rfl ?_
  refine V.objInit dX1_init_1 lk_X1_1 oi_in oi_co rfl ⟨Nat.le_of_ble_eq_true rfl, Nat.le_of_ble_eq_true rfl⟩ ?_
  refine V.aload_n dX1_init_4 rfl rfl rfl ?_
  refine V.iconst (v := 1) dX1_init_5 rfl ?_
  refine V.putI dX1_init_6 fl_X1_7 rfl (Or.inr (by rw [n0]; decide)) rfl (fun q hq => by cases hq; rfl) ⟨rfl, rfl⟩ ?_
  refine V.nmh (fun h1 e1 => ?_)
  have n1 : h1.1 = 81 := by rw [e1]; exact n0
  refine V.aload_n dX1_init_9 rfl rfl rfl ?_
  refine V.iconst (v := 5) dX1_init_10 rfl ?_
  refine V.newarray (t := 0) (N := 5) dX1_init_11 rfl (by decide) ac_int (by rw [n1]; rfl) (by decide) rfl (by decide) (by rw [n1]; exact ⟨by decide, by decide +kernel⟩) (by rw [n1]; decide +kernel) ?_
  rw [n1]
  refine V.nmh (fun h2 e2 => ?_)
  have n2 : h2.1 = 82 := by rw [e2]; show h1.1 + 1 = 82; rw [n1]
  refine V.putRk dX1_init_13 fl_X1_13 rfl (Or.inr (by rw [n2]; decide)) rfl rfl (fun q hq => by cases hq; exact Or.inr ⟨rfl, rfl, rfl⟩) (fun q hq _ => by cases hq; exact fo_X1_13) ?_
  refine V.nmh (fun h3 e3 => ?_)
  have n3 : h3.1 = 82 := by rw [e3]; exact n2
  refine V.vreturn' dX1_init_16 rfl n0 (Or.inr ⟨n3, by rw [n3]; decide +kernel⟩) ?_
  rw [e3, e2, e1]
  rfl
set_option maxRecDepth 100000 in
theorem mk_X1_97 {h : HP} (n0 : h.1 = 98) : Spec yX1_init cX1_init miX1_init [.ref 97] h (pV fun h' => h' = mH h 97) := by
  refine Spec.of (ls0 := [.ref 97]) mo_X1_init (Nat.le_of_ble_eq_true rfl) rfl ?_
  rw [n0]
  refine V.aload_n dX1_init_0 rfl rfl rfl ?_
  refine V.objInit dX1_init_1 lk_X1_1 oi_in oi_co rfl ⟨Nat.le_of_ble_eq_true rfl, Nat.le_of_ble_eq_true rfl⟩ ?_
  refine V.aload_n dX1_init_4 rfl rfl rfl ?_
  refine V.iconst (v := 1) dX1_init_5 rfl ?_
  refine V.putI dX1_init_6 fl_X1_7 rfl (Or.inr (by rw [n0]; decide)) rfl (fun q hq => by cases hq; rfl) ⟨rfl, rfl⟩ ?_
  refine V.nmh (fun h1 e1 => ?_)
  have n1 : h1.1 = 98 := by rw [e1]; exact n0
  refine V.aload_n dX1_init_9 rfl rfl rfl ?_
  refine V.iconst (v := 5) dX1_init_10 rfl ?_
  refine V.newarray (t := 0) (N := 5) dX1_init_11 rfl (by decide) ac_int (by rw [n1]; rfl) (by decide) rfl (by decide) (by rw [n1]; exact ⟨by decide, by decide +kernel⟩) (by rw [n1]; decide +kernel) ?_
  rw [n1]
  refine V.nmh (fun h2 e2 => ?_)
  have n2 : h2.1 = 99 := by rw [e2]; show h1.1 + 1 = 99; rw [n1]
  refine V.putRk dX1_init_13 fl_X1_13 rfl (Or.inr (by rw [n2]; decide)) rfl rfl (fun q hq => by cases hq; exact Or.inr ⟨rfl, rfl, rfl⟩) (fun q hq _ => by cases hq; exact fo_X1_13) ?_
  refine V.nmh (fun h3 e3 => ?_)
  have n3 : h3.1 = 99 := by rw [e3]; exact n2
  refine V.vreturn' dX1_init_16 rfl n0 (Or.inr ⟨n3, by rw [n3]; decide +kernel⟩) ?_
  rw [e3, e2, e1]
  rfl
/-- what Year() makes, itself at a -/
def mY (h : HP) (a : Nat) : HP :=
  let h1 := rNew h
  let h2 := uR h1 a 0 (a + 1)
  let h3 := rNew h2
  let h4 := uR h3 a 1 (a + 2)
  let h5 := rNew h4
  let h6 := uR h5 a 2 (a + 3)
  let h7 := rNew h6
  let h8 := uR h7 a 3 (a + 4)
  let h9 := rNew h8
  let h10 := uR h9 a 4 (a + 5)
  h10
theorem mY_1 {h : HP} {a n : Nat} (k : h.1 = n) : (mY h a).1 = n + 5 := by
  rw [← k]; rfl
set_option maxRecDepth 100000 in
theorem mk_X9_17 {h : HP} (n0 : h.1 = 18) : Spec yX9_init cX9_init miX9_init [.ref 17] h (pV fun h' => h' = mY h 17) := by
  refine Spec.of (ls0 := [.ref 17]) mo_X9_init (Nat.le_of_ble_eq_true rfl) rfl ?_
  rw [n0]
  refine V.aload_n dX9_init_0 rfl rfl rfl ?_
  refine V.objInit dX9_init_1 lk_X9_3 oi_in oi_co rfl ⟨Nat.le_of_ble_eq_true rfl, Nat.le_of_ble_eq_true rfl⟩ ?_
  refine V.aload_n dX9_init_4 rfl rfl rfl ?_
  refine V.bipush (v := 60) dX9_init_5 rfl ?_
  refine V.newarray (t := 0) (N := 60) dX9_init_7 rfl (by decide) ac_int (by rw [n0]; rfl) (by decide) rfl (by decide) (by rw [n0]; exact ⟨by decide, by decide +kernel⟩) (by rw [n0]; decide +kernel) ?_
  rw [n0]
  refine V.nmh (fun h1 e1 => ?_)
  have n1 : h1.1 = 19 := by rw [e1]; show h.1 + 1 = 19; rw [n0]
  refine V.putRk dX9_init_9 fl_X9_11 rfl (Or.inr (by rw [n1]; decide)) rfl rfl (fun q hq => by cases hq; exact Or.inr ⟨rfl, rfl, rfl⟩) (fun q hq _ => by cases hq; exact fo_X9_11) ?_
  refine V.nmh (fun h2 e2 => ?_)
  have n2 : h2.1 = 19 := by rw [e2]; exact n1
  refine V.aload_n dX9_init_12 rfl rfl rfl ?_
  refine V.bipush (v := 60) dX9_init_13 rfl ?_
  refine V.newarray (t := 0) (N := 60) dX9_init_15 rfl (by decide) ac_int (by rw [n2]; rfl) (by decide) rfl (by decide) (by rw [n2]; exact ⟨by decide, by decide +kernel⟩) (by rw [n2]; decide +kernel) ?_
  rw [n2]
  refine V.nmh (fun h3 e3 => ?_)
  have n3 : h3.1 = 20 := by rw [e3]; show h2.1 + 1 = 20; rw [n2]
  refine V.putRk dX9_init_17 fl_X9_15 rfl (Or.inr (by rw [n3]; decide)) rfl rfl (fun q hq => by cases hq; exact Or.inr ⟨rfl, rfl, rfl⟩) (fun q hq _ => by cases hq; exact fo_X9_15) ?_
  refine V.nmh (fun h4 e4 => ?_)
  have n4 : h4.1 = 20 := by rw [e4]; exact n3
  refine V.aload_n dX9_init_20 rfl rfl rfl ?_
  refine V.bipush (v := 60) dX9_init_21 rfl ?_
  refine V.newarray (t := 0) (N := 60) dX9_init_23 rfl (by decide) ac_int (by rw [n4]; rfl) (by decide) rfl (by decide) (by rw [n4]; exact ⟨by decide, by decide +kernel⟩) (by rw [n4]; decide +kernel) ?_
  rw [n4]
  refine V.nmh (fun h5 e5 => ?_)
  have n5 : h5.1 = 21 := by rw [e5]; show h4.1 + 1 = 21; rw [n4]
  refine V.putRk dX9_init_25 fl_X9_18 rfl (Or.inr (by rw [n5]; decide)) rfl rfl (fun q hq => by cases hq; exact Or.inr ⟨rfl, rfl, rfl⟩) (fun q hq _ => by cases hq; exact fo_X9_18) ?_
  refine V.nmh (fun h6 e6 => ?_)
  have n6 : h6.1 = 21 := by rw [e6]; exact n5
  refine V.aload_n dX9_init_28 rfl rfl rfl ?_
  refine V.bipush (v := 60) dX9_init_29 rfl ?_
  refine V.newarray (t := 0) (N := 60) dX9_init_31 rfl (by decide) ac_int (by rw [n6]; rfl) (by decide) rfl (by decide) (by rw [n6]; exact ⟨by decide, by decide +kernel⟩) (by rw [n6]; decide +kernel) ?_
  rw [n6]
  refine V.nmh (fun h7 e7 => ?_)
  have n7 : h7.1 = 22 := by rw [e7]; show h6.1 + 1 = 22; rw [n6]
  refine V.putRk dX9_init_33 fl_X9_21 rfl (Or.inr (by rw [n7]; decide)) rfl rfl (fun q hq => by cases hq; exact Or.inr ⟨rfl, rfl, rfl⟩) (fun q hq _ => by cases hq; exact fo_X9_21) ?_
  refine V.nmh (fun h8 e8 => ?_)
  have n8 : h8.1 = 22 := by rw [e8]; exact n7
  refine V.aload_n dX9_init_36 rfl rfl rfl ?_
  refine V.bipush (v := 60) dX9_init_37 rfl ?_
  refine V.newarray (t := 0) (N := 60) dX9_init_39 rfl (by decide) ac_int (by rw [n8]; rfl) (by decide) rfl (by decide) (by rw [n8]; exact ⟨by decide, by decide +kernel⟩) (by rw [n8]; decide +kernel) ?_
  rw [n8]
  refine V.nmh (fun h9 e9 => ?_)
  have n9 : h9.1 = 23 := by rw [e9]; show h8.1 + 1 = 23; rw [n8]
  refine V.putRk dX9_init_41 fl_X9_24 rfl (Or.inr (by rw [n9]; decide)) rfl rfl (fun q hq => by cases hq; exact Or.inr ⟨rfl, rfl, rfl⟩) (fun q hq _ => by cases hq; exact fo_X9_24) ?_
  refine V.nmh (fun h10 e10 => ?_)
  have n10 : h10.1 = 23 := by rw [e10]; exact n9
  refine V.vreturn' dX9_init_44 rfl n0 (Or.inr ⟨n10, by rw [n10]; decide +kernel⟩) ?_
  rw [e10, e9, e8, e7, e6, e5, e4, e3, e2, e1]
  rfl
set_option maxRecDepth 100000 in
theorem mk_X9_34 {h : HP} (n0 : h.1 = 35) : Spec yX9_init cX9_init miX9_init [.ref 34] h (pV fun h' => h' = mY h 34) := by
  refine Spec.of (ls0 := [.ref 34]) mo_X9_init (Nat.le_of_ble_eq_true rfl) rfl ?_
  rw [n0]
  refine V.aload_n dX9_init_0 rfl rfl rfl ?_
  refine V.objInit dX9_init_1 lk_X9_3 oi_in oi_co rfl ⟨Nat.le_of_ble_eq_true rfl, Nat.le_of_ble_eq_true rfl⟩ ?_
  refine V.aload_n dX9_init_4 rfl rfl rfl ?_
  refine V.bipush (v := 60) dX9_init_5 rfl ?_
  refine V.newarray (t := 0) (N := 60) dX9_init_7 rfl (by decide) ac_int (by rw [n0]; rfl) (by decide) rfl (by decide) (by rw [n0]; exact ⟨by decide, by decide +kernel⟩) (by rw [n0]; decide +kernel) ?_
  rw [n0]
  refine V.nmh (fun h1 e1 => ?_)
  have n1 : h1.1 = 36 := by rw [e1]; show h.1 + 1 = 36; rw [n0]
  refine V.putRk dX9_init_9 fl_X9_11 rfl (Or.inr (by rw [n1]; decide)) rfl rfl (fun q hq => by cases hq; exact Or.inr ⟨rfl, rfl, rfl⟩) (fun q hq _ => by cases hq; exact fo_X9_11) ?_
  refine V.nmh (fun h2 e2 => ?_)
  have n2 : h2.1 = 36 := by rw [e2]; exact n1
  refine V.aload_n dX9_init_12 rfl rfl rfl ?_
  refine V.bipush (v := 60) dX9_init_13 rfl ?_
  refine V.newarray (t := 0) (N := 60) dX9_init_15 rfl (by decide) ac_int (by rw [n2]; rfl) (by decide) rfl (by decide) (by rw [n2]; exact ⟨by decide, by decide +kernel⟩) (by rw [n2]; decide +kernel) ?_
  rw [n2]
  refine V.nmh (fun h3 e3 => ?_)
  have n3 : h3.1 = 37 := by rw [e3]; show h2.1 + 1 = 37; rw [n2]
  refine V.putRk dX9_init_17 fl_X9_15 rfl (Or.inr (by rw [n3]; decide)) rfl rfl (fun q hq => by cases hq; exact Or.inr ⟨rfl, rfl, rfl⟩) (fun q hq _ => by cases hq; exact fo_X9_15) ?_
  refine V.nmh (fun h4 e4 => ?_)
  have n4 : h4.1 = 37 := by rw [e4]; exact n3
  refine V.aload_n dX9_init_20 rfl rfl rfl ?_
  refine V.bipush (v := 60) dX9_init_21 rfl ?_
  refine V.newarray (t := 0) (N := 60) dX9_init_23 rfl (by decide) ac_int (by rw [n4]; rfl) (by decide) rfl (by decide) (by rw [n4]; exact ⟨by decide, by decide +kernel⟩) (by rw [n4]; decide +kernel) ?_
  rw [n4]
  refine V.nmh (fun h5 e5 => ?_)
  have n5 : h5.1 = 38 := by rw [e5]; show h4.1 + 1 = 38; rw [n4]
  refine V.putRk dX9_init_25 fl_X9_18 rfl (Or.inr (by rw [n5]; decide)) rfl rfl (fun q hq => by cases hq; exact Or.inr ⟨rfl, rfl, rfl⟩) (fun q hq _ => by cases hq; exact fo_X9_18) ?_
  refine V.nmh (fun h6 e6 => ?_)
  have n6 : h6.1 = 38 := by rw [e6]; exact n5
  refine V.aload_n dX9_init_28 rfl rfl rfl ?_
  refine V.bipush (v := 60) dX9_init_29 rfl ?_
  refine V.newarray (t := 0) (N := 60) dX9_init_31 rfl (by decide) ac_int (by rw [n6]; rfl) (by decide) rfl (by decide) (by rw [n6]; exact ⟨by decide, by decide +kernel⟩) (by rw [n6]; decide +kernel) ?_
  rw [n6]
  refine V.nmh (fun h7 e7 => ?_)
  have n7 : h7.1 = 39 := by rw [e7]; show h6.1 + 1 = 39; rw [n6]
  refine V.putRk dX9_init_33 fl_X9_21 rfl (Or.inr (by rw [n7]; decide)) rfl rfl (fun q hq => by cases hq; exact Or.inr ⟨rfl, rfl, rfl⟩) (fun q hq _ => by cases hq; exact fo_X9_21) ?_
  refine V.nmh (fun h8 e8 => ?_)
  have n8 : h8.1 = 39 := by rw [e8]; exact n7
  refine V.aload_n dX9_init_36 rfl rfl rfl ?_
  refine V.bipush (v := 60) dX9_init_37 rfl ?_
  refine V.newarray (t := 0) (N := 60) dX9_init_39 rfl (by decide) ac_int (by rw [n8]; rfl) (by decide) rfl (by decide) (by rw [n8]; exact ⟨by decide, by decide +kernel⟩) (by rw [n8]; decide +kernel) ?_
  rw [n8]
  refine V.nmh (fun h9 e9 => ?_)
  have n9 : h9.1 = 40 := by rw [e9]; show h8.1 + 1 = 40; rw [n8]
  refine V.putRk dX9_init_41 fl_X9_24 rfl (Or.inr (by rw [n9]; decide)) rfl rfl (fun q hq => by cases hq; exact Or.inr ⟨rfl, rfl, rfl⟩) (fun q hq _ => by cases hq; exact fo_X9_24) ?_
  refine V.nmh (fun h10 e10 => ?_)
  have n10 : h10.1 = 40 := by rw [e10]; exact n9
  refine V.vreturn' dX9_init_44 rfl n0 (Or.inr ⟨n10, by rw [n10]; decide +kernel⟩) ?_
  rw [e10, e9, e8, e7, e6, e5, e4, e3, e2, e1]
  rfl
set_option maxRecDepth 100000 in
theorem mk_X9_51 {h : HP} (n0 : h.1 = 52) : Spec yX9_init cX9_init miX9_init [.ref 51] h (pV fun h' => h' = mY h 51) := by
  refine Spec.of (ls0 := [.ref 51]) mo_X9_init (Nat.le_of_ble_eq_true rfl) rfl ?_
  rw [n0]
  refine V.aload_n dX9_init_0 rfl rfl rfl ?_
  refine V.objInit dX9_init_1 lk_X9_3 oi_in oi_co rfl ⟨Nat.le_of_ble_eq_true rfl, Nat.le_of_ble_eq_true rfl⟩ ?_
  refine V.aload_n dX9_init_4 rfl rfl rfl ?_
  refine V.bipush (v := 60) dX9_init_5 rfl ?_
  refine V.newarray (t := 0) (N := 60) dX9_init_7 rfl (by decide) ac_int (by rw [n0]; rfl) (by decide) rfl (by decide) (by rw [n0]; exact ⟨by decide, by decide +kernel⟩) (by rw [n0]; decide +kernel) ?_
  rw [n0]
  refine V.nmh (fun h1 e1 => ?_)
  have n1 : h1.1 = 53 := by rw [e1]; show h.1 + 1 = 53; rw [n0]
  refine V.putRk dX9_init_9 fl_X9_11 rfl (Or.inr (by rw [n1]; decide)) rfl rfl (fun q hq => by cases hq; exact Or.inr ⟨rfl, rfl, rfl⟩) (fun q hq _ => by cases hq; exact fo_X9_11) ?_
  refine V.nmh (fun h2 e2 => ?_)
  have n2 : h2.1 = 53 := by rw [e2]; exact n1
  refine V.aload_n dX9_init_12 rfl rfl rfl ?_
  refine V.bipush (v := 60) dX9_init_13 rfl ?_
  refine V.newarray (t := 0) (N := 60) dX9_init_15 rfl (by decide) ac_int (by rw [n2]; rfl) (by decide) rfl (by decide) (by rw [n2]; exact ⟨by decide, by decide +kernel⟩) (by rw [n2]; decide +kernel) ?_
  rw [n2]
  refine V.nmh (fun h3 e3 => ?_)
  have n3 : h3.1 = 54 := by rw [e3]; show h2.1 + 1 = 54; rw [n2]
  refine V.putRk dX9_init_17 fl_X9_15 rfl (Or.inr (by rw [n3]; decide)) rfl rfl (fun q hq => by cases hq; exact Or.inr ⟨rfl, rfl, rfl⟩) (fun q hq _ => by cases hq; exact fo_X9_15) ?_
  refine V.nmh (fun h4 e4 => ?_)
  have n4 : h4.1 = 54 := by rw [e4]; exact n3
  refine V.aload_n dX9_init_20 rfl rfl rfl ?_
  refine V.bipush (v := 60) dX9_init_21 rfl ?_
  refine V.newarray (t := 0) (N := 60) dX9_init_23 rfl (by decide) ac_int (by rw [n4]; rfl) (by decide) rfl (by decide) (by rw [n4]; exact ⟨by decide, by decide +kernel⟩) (by rw [n4]; decide +kernel) ?_
  rw [n4]
  refine V.nmh (fun h5 e5 => ?_)
  have n5 : h5.1 = 55 := by rw [e5]; show h4.1 + 1 = 55; rw [n4]
  refine V.putRk dX9_init_25 fl_X9_18 rfl (Or.inr (by rw [n5]; decide)) rfl rfl (fun q hq => by cases hq; exact Or.inr ⟨rfl, rfl, rfl⟩) (fun q hq _ => by cases hq; exact fo_X9_18) ?_
  refine V.nmh (fun h6 e6 => ?_)
  have n6 : h6.1 = 55 := by rw [e6]; exact n5
  refine V.aload_n dX9_init_28 rfl rfl rfl ?_
  refine V.bipush (v := 60) dX9_init_29 rfl ?_
  refine V.newarray (t := 0) (N := 60) dX9_init_31 rfl (by decide) ac_int (by rw [n6]; rfl) (by decide) rfl (by decide) (by rw [n6]; exact ⟨by decide, by decide +kernel⟩) (by rw [n6]; decide +kernel) ?_
  rw [n6]
  refine V.nmh (fun h7 e7 => ?_)
  have n7 : h7.1 = 56 := by rw [e7]; show h6.1 + 1 = 56; rw [n6]
  refine V.putRk dX9_init_33 fl_X9_21 rfl (Or.inr (by rw [n7]; decide)) rfl rfl (fun q hq => by cases hq; exact Or.inr ⟨rfl, rfl, rfl⟩) (fun q hq _ => by cases hq; exact fo_X9_21) ?_
  refine V.nmh (fun h8 e8 => ?_)
  have n8 : h8.1 = 56 := by rw [e8]; exact n7
  refine V.aload_n dX9_init_36 rfl rfl rfl ?_
  refine V.bipush (v := 60) dX9_init_37 rfl ?_
  refine V.newarray (t := 0) (N := 60) dX9_init_39 rfl (by decide) ac_int (by rw [n8]; rfl) (by decide) rfl (by decide) (by rw [n8]; exact ⟨by decide, by decide +kernel⟩) (by rw [n8]; decide +kernel) ?_
  rw [n8]
  refine V.nmh (fun h9 e9 => ?_)
  have n9 : h9.1 = 57 := by rw [e9]; show h8.1 + 1 = 57; rw [n8]
  refine V.putRk dX9_init_41 fl_X9_24 rfl (Or.inr (by rw [n9]; decide)) rfl rfl (fun q hq => by cases hq; exact Or.inr ⟨rfl, rfl, rfl⟩) (fun q hq _ => by cases hq; exact fo_X9_24) ?_
  refine V.nmh (fun h10 e10 => ?_)
  have n10 : h10.1 = 57 := by rw [e10]; exact n9
  refine V.vreturn' dX9_init_44 rfl n0 (Or.inr ⟨n10, by rw [n10]; decide +kernel⟩) ?_
  rw [e10, e9, e8, e7, e6, e5, e4, e3, e2, e1]
  rfl
set_option maxRecDepth 100000 in
theorem mk_X9_82 {h : HP} (n0 : h.1 = 83) : Spec yX9_init cX9_init miX9_init [.ref 82] h (pV fun h' => h' = mY h 82) := by
  refine Spec.of (ls0 := [.ref 82]) mo_X9_init (Nat.le_of_ble_eq_true rfl) rfl ?_
  rw [n0]
  refine V.aload_n dX9_init_0 rfl rfl rfl ?_
  refine V.objInit dX9_init_1 lk_X9_3 oi_in oi_co rfl ⟨Nat.le_of_ble_eq_true rfl, Nat.le_of_ble_eq_true rfl⟩ ?_
  refine V.aload_n dX9_init_4 rfl rfl rfl ?_
  refine V.bipush (v := 60) dX9_init_5 rfl ?_
  refine V.newarray (t := 0) (N := 60) dX9_init_7 rfl (by decide) ac_int (by rw [n0]; rfl) (by decide) rfl (by decide) (by rw [n0]; exact ⟨by decide, by decide +kernel⟩) (by rw [n0]; decide +kernel) ?_
  rw [n0]
  refine V.nmh (fun h1 e1 => ?_)
  have n1 : h1.1 = 84 := by rw [e1]; show h.1 + 1 = 84; rw [n0]
  refine V.putRk dX9_init_9 fl_X9_11 rfl (Or.inr (by rw [n1]; decide)) rfl rfl (fun q hq => by cases hq; exact Or.inr ⟨rfl, rfl, rfl⟩) (fun q hq _ => by cases hq; exact fo_X9_11) ?_
  refine V.nmh (fun h2 e2 => ?_)
  have n2 : h2.1 = 84 := by rw [e2]; exact n1
  refine V.aload_n dX9_init_12 rfl rfl rfl ?_
  refine V.bipush (v := 60) dX9_init_13 rfl ?_
  refine V.newarray (t := 0) (N := 60) dX9_init_15 rfl (by decide) ac_int (by rw [n2]; rfl) (by decide) rfl (by decide) (by rw [n2]; exact ⟨by decide, by decide +kernel⟩) (by rw [n2]; decide +kernel) ?_
  rw [n2]
  refine V.nmh (fun h3 e3 => ?_)
  have n3 : h3.1 = 85 := by rw [e3]; show h2.1 + 1 = 85; rw [n2]
  refine V.putRk dX9_init_17 fl_X9_15 rfl (Or.inr (by rw [n3]; decide)) rfl rfl (fun q hq => by cases hq; exact Or.inr ⟨rfl, rfl, rfl⟩) (fun q hq _ => by cases hq; exact fo_X9_15) ?_
  refine V.nmh (fun h4 e4 => ?_)
  have n4 : h4.1 = 85 := by rw [e4]; exact n3
  refine V.aload_n dX9_init_20 rfl rfl rfl ?_
  refine V.bipush (v := 60) dX9_init_21 rfl ?_
  refine V.newarray (t := 0) (N := 60) dX9_init_23 rfl (by decide) ac_int (by rw [n4]; rfl) (by decide) rfl (by decide) (by rw [n4]; exact ⟨by decide, by decide +kernel⟩) (by rw [n4]; decide +kernel) ?_
  rw [n4]
  refine V.nmh (fun h5 e5 => ?_)
  have n5 : h5.1 = 86 := by rw [e5]; show h4.1 + 1 = 86; rw [n4]
  refine V.putRk dX9_init_25 fl_X9_18 rfl (Or.inr (by rw [n5]; decide)) rfl rfl (fun q hq => by cases hq; exact Or.inr ⟨rfl, rfl, rfl⟩) (fun q hq _ => by cases hq; exact fo_X9_18) ?_
  refine V.nmh (fun h6 e6 => ?_)
  have n6 : h6.1 = 86 := by rw [e6]; exact n5
  refine V.aload_n dX9_init_28 rfl rfl rfl ?_
  refine V.bipush (v := 60) dX9_init_29 rfl ?_
  refine V.newarray (t := 0) (N := 60) dX9_init_31 rfl (by decide) ac_int (by rw [n6]; rfl) (by decide) rfl (by decide) (by rw [n6]; exact ⟨by decide, by decide +kernel⟩) (by rw [n6]; decide +kernel) ?_
  rw [n6]
  refine V.nmh (fun h7 e7 => ?_)
  have n7 : h7.1 = 87 := by rw [e7]; show h6.1 + 1 = 87; rw [n6]
  refine V.putRk dX9_init_33 fl_X9_21 rfl (Or.inr (by rw [n7]; decide)) rfl rfl (fun q hq => by cases hq; exact Or.inr ⟨rfl, rfl, rfl⟩) (fun q hq _ => by cases hq; exact fo_X9_21) ?_
  refine V.nmh (fun h8 e8 => ?_)
  have n8 : h8.1 = 87 := by rw [e8]; exact n7
  refine V.aload_n dX9_init_36 rfl rfl rfl ?_
  refine V.bipush (v := 60) dX9_init_37 rfl ?_
  refine V.newarray (t := 0) (N := 60) dX9_init_39 rfl (by decide) ac_int (by rw [n8]; rfl) (by decide) rfl (by decide) (by rw [n8]; exact ⟨by decide, by decide +kernel⟩) (by rw [n8]; decide +kernel) ?_
  rw [n8]
  refine V.nmh (fun h9 e9 => ?_)
  have n9 : h9.1 = 88 := by rw [e9]; show h8.1 + 1 = 88; rw [n8]
  refine V.putRk dX9_init_41 fl_X9_24 rfl (Or.inr (by rw [n9]; decide)) rfl rfl (fun q hq => by cases hq; exact Or.inr ⟨rfl, rfl, rfl⟩) (fun q hq _ => by cases hq; exact fo_X9_24) ?_
  refine V.nmh (fun h10 e10 => ?_)
  have n10 : h10.1 = 88 := by rw [e10]; exact n9
  refine V.vreturn' dX9_init_44 rfl n0 (Or.inr ⟨n10, by rw [n10]; decide +kernel⟩) ?_
  rw [e10, e9, e8, e7, e6, e5, e4, e3, e2, e1]
  rfl
set_option maxRecDepth 100000 in
theorem mk_X9_99 {h : HP} (n0 : h.1 = 100) : Spec yX9_init cX9_init miX9_init [.ref 99] h (pV fun h' => h' = mY h 99) := by
  refine Spec.of (ls0 := [.ref 99]) mo_X9_init (Nat.le_of_ble_eq_true rfl) rfl ?_
  rw [n0]
  refine V.aload_n dX9_init_0 rfl rfl rfl ?_
  refine V.objInit dX9_init_1 lk_X9_3 oi_in oi_co rfl ⟨Nat.le_of_ble_eq_true rfl, Nat.le_of_ble_eq_true rfl⟩ ?_
  refine V.aload_n dX9_init_4 rfl rfl rfl ?_
  refine V.bipush (v := 60) dX9_init_5 rfl ?_
  refine V.newarray (t := 0) (N := 60) dX9_init_7 rfl (by decide) ac_int (by rw [n0]; rfl) (by decide) rfl (by decide) (by rw [n0]; exact ⟨by decide, by decide +kernel⟩) (by rw [n0]; decide +kernel) ?_
  rw [n0]
  refine V.nmh (fun h1 e1 => ?_)
  have n1 : h1.1 = 101 := by rw [e1]; show h.1 + 1 = 101; rw [n0]
  refine V.putRk dX9_init_9 fl_X9_11 rfl (Or.inr (by rw [n1]; decide)) rfl rfl (fun q hq => by cases hq; exact Or.inr ⟨rfl, rfl, rfl⟩) (fun q hq _ => by cases hq; exact fo_X9_11) ?_
  refine V.nmh (fun h2 e2 => ?_)
  have n2 : h2.1 = 101 := by rw [e2]; exact n1
  refine V.aload_n dX9_init_12 rfl rfl rfl ?_
  refine V.bipush (v := 60) dX9_init_13 rfl ?_
  refine V.newarray (t := 0) (N := 60) dX9_init_15 rfl (by decide) ac_int (by rw [n2]; rfl) (by decide) rfl (by decide) (by rw [n2]; exact ⟨by decide, by decide +kernel⟩) (by rw [n2]; decide +kernel) ?_
  rw [n2]
  refine V.nmh (fun h3 e3 => ?_)
  have n3 : h3.1 = 102 := by rw [e3]; show h2.1 + 1 = 102; rw [n2]
  refine V.putRk dX9_init_17 fl_X9_15 rfl (Or.inr (by rw [n3]; decide)) rfl rfl (fun q hq => by cases hq; exact Or.inr ⟨rfl, rfl, rfl⟩) (fun q hq _ => by cases hq; exact fo_X9_15) ?_
  refine V.nmh (fun h4 e4 => ?_)
  have n4 : h4.1 = 102 := by rw [e4]; exact n3
  refine V.aload_n dX9_init_20 rfl rfl rfl ?_
  refine V.bipush (v := 60) dX9_init_21 rfl ?_
  refine V.newarray (t := 0) (N := 60) dX9_init_23 rfl (by decide) ac_int (by rw [n4]; rfl) (by decide) rfl (by decide) (by rw [n4]; exact ⟨by decide, by decide +kernel⟩) (by rw [n4]; decide +kernel) ?_
  rw [n4]
  refine V.nmh (fun h5 e5 => ?_)
  have n5 : h5.1 = 103 := by rw [e5]; show h4.1 + 1 = 103; rw [n4]
  refine V.putRk dX9_init_25 fl_X9_18 rfl (Or.inr (by rw [n5]; decide)) rfl rfl (fun q hq => by cases hq; exact Or.inr ⟨rfl, rfl, rfl⟩) (fun q hq _ => by cases hq; exact fo_X9_18) ?_
  refine V.nmh (fun h6 e6 => ?_)
  have n6 : h6.1 = 103 := by rw [e6]; exact n5
  refine V.aload_n dX9_init_28 rfl rfl rfl ?_
  refine V.bipush (v := 60) dX9_init_29 rfl ?_
  refine V.newarray (t := 0) (N := 60) dX9_init_31 rfl (by decide) ac_int (by rw [n6]; rfl) (by decide) rfl (by decide) (by rw [n6]; exact ⟨by decide, by decide +kernel⟩) (by rw [n6]; decide +kernel) ?_
  rw [n6]
  refine V.nmh (fun h7 e7 => ?_)
  have n7 : h7.1 = 104 := by rw [e7]; show h6.1 + 1 = 104; rw [n6]
  refine V.putRk dX9_init_33 fl_X9_21 rfl (Or.inr (by rw [n7]; decide)) rfl rfl (fun q hq => by cases hq; exact Or.inr ⟨rfl, rfl, rfl⟩) (fun q hq _ => by cases hq; exact fo_X9_21) ?_
  refine V.nmh (fun h8 e8 => ?_)
  have n8 : h8.1 = 104 := by rw [e8]; exact n7
  refine V.aload_n dX9_init_36 rfl rfl rfl ?_
  refine V.bipush (v := 60) dX9_init_37 rfl ?_
  refine V.newarray (t := 0) (N := 60) dX9_init_39 rfl (by decide) ac_int (by rw [n8]; rfl) (by decide) rfl (by decide) (by rw [n8]; exact ⟨by decide, by decide +kernel⟩) (by rw [n8]; decide +kernel) ?_
  rw [n8]
  refine V.nmh (fun h9 e9 => ?_)
  have n9 : h9.1 = 105 := by rw [e9]; show h8.1 + 1 = 105; rw [n8]
  refine V.putRk dX9_init_41 fl_X9_24 rfl (Or.inr (by rw [n9]; decide)) rfl rfl (fun q hq => by cases hq; exact Or.inr ⟨rfl, rfl, rfl⟩) (fun q hq _ => by cases hq; exact fo_X9_24) ?_
  refine V.nmh (fun h10 e10 => ?_)
  have n10 : h10.1 = 105 := by rw [e10]; exact n9
  refine V.vreturn' dX9_init_44 rfl n0 (Or.inr ⟨n10, by rw [n10]; decide +kernel⟩) ?_
  rw [e10, e9, e8, e7, e6, e5, e4, e3, e2, e1]
  rfl
/-- what Town() makes, itself at a -/
def mT (h : HP) (a : Nat) : HP :=
  let h1 := rNew h
  let h2 := mH h1 (a + 1)
  let h3 := uR h2 a 0 (a + 1)
  let h4 := rNew h3
  let h5 := mY h4 (a + 3)
  let h6 := uR h5 a 1 (a + 3)
  let h7 := rNew h6
  let h8 := uR h7 a 2 (a + 9)
  let h9 := rNew h8
  let h10 := uR h9 a 3 (a + 10)
  let h11 := rNew h10
  let h12 := uR h11 a 4 (a + 11)
  let h13 := rNew h12
  let h14 := uR h13 a 5 (a + 12)
  let h15 := rNew h14
  let h16 := uR h15 a 6 (a + 13)
  let h17 := rNew h16
  let h18 := uR h17 a 7 (a + 14)
  let h19 := rNew h18
  let h20 := uR h19 a 8 (a + 15)
  let h21 := rNew h20
  let h22 := uR h21 a 9 (a + 16)
  h22
theorem mT_1 {h : HP} {a n : Nat} (k : h.1 = n) : (mT h a).1 = n + 16 := by
  rw [← k]; rfl
set_option maxRecDepth 100000 in
theorem mk_X5_14 {h : HP} (n0 : h.1 = 15) : Spec yX5_init cX5_init miX5_init [.ref 14] h (pV fun h' => h' = mT h 14) := by
  refine Spec.of (ls0 := [.ref 14]) mo_X5_init (Nat.le_of_ble_eq_true rfl) rfl ?_
  rw [n0]
  refine V.aload_n dX5_init_0 rfl rfl rfl ?_
  refine V.objInit dX5_init_1 lk_X5_3 oi_in oi_co rfl ⟨Nat.le_of_ble_eq_true rfl, Nat.le_of_ble_eq_true rfl⟩ ?_
  refine V.aload_n dX5_init_4 rfl rfl rfl ?_
  refine V.new dX5_init_5 (ci := 1) (z := 0) rfl cok_X1 kl_X5_9 (by rw [n0]; rfl) (by rw [n0]; exact ⟨by decide, by decide +kernel⟩) (by rw [n0]; decide +kernel) ?_
  rw [n0]
  refine V.nmh (fun h1 e1 => ?_)
  have n1 : h1.1 = 16 := by rw [e1]; show h.1 + 1 = 16; rw [n0]
  refine V.dup dX5_init_8 rfl ?_
  refine V.callIV dX5_init_9 ml_X5_11 mo_X1_init mj_X1_init rfl rfl (mk_X1_15 n1) rfl rfl ⟨Nat.le_of_ble_eq_true rfl, Nat.le_of_ble_eq_true rfl, fun h9 => absurd h9 (by decide)⟩ (Nat.le_of_ble_eq_true rfl) (Or.inr (by rw [n1]; exact ⟨⟨by decide, by decide +kernel⟩, by decide +kernel⟩)) (fun h2 e2 => ?_)
  have n2 : h2.1 = 17 := by rw [e2]; exact mH_1 n1
  refine V.putRk dX5_init_12 fl_X5_12 rfl (Or.inr (by rw [n2]; decide)) rfl rfl (fun q hq => by cases hq; exact Or.inr ⟨rfl, rfl, rfl⟩) (fun q hq _ => by cases hq; exact fo_X5_12) ?_
  refine V.nmh (fun h3 e3 => ?_)
  have n3 : h3.1 = 17 := by rw [e3]; exact n2
  refine V.aload_n dX5_init_15 rfl rfl rfl ?_
  refine V.new dX5_init_16 (ci := 8) (z := 0) rfl cok_X9 kl_X5_18 (by rw [n3]; rfl) (by rw [n3]; exact ⟨by decide, by decide +kernel⟩) (by rw [n3]; decide +kernel) ?_
  rw [n3]
  refine V.nmh (fun h4 e4 => ?_)
  have n4 : h4.1 = 18 := by rw [e4]; show h3.1 + 1 = 18; rw [n3]
  refine V.dup dX5_init_19 rfl ?_
  refine V.callIV dX5_init_20 ml_X5_20 mo_X9_init mj_X9_init rfl rfl (mk_X9_17 n4) rfl rfl ⟨Nat.le_of_ble_eq_true rfl, Nat.le_of_ble_eq_true rfl, fun h9 => absurd h9 (by decide)⟩ (Nat.le_of_ble_eq_true rfl) (Or.inr (by rw [n4]; exact ⟨⟨by decide, by decide +kernel⟩, by decide +kernel⟩)) (fun h5 e5 => ?_)
  have n5 : h5.1 = 23 := by rw [e5]; exact mY_1 n4
  refine V.putRk dX5_init_23 fl_X5_21 rfl (Or.inr (by rw [n5]; decide)) rfl rfl (fun q hq => by cases hq; exact Or.inr ⟨rfl, rfl, rfl⟩) (fun q hq _ => by cases hq; exact fo_X5_21) ?_
  refine V.nmh (fun h6 e6 => ?_)
  have n6 : h6.1 = 23 := by rw [e6]; exact n5
  refine V.aload_n dX5_init_26 rfl rfl rfl ?_
  refine V.iconst (v := 4) dX5_init_27 rfl ?_
  refine V.newarray (t := 1) (N := 4) dX5_init_28 rfl (by decide) ac_long (by rw [n6]; rfl) (by decide) rfl (by decide) (by rw [n6]; exact ⟨by decide, by decide +kernel⟩) (by rw [n6]; decide +kernel) ?_
  rw [n6]
  refine V.nmh (fun h7 e7 => ?_)
  have n7 : h7.1 = 24 := by rw [e7]; show h6.1 + 1 = 24; rw [n6]
  refine V.putRk dX5_init_30 fl_X5_25 rfl (Or.inr (by rw [n7]; decide)) rfl rfl (fun q hq => by cases hq; exact Or.inr ⟨rfl, rfl, rfl⟩) (fun q hq _ => by cases hq; exact fo_X5_25) ?_
  refine V.nmh (fun h8 e8 => ?_)
  have n8 : h8.1 = 24 := by rw [e8]; exact n7
  refine V.aload_n dX5_init_33 rfl rfl rfl ?_
  refine V.iconst (v := 4) dX5_init_34 rfl ?_
  refine V.newarray (t := 0) (N := 4) dX5_init_35 rfl (by decide) ac_int (by rw [n8]; rfl) (by decide) rfl (by decide) (by rw [n8]; exact ⟨by decide, by decide +kernel⟩) (by rw [n8]; decide +kernel) ?_
  rw [n8]
  refine V.nmh (fun h9 e9 => ?_)
  have n9 : h9.1 = 25 := by rw [e9]; show h8.1 + 1 = 25; rw [n8]
  refine V.putRk dX5_init_37 fl_X5_29 rfl (Or.inr (by rw [n9]; decide)) rfl rfl (fun q hq => by cases hq; exact Or.inr ⟨rfl, rfl, rfl⟩) (fun q hq _ => by cases hq; exact fo_X5_29) ?_
  refine V.nmh (fun h10 e10 => ?_)
  have n10 : h10.1 = 25 := by rw [e10]; exact n9
  refine V.aload_n dX5_init_40 rfl rfl rfl ?_
  refine V.iconst (v := 4) dX5_init_41 rfl ?_
  refine V.newarray (t := 0) (N := 4) dX5_init_42 rfl (by decide) ac_int (by rw [n10]; rfl) (by decide) rfl (by decide) (by rw [n10]; exact ⟨by decide, by decide +kernel⟩) (by rw [n10]; decide +kernel) ?_
  rw [n10]
  refine V.nmh (fun h11 e11 => ?_)
  have n11 : h11.1 = 26 := by rw [e11]; show h10.1 + 1 = 26; rw [n10]
  refine V.putRk dX5_init_44 fl_X5_33 rfl (Or.inr (by rw [n11]; decide)) rfl rfl (fun q hq => by cases hq; exact Or.inr ⟨rfl, rfl, rfl⟩) (fun q hq _ => by cases hq; exact fo_X5_33) ?_
  refine V.nmh (fun h12 e12 => ?_)
  have n12 : h12.1 = 26 := by rw [e12]; exact n11
  refine V.aload_n dX5_init_47 rfl rfl rfl ?_
  refine V.bipush (v := 6) dX5_init_48 rfl ?_
  refine V.newarray (t := 1) (N := 6) dX5_init_50 rfl (by decide) ac_long (by rw [n12]; rfl) (by decide) rfl (by decide) (by rw [n12]; exact ⟨by decide, by decide +kernel⟩) (by rw [n12]; decide +kernel) ?_
  rw [n12]
  refine V.nmh (fun h13 e13 => ?_)
  have n13 : h13.1 = 27 := by rw [e13]; show h12.1 + 1 = 27; rw [n12]
  refine V.putRk dX5_init_52 fl_X5_36 rfl (Or.inr (by rw [n13]; decide)) rfl rfl (fun q hq => by cases hq; exact Or.inr ⟨rfl, rfl, rfl⟩) (fun q hq _ => by cases hq; exact fo_X5_36) ?_
  refine V.nmh (fun h14 e14 => ?_)
  have n14 : h14.1 = 27 := by rw [e14]; exact n13
  refine V.aload_n dX5_init_55 rfl rfl rfl ?_
  refine V.bipush (v := 6) dX5_init_56 rfl ?_
  refine V.newarray (t := 0) (N := 6) dX5_init_58 rfl (by decide) ac_int (by rw [n14]; rfl) (by decide) rfl (by decide) (by rw [n14]; exact ⟨by decide, by decide +kernel⟩) (by rw [n14]; decide +kernel) ?_
  rw [n14]
  refine V.nmh (fun h15 e15 => ?_)
  have n15 : h15.1 = 28 := by rw [e15]; show h14.1 + 1 = 28; rw [n14]
  refine V.putRk dX5_init_60 fl_X5_39 rfl (Or.inr (by rw [n15]; decide)) rfl rfl (fun q hq => by cases hq; exact Or.inr ⟨rfl, rfl, rfl⟩) (fun q hq _ => by cases hq; exact fo_X5_39) ?_
  refine V.nmh (fun h16 e16 => ?_)
  have n16 : h16.1 = 28 := by rw [e16]; exact n15
  refine V.aload_n dX5_init_63 rfl rfl rfl ?_
  refine V.bipush (v := 6) dX5_init_64 rfl ?_
  refine V.newarray (t := 0) (N := 6) dX5_init_66 rfl (by decide) ac_int (by rw [n16]; rfl) (by decide) rfl (by decide) (by rw [n16]; exact ⟨by decide, by decide +kernel⟩) (by rw [n16]; decide +kernel) ?_
  rw [n16]
  refine V.nmh (fun h17 e17 => ?_)
  have n17 : h17.1 = 29 := by rw [e17]; show h16.1 + 1 = 29; rw [n16]
  refine V.putRk dX5_init_68 fl_X5_42 rfl (Or.inr (by rw [n17]; decide)) rfl rfl (fun q hq => by cases hq; exact Or.inr ⟨rfl, rfl, rfl⟩) (fun q hq _ => by cases hq; exact fo_X5_42) ?_
  refine V.nmh (fun h18 e18 => ?_)
  have n18 : h18.1 = 29 := by rw [e18]; exact n17
  refine V.aload_n dX5_init_71 rfl rfl rfl ?_
  refine V.bipush (v := 10) dX5_init_72 rfl ?_
  refine V.newarray (t := 0) (N := 10) dX5_init_74 rfl (by decide) ac_int (by rw [n18]; rfl) (by decide) rfl (by decide) (by rw [n18]; exact ⟨by decide, by decide +kernel⟩) (by rw [n18]; decide +kernel) ?_
  rw [n18]
  refine V.nmh (fun h19 e19 => ?_)
  have n19 : h19.1 = 30 := by rw [e19]; show h18.1 + 1 = 30; rw [n18]
  refine V.putRk dX5_init_76 fl_X5_45 rfl (Or.inr (by rw [n19]; decide)) rfl rfl (fun q hq => by cases hq; exact Or.inr ⟨rfl, rfl, rfl⟩) (fun q hq _ => by cases hq; exact fo_X5_45) ?_
  refine V.nmh (fun h20 e20 => ?_)
  have n20 : h20.1 = 30 := by rw [e20]; exact n19
  refine V.aload_n dX5_init_79 rfl rfl rfl ?_
  refine V.iconst (v := 4) dX5_init_80 rfl ?_
  refine V.newarray (t := 0) (N := 4) dX5_init_81 rfl (by decide) ac_int (by rw [n20]; rfl) (by decide) rfl (by decide) (by rw [n20]; exact ⟨by decide, by decide +kernel⟩) (by rw [n20]; decide +kernel) ?_
  rw [n20]
  refine V.nmh (fun h21 e21 => ?_)
  have n21 : h21.1 = 31 := by rw [e21]; show h20.1 + 1 = 31; rw [n20]
  refine V.putRk dX5_init_83 fl_X5_48 rfl (Or.inr (by rw [n21]; decide)) rfl rfl (fun q hq => by cases hq; exact Or.inr ⟨rfl, rfl, rfl⟩) (fun q hq _ => by cases hq; exact fo_X5_48) ?_
  refine V.nmh (fun h22 e22 => ?_)
  have n22 : h22.1 = 31 := by rw [e22]; exact n21
  refine V.vreturn' dX5_init_86 rfl n0 (Or.inr ⟨n22, by rw [n22]; decide +kernel⟩) ?_
  rw [e22, e21, e20, e19, e18, e17, e16, e15, e14, e13, e12, e11, e10, e9, e8, e7, e6, e5, e4, e3, e2, e1]
  rfl
set_option maxRecDepth 100000 in
theorem mk_X5_31 {h : HP} (n0 : h.1 = 32) : Spec yX5_init cX5_init miX5_init [.ref 31] h (pV fun h' => h' = mT h 31) := by
  refine Spec.of (ls0 := [.ref 31]) mo_X5_init (Nat.le_of_ble_eq_true rfl) rfl ?_
  rw [n0]
  refine V.aload_n dX5_init_0 rfl rfl rfl ?_
  refine V.objInit dX5_init_1 lk_X5_3 oi_in oi_co rfl ⟨Nat.le_of_ble_eq_true rfl, Nat.le_of_ble_eq_true rfl⟩ ?_
  refine V.aload_n dX5_init_4 rfl rfl rfl ?_
  refine V.new dX5_init_5 (ci := 1) (z := 0) rfl cok_X1 kl_X5_9 (by rw [n0]; rfl) (by rw [n0]; exact ⟨by decide, by decide +kernel⟩) (by rw [n0]; decide +kernel) ?_
  rw [n0]
  refine V.nmh (fun h1 e1 => ?_)
  have n1 : h1.1 = 33 := by rw [e1]; show h.1 + 1 = 33; rw [n0]
  refine V.dup dX5_init_8 rfl ?_
  refine V.callIV dX5_init_9 ml_X5_11 mo_X1_init mj_X1_init rfl rfl (mk_X1_32 n1) rfl rfl ⟨Nat.le_of_ble_eq_true rfl, Nat.le_of_ble_eq_true rfl, fun h9 => absurd h9 (by decide)⟩ (Nat.le_of_ble_eq_true rfl) (Or.inr (by rw [n1]; exact ⟨⟨by decide, by decide +kernel⟩, by decide +kernel⟩)) (fun h2 e2 => ?_)
  have n2 : h2.1 = 34 := by rw [e2]; exact mH_1 n1
  refine V.putRk dX5_init_12 fl_X5_12 rfl (Or.inr (by rw [n2]; decide)) rfl rfl (fun q hq => by cases hq; exact Or.inr ⟨rfl, rfl, rfl⟩) (fun q hq _ => by cases hq; exact fo_X5_12) ?_
  refine V.nmh (fun h3 e3 => ?_)
  have n3 : h3.1 = 34 := by rw [e3]; exact n2
  refine V.aload_n dX5_init_15 rfl rfl rfl ?_
  refine V.new dX5_init_16 (ci := 8) (z := 0) rfl cok_X9 kl_X5_18 (by rw [n3]; rfl) (by rw [n3]; exact ⟨by decide, by decide +kernel⟩) (by rw [n3]; decide +kernel) ?_
  rw [n3]
  refine V.nmh (fun h4 e4 => ?_)
  have n4 : h4.1 = 35 := by rw [e4]; show h3.1 + 1 = 35; rw [n3]
  refine V.dup dX5_init_19 rfl ?_
  refine V.callIV dX5_init_20 ml_X5_20 mo_X9_init mj_X9_init rfl rfl (mk_X9_34 n4) rfl rfl ⟨Nat.le_of_ble_eq_true rfl, Nat.le_of_ble_eq_true rfl, fun h9 => absurd h9 (by decide)⟩ (Nat.le_of_ble_eq_true rfl) (Or.inr (by rw [n4]; exact ⟨⟨by decide, by decide +kernel⟩, by decide +kernel⟩)) (fun h5 e5 => ?_)
  have n5 : h5.1 = 40 := by rw [e5]; exact mY_1 n4
  refine V.putRk dX5_init_23 fl_X5_21 rfl (Or.inr (by rw [n5]; decide)) rfl rfl (fun q hq => by cases hq; exact Or.inr ⟨rfl, rfl, rfl⟩) (fun q hq _ => by cases hq; exact fo_X5_21) ?_
  refine V.nmh (fun h6 e6 => ?_)
  have n6 : h6.1 = 40 := by rw [e6]; exact n5
  refine V.aload_n dX5_init_26 rfl rfl rfl ?_
  refine V.iconst (v := 4) dX5_init_27 rfl ?_
  refine V.newarray (t := 1) (N := 4) dX5_init_28 rfl (by decide) ac_long (by rw [n6]; rfl) (by decide) rfl (by decide) (by rw [n6]; exact ⟨by decide, by decide +kernel⟩) (by rw [n6]; decide +kernel) ?_
  rw [n6]
  refine V.nmh (fun h7 e7 => ?_)
  have n7 : h7.1 = 41 := by rw [e7]; show h6.1 + 1 = 41; rw [n6]
  refine V.putRk dX5_init_30 fl_X5_25 rfl (Or.inr (by rw [n7]; decide)) rfl rfl (fun q hq => by cases hq; exact Or.inr ⟨rfl, rfl, rfl⟩) (fun q hq _ => by cases hq; exact fo_X5_25) ?_
  refine V.nmh (fun h8 e8 => ?_)
  have n8 : h8.1 = 41 := by rw [e8]; exact n7
  refine V.aload_n dX5_init_33 rfl rfl rfl ?_
  refine V.iconst (v := 4) dX5_init_34 rfl ?_
  refine V.newarray (t := 0) (N := 4) dX5_init_35 rfl (by decide) ac_int (by rw [n8]; rfl) (by decide) rfl (by decide) (by rw [n8]; exact ⟨by decide, by decide +kernel⟩) (by rw [n8]; decide +kernel) ?_
  rw [n8]
  refine V.nmh (fun h9 e9 => ?_)
  have n9 : h9.1 = 42 := by rw [e9]; show h8.1 + 1 = 42; rw [n8]
  refine V.putRk dX5_init_37 fl_X5_29 rfl (Or.inr (by rw [n9]; decide)) rfl rfl (fun q hq => by cases hq; exact Or.inr ⟨rfl, rfl, rfl⟩) (fun q hq _ => by cases hq; exact fo_X5_29) ?_
  refine V.nmh (fun h10 e10 => ?_)
  have n10 : h10.1 = 42 := by rw [e10]; exact n9
  refine V.aload_n dX5_init_40 rfl rfl rfl ?_
  refine V.iconst (v := 4) dX5_init_41 rfl ?_
  refine V.newarray (t := 0) (N := 4) dX5_init_42 rfl (by decide) ac_int (by rw [n10]; rfl) (by decide) rfl (by decide) (by rw [n10]; exact ⟨by decide, by decide +kernel⟩) (by rw [n10]; decide +kernel) ?_
  rw [n10]
  refine V.nmh (fun h11 e11 => ?_)
  have n11 : h11.1 = 43 := by rw [e11]; show h10.1 + 1 = 43; rw [n10]
  refine V.putRk dX5_init_44 fl_X5_33 rfl (Or.inr (by rw [n11]; decide)) rfl rfl (fun q hq => by cases hq; exact Or.inr ⟨rfl, rfl, rfl⟩) (fun q hq _ => by cases hq; exact fo_X5_33) ?_
  refine V.nmh (fun h12 e12 => ?_)
  have n12 : h12.1 = 43 := by rw [e12]; exact n11
  refine V.aload_n dX5_init_47 rfl rfl rfl ?_
  refine V.bipush (v := 6) dX5_init_48 rfl ?_
  refine V.newarray (t := 1) (N := 6) dX5_init_50 rfl (by decide) ac_long (by rw [n12]; rfl) (by decide) rfl (by decide) (by rw [n12]; exact ⟨by decide, by decide +kernel⟩) (by rw [n12]; decide +kernel) ?_
  rw [n12]
  refine V.nmh (fun h13 e13 => ?_)
  have n13 : h13.1 = 44 := by rw [e13]; show h12.1 + 1 = 44; rw [n12]
  refine V.putRk dX5_init_52 fl_X5_36 rfl (Or.inr (by rw [n13]; decide)) rfl rfl (fun q hq => by cases hq; exact Or.inr ⟨rfl, rfl, rfl⟩) (fun q hq _ => by cases hq; exact fo_X5_36) ?_
  refine V.nmh (fun h14 e14 => ?_)
  have n14 : h14.1 = 44 := by rw [e14]; exact n13
  refine V.aload_n dX5_init_55 rfl rfl rfl ?_
  refine V.bipush (v := 6) dX5_init_56 rfl ?_
  refine V.newarray (t := 0) (N := 6) dX5_init_58 rfl (by decide) ac_int (by rw [n14]; rfl) (by decide) rfl (by decide) (by rw [n14]; exact ⟨by decide, by decide +kernel⟩) (by rw [n14]; decide +kernel) ?_
  rw [n14]
  refine V.nmh (fun h15 e15 => ?_)
  have n15 : h15.1 = 45 := by rw [e15]; show h14.1 + 1 = 45; rw [n14]
  refine V.putRk dX5_init_60 fl_X5_39 rfl (Or.inr (by rw [n15]; decide)) rfl rfl (fun q hq => by cases hq; exact Or.inr ⟨rfl, rfl, rfl⟩) (fun q hq _ => by cases hq; exact fo_X5_39) ?_
  refine V.nmh (fun h16 e16 => ?_)
  have n16 : h16.1 = 45 := by rw [e16]; exact n15
  refine V.aload_n dX5_init_63 rfl rfl rfl ?_
  refine V.bipush (v := 6) dX5_init_64 rfl ?_
  refine V.newarray (t := 0) (N := 6) dX5_init_66 rfl (by decide) ac_int (by rw [n16]; rfl) (by decide) rfl (by decide) (by rw [n16]; exact ⟨by decide, by decide +kernel⟩) (by rw [n16]; decide +kernel) ?_
  rw [n16]
  refine V.nmh (fun h17 e17 => ?_)
  have n17 : h17.1 = 46 := by rw [e17]; show h16.1 + 1 = 46; rw [n16]
  refine V.putRk dX5_init_68 fl_X5_42 rfl (Or.inr (by rw [n17]; decide)) rfl rfl (fun q hq => by cases hq; exact Or.inr ⟨rfl, rfl, rfl⟩) (fun q hq _ => by cases hq; exact fo_X5_42) ?_
  refine V.nmh (fun h18 e18 => ?_)
  have n18 : h18.1 = 46 := by rw [e18]; exact n17
  refine V.aload_n dX5_init_71 rfl rfl rfl ?_
  refine V.bipush (v := 10) dX5_init_72 rfl ?_
  refine V.newarray (t := 0) (N := 10) dX5_init_74 rfl (by decide) ac_int (by rw [n18]; rfl) (by decide) rfl (by decide) (by rw [n18]; exact ⟨by decide, by decide +kernel⟩) (by rw [n18]; decide +kernel) ?_
  rw [n18]
  refine V.nmh (fun h19 e19 => ?_)
  have n19 : h19.1 = 47 := by rw [e19]; show h18.1 + 1 = 47; rw [n18]
  refine V.putRk dX5_init_76 fl_X5_45 rfl (Or.inr (by rw [n19]; decide)) rfl rfl (fun q hq => by cases hq; exact Or.inr ⟨rfl, rfl, rfl⟩) (fun q hq _ => by cases hq; exact fo_X5_45) ?_
  refine V.nmh (fun h20 e20 => ?_)
  have n20 : h20.1 = 47 := by rw [e20]; exact n19
  refine V.aload_n dX5_init_79 rfl rfl rfl ?_
  refine V.iconst (v := 4) dX5_init_80 rfl ?_
  refine V.newarray (t := 0) (N := 4) dX5_init_81 rfl (by decide) ac_int (by rw [n20]; rfl) (by decide) rfl (by decide) (by rw [n20]; exact ⟨by decide, by decide +kernel⟩) (by rw [n20]; decide +kernel) ?_
  rw [n20]
  refine V.nmh (fun h21 e21 => ?_)
  have n21 : h21.1 = 48 := by rw [e21]; show h20.1 + 1 = 48; rw [n20]
  refine V.putRk dX5_init_83 fl_X5_48 rfl (Or.inr (by rw [n21]; decide)) rfl rfl (fun q hq => by cases hq; exact Or.inr ⟨rfl, rfl, rfl⟩) (fun q hq _ => by cases hq; exact fo_X5_48) ?_
  refine V.nmh (fun h22 e22 => ?_)
  have n22 : h22.1 = 48 := by rw [e22]; exact n21
  refine V.vreturn' dX5_init_86 rfl n0 (Or.inr ⟨n22, by rw [n22]; decide +kernel⟩) ?_
  rw [e22, e21, e20, e19, e18, e17, e16, e15, e14, e13, e12, e11, e10, e9, e8, e7, e6, e5, e4, e3, e2, e1]
  rfl
set_option maxRecDepth 100000 in
theorem mk_X5_48 {h : HP} (n0 : h.1 = 49) : Spec yX5_init cX5_init miX5_init [.ref 48] h (pV fun h' => h' = mT h 48) := by
  refine Spec.of (ls0 := [.ref 48]) mo_X5_init (Nat.le_of_ble_eq_true rfl) rfl ?_
  rw [n0]
  refine V.aload_n dX5_init_0 rfl rfl rfl ?_
  refine V.objInit dX5_init_1 lk_X5_3 oi_in oi_co rfl ⟨Nat.le_of_ble_eq_true rfl, Nat.le_of_ble_eq_true rfl⟩ ?_
  refine V.aload_n dX5_init_4 rfl rfl rfl ?_
  refine V.new dX5_init_5 (ci := 1) (z := 0) rfl cok_X1 kl_X5_9 (by rw [n0]; rfl) (by rw [n0]; exact ⟨by decide, by decide +kernel⟩) (by rw [n0]; decide +kernel) ?_
  rw [n0]
  refine V.nmh (fun h1 e1 => ?_)
  have n1 : h1.1 = 50 := by rw [e1]; show h.1 + 1 = 50; rw [n0]
  refine V.dup dX5_init_8 rfl ?_
  refine V.callIV dX5_init_9 ml_X5_11 mo_X1_init mj_X1_init rfl rfl (mk_X1_49 n1) rfl rfl ⟨Nat.le_of_ble_eq_true rfl, Nat.le_of_ble_eq_true rfl, fun h9 => absurd h9 (by decide)⟩ (Nat.le_of_ble_eq_true rfl) (Or.inr (by rw [n1]; exact ⟨⟨by decide, by decide +kernel⟩, by decide +kernel⟩)) (fun h2 e2 => ?_)
  have n2 : h2.1 = 51 := by rw [e2]; exact mH_1 n1
  refine V.putRk dX5_init_12 fl_X5_12 rfl (Or.inr (by rw [n2]; decide)) rfl rfl (fun q hq => by cases hq; exact Or.inr ⟨rfl, rfl, rfl⟩) (fun q hq _ => by cases hq; exact fo_X5_12) ?_
  refine V.nmh (fun h3 e3 => ?_)
  have n3 : h3.1 = 51 := by rw [e3]; exact n2
  refine V.aload_n dX5_init_15 rfl rfl rfl ?_
  refine V.new dX5_init_16 (ci := 8) (z := 0) rfl cok_X9 kl_X5_18 (by rw [n3]; rfl) (by rw [n3]; exact ⟨by decide, by decide +kernel⟩) (by rw [n3]; decide +kernel) ?_
  rw [n3]
  refine V.nmh (fun h4 e4 => ?_)
  have n4 : h4.1 = 52 := by rw [e4]; show h3.1 + 1 = 52; rw [n3]
  refine V.dup dX5_init_19 rfl ?_
  refine V.callIV dX5_init_20 ml_X5_20 mo_X9_init mj_X9_init rfl rfl (mk_X9_51 n4) rfl rfl ⟨Nat.le_of_ble_eq_true rfl, Nat.le_of_ble_eq_true rfl, fun h9 => absurd h9 (by decide)⟩ (Nat.le_of_ble_eq_true rfl) (Or.inr (by rw [n4]; exact ⟨⟨by decide, by decide +kernel⟩, by decide +kernel⟩)) (fun h5 e5 => ?_)
  have n5 : h5.1 = 57 := by rw [e5]; exact mY_1 n4
  refine V.putRk dX5_init_23 fl_X5_21 rfl (Or.inr (by rw [n5]; decide)) rfl rfl (fun q hq => by cases hq; exact Or.inr ⟨rfl, rfl, rfl⟩) (fun q hq _ => by cases hq; exact fo_X5_21) ?_
  refine V.nmh (fun h6 e6 => ?_)
  have n6 : h6.1 = 57 := by rw [e6]; exact n5
  refine V.aload_n dX5_init_26 rfl rfl rfl ?_
  refine V.iconst (v := 4) dX5_init_27 rfl ?_
  refine V.newarray (t := 1) (N := 4) dX5_init_28 rfl (by decide) ac_long (by rw [n6]; rfl) (by decide) rfl (by decide) (by rw [n6]; exact ⟨by decide, by decide +kernel⟩) (by rw [n6]; decide +kernel) ?_
  rw [n6]
  refine V.nmh (fun h7 e7 => ?_)
  have n7 : h7.1 = 58 := by rw [e7]; show h6.1 + 1 = 58; rw [n6]
  refine V.putRk dX5_init_30 fl_X5_25 rfl (Or.inr (by rw [n7]; decide)) rfl rfl (fun q hq => by cases hq; exact Or.inr ⟨rfl, rfl, rfl⟩) (fun q hq _ => by cases hq; exact fo_X5_25) ?_
  refine V.nmh (fun h8 e8 => ?_)
  have n8 : h8.1 = 58 := by rw [e8]; exact n7
  refine V.aload_n dX5_init_33 rfl rfl rfl ?_
  refine V.iconst (v := 4) dX5_init_34 rfl ?_
  refine V.newarray (t := 0) (N := 4) dX5_init_35 rfl (by decide) ac_int (by rw [n8]; rfl) (by decide) rfl (by decide) (by rw [n8]; exact ⟨by decide, by decide +kernel⟩) (by rw [n8]; decide +kernel) ?_
  rw [n8]
  refine V.nmh (fun h9 e9 => ?_)
  have n9 : h9.1 = 59 := by rw [e9]; show h8.1 + 1 = 59; rw [n8]
  refine V.putRk dX5_init_37 fl_X5_29 rfl (Or.inr (by rw [n9]; decide)) rfl rfl (fun q hq => by cases hq; exact Or.inr ⟨rfl, rfl, rfl⟩) (fun q hq _ => by cases hq; exact fo_X5_29) ?_
  refine V.nmh (fun h10 e10 => ?_)
  have n10 : h10.1 = 59 := by rw [e10]; exact n9
  refine V.aload_n dX5_init_40 rfl rfl rfl ?_
  refine V.iconst (v := 4) dX5_init_41 rfl ?_
  refine V.newarray (t := 0) (N := 4) dX5_init_42 rfl (by decide) ac_int (by rw [n10]; rfl) (by decide) rfl (by decide) (by rw [n10]; exact ⟨by decide, by decide +kernel⟩) (by rw [n10]; decide +kernel) ?_
  rw [n10]
  refine V.nmh (fun h11 e11 => ?_)
  have n11 : h11.1 = 60 := by rw [e11]; show h10.1 + 1 = 60; rw [n10]
  refine V.putRk dX5_init_44 fl_X5_33 rfl (Or.inr (by rw [n11]; decide)) rfl rfl (fun q hq => by cases hq; exact Or.inr ⟨rfl, rfl, rfl⟩) (fun q hq _ => by cases hq; exact fo_X5_33) ?_
  refine V.nmh (fun h12 e12 => ?_)
  have n12 : h12.1 = 60 := by rw [e12]; exact n11
  refine V.aload_n dX5_init_47 rfl rfl rfl ?_
  refine V.bipush (v := 6) dX5_init_48 rfl ?_
  refine V.newarray (t := 1) (N := 6) dX5_init_50 rfl (by decide) ac_long (by rw [n12]; rfl) (by decide) rfl (by decide) (by rw [n12]; exact ⟨by decide, by decide +kernel⟩) (by rw [n12]; decide +kernel) ?_
  rw [n12]
  refine V.nmh (fun h13 e13 => ?_)
  have n13 : h13.1 = 61 := by rw [e13]; show h12.1 + 1 = 61; rw [n12]
  refine V.putRk dX5_init_52 fl_X5_36 rfl (Or.inr (by rw [n13]; decide)) rfl rfl (fun q hq => by cases hq; exact Or.inr ⟨rfl, rfl, rfl⟩) (fun q hq _ => by cases hq; exact fo_X5_36) ?_
  refine V.nmh (fun h14 e14 => ?_)
  have n14 : h14.1 = 61 := by rw [e14]; exact n13
  refine V.aload_n dX5_init_55 rfl rfl rfl ?_
  refine V.bipush (v := 6) dX5_init_56 rfl ?_
  refine V.newarray (t := 0) (N := 6) dX5_init_58 rfl (by decide) ac_int (by rw [n14]; rfl) (by decide) rfl (by decide) (by rw [n14]; exact ⟨by decide, by decide +kernel⟩) (by rw [n14]; decide +kernel) ?_
  rw [n14]
  refine V.nmh (fun h15 e15 => ?_)
  have n15 : h15.1 = 62 := by rw [e15]; show h14.1 + 1 = 62; rw [n14]
  refine V.putRk dX5_init_60 fl_X5_39 rfl (Or.inr (by rw [n15]; decide)) rfl rfl (fun q hq => by cases hq; exact Or.inr ⟨rfl, rfl, rfl⟩) (fun q hq _ => by cases hq; exact fo_X5_39) ?_
  refine V.nmh (fun h16 e16 => ?_)
  have n16 : h16.1 = 62 := by rw [e16]; exact n15
  refine V.aload_n dX5_init_63 rfl rfl rfl ?_
  refine V.bipush (v := 6) dX5_init_64 rfl ?_
  refine V.newarray (t := 0) (N := 6) dX5_init_66 rfl (by decide) ac_int (by rw [n16]; rfl) (by decide) rfl (by decide) (by rw [n16]; exact ⟨by decide, by decide +kernel⟩) (by rw [n16]; decide +kernel) ?_
  rw [n16]
  refine V.nmh (fun h17 e17 => ?_)
  have n17 : h17.1 = 63 := by rw [e17]; show h16.1 + 1 = 63; rw [n16]
  refine V.putRk dX5_init_68 fl_X5_42 rfl (Or.inr (by rw [n17]; decide)) rfl rfl (fun q hq => by cases hq; exact Or.inr ⟨rfl, rfl, rfl⟩) (fun q hq _ => by cases hq; exact fo_X5_42) ?_
  refine V.nmh (fun h18 e18 => ?_)
  have n18 : h18.1 = 63 := by rw [e18]; exact n17
  refine V.aload_n dX5_init_71 rfl rfl rfl ?_
  refine V.bipush (v := 10) dX5_init_72 rfl ?_
  refine V.newarray (t := 0) (N := 10) dX5_init_74 rfl (by decide) ac_int (by rw [n18]; rfl) (by decide) rfl (by decide) (by rw [n18]; exact ⟨by decide, by decide +kernel⟩) (by rw [n18]; decide +kernel) ?_
  rw [n18]
  refine V.nmh (fun h19 e19 => ?_)
  have n19 : h19.1 = 64 := by rw [e19]; show h18.1 + 1 = 64; rw [n18]
  refine V.putRk dX5_init_76 fl_X5_45 rfl (Or.inr (by rw [n19]; decide)) rfl rfl (fun q hq => by cases hq; exact Or.inr ⟨rfl, rfl, rfl⟩) (fun q hq _ => by cases hq; exact fo_X5_45) ?_
  refine V.nmh (fun h20 e20 => ?_)
  have n20 : h20.1 = 64 := by rw [e20]; exact n19
  refine V.aload_n dX5_init_79 rfl rfl rfl ?_
  refine V.iconst (v := 4) dX5_init_80 rfl ?_
  refine V.newarray (t := 0) (N := 4) dX5_init_81 rfl (by decide) ac_int (by rw [n20]; rfl) (by decide) rfl (by decide) (by rw [n20]; exact ⟨by decide, by decide +kernel⟩) (by rw [n20]; decide +kernel) ?_
  rw [n20]
  refine V.nmh (fun h21 e21 => ?_)
  have n21 : h21.1 = 65 := by rw [e21]; show h20.1 + 1 = 65; rw [n20]
  refine V.putRk dX5_init_83 fl_X5_48 rfl (Or.inr (by rw [n21]; decide)) rfl rfl (fun q hq => by cases hq; exact Or.inr ⟨rfl, rfl, rfl⟩) (fun q hq _ => by cases hq; exact fo_X5_48) ?_
  refine V.nmh (fun h22 e22 => ?_)
  have n22 : h22.1 = 65 := by rw [e22]; exact n21
  refine V.vreturn' dX5_init_86 rfl n0 (Or.inr ⟨n22, by rw [n22]; decide +kernel⟩) ?_
  rw [e22, e21, e20, e19, e18, e17, e16, e15, e14, e13, e12, e11, e10, e9, e8, e7, e6, e5, e4, e3, e2, e1]
  rfl
set_option maxRecDepth 100000 in
theorem mk_X5_79 {h : HP} (n0 : h.1 = 80) : Spec yX5_init cX5_init miX5_init [.ref 79] h (pV fun h' => h' = mT h 79) := by
  refine Spec.of (ls0 := [.ref 79]) mo_X5_init (Nat.le_of_ble_eq_true rfl) rfl ?_
  rw [n0]
  refine V.aload_n dX5_init_0 rfl rfl rfl ?_
  refine V.objInit dX5_init_1 lk_X5_3 oi_in oi_co rfl ⟨Nat.le_of_ble_eq_true rfl, Nat.le_of_ble_eq_true rfl⟩ ?_
  refine V.aload_n dX5_init_4 rfl rfl rfl ?_
  refine V.new dX5_init_5 (ci := 1) (z := 0) rfl cok_X1 kl_X5_9 (by rw [n0]; rfl) (by rw [n0]; exact ⟨by decide, by decide +kernel⟩) (by rw [n0]; decide +kernel) ?_
  rw [n0]
  refine V.nmh (fun h1 e1 => ?_)
  have n1 : h1.1 = 81 := by rw [e1]; show h.1 + 1 = 81; rw [n0]
  refine V.dup dX5_init_8 rfl ?_
  refine V.callIV dX5_init_9 ml_X5_11 mo_X1_init mj_X1_init rfl rfl (mk_X1_80 n1) rfl rfl ⟨Nat.le_of_ble_eq_true rfl, Nat.le_of_ble_eq_true rfl, fun h9 => absurd h9 (by decide)⟩ (Nat.le_of_ble_eq_true rfl) (Or.inr (by rw [n1]; exact ⟨⟨by decide, by decide +kernel⟩, by decide +kernel⟩)) (fun h2 e2 => ?_)
  have n2 : h2.1 = 82 := by rw [e2]; exact mH_1 n1
  refine V.putRk dX5_init_12 fl_X5_12 rfl (Or.inr (by rw [n2]; decide)) rfl rfl (fun q hq => by cases hq; exact Or.inr ⟨rfl, rfl, rfl⟩) (fun q hq _ => by cases hq; exact fo_X5_12) ?_
  refine V.nmh (fun h3 e3 => ?_)
  have n3 : h3.1 = 82 := by rw [e3]; exact n2
  refine V.aload_n dX5_init_15 rfl rfl rfl ?_
  refine V.new dX5_init_16 (ci := 8) (z := 0) rfl cok_X9 kl_X5_18 (by rw [n3]; rfl) (by rw [n3]; exact ⟨by decide, by decide +kernel⟩) (by rw [n3]; decide +kernel) ?_
  rw [n3]
  refine V.nmh (fun h4 e4 => ?_)
  have n4 : h4.1 = 83 := by rw [e4]; show h3.1 + 1 = 83; rw [n3]
  refine V.dup dX5_init_19 rfl ?_
  refine V.callIV dX5_init_20 ml_X5_20 mo_X9_init mj_X9_init rfl rfl (mk_X9_82 n4) rfl rfl ⟨Nat.le_of_ble_eq_true rfl, Nat.le_of_ble_eq_true rfl, fun h9 => absurd h9 (by decide)⟩ (Nat.le_of_ble_eq_true rfl) (Or.inr (by rw [n4]; exact ⟨⟨by decide, by decide +kernel⟩, by decide +kernel⟩)) (fun h5 e5 => ?_)
  have n5 : h5.1 = 88 := by rw [e5]; exact mY_1 n4
  refine V.putRk dX5_init_23 fl_X5_21 rfl (Or.inr (by rw [n5]; decide)) rfl rfl (fun q hq => by cases hq; exact Or.inr ⟨rfl, rfl, rfl⟩) (fun q hq _ => by cases hq; exact fo_X5_21) ?_
  refine V.nmh (fun h6 e6 => ?_)
  have n6 : h6.1 = 88 := by rw [e6]; exact n5
  refine V.aload_n dX5_init_26 rfl rfl rfl ?_
  refine V.iconst (v := 4) dX5_init_27 rfl ?_
  refine V.newarray (t := 1) (N := 4) dX5_init_28 rfl (by decide) ac_long (by rw [n6]; rfl) (by decide) rfl (by decide) (by rw [n6]; exact ⟨by decide, by decide +kernel⟩) (by rw [n6]; decide +kernel) ?_
  rw [n6]
  refine V.nmh (fun h7 e7 => ?_)
  have n7 : h7.1 = 89 := by rw [e7]; show h6.1 + 1 = 89; rw [n6]
  refine V.putRk dX5_init_30 fl_X5_25 rfl (Or.inr (by rw [n7]; decide)) rfl rfl (fun q hq => by cases hq; exact Or.inr ⟨rfl, rfl, rfl⟩) (fun q hq _ => by cases hq; exact fo_X5_25) ?_
  refine V.nmh (fun h8 e8 => ?_)
  have n8 : h8.1 = 89 := by rw [e8]; exact n7
  refine V.aload_n dX5_init_33 rfl rfl rfl ?_
  refine V.iconst (v := 4) dX5_init_34 rfl ?_
  refine V.newarray (t := 0) (N := 4) dX5_init_35 rfl (by decide) ac_int (by rw [n8]; rfl) (by decide) rfl (by decide) (by rw [n8]; exact ⟨by decide, by decide +kernel⟩) (by rw [n8]; decide +kernel) ?_
  rw [n8]
  refine V.nmh (fun h9 e9 => ?_)
  have n9 : h9.1 = 90 := by rw [e9]; show h8.1 + 1 = 90; rw [n8]
  refine V.putRk dX5_init_37 fl_X5_29 rfl (Or.inr (by rw [n9]; decide)) rfl rfl (fun q hq => by cases hq; exact Or.inr ⟨rfl, rfl, rfl⟩) (fun q hq _ => by cases hq; exact fo_X5_29) ?_
  refine V.nmh (fun h10 e10 => ?_)
  have n10 : h10.1 = 90 := by rw [e10]; exact n9
  refine V.aload_n dX5_init_40 rfl rfl rfl ?_
  refine V.iconst (v := 4) dX5_init_41 rfl ?_
  refine V.newarray (t := 0) (N := 4) dX5_init_42 rfl (by decide) ac_int (by rw [n10]; rfl) (by decide) rfl (by decide) (by rw [n10]; exact ⟨by decide, by decide +kernel⟩) (by rw [n10]; decide +kernel) ?_
  rw [n10]
  refine V.nmh (fun h11 e11 => ?_)
  have n11 : h11.1 = 91 := by rw [e11]; show h10.1 + 1 = 91; rw [n10]
  refine V.putRk dX5_init_44 fl_X5_33 rfl (Or.inr (by rw [n11]; decide)) rfl rfl (fun q hq => by cases hq; exact Or.inr ⟨rfl, rfl, rfl⟩) (fun q hq _ => by cases hq; exact fo_X5_33) ?_
  refine V.nmh (fun h12 e12 => ?_)
  have n12 : h12.1 = 91 := by rw [e12]; exact n11
  refine V.aload_n dX5_init_47 rfl rfl rfl ?_
  refine V.bipush (v := 6) dX5_init_48 rfl ?_
  refine V.newarray (t := 1) (N := 6) dX5_init_50 rfl (by decide) ac_long (by rw [n12]; rfl) (by decide) rfl (by decide) (by rw [n12]; exact ⟨by decide, by decide +kernel⟩) (by rw [n12]; decide +kernel) ?_
  rw [n12]
  refine V.nmh (fun h13 e13 => ?_)
  have n13 : h13.1 = 92 := by rw [e13]; show h12.1 + 1 = 92; rw [n12]
  refine V.putRk dX5_init_52 fl_X5_36 rfl (Or.inr (by rw [n13]; decide)) rfl rfl (fun q hq => by cases hq; exact Or.inr ⟨rfl, rfl, rfl⟩) (fun q hq _ => by cases hq; exact fo_X5_36) ?_
  refine V.nmh (fun h14 e14 => ?_)
  have n14 : h14.1 = 92 := by rw [e14]; exact n13
  refine V.aload_n dX5_init_55 rfl rfl rfl ?_
  refine V.bipush (v := 6) dX5_init_56 rfl ?_
  refine V.newarray (t := 0) (N := 6) dX5_init_58 rfl (by decide) ac_int (by rw [n14]; rfl) (by decide) rfl (by decide) (by rw [n14]; exact ⟨by decide, by decide +kernel⟩) (by rw [n14]; decide +kernel) ?_
  rw [n14]
  refine V.nmh (fun h15 e15 => ?_)
  have n15 : h15.1 = 93 := by rw [e15]; show h14.1 + 1 = 93; rw [n14]
  refine V.putRk dX5_init_60 fl_X5_39 rfl (Or.inr (by rw [n15]; decide)) rfl rfl (fun q hq => by cases hq; exact Or.inr ⟨rfl, rfl, rfl⟩) (fun q hq _ => by cases hq; exact fo_X5_39) ?_
  refine V.nmh (fun h16 e16 => ?_)
  have n16 : h16.1 = 93 := by rw [e16]; exact n15
  refine V.aload_n dX5_init_63 rfl rfl rfl ?_
  refine V.bipush (v := 6) dX5_init_64 rfl ?_
  refine V.newarray (t := 0) (N := 6) dX5_init_66 rfl (by decide) ac_int (by rw [n16]; rfl) (by decide) rfl (by decide) (by rw [n16]; exact ⟨by decide, by decide +kernel⟩) (by rw [n16]; decide +kernel) ?_
  rw [n16]
  refine V.nmh (fun h17 e17 => ?_)
  have n17 : h17.1 = 94 := by rw [e17]; show h16.1 + 1 = 94; rw [n16]
  refine V.putRk dX5_init_68 fl_X5_42 rfl (Or.inr (by rw [n17]; decide)) rfl rfl (fun q hq => by cases hq; exact Or.inr ⟨rfl, rfl, rfl⟩) (fun q hq _ => by cases hq; exact fo_X5_42) ?_
  refine V.nmh (fun h18 e18 => ?_)
  have n18 : h18.1 = 94 := by rw [e18]; exact n17
  refine V.aload_n dX5_init_71 rfl rfl rfl ?_
  refine V.bipush (v := 10) dX5_init_72 rfl ?_
  refine V.newarray (t := 0) (N := 10) dX5_init_74 rfl (by decide) ac_int (by rw [n18]; rfl) (by decide) rfl (by decide) (by rw [n18]; exact ⟨by decide, by decide +kernel⟩) (by rw [n18]; decide +kernel) ?_
  rw [n18]
  refine V.nmh (fun h19 e19 => ?_)
  have n19 : h19.1 = 95 := by rw [e19]; show h18.1 + 1 = 95; rw [n18]
  refine V.putRk dX5_init_76 fl_X5_45 rfl (Or.inr (by rw [n19]; decide)) rfl rfl (fun q hq => by cases hq; exact Or.inr ⟨rfl, rfl, rfl⟩) (fun q hq _ => by cases hq; exact fo_X5_45) ?_
  refine V.nmh (fun h20 e20 => ?_)
  have n20 : h20.1 = 95 := by rw [e20]; exact n19
  refine V.aload_n dX5_init_79 rfl rfl rfl ?_
  refine V.iconst (v := 4) dX5_init_80 rfl ?_
  refine V.newarray (t := 0) (N := 4) dX5_init_81 rfl (by decide) ac_int (by rw [n20]; rfl) (by decide) rfl (by decide) (by rw [n20]; exact ⟨by decide, by decide +kernel⟩) (by rw [n20]; decide +kernel) ?_
  rw [n20]
  refine V.nmh (fun h21 e21 => ?_)
  have n21 : h21.1 = 96 := by rw [e21]; show h20.1 + 1 = 96; rw [n20]
  refine V.putRk dX5_init_83 fl_X5_48 rfl (Or.inr (by rw [n21]; decide)) rfl rfl (fun q hq => by cases hq; exact Or.inr ⟨rfl, rfl, rfl⟩) (fun q hq _ => by cases hq; exact fo_X5_48) ?_
  refine V.nmh (fun h22 e22 => ?_)
  have n22 : h22.1 = 96 := by rw [e22]; exact n21
  refine V.vreturn' dX5_init_86 rfl n0 (Or.inr ⟨n22, by rw [n22]; decide +kernel⟩) ?_
  rw [e22, e21, e20, e19, e18, e17, e16, e15, e14, e13, e12, e11, e10, e9, e8, e7, e6, e5, e4, e3, e2, e1]
  rfl
set_option maxRecDepth 100000 in
theorem mk_X5_96 {h : HP} (n0 : h.1 = 97) : Spec yX5_init cX5_init miX5_init [.ref 96] h (pV fun h' => h' = mT h 96) := by
  refine Spec.of (ls0 := [.ref 96]) mo_X5_init (Nat.le_of_ble_eq_true rfl) rfl ?_
  rw [n0]
  refine V.aload_n dX5_init_0 rfl rfl rfl ?_
  refine V.objInit dX5_init_1 lk_X5_3 oi_in oi_co rfl ⟨Nat.le_of_ble_eq_true rfl, Nat.le_of_ble_eq_true rfl⟩ ?_
  refine V.aload_n dX5_init_4 rfl rfl rfl ?_
  refine V.new dX5_init_5 (ci := 1) (z := 0) rfl cok_X1 kl_X5_9 (by rw [n0]; rfl) (by rw [n0]; exact ⟨by decide, by decide +kernel⟩) (by rw [n0]; decide +kernel) ?_
  rw [n0]
  refine V.nmh (fun h1 e1 => ?_)
  have n1 : h1.1 = 98 := by rw [e1]; show h.1 + 1 = 98; rw [n0]
  refine V.dup dX5_init_8 rfl ?_
  refine V.callIV dX5_init_9 ml_X5_11 mo_X1_init mj_X1_init rfl rfl (mk_X1_97 n1) rfl rfl ⟨Nat.le_of_ble_eq_true rfl, Nat.le_of_ble_eq_true rfl, fun h9 => absurd h9 (by decide)⟩ (Nat.le_of_ble_eq_true rfl) (Or.inr (by rw [n1]; exact ⟨⟨by decide, by decide +kernel⟩, by decide +kernel⟩)) (fun h2 e2 => ?_)
  have n2 : h2.1 = 99 := by rw [e2]; exact mH_1 n1
  refine V.putRk dX5_init_12 fl_X5_12 rfl (Or.inr (by rw [n2]; decide)) rfl rfl (fun q hq => by cases hq; exact Or.inr ⟨rfl, rfl, rfl⟩) (fun q hq _ => by cases hq; exact fo_X5_12) ?_
  refine V.nmh (fun h3 e3 => ?_)
  have n3 : h3.1 = 99 := by rw [e3]; exact n2
  refine V.aload_n dX5_init_15 rfl rfl rfl ?_
  refine V.new dX5_init_16 (ci := 8) (z := 0) rfl cok_X9 kl_X5_18 (by rw [n3]; rfl) (by rw [n3]; exact ⟨by decide, by decide +kernel⟩) (by rw [n3]; decide +kernel) ?_
  rw [n3]
  refine V.nmh (fun h4 e4 => ?_)
  have n4 : h4.1 = 100 := by rw [e4]; show h3.1 + 1 = 100; rw [n3]
  refine V.dup dX5_init_19 rfl ?_
  refine V.callIV dX5_init_20 ml_X5_20 mo_X9_init mj_X9_init rfl rfl (mk_X9_99 n4) rfl rfl ⟨Nat.le_of_ble_eq_true rfl, Nat.le_of_ble_eq_true rfl, fun h9 => absurd h9 (by decide)⟩ (Nat.le_of_ble_eq_true rfl) (Or.inr (by rw [n4]; exact ⟨⟨by decide, by decide +kernel⟩, by decide +kernel⟩)) (fun h5 e5 => ?_)
  have n5 : h5.1 = 105 := by rw [e5]; exact mY_1 n4
  refine V.putRk dX5_init_23 fl_X5_21 rfl (Or.inr (by rw [n5]; decide)) rfl rfl (fun q hq => by cases hq; exact Or.inr ⟨rfl, rfl, rfl⟩) (fun q hq _ => by cases hq; exact fo_X5_21) ?_
  refine V.nmh (fun h6 e6 => ?_)
  have n6 : h6.1 = 105 := by rw [e6]; exact n5
  refine V.aload_n dX5_init_26 rfl rfl rfl ?_
  refine V.iconst (v := 4) dX5_init_27 rfl ?_
  refine V.newarray (t := 1) (N := 4) dX5_init_28 rfl (by decide) ac_long (by rw [n6]; rfl) (by decide) rfl (by decide) (by rw [n6]; exact ⟨by decide, by decide +kernel⟩) (by rw [n6]; decide +kernel) ?_
  rw [n6]
  refine V.nmh (fun h7 e7 => ?_)
  have n7 : h7.1 = 106 := by rw [e7]; show h6.1 + 1 = 106; rw [n6]
  refine V.putRk dX5_init_30 fl_X5_25 rfl (Or.inr (by rw [n7]; decide)) rfl rfl (fun q hq => by cases hq; exact Or.inr ⟨rfl, rfl, rfl⟩) (fun q hq _ => by cases hq; exact fo_X5_25) ?_
  refine V.nmh (fun h8 e8 => ?_)
  have n8 : h8.1 = 106 := by rw [e8]; exact n7
  refine V.aload_n dX5_init_33 rfl rfl rfl ?_
  refine V.iconst (v := 4) dX5_init_34 rfl ?_
  refine V.newarray (t := 0) (N := 4) dX5_init_35 rfl (by decide) ac_int (by rw [n8]; rfl) (by decide) rfl (by decide) (by rw [n8]; exact ⟨by decide, by decide +kernel⟩) (by rw [n8]; decide +kernel) ?_
  rw [n8]
  refine V.nmh (fun h9 e9 => ?_)
  have n9 : h9.1 = 107 := by rw [e9]; show h8.1 + 1 = 107; rw [n8]
  refine V.putRk dX5_init_37 fl_X5_29 rfl (Or.inr (by rw [n9]; decide)) rfl rfl (fun q hq => by cases hq; exact Or.inr ⟨rfl, rfl, rfl⟩) (fun q hq _ => by cases hq; exact fo_X5_29) ?_
  refine V.nmh (fun h10 e10 => ?_)
  have n10 : h10.1 = 107 := by rw [e10]; exact n9
  refine V.aload_n dX5_init_40 rfl rfl rfl ?_
  refine V.iconst (v := 4) dX5_init_41 rfl ?_
  refine V.newarray (t := 0) (N := 4) dX5_init_42 rfl (by decide) ac_int (by rw [n10]; rfl) (by decide) rfl (by decide) (by rw [n10]; exact ⟨by decide, by decide +kernel⟩) (by rw [n10]; decide +kernel) ?_
  rw [n10]
  refine V.nmh (fun h11 e11 => ?_)
  have n11 : h11.1 = 108 := by rw [e11]; show h10.1 + 1 = 108; rw [n10]
  refine V.putRk dX5_init_44 fl_X5_33 rfl (Or.inr (by rw [n11]; decide)) rfl rfl (fun q hq => by cases hq; exact Or.inr ⟨rfl, rfl, rfl⟩) (fun q hq _ => by cases hq; exact fo_X5_33) ?_
  refine V.nmh (fun h12 e12 => ?_)
  have n12 : h12.1 = 108 := by rw [e12]; exact n11
  refine V.aload_n dX5_init_47 rfl rfl rfl ?_
  refine V.bipush (v := 6) dX5_init_48 rfl ?_
  refine V.newarray (t := 1) (N := 6) dX5_init_50 rfl (by decide) ac_long (by rw [n12]; rfl) (by decide) rfl (by decide) (by rw [n12]; exact ⟨by decide, by decide +kernel⟩) (by rw [n12]; decide +kernel) ?_
  rw [n12]
  refine V.nmh (fun h13 e13 => ?_)
  have n13 : h13.1 = 109 := by rw [e13]; show h12.1 + 1 = 109; rw [n12]
  refine V.putRk dX5_init_52 fl_X5_36 rfl (Or.inr (by rw [n13]; decide)) rfl rfl (fun q hq => by cases hq; exact Or.inr ⟨rfl, rfl, rfl⟩) (fun q hq _ => by cases hq; exact fo_X5_36) ?_
  refine V.nmh (fun h14 e14 => ?_)
  have n14 : h14.1 = 109 := by rw [e14]; exact n13
  refine V.aload_n dX5_init_55 rfl rfl rfl ?_
  refine V.bipush (v := 6) dX5_init_56 rfl ?_
  refine V.newarray (t := 0) (N := 6) dX5_init_58 rfl (by decide) ac_int (by rw [n14]; rfl) (by decide) rfl (by decide) (by rw [n14]; exact ⟨by decide, by decide +kernel⟩) (by rw [n14]; decide +kernel) ?_
  rw [n14]
  refine V.nmh (fun h15 e15 => ?_)
  have n15 : h15.1 = 110 := by rw [e15]; show h14.1 + 1 = 110; rw [n14]
  refine V.putRk dX5_init_60 fl_X5_39 rfl (Or.inr (by rw [n15]; decide)) rfl rfl (fun q hq => by cases hq; exact Or.inr ⟨rfl, rfl, rfl⟩) (fun q hq _ => by cases hq; exact fo_X5_39) ?_
  refine V.nmh (fun h16 e16 => ?_)
  have n16 : h16.1 = 110 := by rw [e16]; exact n15
  refine V.aload_n dX5_init_63 rfl rfl rfl ?_
  refine V.bipush (v := 6) dX5_init_64 rfl ?_
  refine V.newarray (t := 0) (N := 6) dX5_init_66 rfl (by decide) ac_int (by rw [n16]; rfl) (by decide) rfl (by decide) (by rw [n16]; exact ⟨by decide, by decide +kernel⟩) (by rw [n16]; decide +kernel) ?_
  rw [n16]
  refine V.nmh (fun h17 e17 => ?_)
  have n17 : h17.1 = 111 := by rw [e17]; show h16.1 + 1 = 111; rw [n16]
  refine V.putRk dX5_init_68 fl_X5_42 rfl (Or.inr (by rw [n17]; decide)) rfl rfl (fun q hq => by cases hq; exact Or.inr ⟨rfl, rfl, rfl⟩) (fun q hq _ => by cases hq; exact fo_X5_42) ?_
  refine V.nmh (fun h18 e18 => ?_)
  have n18 : h18.1 = 111 := by rw [e18]; exact n17
  refine V.aload_n dX5_init_71 rfl rfl rfl ?_
  refine V.bipush (v := 10) dX5_init_72 rfl ?_
  refine V.newarray (t := 0) (N := 10) dX5_init_74 rfl (by decide) ac_int (by rw [n18]; rfl) (by decide) rfl (by decide) (by rw [n18]; exact ⟨by decide, by decide +kernel⟩) (by rw [n18]; decide +kernel) ?_
  rw [n18]
  refine V.nmh (fun h19 e19 => ?_)
  have n19 : h19.1 = 112 := by rw [e19]; show h18.1 + 1 = 112; rw [n18]
  refine V.putRk dX5_init_76 fl_X5_45 rfl (Or.inr (by rw [n19]; decide)) rfl rfl (fun q hq => by cases hq; exact Or.inr ⟨rfl, rfl, rfl⟩) (fun q hq _ => by cases hq; exact fo_X5_45) ?_
  refine V.nmh (fun h20 e20 => ?_)
  have n20 : h20.1 = 112 := by rw [e20]; exact n19
  refine V.aload_n dX5_init_79 rfl rfl rfl ?_
  refine V.iconst (v := 4) dX5_init_80 rfl ?_
  refine V.newarray (t := 0) (N := 4) dX5_init_81 rfl (by decide) ac_int (by rw [n20]; rfl) (by decide) rfl (by decide) (by rw [n20]; exact ⟨by decide, by decide +kernel⟩) (by rw [n20]; decide +kernel) ?_
  rw [n20]
  refine V.nmh (fun h21 e21 => ?_)
  have n21 : h21.1 = 113 := by rw [e21]; show h20.1 + 1 = 113; rw [n20]
  refine V.putRk dX5_init_83 fl_X5_48 rfl (Or.inr (by rw [n21]; decide)) rfl rfl (fun q hq => by cases hq; exact Or.inr ⟨rfl, rfl, rfl⟩) (fun q hq _ => by cases hq; exact fo_X5_48) ?_
  refine V.nmh (fun h22 e22 => ?_)
  have n22 : h22.1 = 113 := by rw [e22]; exact n21
  refine V.vreturn' dX5_init_86 rfl n0 (Or.inr ⟨n22, by rw [n22]; decide +kernel⟩) ?_
  rw [e22, e21, e20, e19, e18, e17, e16, e15, e14, e13, e12, e11, e10, e9, e8, e7, e6, e5, e4, e3, e2, e1]
  rfl
/-- what Trays() makes, itself at a -/
def mA (h : HP) (a : Nat) : HP :=
  let h1 := rNew h
  let h2 := uR h1 a 0 (a + 1)
  let h3 := rNew h2
  let h4 := uR h3 a 1 (a + 2)
  let h5 := rNew h4
  let h6 := uI h5 (a + 3) 0 (-1)
  let h7 := uI h6 (a + 3) 1 (-1)
  let h8 := uI h7 (a + 3) 2 (-1)
  let h9 := uI h8 (a + 3) 3 (-1)
  let h10 := uR h9 a 2 (a + 3)
  h10
theorem mA_1 {h : HP} {a n : Nat} (k : h.1 = n) : (mA h a).1 = n + 3 := by
  rw [← k]; rfl
set_option maxRecDepth 100000 in
theorem mk_X7_1 {h : HP} (n0 : h.1 = 2) : Spec yX7_init cX7_init miX7_init [.ref 1] h (pV fun h' => h' = mA h 1) := by
  refine Spec.of (ls0 := [.ref 1]) mo_X7_init (Nat.le_of_ble_eq_true rfl) rfl ?_
  rw [n0]
  refine V.aload_n dX7_init_0 rfl rfl rfl ?_
  refine V.objInit dX7_init_1 lk_X7_1 oi_in oi_co rfl ⟨Nat.le_of_ble_eq_true rfl, Nat.le_of_ble_eq_true rfl⟩ ?_
  refine V.aload_n dX7_init_4 rfl rfl rfl ?_
  refine V.sipush (v := 240) dX7_init_5 rfl ?_
  refine V.newarray (t := 1) (N := 240) dX7_init_8 rfl (by decide) ac_long (by rw [n0]; rfl) (by decide) rfl (by decide) (by rw [n0]; exact ⟨by decide, by decide +kernel⟩) (by rw [n0]; decide +kernel) ?_
  rw [n0]
  refine V.nmh (fun h1 e1 => ?_)
  have n1 : h1.1 = 3 := by rw [e1]; show h.1 + 1 = 3; rw [n0]
  refine V.putRk dX7_init_10 fl_X7_9 rfl (Or.inr (by rw [n1]; decide)) rfl rfl (fun q hq => by cases hq; exact Or.inr ⟨rfl, rfl, rfl⟩) (fun q hq _ => by cases hq; exact fo_X7_9) ?_
  refine V.nmh (fun h2 e2 => ?_)
  have n2 : h2.1 = 3 := by rw [e2]; exact n1
  refine V.aload_n dX7_init_13 rfl rfl rfl ?_
  refine V.iconst (v := 4) dX7_init_14 rfl ?_
  refine V.newarray (t := 0) (N := 4) dX7_init_15 rfl (by decide) ac_int (by rw [n2]; rfl) (by decide) rfl (by decide) (by rw [n2]; exact ⟨by decide, by decide +kernel⟩) (by rw [n2]; decide +kernel) ?_
  rw [n2]
  refine V.nmh (fun h3 e3 => ?_)
  have n3 : h3.1 = 4 := by rw [e3]; show h2.1 + 1 = 4; rw [n2]
  refine V.putRk dX7_init_17 fl_X7_13 rfl (Or.inr (by rw [n3]; decide)) rfl rfl (fun q hq => by cases hq; exact Or.inr ⟨rfl, rfl, rfl⟩) (fun q hq _ => by cases hq; exact fo_X7_13) ?_
  refine V.nmh (fun h4 e4 => ?_)
  have n4 : h4.1 = 4 := by rw [e4]; exact n3
  refine V.aload_n dX7_init_20 rfl rfl rfl ?_
  refine V.iconst (v := 4) dX7_init_21 rfl ?_
  refine V.newarray (t := 0) (N := 4) dX7_init_22 rfl (by decide) ac_int (by rw [n4]; rfl) (by decide) rfl (by decide) (by rw [n4]; exact ⟨by decide, by decide +kernel⟩) (by rw [n4]; decide +kernel) ?_
  rw [n4]
  refine V.nmh (fun h5 e5 => ?_)
  have n5 : h5.1 = 5 := by rw [e5]; show h4.1 + 1 = 5; rw [n4]
  refine V.dup dX7_init_24 rfl ?_
  refine V.iconst (v := 0) dX7_init_25 rfl ?_
  refine V.iconst (v := (-1)) dX7_init_26 rfl ?_
  refine V.iastore dX7_init_27 rfl (Or.inr (by rw [n5]; decide)) (by unfold vp_in; decide) ?_
  refine V.nmh (fun h6 e6 => ?_)
  have n6 : h6.1 = 5 := by rw [e6]; exact n5
  refine V.dup dX7_init_28 rfl ?_
  refine V.iconst (v := 1) dX7_init_29 rfl ?_
  refine V.iconst (v := (-1)) dX7_init_30 rfl ?_
  refine V.iastore dX7_init_31 rfl (Or.inr (by rw [n6]; decide)) (by unfold vp_in; decide) ?_
  refine V.nmh (fun h7 e7 => ?_)
  have n7 : h7.1 = 5 := by rw [e7]; exact n6
  refine V.dup dX7_init_32 rfl ?_
  refine V.iconst (v := 2) dX7_init_33 rfl ?_
  refine V.iconst (v := (-1)) dX7_init_34 rfl ?_
  refine V.iastore dX7_init_35 rfl (Or.inr (by rw [n7]; decide)) (by unfold vp_in; decide) ?_
  refine V.nmh (fun h8 e8 => ?_)
  have n8 : h8.1 = 5 := by rw [e8]; exact n7
  refine V.dup dX7_init_36 rfl ?_
  refine V.iconst (v := 3) dX7_init_37 rfl ?_
  refine V.iconst (v := (-1)) dX7_init_38 rfl ?_
  refine V.iastore dX7_init_39 rfl (Or.inr (by rw [n8]; decide)) (by unfold vp_in; decide) ?_
  refine V.nmh (fun h9 e9 => ?_)
  have n9 : h9.1 = 5 := by rw [e9]; exact n8
  refine V.putRk dX7_init_40 fl_X7_17 rfl (Or.inr (by rw [n9]; decide)) rfl rfl (fun q hq => by cases hq; exact Or.inr ⟨rfl, rfl, rfl⟩) (fun q hq _ => by cases hq; exact fo_X7_17) ?_
  refine V.nmh (fun h10 e10 => ?_)
  have n10 : h10.1 = 5 := by rw [e10]; exact n9
  refine V.vreturn' dX7_init_43 rfl n0 (Or.inr ⟨n10, by rw [n10]; decide +kernel⟩) ?_
  rw [e10, e9, e8, e7, e6, e5, e4, e3, e2, e1]
  rfl
/-- what Ancestry() makes, itself at a -/
def mN (h : HP) (a : Nat) : HP :=
  let h1 := rNew h
  let h2 := uR h1 a 0 (a + 1)
  let h3 := rNew h2
  let h4 := mH h3 (a + 2)
  let h5 := uR h4 a 1 (a + 2)
  let h6 := rNew h5
  let h7 := uR h6 a 2 (a + 4)
  let h8 := rNew h7
  let h9 := uR h8 a 3 (a + 5)
  let h10 := rNew h9
  let h11 := uR h10 a 4 (a + 6)
  h11
theorem mN_1 {h : HP} {a n : Nat} (k : h.1 = n) : (mN h a).1 = n + 6 := by
  rw [← k]; rfl
set_option maxRecDepth 100000 in
theorem mk_X0_65 {h : HP} (n0 : h.1 = 66) : Spec yX0_init cX0_init miX0_init [.ref 65] h (pV fun h' => h' = mN h 65) := by
  refine Spec.of (ls0 := [.ref 65]) mo_X0_init (Nat.le_of_ble_eq_true rfl) rfl ?_
  rw [n0]
  refine V.aload_n dX0_init_0 rfl rfl rfl ?_
  refine V.objInit dX0_init_1 lk_X0_1 oi_in oi_co rfl ⟨Nat.le_of_ble_eq_true rfl, Nat.le_of_ble_eq_true rfl⟩ ?_
  refine V.aload_n dX0_init_4 rfl rfl rfl ?_
  refine V.sipush (v := 7168) dX0_init_5 rfl ?_
  refine V.newarray (t := 0) (N := 7168) dX0_init_8 rfl (by decide) ac_int (by rw [n0]; rfl) (by decide) rfl (by decide) (by rw [n0]; exact ⟨by decide, by decide +kernel⟩) (by rw [n0]; decide +kernel) ?_
  rw [n0]
  refine V.nmh (fun h1 e1 => ?_)
  have n1 : h1.1 = 67 := by rw [e1]; show h.1 + 1 = 67; rw [n0]
  refine V.putRk dX0_init_10 fl_X0_11 rfl (Or.inr (by rw [n1]; decide)) rfl rfl (fun q hq => by cases hq; exact Or.inr ⟨rfl, rfl, rfl⟩) (fun q hq _ => by cases hq; exact fo_X0_11) ?_
  refine V.nmh (fun h2 e2 => ?_)
  have n2 : h2.1 = 67 := by rw [e2]; exact n1
  refine V.aload_n dX0_init_13 rfl rfl rfl ?_
  refine V.new dX0_init_14 (ci := 1) (z := 0) rfl cok_X1 kl_X0_7 (by rw [n2]; rfl) (by rw [n2]; exact ⟨by decide, by decide +kernel⟩) (by rw [n2]; decide +kernel) ?_
  rw [n2]
  refine V.nmh (fun h3 e3 => ?_)
  have n3 : h3.1 = 68 := by rw [e3]; show h2.1 + 1 = 68; rw [n2]
  refine V.dup dX0_init_17 rfl ?_
  refine V.callIV dX0_init_18 ml_X0_15 mo_X1_init mj_X1_init rfl rfl (mk_X1_67 n3) rfl rfl ⟨Nat.le_of_ble_eq_true rfl, Nat.le_of_ble_eq_true rfl, fun h9 => absurd h9 (by decide)⟩ (Nat.le_of_ble_eq_true rfl) (Or.inr (by rw [n3]; exact ⟨⟨by decide, by decide +kernel⟩, by decide +kernel⟩)) (fun h4 e4 => ?_)
  have n4 : h4.1 = 69 := by rw [e4]; exact mH_1 n3
  refine V.putRk dX0_init_21 fl_X0_16 rfl (Or.inr (by rw [n4]; decide)) rfl rfl (fun q hq => by cases hq; exact Or.inr ⟨rfl, rfl, rfl⟩) (fun q hq _ => by cases hq; exact fo_X0_16) ?_
  refine V.nmh (fun h5 e5 => ?_)
  have n5 : h5.1 = 69 := by rw [e5]; exact n4
  refine V.aload_n dX0_init_24 rfl rfl rfl ?_
  refine V.bipush (v := 7) dX0_init_25 rfl ?_
  refine V.newarray (t := 0) (N := 7) dX0_init_27 rfl (by decide) ac_int (by rw [n5]; rfl) (by decide) rfl (by decide) (by rw [n5]; exact ⟨by decide, by decide +kernel⟩) (by rw [n5]; decide +kernel) ?_
  rw [n5]
  refine V.nmh (fun h6 e6 => ?_)
  have n6 : h6.1 = 70 := by rw [e6]; show h5.1 + 1 = 70; rw [n5]
  refine V.putRk dX0_init_29 fl_X0_20 rfl (Or.inr (by rw [n6]; decide)) rfl rfl (fun q hq => by cases hq; exact Or.inr ⟨rfl, rfl, rfl⟩) (fun q hq _ => by cases hq; exact fo_X0_20) ?_
  refine V.nmh (fun h7 e7 => ?_)
  have n7 : h7.1 = 70 := by rw [e7]; exact n6
  refine V.aload_n dX0_init_32 rfl rfl rfl ?_
  refine V.bipush (v := 7) dX0_init_33 rfl ?_
  refine V.newarray (t := 0) (N := 7) dX0_init_35 rfl (by decide) ac_int (by rw [n7]; rfl) (by decide) rfl (by decide) (by rw [n7]; exact ⟨by decide, by decide +kernel⟩) (by rw [n7]; decide +kernel) ?_
  rw [n7]
  refine V.nmh (fun h8 e8 => ?_)
  have n8 : h8.1 = 71 := by rw [e8]; show h7.1 + 1 = 71; rw [n7]
  refine V.putRk dX0_init_37 fl_X0_23 rfl (Or.inr (by rw [n8]; decide)) rfl rfl (fun q hq => by cases hq; exact Or.inr ⟨rfl, rfl, rfl⟩) (fun q hq _ => by cases hq; exact fo_X0_23) ?_
  refine V.nmh (fun h9 e9 => ?_)
  have n9 : h9.1 = 71 := by rw [e9]; exact n8
  refine V.aload_n dX0_init_40 rfl rfl rfl ?_
  refine V.bipush (v := 7) dX0_init_41 rfl ?_
  refine V.newarray (t := 0) (N := 7) dX0_init_43 rfl (by decide) ac_int (by rw [n9]; rfl) (by decide) rfl (by decide) (by rw [n9]; exact ⟨by decide, by decide +kernel⟩) (by rw [n9]; decide +kernel) ?_
  rw [n9]
  refine V.nmh (fun h10 e10 => ?_)
  have n10 : h10.1 = 72 := by rw [e10]; show h9.1 + 1 = 72; rw [n9]
  refine V.putRk dX0_init_45 fl_X0_26 rfl (Or.inr (by rw [n10]; decide)) rfl rfl (fun q hq => by cases hq; exact Or.inr ⟨rfl, rfl, rfl⟩) (fun q hq _ => by cases hq; exact fo_X0_26) ?_
  refine V.nmh (fun h11 e11 => ?_)
  have n11 : h11.1 = 72 := by rw [e11]; exact n10
  refine V.vreturn' dX0_init_48 rfl n0 (Or.inr ⟨n11, by rw [n11]; decide +kernel⟩) ?_
  rw [e11, e10, e9, e8, e7, e6, e5, e4, e3, e2, e1]
  rfl
/-- what Paths() makes, itself at a -/
def mPth (h : HP) (a : Nat) : HP :=
  h
theorem mPth_1 {h : HP} {a n : Nat} (k : h.1 = n) : (mPth h a).1 = n + 0 := by
  rw [← k]; rfl
set_option maxRecDepth 100000 in
theorem mk_X3_72 {h : HP} (n0 : h.1 = 73) : Spec yX3_init cX3_init miX3_init [.ref 72] h (pV fun h' => h' = mPth h 72) := by
  refine Spec.of (ls0 := [.ref 72]) mo_X3_init (Nat.le_of_ble_eq_true rfl) rfl ?_
  rw [n0]
  refine V.aload_n dX3_init_0 rfl rfl rfl ?_
  refine V.objInit dX3_init_1 lk_X3_1 oi_in oi_co rfl ⟨Nat.le_of_ble_eq_true rfl, Nat.le_of_ble_eq_true rfl⟩ ?_
  refine V.vreturn' dX3_init_4 rfl n0 (Or.inr ⟨n0, by rw [n0]; decide +kernel⟩) ?_
  skip
  rfl
/-- what Turning() makes, itself at a -/
def mU (h : HP) (a : Nat) : HP :=
  let h1 := rNew h
  let h2 := uR h1 a 0 (a + 1)
  h2
theorem mU_1 {h : HP} {a n : Nat} (k : h.1 = n) : (mU h a).1 = n + 1 := by
  rw [← k]; rfl
set_option maxRecDepth 100000 in
theorem mk_X8_73 {h : HP} (n0 : h.1 = 74) : Spec yX8_init cX8_init miX8_init [.ref 73] h (pV fun h' => h' = mU h 73) := by
  refine Spec.of (ls0 := [.ref 73]) mo_X8_init (Nat.le_of_ble_eq_true rfl) rfl ?_
  rw [n0]
  refine V.aload_n dX8_init_0 rfl rfl rfl ?_
  refine V.objInit dX8_init_1 lk_X8_1 oi_in oi_co rfl ⟨Nat.le_of_ble_eq_true rfl, Nat.le_of_ble_eq_true rfl⟩ ?_
  refine V.aload_n dX8_init_4 rfl rfl rfl ?_
  refine V.bipush (v := 30) dX8_init_5 rfl ?_
  refine V.newarray (t := 0) (N := 30) dX8_init_7 rfl (by decide) ac_int (by rw [n0]; rfl) (by decide) rfl (by decide) (by rw [n0]; exact ⟨by decide, by decide +kernel⟩) (by rw [n0]; decide +kernel) ?_
  rw [n0]
  refine V.nmh (fun h1 e1 => ?_)
  have n1 : h1.1 = 75 := by rw [e1]; show h.1 + 1 = 75; rw [n0]
  refine V.putRk dX8_init_9 fl_X8_7 rfl (Or.inr (by rw [n1]; decide)) rfl rfl (fun q hq => by cases hq; exact Or.inr ⟨rfl, rfl, rfl⟩) (fun q hq _ => by cases hq; exact fo_X8_7) ?_
  refine V.nmh (fun h2 e2 => ?_)
  have n2 : h2.1 = 75 := by rw [e2]; exact n1
  refine V.vreturn' dX8_init_12 rfl n0 (Or.inr ⟨n2, by rw [n2]; decide +kernel⟩) ?_
  rw [e2, e1]
  rfl
/-- what Living() makes, itself at a -/
def mL (h : HP) (a : Nat) : HP :=
  let h1 := rNew h
  let h2 := uR h1 a 0 (a + 1)
  h2
theorem mL_1 {h : HP} {a n : Nat} (k : h.1 = n) : (mL h a).1 = n + 1 := by
  rw [← k]; rfl
set_option maxRecDepth 100000 in
theorem mk_X2_75 {h : HP} (n0 : h.1 = 76) : Spec yX2_init cX2_init miX2_init [.ref 75] h (pV fun h' => h' = mL h 75) := by
  refine Spec.of (ls0 := [.ref 75]) mo_X2_init (Nat.le_of_ble_eq_true rfl) rfl ?_
  rw [n0]
  refine V.aload_n dX2_init_0 rfl rfl rfl ?_
  refine V.objInit dX2_init_1 lk_X2_1 oi_in oi_co rfl ⟨Nat.le_of_ble_eq_true rfl, Nat.le_of_ble_eq_true rfl⟩ ?_
  refine V.aload_n dX2_init_4 rfl rfl rfl ?_
  refine V.bipush (v := 60) dX2_init_5 rfl ?_
  refine V.newarray (t := 0) (N := 60) dX2_init_7 rfl (by decide) ac_int (by rw [n0]; rfl) (by decide) rfl (by decide) (by rw [n0]; exact ⟨by decide, by decide +kernel⟩) (by rw [n0]; decide +kernel) ?_
  rw [n0]
  refine V.nmh (fun h1 e1 => ?_)
  have n1 : h1.1 = 77 := by rw [e1]; show h.1 + 1 = 77; rw [n0]
  refine V.putRk dX2_init_9 fl_X2_9 rfl (Or.inr (by rw [n1]; decide)) rfl rfl (fun q hq => by cases hq; exact Or.inr ⟨rfl, rfl, rfl⟩) (fun q hq _ => by cases hq; exact fo_X2_9) ?_
  refine V.nmh (fun h2 e2 => ?_)
  have n2 : h2.1 = 77 := by rw [e2]; exact n1
  refine V.vreturn' dX2_init_12 rfl n0 (Or.inr ⟨n2, by rw [n2]; decide +kernel⟩) ?_
  rw [e2, e1]
  rfl
set_option maxRecDepth 100000 in
theorem mk_X2_77 {h : HP} (n0 : h.1 = 78) : Spec yX2_init cX2_init miX2_init [.ref 77] h (pV fun h' => h' = mL h 77) := by
  refine Spec.of (ls0 := [.ref 77]) mo_X2_init (Nat.le_of_ble_eq_true rfl) rfl ?_
  rw [n0]
  refine V.aload_n dX2_init_0 rfl rfl rfl ?_
  refine V.objInit dX2_init_1 lk_X2_1 oi_in oi_co rfl ⟨Nat.le_of_ble_eq_true rfl, Nat.le_of_ble_eq_true rfl⟩ ?_
  refine V.aload_n dX2_init_4 rfl rfl rfl ?_
  refine V.bipush (v := 60) dX2_init_5 rfl ?_
  refine V.newarray (t := 0) (N := 60) dX2_init_7 rfl (by decide) ac_int (by rw [n0]; rfl) (by decide) rfl (by decide) (by rw [n0]; exact ⟨by decide, by decide +kernel⟩) (by rw [n0]; decide +kernel) ?_
  rw [n0]
  refine V.nmh (fun h1 e1 => ?_)
  have n1 : h1.1 = 79 := by rw [e1]; show h.1 + 1 = 79; rw [n0]
  refine V.putRk dX2_init_9 fl_X2_9 rfl (Or.inr (by rw [n1]; decide)) rfl rfl (fun q hq => by cases hq; exact Or.inr ⟨rfl, rfl, rfl⟩) (fun q hq _ => by cases hq; exact fo_X2_9) ?_
  refine V.nmh (fun h2 e2 => ?_)
  have n2 : h2.1 = 79 := by rw [e2]; exact n1
  refine V.vreturn' dX2_init_12 rfl n0 (Or.inr ⟨n2, by rw [n2]; decide +kernel⟩) ?_
  rw [e2, e1]
  rfl
