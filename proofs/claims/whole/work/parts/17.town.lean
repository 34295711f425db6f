/-! ===== the class's town: houses, copies, an empty one ===== -/
/-- a house of letter v at the bit b -/
def addH1 (h : HP) (t : Nat) (b v : Int32) : HP := if v = 110 then h else uI h (t + 1) 4 (hI h (t + 1) 4 ||| b)
def addH2 (h : HP) (t : Nat) (b v : Int32) : HP := if v = 100 ∨ v = 108 then uI h (t + 1) 5 (hI h (t + 1) 5 ||| b) else h
def addH3 (h : HP) (t : Nat) (b v : Int32) : HP := if v = 119 then uI h (t + 1) 6 (hI h (t + 1) 6 ||| b) else h
def addH4 (h : HP) (t : Nat) (b v : Int32) : HP := if v = 108 ∨ v = 119 then uI h t 13 (hI h t 13 ||| b) else h
def addHH (h : HP) (t : Nat) (b v : Int32) : HP := addH4 (addH3 (addH2 (addH1 h t b v) t b v) t b v) t b v
set_option maxRecDepth 100000 in
theorem sp_addHouse_100 {h : HP} (ly : Lay h) {t : Nat} (hT : isT t) (p : Int32) : Spec yX5_addHouse cX5_addHouse miX5_addHouse [.ref t, .int p, .int 100] h (pV fun h' => h' = addHH h t (shl 1 p) 100) := by
  refine Spec.of (ls0 := [.ref t, .int p, .int 100, .null]) mo_X5_addHouse (Nat.le_of_ble_eq_true rfl) rfl ?_
  rw [ly.1]
  refine V.iconst (v := 1) dX5_addHouse_0 rfl ?_
  refine V.iload_n dX5_addHouse_1 rfl rfl ?_
  refine V.ishl dX5_addHouse_2 ?_
  refine V.nmi (fun x1 ex1 => ?_)
  refine V.istore_n (ls' := [.ref t, .int p, .int 100, .int x1]) dX5_addHouse_3 rfl (by decide) rfl ?_
  refine V.iload_n dX5_addHouse_4 rfl rfl ?_
  refine V.bipush (v := 110) dX5_addHouse_5 rfl ?_
  refine V.icmp_eq (tgt := 23) dX5_addHouse_7 (by decide) (fun c2 => absurd c2 (by decide)) (fun _ => ?_)
  refine V.aload_n dX5_addHouse_10 rfl rfl (sT0 hT) ?_
  refine V.getR (r := t + 1) dX5_addHouse_11 fl_X5_12 (sT0 hT) (Or.inl ⟨rfl, SHL_lt (sT0 hT)⟩) rfl (rT_hill ly hT) ?_
  refine V.dup dX5_addHouse_14 rfl ?_
  refine V.getI dX5_addHouse_15 fl_X5_93 (sH0 hT.H) (Or.inl ⟨rfl, SHL_lt (sH0 hT.H)⟩) rfl rfl ?_
  refine V.iload_n dX5_addHouse_18 rfl rfl ?_
  refine V.ior dX5_addHouse_19 ?_
  refine V.putI dX5_addHouse_20 fl_X5_93 (sH0 hT.H) (Or.inl ⟨rfl, SHL_lt (sH0 hT.H)⟩) rfl (fun q hq => by cases hq; rfl) ⟨rfl, rfl⟩ ?_
  refine V.iload_n dX5_addHouse_23 rfl rfl ?_
  refine V.bipush (v := 100) dX5_addHouse_24 rfl ?_
  refine V.icmp_eq (tgt := 35) dX5_addHouse_26 (by decide) (fun _ => ?_) (fun c3 => absurd c3 (by decide))
  refine V.aload_n dX5_addHouse_35 rfl rfl (sT0 hT) ?_
  refine V.getR (r := t + 1) dX5_addHouse_36 fl_X5_12 (sT0 hT) (Or.inl ⟨rfl, SHL_lt (sT0 hT)⟩) rfl (rT_hill ly hT) ?_
  refine V.dup dX5_addHouse_39 rfl ?_
  refine V.getI dX5_addHouse_40 fl_X5_96 (sH0 hT.H) (Or.inl ⟨rfl, SHL_lt (sH0 hT.H)⟩) rfl rfl ?_
  refine V.iload_n dX5_addHouse_43 rfl rfl ?_
  refine V.ior dX5_addHouse_44 ?_
  refine V.putI dX5_addHouse_45 fl_X5_96 (sH0 hT.H) (Or.inl ⟨rfl, SHL_lt (sH0 hT.H)⟩) rfl (fun q hq => by cases hq; rfl) ⟨rfl, rfl⟩ ?_
  refine V.iload_n dX5_addHouse_48 rfl rfl ?_
  refine V.bipush (v := 119) dX5_addHouse_49 rfl ?_
  refine V.icmp_ne (tgt := 67) dX5_addHouse_51 (by decide) (fun _ => ?_) (fun c4 => absurd c4 (by decide))
  refine V.iload_n dX5_addHouse_67 rfl rfl ?_
  refine V.bipush (v := 108) dX5_addHouse_68 rfl ?_
  refine V.icmp_eq (tgt := 79) dX5_addHouse_70 (by decide) (fun c5 => absurd c5 (by decide)) (fun _ => ?_)
  refine V.iload_n dX5_addHouse_73 rfl rfl ?_
  refine V.bipush (v := 119) dX5_addHouse_74 rfl ?_
  refine V.icmp_ne (tgt := 89) dX5_addHouse_76 (by decide) (fun _ => ?_) (fun c6 => absurd c6 (by decide))
  refine V.vreturn' dX5_addHouse_89 rfl ly.1 (Or.inl ⟨rfl, rfl⟩) ?_
  have e0 : x1 = shl 1 p := ex1
  rw [← e0]
  unfold addHH addH1 addH2 addH3 addH4
  rw [if_neg (by decide), if_neg (by decide), if_pos (by decide), if_neg (by decide)]
set_option maxRecDepth 100000 in
theorem sp_addHouse_108 {h : HP} (ly : Lay h) {t : Nat} (hT : isT t) (p : Int32) : Spec yX5_addHouse cX5_addHouse miX5_addHouse [.ref t, .int p, .int 108] h (pV fun h' => h' = addHH h t (shl 1 p) 108) := by
  refine Spec.of (ls0 := [.ref t, .int p, .int 108, .null]) mo_X5_addHouse (Nat.le_of_ble_eq_true rfl) rfl ?_
  rw [ly.1]
  refine V.iconst (v := 1) dX5_addHouse_0 rfl ?_
  refine V.iload_n dX5_addHouse_1 rfl rfl ?_
  refine V.ishl dX5_addHouse_2 ?_
  refine V.nmi (fun x1 ex1 => ?_)
  refine V.istore_n (ls' := [.ref t, .int p, .int 108, .int x1]) dX5_addHouse_3 rfl (by decide) rfl ?_
  refine V.iload_n dX5_addHouse_4 rfl rfl ?_
  refine V.bipush (v := 110) dX5_addHouse_5 rfl ?_
  refine V.icmp_eq (tgt := 23) dX5_addHouse_7 (by decide) (fun c2 => absurd c2 (by decide)) (fun _ => ?_)
  refine V.aload_n dX5_addHouse_10 rfl rfl (sT0 hT) ?_
  refine V.getR (r := t + 1) dX5_addHouse_11 fl_X5_12 (sT0 hT) (Or.inl ⟨rfl, SHL_lt (sT0 hT)⟩) rfl (rT_hill ly hT) ?_
  refine V.dup dX5_addHouse_14 rfl ?_
  refine V.getI dX5_addHouse_15 fl_X5_93 (sH0 hT.H) (Or.inl ⟨rfl, SHL_lt (sH0 hT.H)⟩) rfl rfl ?_
  refine V.iload_n dX5_addHouse_18 rfl rfl ?_
  refine V.ior dX5_addHouse_19 ?_
  refine V.putI dX5_addHouse_20 fl_X5_93 (sH0 hT.H) (Or.inl ⟨rfl, SHL_lt (sH0 hT.H)⟩) rfl (fun q hq => by cases hq; rfl) ⟨rfl, rfl⟩ ?_
  refine V.iload_n dX5_addHouse_23 rfl rfl ?_
  refine V.bipush (v := 100) dX5_addHouse_24 rfl ?_
  refine V.icmp_eq (tgt := 35) dX5_addHouse_26 (by decide) (fun c3 => absurd c3 (by decide)) (fun _ => ?_)
  refine V.iload_n dX5_addHouse_29 rfl rfl ?_
  refine V.bipush (v := 108) dX5_addHouse_30 rfl ?_
  refine V.icmp_ne (tgt := 48) dX5_addHouse_32 (by decide) (fun c4 => absurd c4 (by decide)) (fun _ => ?_)
  refine V.aload_n dX5_addHouse_35 rfl rfl (sT0 hT) ?_
  refine V.getR (r := t + 1) dX5_addHouse_36 fl_X5_12 (sT0 hT) (Or.inl ⟨rfl, SHL_lt (sT0 hT)⟩) rfl (rT_hill ly hT) ?_
  refine V.dup dX5_addHouse_39 rfl ?_
  refine V.getI dX5_addHouse_40 fl_X5_96 (sH0 hT.H) (Or.inl ⟨rfl, SHL_lt (sH0 hT.H)⟩) rfl rfl ?_
  refine V.iload_n dX5_addHouse_43 rfl rfl ?_
  refine V.ior dX5_addHouse_44 ?_
  refine V.putI dX5_addHouse_45 fl_X5_96 (sH0 hT.H) (Or.inl ⟨rfl, SHL_lt (sH0 hT.H)⟩) rfl (fun q hq => by cases hq; rfl) ⟨rfl, rfl⟩ ?_
  refine V.iload_n dX5_addHouse_48 rfl rfl ?_
  refine V.bipush (v := 119) dX5_addHouse_49 rfl ?_
  refine V.icmp_ne (tgt := 67) dX5_addHouse_51 (by decide) (fun _ => ?_) (fun c5 => absurd c5 (by decide))
  refine V.iload_n dX5_addHouse_67 rfl rfl ?_
  refine V.bipush (v := 108) dX5_addHouse_68 rfl ?_
  refine V.icmp_eq (tgt := 79) dX5_addHouse_70 (by decide) (fun _ => ?_) (fun c6 => absurd c6 (by decide))
  refine V.aload_n dX5_addHouse_79 rfl rfl (sT0 hT) ?_
  refine V.dup dX5_addHouse_80 rfl ?_
  refine V.getI dX5_addHouse_81 fl_X5_78 (sT0 hT) (Or.inl ⟨rfl, SHL_lt (sT0 hT)⟩) rfl rfl ?_
  refine V.iload_n dX5_addHouse_84 rfl rfl ?_
  refine V.ior dX5_addHouse_85 ?_
  refine V.putI dX5_addHouse_86 fl_X5_78 (sT0 hT) (Or.inl ⟨rfl, SHL_lt (sT0 hT)⟩) rfl (fun q hq => by cases hq; rfl) ⟨rfl, rfl⟩ ?_
  refine V.vreturn' dX5_addHouse_89 rfl ly.1 (Or.inl ⟨rfl, rfl⟩) ?_
  have e0 : x1 = shl 1 p := ex1
  rw [← e0]
  unfold addHH addH1 addH2 addH3 addH4
  rw [if_pos (by decide), if_neg (by decide), if_pos (by decide), if_neg (by decide)]
set_option maxRecDepth 100000 in
theorem sp_addHouse_110 {h : HP} (ly : Lay h) {t : Nat} (hT : isT t) (p : Int32) : Spec yX5_addHouse cX5_addHouse miX5_addHouse [.ref t, .int p, .int 110] h (pV fun h' => h' = addHH h t (shl 1 p) 110) := by
  refine Spec.of (ls0 := [.ref t, .int p, .int 110, .null]) mo_X5_addHouse (Nat.le_of_ble_eq_true rfl) rfl ?_
  rw [ly.1]
  refine V.iconst (v := 1) dX5_addHouse_0 rfl ?_
  refine V.iload_n dX5_addHouse_1 rfl rfl ?_
  refine V.ishl dX5_addHouse_2 ?_
  refine V.nmi (fun x1 ex1 => ?_)
  refine V.istore_n (ls' := [.ref t, .int p, .int 110, .int x1]) dX5_addHouse_3 rfl (by decide) rfl ?_
  refine V.iload_n dX5_addHouse_4 rfl rfl ?_
  refine V.bipush (v := 110) dX5_addHouse_5 rfl ?_
  refine V.icmp_eq (tgt := 23) dX5_addHouse_7 (by decide) (fun _ => ?_) (fun c2 => absurd c2 (by decide))
  refine V.iload_n dX5_addHouse_23 rfl rfl ?_
  refine V.bipush (v := 100) dX5_addHouse_24 rfl ?_
  refine V.icmp_eq (tgt := 35) dX5_addHouse_26 (by decide) (fun c3 => absurd c3 (by decide)) (fun _ => ?_)
  refine V.iload_n dX5_addHouse_29 rfl rfl ?_
  refine V.bipush (v := 108) dX5_addHouse_30 rfl ?_
  refine V.icmp_ne (tgt := 48) dX5_addHouse_32 (by decide) (fun _ => ?_) (fun c4 => absurd c4 (by decide))
  refine V.iload_n dX5_addHouse_48 rfl rfl ?_
  refine V.bipush (v := 119) dX5_addHouse_49 rfl ?_
  refine V.icmp_ne (tgt := 67) dX5_addHouse_51 (by decide) (fun _ => ?_) (fun c5 => absurd c5 (by decide))
  refine V.iload_n dX5_addHouse_67 rfl rfl ?_
  refine V.bipush (v := 108) dX5_addHouse_68 rfl ?_
  refine V.icmp_eq (tgt := 79) dX5_addHouse_70 (by decide) (fun c6 => absurd c6 (by decide)) (fun _ => ?_)
  refine V.iload_n dX5_addHouse_73 rfl rfl ?_
  refine V.bipush (v := 119) dX5_addHouse_74 rfl ?_
  refine V.icmp_ne (tgt := 89) dX5_addHouse_76 (by decide) (fun _ => ?_) (fun c7 => absurd c7 (by decide))
  refine V.vreturn' dX5_addHouse_89 rfl ly.1 (Or.inl ⟨rfl, rfl⟩) ?_
  have e0 : x1 = shl 1 p := ex1
  rw [← e0]
  unfold addHH addH1 addH2 addH3 addH4
  rw [if_neg (by decide), if_neg (by decide), if_neg (by decide), if_pos (by decide)]
set_option maxRecDepth 100000 in
theorem sp_addHouse_119 {h : HP} (ly : Lay h) {t : Nat} (hT : isT t) (p : Int32) : Spec yX5_addHouse cX5_addHouse miX5_addHouse [.ref t, .int p, .int 119] h (pV fun h' => h' = addHH h t (shl 1 p) 119) := by
  refine Spec.of (ls0 := [.ref t, .int p, .int 119, .null]) mo_X5_addHouse (Nat.le_of_ble_eq_true rfl) rfl ?_
  rw [ly.1]
  refine V.iconst (v := 1) dX5_addHouse_0 rfl ?_
  refine V.iload_n dX5_addHouse_1 rfl rfl ?_
  refine V.ishl dX5_addHouse_2 ?_
  refine V.nmi (fun x1 ex1 => ?_)
  refine V.istore_n (ls' := [.ref t, .int p, .int 119, .int x1]) dX5_addHouse_3 rfl (by decide) rfl ?_
  refine V.iload_n dX5_addHouse_4 rfl rfl ?_
  refine V.bipush (v := 110) dX5_addHouse_5 rfl ?_
  refine V.icmp_eq (tgt := 23) dX5_addHouse_7 (by decide) (fun c2 => absurd c2 (by decide)) (fun _ => ?_)
  refine V.aload_n dX5_addHouse_10 rfl rfl (sT0 hT) ?_
  refine V.getR (r := t + 1) dX5_addHouse_11 fl_X5_12 (sT0 hT) (Or.inl ⟨rfl, SHL_lt (sT0 hT)⟩) rfl (rT_hill ly hT) ?_
  refine V.dup dX5_addHouse_14 rfl ?_
  refine V.getI dX5_addHouse_15 fl_X5_93 (sH0 hT.H) (Or.inl ⟨rfl, SHL_lt (sH0 hT.H)⟩) rfl rfl ?_
  refine V.iload_n dX5_addHouse_18 rfl rfl ?_
  refine V.ior dX5_addHouse_19 ?_
  refine V.putI dX5_addHouse_20 fl_X5_93 (sH0 hT.H) (Or.inl ⟨rfl, SHL_lt (sH0 hT.H)⟩) rfl (fun q hq => by cases hq; rfl) ⟨rfl, rfl⟩ ?_
  refine V.iload_n dX5_addHouse_23 rfl rfl ?_
  refine V.bipush (v := 100) dX5_addHouse_24 rfl ?_
  refine V.icmp_eq (tgt := 35) dX5_addHouse_26 (by decide) (fun c3 => absurd c3 (by decide)) (fun _ => ?_)
  refine V.iload_n dX5_addHouse_29 rfl rfl ?_
  refine V.bipush (v := 108) dX5_addHouse_30 rfl ?_
  refine V.icmp_ne (tgt := 48) dX5_addHouse_32 (by decide) (fun _ => ?_) (fun c4 => absurd c4 (by decide))
  refine V.iload_n dX5_addHouse_48 rfl rfl ?_
  refine V.bipush (v := 119) dX5_addHouse_49 rfl ?_
  refine V.icmp_ne (tgt := 67) dX5_addHouse_51 (by decide) (fun c5 => absurd c5 (by decide)) (fun _ => ?_)
  refine V.aload_n dX5_addHouse_54 rfl rfl (sT0 hT) ?_
  refine V.getR (r := t + 1) dX5_addHouse_55 fl_X5_12 (sT0 hT) (Or.inl ⟨rfl, SHL_lt (sT0 hT)⟩) rfl (rT_hill ly hT) ?_
  refine V.dup dX5_addHouse_58 rfl ?_
  refine V.getI dX5_addHouse_59 fl_X5_99 (sH0 hT.H) (Or.inl ⟨rfl, SHL_lt (sH0 hT.H)⟩) rfl rfl ?_
  refine V.iload_n dX5_addHouse_62 rfl rfl ?_
  refine V.ior dX5_addHouse_63 ?_
  refine V.putI dX5_addHouse_64 fl_X5_99 (sH0 hT.H) (Or.inl ⟨rfl, SHL_lt (sH0 hT.H)⟩) rfl (fun q hq => by cases hq; rfl) ⟨rfl, rfl⟩ ?_
  refine V.iload_n dX5_addHouse_67 rfl rfl ?_
  refine V.bipush (v := 108) dX5_addHouse_68 rfl ?_
  refine V.icmp_eq (tgt := 79) dX5_addHouse_70 (by decide) (fun c6 => absurd c6 (by decide)) (fun _ => ?_)
  refine V.iload_n dX5_addHouse_73 rfl rfl ?_
  refine V.bipush (v := 119) dX5_addHouse_74 rfl ?_
  refine V.icmp_ne (tgt := 89) dX5_addHouse_76 (by decide) (fun c7 => absurd c7 (by decide)) (fun _ => ?_)
  refine V.aload_n dX5_addHouse_79 rfl rfl (sT0 hT) ?_
  refine V.dup dX5_addHouse_80 rfl ?_
  refine V.getI dX5_addHouse_81 fl_X5_78 (sT0 hT) (Or.inl ⟨rfl, SHL_lt (sT0 hT)⟩) rfl rfl ?_
  refine V.iload_n dX5_addHouse_84 rfl rfl ?_
  refine V.ior dX5_addHouse_85 ?_
  refine V.putI dX5_addHouse_86 fl_X5_78 (sT0 hT) (Or.inl ⟨rfl, SHL_lt (sT0 hT)⟩) rfl (fun q hq => by cases hq; rfl) ⟨rfl, rfl⟩ ?_
  refine V.vreturn' dX5_addHouse_89 rfl ly.1 (Or.inl ⟨rfl, rfl⟩) ?_
  have e0 : x1 = shl 1 p := ex1
  rw [← e0]
  unfold addHH addH1 addH2 addH3 addH4
  rw [if_pos (by decide), if_pos (by decide), if_neg (by decide), if_neg (by decide)]
set_option maxRecDepth 100000 in
theorem sp_addHouse_120 {h : HP} (ly : Lay h) {t : Nat} (hT : isT t) (p : Int32) : Spec yX5_addHouse cX5_addHouse miX5_addHouse [.ref t, .int p, .int 120] h (pV fun h' => h' = addHH h t (shl 1 p) 120) := by
  refine Spec.of (ls0 := [.ref t, .int p, .int 120, .null]) mo_X5_addHouse (Nat.le_of_ble_eq_true rfl) rfl ?_
  rw [ly.1]
  refine V.iconst (v := 1) dX5_addHouse_0 rfl ?_
  refine V.iload_n dX5_addHouse_1 rfl rfl ?_
  refine V.ishl dX5_addHouse_2 ?_
  refine V.nmi (fun x1 ex1 => ?_)
  refine V.istore_n (ls' := [.ref t, .int p, .int 120, .int x1]) dX5_addHouse_3 rfl (by decide) rfl ?_
  refine V.iload_n dX5_addHouse_4 rfl rfl ?_
  refine V.bipush (v := 110) dX5_addHouse_5 rfl ?_
  refine V.icmp_eq (tgt := 23) dX5_addHouse_7 (by decide) (fun c2 => absurd c2 (by decide)) (fun _ => ?_)
  refine V.aload_n dX5_addHouse_10 rfl rfl (sT0 hT) ?_
  refine V.getR (r := t + 1) dX5_addHouse_11 fl_X5_12 (sT0 hT) (Or.inl ⟨rfl, SHL_lt (sT0 hT)⟩) rfl (rT_hill ly hT) ?_
  refine V.dup dX5_addHouse_14 rfl ?_
  refine V.getI dX5_addHouse_15 fl_X5_93 (sH0 hT.H) (Or.inl ⟨rfl, SHL_lt (sH0 hT.H)⟩) rfl rfl ?_
  refine V.iload_n dX5_addHouse_18 rfl rfl ?_
  refine V.ior dX5_addHouse_19 ?_
  refine V.putI dX5_addHouse_20 fl_X5_93 (sH0 hT.H) (Or.inl ⟨rfl, SHL_lt (sH0 hT.H)⟩) rfl (fun q hq => by cases hq; rfl) ⟨rfl, rfl⟩ ?_
  refine V.iload_n dX5_addHouse_23 rfl rfl ?_
  refine V.bipush (v := 100) dX5_addHouse_24 rfl ?_
  refine V.icmp_eq (tgt := 35) dX5_addHouse_26 (by decide) (fun c3 => absurd c3 (by decide)) (fun _ => ?_)
  refine V.iload_n dX5_addHouse_29 rfl rfl ?_
  refine V.bipush (v := 108) dX5_addHouse_30 rfl ?_
  refine V.icmp_ne (tgt := 48) dX5_addHouse_32 (by decide) (fun _ => ?_) (fun c4 => absurd c4 (by decide))
  refine V.iload_n dX5_addHouse_48 rfl rfl ?_
  refine V.bipush (v := 119) dX5_addHouse_49 rfl ?_
  refine V.icmp_ne (tgt := 67) dX5_addHouse_51 (by decide) (fun _ => ?_) (fun c5 => absurd c5 (by decide))
  refine V.iload_n dX5_addHouse_67 rfl rfl ?_
  refine V.bipush (v := 108) dX5_addHouse_68 rfl ?_
  refine V.icmp_eq (tgt := 79) dX5_addHouse_70 (by decide) (fun c6 => absurd c6 (by decide)) (fun _ => ?_)
  refine V.iload_n dX5_addHouse_73 rfl rfl ?_
  refine V.bipush (v := 119) dX5_addHouse_74 rfl ?_
  refine V.icmp_ne (tgt := 89) dX5_addHouse_76 (by decide) (fun _ => ?_) (fun c7 => absurd c7 (by decide))
  refine V.vreturn' dX5_addHouse_89 rfl ly.1 (Or.inl ⟨rfl, rfl⟩) ?_
  have e0 : x1 = shl 1 p := ex1
  rw [← e0]
  unfold addHH addH1 addH2 addH3 addH4
  rw [if_neg (by decide), if_neg (by decide), if_neg (by decide), if_neg (by decide)]
theorem sp_X5_addHouse {h : HP} (ly : Lay h) {t : Nat} (hT : isT t) (p v : Int32) (hv : v = 100 ∨ v = 108 ∨ v = 110 ∨ v = 119 ∨ v = 120) : Spec yX5_addHouse cX5_addHouse miX5_addHouse [.ref t, .int p, .int v] h (pV fun h' => h' = addHH h t (shl 1 p) v) := by
  rcases hv with rfl | rfl | rfl | rfl | rfl
  · exact sp_addHouse_100 ly hT p
  · exact sp_addHouse_108 ly hT p
  · exact sp_addHouse_110 ly hT p
  · exact sp_addHouse_119 ly hT p
  · exact sp_addHouse_120 ly hT p
set_option maxRecDepth 100000 in
theorem lp_fill {h0 h1 : HP} (hn : h0.1 = 130) {a q : Nat} (hs : SHL[a]? = some (1, 0, q)) (hq : q < 2 ^ 31) {v : Int32} {P : HP → Prop} (hP : P (rI h1 a (rowI (hI h1 a) (fun _ => v) 0 q))) : ∀ n k, k ≤ q → q + 1 ≤ k + n → 
    V cJ7_fill_53178 miJ7_fill_53178 (ZM h0 miJ7_fill_53178.2.2.2.1 (pV P)) 130 5 [.ref a, .int v, .int (nI k), .int (nI q)] [] (rI h1 a (rowI (hI h1 a) (fun _ => v) 0 k)) := by
  intro n
  induction n with
  | zero => intro k h1 h2; exact absurd h2 (by omega)
  | succ n ih =>
    intro k hk hkn
    refine V.iload_n dJ7_fill_53178_5 rfl rfl ?_
    refine V.iload_n dJ7_fill_53178_6 rfl rfl ?_
    refine V.icmp_ge (tgt := 20) dJ7_fill_53178_7 (by decide) (fun c1 => ?_) (fun c1 => ?_)
    · have hk2 : k = q := by have h9 := c1; rw [nI_leI (by omega) (by omega)] at h9; omega
      refine V.vreturn' dJ7_fill_53178_20 rfl hn (Or.inl ⟨rfl, rfl⟩) ?_
      subst hk2
      exact hP
    · have hlt : k < q := by have h9 := c1; rw [nI_leI (by omega) (by omega)] at h9; omega
      refine V.aload_n dJ7_fill_53178_10 rfl rfl hs ?_
      refine V.iload_n dJ7_fill_53178_11 rfl rfl ?_
      refine V.iload_n dJ7_fill_53178_12 rfl rfl ?_
      refine V.iastore dJ7_fill_53178_13 hs (Or.inl ⟨rfl, SHL_lt hs⟩) (vp_in_nI hlt hq) ?_
      rw [nI_clamp (show k < 2 ^ 31 by omega)]
      rw [show uI (rI h1 a (rowI (hI h1 a) (fun _ => v) 0 k)) a k v = rI h1 a (rowI (hI h1 a) (fun _ => v) 0 (k + 1)) from (by have q9 := uI_row h1 a (hI h1 a) (fun _ => v) 0 k; rw [Nat.zero_add] at q9; exact q9)]
      obtain ⟨x2, ex2⟩ : ∃ y : Int32, y = nI k + 1 := ⟨_, rfl⟩
      refine V.iinc (v := x2) (ls' := [.ref a, .int v, .int x2, .int (nI q)]) dJ7_fill_53178_14 rfl (by decide) ex2.symm rfl ?_
      refine V.goto (tgt := 5) dJ7_fill_53178_17 (by decide) ?_
      rw [ex2, nI_1]
      exact ih (k + 1) (by omega) (by omega)
set_option maxRecDepth 100000 in
theorem sp_J7_fill_53178 {h : HP} (hn : h.1 = 130) {a q : Nat} (hs : SHL[a]? = some (1, 0, q)) (hq : q < 2 ^ 31) (v : Int32) : Spec yJ7_fill_53178 cJ7_fill_53178 miJ7_fill_53178 [.ref a, .int v] h (pV fun h' => h' = rI h a (rowI (hI h a) (fun _ => v) 0 q)) := by
  refine Spec.of (ls0 := [.ref a, .int v, .null, .null]) mo_J7_fill_53178 (Nat.le_of_ble_eq_true rfl) rfl ?_
  rw [hn]
  refine V.iconst (v := 0) dJ7_fill_53178_0 rfl ?_
  refine V.istore_n (ls' := [.ref a, .int v, .int 0, .null]) dJ7_fill_53178_1 rfl (by decide) rfl ?_
  refine V.aload_n dJ7_fill_53178_2 rfl rfl hs ?_
  refine V.arraylength (v := nI q) dJ7_fill_53178_3 hs (by decide) (Or.inl ⟨rfl, SHL_lt hs⟩) rfl ?_
  refine V.istore_n (ls' := [.ref a, .int v, .int 0, .int (nI q)]) dJ7_fill_53178_4 rfl (by decide) rfl ?_
  have key := lp_fill (h0 := h) hn (h1 := h) hs hq (P := fun h' => h' = rI h a (rowI (hI h a) (fun _ => v) 0 q)) rfl (q + 1) 0 (by omega) (by omega)
  rw [rowI_0, rI_self] at key
  exact key
/-- an empty town -/
def emptyT (h : HP) (t : Nat) (w ring : Int32) : HP :=
  rI (rI (rI (rI h (t + 1) (startF (hI h (t + 1)) w ring)) (t + 3) (upd (upd (upd (hI h (t + 3)) 5 0) 6 0) 7 0)) t (upd (upd (upd (upd (upd (upd (hI h t) 10 0) 11 0) 12 0) 13 0) 14 0) 15 0)) (t + 15) (rowI (hI h (t + 15)) (fun _ => 0) 0 10)
set_option maxRecDepth 100000 in
theorem sp_X5_makeEmpty {h : HP} (ly : Lay h) {t : Nat} (hT : isT t) (w ring : Int32) : Spec yX5_makeEmpty cX5_makeEmpty miX5_makeEmpty [.ref t, .int w, .int ring] h (pV fun h' => h' = emptyT h t w ring) := by
  refine Spec.of (ls0 := [.ref t, .int w, .int ring]) mo_X5_makeEmpty (Nat.le_of_ble_eq_true rfl) rfl ?_
  rw [ly.1]
  refine V.aload_n dX5_makeEmpty_0 rfl rfl (sT0 hT) ?_
  refine V.getR (r := t + 1) dX5_makeEmpty_1 fl_X5_12 (sT0 hT) (Or.inl ⟨rfl, SHL_lt (sT0 hT)⟩) rfl (rT_hill ly hT) ?_
  refine V.iload_n dX5_makeEmpty_4 rfl rfl ?_
  refine V.iload_n dX5_makeEmpty_5 rfl rfl ?_
  refine V.callVV dX5_makeEmpty_6 ml_X5_62 mo_X1_start mv_X1_start (sH0 hT.H) (fun q hq => by cases hq; rfl) (by decide) (Or.inl ⟨rfl, SHL_lt (sH0 hT.H)⟩) (sp_X1_start (by exact ly.keep rfl rfl) hT.H _ _) rfl rfl ⟨Nat.le_of_ble_eq_true rfl, Nat.le_of_ble_eq_true rfl, fun _ => ⟨rfl, rfl⟩⟩ (Nat.le_of_ble_eq_true rfl) (Or.inl rfl) (fun h1 p2 => ?_)
  have p2 := p2.symm
  subst p2
  refine V.aload_n dX5_makeEmpty_9 rfl rfl (sT0 hT) ?_
  refine V.getR (r := t + 3) dX5_makeEmpty_10 fl_X5_21 (sT0 hT) (Or.inl ⟨rfl, SHL_lt (sT0 hT)⟩) rfl (rT_year ly hT) ?_
  refine V.callVV dX5_makeEmpty_13 ml_X5_65 mo_X9_makeNone mv_X9_makeNone (sY0 hT.Y) (fun q hq => by cases hq; rfl) (by decide) (Or.inl ⟨rfl, SHL_lt (sY0 hT.Y)⟩) (sp_X9_makeNone (by exact ly.keep rfl rfl) hT.Y) rfl rfl ⟨Nat.le_of_ble_eq_true rfl, Nat.le_of_ble_eq_true rfl, fun _ => ⟨rfl, rfl⟩⟩ (Nat.le_of_ble_eq_true rfl) (Or.inl rfl) (fun h3 p4 => ?_)
  have p4 := p4.symm
  subst p4
  refine V.aload_n dX5_makeEmpty_16 rfl rfl (sT0 hT) ?_
  refine V.iconst (v := 0) dX5_makeEmpty_17 rfl ?_
  refine V.putI dX5_makeEmpty_18 fl_X5_68 (sT0 hT) (Or.inl ⟨rfl, SHL_lt (sT0 hT)⟩) rfl (fun q hq => by cases hq; rfl) ⟨rfl, rfl⟩ ?_
  refine V.aload_n dX5_makeEmpty_21 rfl rfl (sT0 hT) ?_
  refine V.iconst (v := 0) dX5_makeEmpty_22 rfl ?_
  refine V.putI dX5_makeEmpty_23 fl_X5_72 (sT0 hT) (Or.inl ⟨rfl, SHL_lt (sT0 hT)⟩) rfl (fun q hq => by cases hq; rfl) ⟨rfl, rfl⟩ ?_
  refine V.aload_n dX5_makeEmpty_26 rfl rfl (sT0 hT) ?_
  refine V.iconst (v := 0) dX5_makeEmpty_27 rfl ?_
  refine V.putI dX5_makeEmpty_28 fl_X5_75 (sT0 hT) (Or.inl ⟨rfl, SHL_lt (sT0 hT)⟩) rfl (fun q hq => by cases hq; rfl) ⟨rfl, rfl⟩ ?_
  refine V.aload_n dX5_makeEmpty_31 rfl rfl (sT0 hT) ?_
  refine V.iconst (v := 0) dX5_makeEmpty_32 rfl ?_
  refine V.putI dX5_makeEmpty_33 fl_X5_78 (sT0 hT) (Or.inl ⟨rfl, SHL_lt (sT0 hT)⟩) rfl (fun q hq => by cases hq; rfl) ⟨rfl, rfl⟩ ?_
  refine V.aload_n dX5_makeEmpty_36 rfl rfl (sT0 hT) ?_
  refine V.iconst (v := 0) dX5_makeEmpty_37 rfl ?_
  refine V.putI dX5_makeEmpty_38 fl_X5_81 (sT0 hT) (Or.inl ⟨rfl, SHL_lt (sT0 hT)⟩) rfl (fun q hq => by cases hq; rfl) ⟨rfl, rfl⟩ ?_
  refine V.aload_n dX5_makeEmpty_41 rfl rfl (sT0 hT) ?_
  refine V.iconst (v := 0) dX5_makeEmpty_42 rfl ?_
  refine V.putI dX5_makeEmpty_43 fl_X5_84 (sT0 hT) (Or.inl ⟨rfl, SHL_lt (sT0 hT)⟩) rfl (fun q hq => by cases hq; rfl) ⟨rfl, rfl⟩ ?_
  refine V.aload_n dX5_makeEmpty_46 rfl rfl (sT0 hT) ?_
  refine V.getR (r := t + 15) dX5_makeEmpty_47 fl_X5_45 (sT0 hT) (Or.inl ⟨rfl, SHL_lt (sT0 hT)⟩) rfl (rT_seen ly hT) ?_
  refine V.iconst (v := 0) dX5_makeEmpty_50 rfl ?_
  refine V.callSV dX5_makeEmpty_51 ml_X5_87 mo_J7_fill_53178 ms_J7_fill_53178 (sp_J7_fill_53178 (by exact ly.1) (sT15 hT) (by decide) _) rfl rfl ⟨Nat.le_of_ble_eq_true rfl, Nat.le_of_ble_eq_true rfl, fun _ => ⟨rfl, rfl⟩⟩ (Nat.le_of_ble_eq_true rfl) rfl (fun h5 p6 => ?_)
  have p6 := p6.symm
  subst p6
  refine V.vreturn' dX5_makeEmpty_54 rfl ly.1 (Or.inl ⟨rfl, rfl⟩) ?_
  unfold emptyT
  simp only [uI, rI_rI, hI_rI_s]
  simp [hI_rI]
theorem isT_apart {t o : Nat} (hT : isT t) (hO : isT o) (hne : o ≠ t) : ∀ i j, i ≤ 16 → j ≤ 16 → o + i ≠ t + j := by
  intro i j hi hj
  rcases hT with rfl | rfl | rfl | rfl | rfl <;> rcases hO with rfl | rfl | rfl | rfl | rfl <;> omega
theorem hI_yearCp {h : HP} {y o e b : Nat} (hb : b < y ∨ y + 5 < b) : hI (yearCp h y o e) b = hI h b := by
  unfold yearCp
  rw [hI_rI_n _ _ (by omega), hI_rI_n _ _ (by omega), hI_rI_n _ _ (by omega), hI_rI_n _ _ (by omega), hI_rI_n _ _ (by omega), hI_rI_n _ _ (by omega)]
abbrev hillCp (h : HP) (t o : Nat) : HP := rI h (t + 1) (fun j => if j < 9 then hI h (o + 1) j else hI h (t + 1) j)
def townF (h : HP) (t o : Nat) : Nat → Int32 := upd (upd (upd (upd (upd (upd (hI h t) 10 (hI h o 10)) 11 (hI h o 11)) 12 (hI h o 12)) 13 (hI h o 13)) 14 (hI h o 14)) 15 (hI h o 15)
def townCp (h : HP) (t o e : Nat) : HP :=
  rI (rI (rI (rI (rI (rI (rL (yearCp (hillCp h t o) (t + 3) (o + 3) e) (t + 9) (cpy (hL h (o + 9)) (hL h (t + 9)) 4)) (t + 10) (cpy (hI h (o + 10)) (hI h (t + 10)) 4)) (t + 11) (cpy (hI h (o + 11)) (hI h (t + 11)) 4)) (t + 13) (cpy (hI h (o + 13)) (hI h (t + 13)) 6)) (t + 14) (cpy (hI h (o + 14)) (hI h (t + 14)) 6)) (t + 15) (cpy (hI h (o + 15)) (hI h (t + 15)) 10)) t (townF h t o)
set_option maxRecDepth 100000 in
theorem sp_X5_copyFrom {h : HP} (ly : Lay h) {t : Nat} (hT : isT t) {o e : Nat} (hO : isT o) (hne : o ≠ t) (he : e ≤ 60) (hj : hI h (o + 1) 2 = 0 ∨ hI h (o + 1) 2 = 1) (ho : hI h (o + 3) 6 = nI e) (h01 : hI h (o + 3) 5 = 0 ∨ hI h (o + 3) 5 = 1) : Spec yX5_copyFrom cX5_copyFrom miX5_copyFrom [.ref t, .ref o] h (pV fun h' => h' = townCp h t o e) := by
  refine Spec.of (ls0 := [.ref t, .ref o]) mo_X5_copyFrom (Nat.le_of_ble_eq_true rfl) rfl ?_
  rw [ly.1]
  refine V.aload_n dX5_copyFrom_0 rfl rfl (sT0 hT) ?_
  refine V.getR (r := t + 1) dX5_copyFrom_1 fl_X5_12 (sT0 hT) (Or.inl ⟨rfl, SHL_lt (sT0 hT)⟩) rfl (rT_hill ly hT) ?_
  refine V.aload_n dX5_copyFrom_4 rfl rfl (sT0 hO) ?_
  refine V.getR (r := o + 1) dX5_copyFrom_5 fl_X5_12 (sT0 hO) (Or.inl ⟨rfl, SHL_lt (sT0 hO)⟩) rfl (rT_hill ly hO) ?_
  refine V.callVV dX5_copyFrom_8 ml_X5_102 mo_X1_copyFrom mv_X1_copyFrom (sH0 hT.H) (fun q hq => by cases hq; rfl) (by decide) (Or.inl ⟨rfl, SHL_lt (sH0 hT.H)⟩) (sp_X1_copyFrom (by exact ly.keep rfl rfl) hT.H hO.H (by omega) hj) rfl rfl ⟨Nat.le_of_ble_eq_true rfl, Nat.le_of_ble_eq_true rfl, fun _ => ⟨rfl, rfl⟩⟩ (Nat.le_of_ble_eq_true rfl) (Or.inl rfl) (fun h1 p2 => ?_)
  have p2 := p2.symm
  subst p2
  refine V.aload_n dX5_copyFrom_11 rfl rfl (sT0 hT) ?_
  refine V.getR (r := t + 3) dX5_copyFrom_12 fl_X5_21 (sT0 hT) (Or.inl ⟨rfl, SHL_lt (sT0 hT)⟩) rfl (rT_year ly hT) ?_
  refine V.aload_n dX5_copyFrom_15 rfl rfl (sT0 hO) ?_
  refine V.getR (r := o + 3) dX5_copyFrom_16 fl_X5_21 (sT0 hO) (Or.inl ⟨rfl, SHL_lt (sT0 hO)⟩) rfl (rT_year ly hO) ?_
  refine V.callVV dX5_copyFrom_19 ml_X5_106 mo_X9_copyFrom mv_X9_copyFrom (sY0 hT.Y) (fun q hq => by cases hq; rfl) (by decide) (Or.inl ⟨rfl, SHL_lt (sY0 hT.Y)⟩) (sp_X9_copyFrom (e := e) (by exact ly.keep rfl rfl) hT.Y hO.Y (by omega) he (by rw [hI_rI_n _ _ (isT_apart hT hO hne 3 1 (by omega) (by omega))]; exact ho) (by rw [hI_rI_n _ _ (isT_apart hT hO hne 3 1 (by omega) (by omega))]; exact h01)) rfl rfl ⟨Nat.le_of_ble_eq_true rfl, Nat.le_of_ble_eq_true rfl, fun _ => ⟨rfl, rfl⟩⟩ (Nat.le_of_ble_eq_true rfl) (Or.inl rfl) (fun h3 p4 => ?_)
  have p4 := p4.symm
  subst p4
  refine V.aload_n dX5_copyFrom_22 rfl rfl (sT0 hO) ?_
  refine V.getR (r := o + 9) dX5_copyFrom_23 fl_X5_25 (sT0 hO) (Or.inl ⟨rfl, SHL_lt (sT0 hO)⟩) rfl (rT_ruleNames ly hO) ?_
  refine V.iconst (v := 0) dX5_copyFrom_26 rfl ?_
  refine V.aload_n dX5_copyFrom_27 rfl rfl (sT0 hT) ?_
  refine V.getR (r := t + 9) dX5_copyFrom_28 fl_X5_25 (sT0 hT) (Or.inl ⟨rfl, SHL_lt (sT0 hT)⟩) rfl (rT_ruleNames ly hT) ?_
  refine V.iconst (v := 0) dX5_copyFrom_31 rfl ?_
  refine V.iconst (v := 4) dX5_copyFrom_32 rfl ?_
  refine V.copyL dX5_copyFrom_33 lk_X5_109 copy_ok (sT9 hO) (sT9 hT) (Or.inl ⟨rfl, SHL_lt (sT9 hO)⟩) (Or.inl ⟨rfl, SHL_lt (sT9 hT)⟩) (by decide) (by decide) (by decide) (by decide) (by decide) ⟨Nat.le_of_ble_eq_true rfl, Nat.le_of_ble_eq_true rfl⟩ ?_
  have ap := isT_apart hT hO hne
  have ap0 : ∀ i, i ≤ 16 → o + i ≠ t := fun i hi => ap i 0 hi (by omega)
  have ap1 : ∀ i, i ≤ 16 → o ≠ t + i := fun i hi => ap 0 i (by omega) hi
  have fry : ∀ i, i ≤ 16 → o + i < t + 3 ∨ t + 3 + 5 < o + i := by intro i hi; rcases hT with rfl | rfl | rfl | rfl | rfl <;> rcases hO with rfl | rfl | rfl | rfl | rfl <;> omega
  obtain ⟨g0, eg0⟩ : ∃ g, g = yearCp (hillCp h t o) (t + 3) (o + 3) e := ⟨_, rfl⟩
  have ro : ∀ i, i ≤ 16 → 9 < i ∨ i = 0 → hI g0 (o + i) = hI h (o + i) := fun i hi h9 => by rw [eg0, hI_yearCp (fry i hi), hI_rI_n _ _ (ap i 1 hi (by omega))]
  have rt : ∀ i, 9 < i ∨ i = 0 → hI g0 (t + i) = hI h (t + i) := fun i h9 => by rw [eg0, hI_yearCp (by omega), hI_rI_n _ _ (by omega)]
  have rl : hL g0 = hL h := by rw [eg0]; rfl
  refine V.heapEq (h' := rL g0 (t + 9) (cpy (hL h (o + 9)) (hL h (t + 9)) 4)) (by rw [← eg0, show (0 : Int32).toNatClampNeg = 0 from rfl, show (4 : Int32).toNatClampNeg = 4 from rfl, va_cpy0, rl]) ?_
  have lyg : Lay g0 := by rw [eg0]; exact ly.keep rfl rfl
  refine V.aload_n dX5_copyFrom_36 rfl rfl (sT0 hO) ?_
  refine V.getR (r := o + 10) dX5_copyFrom_37 fl_X5_29 (sT0 hO) (Or.inl ⟨rfl, SHL_lt (sT0 hO)⟩) rfl (rT_bornBy (by exact lyg.keep rfl rfl) hO) ?_
  refine V.iconst (v := 0) dX5_copyFrom_40 rfl ?_
  refine V.aload_n dX5_copyFrom_41 rfl rfl (sT0 hT) ?_
  refine V.getR (r := t + 10) dX5_copyFrom_42 fl_X5_29 (sT0 hT) (Or.inl ⟨rfl, SHL_lt (sT0 hT)⟩) rfl (rT_bornBy (by exact lyg.keep rfl rfl) hT) ?_
  refine V.iconst (v := 0) dX5_copyFrom_45 rfl ?_
  refine V.iconst (v := 4) dX5_copyFrom_46 rfl ?_
  refine V.copyI dX5_copyFrom_47 lk_X5_109 copy_ok (sT10 hO) (sT10 hT) (Or.inl ⟨rfl, SHL_lt (sT10 hO)⟩) (Or.inl ⟨rfl, SHL_lt (sT10 hT)⟩) (by decide) (by decide) (by decide) (by decide) (by decide) ⟨Nat.le_of_ble_eq_true rfl, Nat.le_of_ble_eq_true rfl⟩ ?_
  refine V.heapEq (h' := rI (rL g0 (t + 9) (cpy (hL h (o + 9)) (hL h (t + 9)) 4)) (t + 10) (cpy (hI h (o + 10)) (hI h (t + 10)) 4)) ?_ ?_
  · refine congrArg (rI (rL g0 (t + 9) (cpy (hL h (o + 9)) (hL h (t + 9)) 4)) (t + 10)) ?_
    rw [show (0 : Int32).toNatClampNeg = 0 from rfl, show (4 : Int32).toNatClampNeg = 4 from rfl, va_cpy0]
    congr 1
    · (repeat rw [hI_rI_n _ _ (ap _ _ (by omega) (by omega))]); exact ro 10 (by omega) (by omega)
    · (repeat rw [hI_rI_n _ _ (by omega)]); exact rt 10 (by omega)
  refine V.aload_n dX5_copyFrom_50 rfl rfl (sT0 hO) ?_
  refine V.getR (r := o + 11) dX5_copyFrom_51 fl_X5_33 (sT0 hO) (Or.inl ⟨rfl, SHL_lt (sT0 hO)⟩) rfl (rT_staysBy (by exact lyg.keep rfl rfl) hO) ?_
  refine V.iconst (v := 0) dX5_copyFrom_54 rfl ?_
  refine V.aload_n dX5_copyFrom_55 rfl rfl (sT0 hT) ?_
  refine V.getR (r := t + 11) dX5_copyFrom_56 fl_X5_33 (sT0 hT) (Or.inl ⟨rfl, SHL_lt (sT0 hT)⟩) rfl (rT_staysBy (by exact lyg.keep rfl rfl) hT) ?_
  refine V.iconst (v := 0) dX5_copyFrom_59 rfl ?_
  refine V.iconst (v := 4) dX5_copyFrom_60 rfl ?_
  refine V.copyI dX5_copyFrom_61 lk_X5_109 copy_ok (sT11 hO) (sT11 hT) (Or.inl ⟨rfl, SHL_lt (sT11 hO)⟩) (Or.inl ⟨rfl, SHL_lt (sT11 hT)⟩) (by decide) (by decide) (by decide) (by decide) (by decide) ⟨Nat.le_of_ble_eq_true rfl, Nat.le_of_ble_eq_true rfl⟩ ?_
  refine V.heapEq (h' := rI (rI (rL g0 (t + 9) (cpy (hL h (o + 9)) (hL h (t + 9)) 4)) (t + 10) (cpy (hI h (o + 10)) (hI h (t + 10)) 4)) (t + 11) (cpy (hI h (o + 11)) (hI h (t + 11)) 4)) ?_ ?_
  · refine congrArg (rI (rI (rL g0 (t + 9) (cpy (hL h (o + 9)) (hL h (t + 9)) 4)) (t + 10) (cpy (hI h (o + 10)) (hI h (t + 10)) 4)) (t + 11)) ?_
    rw [show (0 : Int32).toNatClampNeg = 0 from rfl, show (4 : Int32).toNatClampNeg = 4 from rfl, va_cpy0]
    congr 1
    · (repeat rw [hI_rI_n _ _ (ap _ _ (by omega) (by omega))]); exact ro 11 (by omega) (by omega)
    · (repeat rw [hI_rI_n _ _ (by omega)]); exact rt 11 (by omega)
  refine V.aload_n dX5_copyFrom_64 rfl rfl (sT0 hO) ?_
  refine V.getR (r := o + 13) dX5_copyFrom_65 fl_X5_39 (sT0 hO) (Or.inl ⟨rfl, SHL_lt (sT0 hO)⟩) rfl (rT_least (by exact lyg.keep rfl rfl) hO) ?_
  refine V.iconst (v := 0) dX5_copyFrom_68 rfl ?_
  refine V.aload_n dX5_copyFrom_69 rfl rfl (sT0 hT) ?_
  refine V.getR (r := t + 13) dX5_copyFrom_70 fl_X5_39 (sT0 hT) (Or.inl ⟨rfl, SHL_lt (sT0 hT)⟩) rfl (rT_least (by exact lyg.keep rfl rfl) hT) ?_
  refine V.iconst (v := 0) dX5_copyFrom_73 rfl ?_
  refine V.bipush (v := 6) dX5_copyFrom_74 rfl ?_
  refine V.copyI dX5_copyFrom_76 lk_X5_109 copy_ok (sT13 hO) (sT13 hT) (Or.inl ⟨rfl, SHL_lt (sT13 hO)⟩) (Or.inl ⟨rfl, SHL_lt (sT13 hT)⟩) (by decide) (by decide) (by decide) (by decide) (by decide) ⟨Nat.le_of_ble_eq_true rfl, Nat.le_of_ble_eq_true rfl⟩ ?_
  refine V.heapEq (h' := rI (rI (rI (rL g0 (t + 9) (cpy (hL h (o + 9)) (hL h (t + 9)) 4)) (t + 10) (cpy (hI h (o + 10)) (hI h (t + 10)) 4)) (t + 11) (cpy (hI h (o + 11)) (hI h (t + 11)) 4)) (t + 13) (cpy (hI h (o + 13)) (hI h (t + 13)) 6)) ?_ ?_
  · refine congrArg (rI (rI (rI (rL g0 (t + 9) (cpy (hL h (o + 9)) (hL h (t + 9)) 4)) (t + 10) (cpy (hI h (o + 10)) (hI h (t + 10)) 4)) (t + 11) (cpy (hI h (o + 11)) (hI h (t + 11)) 4)) (t + 13)) ?_
    rw [show (0 : Int32).toNatClampNeg = 0 from rfl, show (6 : Int32).toNatClampNeg = 6 from rfl, va_cpy0]
    congr 1
    · (repeat rw [hI_rI_n _ _ (ap _ _ (by omega) (by omega))]); exact ro 13 (by omega) (by omega)
    · (repeat rw [hI_rI_n _ _ (by omega)]); exact rt 13 (by omega)
  refine V.aload_n dX5_copyFrom_79 rfl rfl (sT0 hO) ?_
  refine V.getR (r := o + 14) dX5_copyFrom_80 fl_X5_42 (sT0 hO) (Or.inl ⟨rfl, SHL_lt (sT0 hO)⟩) rfl (rT_most (by exact lyg.keep rfl rfl) hO) ?_
  refine V.iconst (v := 0) dX5_copyFrom_83 rfl ?_
  refine V.aload_n dX5_copyFrom_84 rfl rfl (sT0 hT) ?_
  refine V.getR (r := t + 14) dX5_copyFrom_85 fl_X5_42 (sT0 hT) (Or.inl ⟨rfl, SHL_lt (sT0 hT)⟩) rfl (rT_most (by exact lyg.keep rfl rfl) hT) ?_
  refine V.iconst (v := 0) dX5_copyFrom_88 rfl ?_
  refine V.bipush (v := 6) dX5_copyFrom_89 rfl ?_
  refine V.copyI dX5_copyFrom_91 lk_X5_109 copy_ok (sT14 hO) (sT14 hT) (Or.inl ⟨rfl, SHL_lt (sT14 hO)⟩) (Or.inl ⟨rfl, SHL_lt (sT14 hT)⟩) (by decide) (by decide) (by decide) (by decide) (by decide) ⟨Nat.le_of_ble_eq_true rfl, Nat.le_of_ble_eq_true rfl⟩ ?_
  refine V.heapEq (h' := rI (rI (rI (rI (rL g0 (t + 9) (cpy (hL h (o + 9)) (hL h (t + 9)) 4)) (t + 10) (cpy (hI h (o + 10)) (hI h (t + 10)) 4)) (t + 11) (cpy (hI h (o + 11)) (hI h (t + 11)) 4)) (t + 13) (cpy (hI h (o + 13)) (hI h (t + 13)) 6)) (t + 14) (cpy (hI h (o + 14)) (hI h (t + 14)) 6)) ?_ ?_
  · refine congrArg (rI (rI (rI (rI (rL g0 (t + 9) (cpy (hL h (o + 9)) (hL h (t + 9)) 4)) (t + 10) (cpy (hI h (o + 10)) (hI h (t + 10)) 4)) (t + 11) (cpy (hI h (o + 11)) (hI h (t + 11)) 4)) (t + 13) (cpy (hI h (o + 13)) (hI h (t + 13)) 6)) (t + 14)) ?_
    rw [show (0 : Int32).toNatClampNeg = 0 from rfl, show (6 : Int32).toNatClampNeg = 6 from rfl, va_cpy0]
    congr 1
    · (repeat rw [hI_rI_n _ _ (ap _ _ (by omega) (by omega))]); exact ro 14 (by omega) (by omega)
    · (repeat rw [hI_rI_n _ _ (by omega)]); exact rt 14 (by omega)
  refine V.aload_n dX5_copyFrom_94 rfl rfl (sT0 hO) ?_
  refine V.getR (r := o + 15) dX5_copyFrom_95 fl_X5_45 (sT0 hO) (Or.inl ⟨rfl, SHL_lt (sT0 hO)⟩) rfl (rT_seen (by exact lyg.keep rfl rfl) hO) ?_
  refine V.iconst (v := 0) dX5_copyFrom_98 rfl ?_
  refine V.aload_n dX5_copyFrom_99 rfl rfl (sT0 hT) ?_
  refine V.getR (r := t + 15) dX5_copyFrom_100 fl_X5_45 (sT0 hT) (Or.inl ⟨rfl, SHL_lt (sT0 hT)⟩) rfl (rT_seen (by exact lyg.keep rfl rfl) hT) ?_
  refine V.iconst (v := 0) dX5_copyFrom_103 rfl ?_
  refine V.aload_n dX5_copyFrom_104 rfl rfl (sT0 hT) ?_
  refine V.getR (r := t + 15) dX5_copyFrom_105 fl_X5_45 (sT0 hT) (Or.inl ⟨rfl, SHL_lt (sT0 hT)⟩) rfl (rT_seen (by exact lyg.keep rfl rfl) hT) ?_
  refine V.arraylength (v := 10) dX5_copyFrom_108 (sT15 hT) (by decide) (Or.inl ⟨rfl, SHL_lt (sT15 hT)⟩) rfl ?_
  refine V.copyI dX5_copyFrom_109 lk_X5_109 copy_ok (sT15 hO) (sT15 hT) (Or.inl ⟨rfl, SHL_lt (sT15 hO)⟩) (Or.inl ⟨rfl, SHL_lt (sT15 hT)⟩) (by decide) (by decide) (by decide) (by decide) (by decide) ⟨Nat.le_of_ble_eq_true rfl, Nat.le_of_ble_eq_true rfl⟩ ?_
  refine V.heapEq (h' := rI (rI (rI (rI (rI (rL g0 (t + 9) (cpy (hL h (o + 9)) (hL h (t + 9)) 4)) (t + 10) (cpy (hI h (o + 10)) (hI h (t + 10)) 4)) (t + 11) (cpy (hI h (o + 11)) (hI h (t + 11)) 4)) (t + 13) (cpy (hI h (o + 13)) (hI h (t + 13)) 6)) (t + 14) (cpy (hI h (o + 14)) (hI h (t + 14)) 6)) (t + 15) (cpy (hI h (o + 15)) (hI h (t + 15)) 10)) ?_ ?_
  · refine congrArg (rI (rI (rI (rI (rI (rL g0 (t + 9) (cpy (hL h (o + 9)) (hL h (t + 9)) 4)) (t + 10) (cpy (hI h (o + 10)) (hI h (t + 10)) 4)) (t + 11) (cpy (hI h (o + 11)) (hI h (t + 11)) 4)) (t + 13) (cpy (hI h (o + 13)) (hI h (t + 13)) 6)) (t + 14) (cpy (hI h (o + 14)) (hI h (t + 14)) 6)) (t + 15)) ?_
    rw [show (0 : Int32).toNatClampNeg = 0 from rfl, show (10 : Int32).toNatClampNeg = 10 from rfl, va_cpy0]
    congr 1
    · (repeat rw [hI_rI_n _ _ (ap _ _ (by omega) (by omega))]); exact ro 15 (by omega) (by omega)
    · (repeat rw [hI_rI_n _ _ (by omega)]); exact rt 15 (by omega)
  refine V.aload_n dX5_copyFrom_112 rfl rfl (sT0 hT) ?_
  refine V.aload_n dX5_copyFrom_113 rfl rfl (sT0 hO) ?_
  refine V.getI dX5_copyFrom_114 fl_X5_68 (sT0 hO) (Or.inl ⟨rfl, SHL_lt (sT0 hO)⟩) rfl rfl ?_
  refine V.putI dX5_copyFrom_117 fl_X5_68 (sT0 hT) (Or.inl ⟨rfl, SHL_lt (sT0 hT)⟩) rfl (fun q hq => by cases hq; rfl) ⟨rfl, rfl⟩ ?_
  refine V.aload_n dX5_copyFrom_120 rfl rfl (sT0 hT) ?_
  refine V.aload_n dX5_copyFrom_121 rfl rfl (sT0 hO) ?_
  refine V.getI dX5_copyFrom_122 fl_X5_72 (sT0 hO) (Or.inl ⟨rfl, SHL_lt (sT0 hO)⟩) rfl rfl ?_
  refine V.putI dX5_copyFrom_125 fl_X5_72 (sT0 hT) (Or.inl ⟨rfl, SHL_lt (sT0 hT)⟩) rfl (fun q hq => by cases hq; rfl) ⟨rfl, rfl⟩ ?_
  refine V.aload_n dX5_copyFrom_128 rfl rfl (sT0 hT) ?_
  refine V.aload_n dX5_copyFrom_129 rfl rfl (sT0 hO) ?_
  refine V.getI dX5_copyFrom_130 fl_X5_75 (sT0 hO) (Or.inl ⟨rfl, SHL_lt (sT0 hO)⟩) rfl rfl ?_
  refine V.putI dX5_copyFrom_133 fl_X5_75 (sT0 hT) (Or.inl ⟨rfl, SHL_lt (sT0 hT)⟩) rfl (fun q hq => by cases hq; rfl) ⟨rfl, rfl⟩ ?_
  refine V.aload_n dX5_copyFrom_136 rfl rfl (sT0 hT) ?_
  refine V.aload_n dX5_copyFrom_137 rfl rfl (sT0 hO) ?_
  refine V.getI dX5_copyFrom_138 fl_X5_78 (sT0 hO) (Or.inl ⟨rfl, SHL_lt (sT0 hO)⟩) rfl rfl ?_
  refine V.putI dX5_copyFrom_141 fl_X5_78 (sT0 hT) (Or.inl ⟨rfl, SHL_lt (sT0 hT)⟩) rfl (fun q hq => by cases hq; rfl) ⟨rfl, rfl⟩ ?_
  refine V.aload_n dX5_copyFrom_144 rfl rfl (sT0 hT) ?_
  refine V.aload_n dX5_copyFrom_145 rfl rfl (sT0 hO) ?_
  refine V.getI dX5_copyFrom_146 fl_X5_81 (sT0 hO) (Or.inl ⟨rfl, SHL_lt (sT0 hO)⟩) rfl rfl ?_
  refine V.putI dX5_copyFrom_149 fl_X5_81 (sT0 hT) (Or.inl ⟨rfl, SHL_lt (sT0 hT)⟩) rfl (fun q hq => by cases hq; rfl) ⟨rfl, rfl⟩ ?_
  refine V.aload_n dX5_copyFrom_152 rfl rfl (sT0 hT) ?_
  refine V.aload_n dX5_copyFrom_153 rfl rfl (sT0 hO) ?_
  refine V.getI dX5_copyFrom_154 fl_X5_84 (sT0 hO) (Or.inl ⟨rfl, SHL_lt (sT0 hO)⟩) rfl rfl ?_
  refine V.putI dX5_copyFrom_157 fl_X5_84 (sT0 hT) (Or.inl ⟨rfl, SHL_lt (sT0 hT)⟩) rfl (fun q hq => by cases hq; rfl) ⟨rfl, rfl⟩ ?_
  refine V.vreturn' dX5_copyFrom_160 rfl ly.1 (Or.inl ⟨rfl, rfl⟩) ?_
  unfold townCp
  rw [← eg0]
  have ro0 := ro 0 (by omega) (by omega)
  have rt0 := rt 0 (by omega)
  rw [Nat.add_zero] at ro0 rt0
  simp only [uI, rI_rI, hI_rI_s, hI_rI_n _ _ hne, hI_rI_n _ _ (show t ≠ t + 10 by omega), hI_rI_n _ _ (show t ≠ t + 11 by omega), hI_rI_n _ _ (show t ≠ t + 13 by omega), hI_rI_n _ _ (show t ≠ t + 14 by omega), hI_rI_n _ _ (show t ≠ t + 15 by omega), hI_rI_n _ _ (ap1 10 (by omega)), hI_rI_n _ _ (ap1 11 (by omega)), hI_rI_n _ _ (ap1 13 (by omega)), hI_rI_n _ _ (ap1 14 (by omega)), hI_rI_n _ _ (ap1 15 (by omega)), hI_rL, ro0, rt0]
  rfl
