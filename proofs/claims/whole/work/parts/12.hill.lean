/-! ===== bitCount; the hill of the class: sets of places ===== -/
abbrev shl (x y : Int32) : Int32 := x <<< (y &&& 31)
abbrev shr (x y : Int32) : Int32 := x >>> (y &&& 31)
set_option maxRecDepth 100000 in
theorem sp_J6_bitCount_0f7a4 (h : HP) (x : Int32) : Spec yJ6_bitCount_0f7a4 cJ6_bitCount_0f7a4 miJ6_bitCount_0f7a4 [.int x] h (pI fun r h' => r = nI (pc x) ∧ h' = h) := by
  refine Spec.of (ls0 := [.int x]) mo_J6_bitCount_0f7a4 (Nat.le_of_ble_eq_true rfl) rfl ?_
  refine V.iload_n dJ6_bitCount_0f7a4_0 rfl rfl ?_
  refine V.iload_n dJ6_bitCount_0f7a4_1 rfl rfl ?_
  refine V.iconst (v := 1) dJ6_bitCount_0f7a4_2 rfl ?_
  refine V.iushr dJ6_bitCount_0f7a4_3 ?_
  refine V.ldcw (v := 1431655765) dJ6_bitCount_0f7a4_4 kc_J6_265 ?_
  refine V.iand dJ6_bitCount_0f7a4_7 ?_
  refine V.isub dJ6_bitCount_0f7a4_8 ?_
  refine V.nmi (fun x1 ex1 => ?_)
  refine V.istore_n (ls' := [.int x1]) dJ6_bitCount_0f7a4_9 rfl (by decide) rfl ?_
  refine V.iload_n dJ6_bitCount_0f7a4_10 rfl rfl ?_
  refine V.ldcw (v := 858993459) dJ6_bitCount_0f7a4_11 kc_J6_266 ?_
  refine V.iand dJ6_bitCount_0f7a4_14 ?_
  refine V.iload_n dJ6_bitCount_0f7a4_15 rfl rfl ?_
  refine V.iconst (v := 2) dJ6_bitCount_0f7a4_16 rfl ?_
  refine V.iushr dJ6_bitCount_0f7a4_17 ?_
  refine V.ldcw (v := 858993459) dJ6_bitCount_0f7a4_18 kc_J6_266 ?_
  refine V.iand dJ6_bitCount_0f7a4_21 ?_
  refine V.iadd dJ6_bitCount_0f7a4_22 ?_
  refine V.nmi (fun x2 ex2 => ?_)
  refine V.istore_n (ls' := [.int x2]) dJ6_bitCount_0f7a4_23 rfl (by decide) rfl ?_
  refine V.iload_n dJ6_bitCount_0f7a4_24 rfl rfl ?_
  refine V.iload_n dJ6_bitCount_0f7a4_25 rfl rfl ?_
  refine V.iconst (v := 4) dJ6_bitCount_0f7a4_26 rfl ?_
  refine V.iushr dJ6_bitCount_0f7a4_27 ?_
  refine V.iadd dJ6_bitCount_0f7a4_28 ?_
  refine V.ldcw (v := 252645135) dJ6_bitCount_0f7a4_29 kc_J6_267 ?_
  refine V.iand dJ6_bitCount_0f7a4_32 ?_
  refine V.nmi (fun x3 ex3 => ?_)
  refine V.istore_n (ls' := [.int x3]) dJ6_bitCount_0f7a4_33 rfl (by decide) rfl ?_
  refine V.iload_n dJ6_bitCount_0f7a4_34 rfl rfl ?_
  refine V.iload_n dJ6_bitCount_0f7a4_35 rfl rfl ?_
  refine V.bipush (v := 8) dJ6_bitCount_0f7a4_36 rfl ?_
  refine V.iushr dJ6_bitCount_0f7a4_38 ?_
  refine V.iadd dJ6_bitCount_0f7a4_39 ?_
  refine V.nmi (fun x4 ex4 => ?_)
  refine V.istore_n (ls' := [.int x4]) dJ6_bitCount_0f7a4_40 rfl (by decide) rfl ?_
  refine V.iload_n dJ6_bitCount_0f7a4_41 rfl rfl ?_
  refine V.iload_n dJ6_bitCount_0f7a4_42 rfl rfl ?_
  refine V.bipush (v := 16) dJ6_bitCount_0f7a4_43 rfl ?_
  refine V.iushr dJ6_bitCount_0f7a4_45 ?_
  refine V.iadd dJ6_bitCount_0f7a4_46 ?_
  refine V.nmi (fun x5 ex5 => ?_)
  refine V.istore_n (ls' := [.int x5]) dJ6_bitCount_0f7a4_47 rfl (by decide) rfl ?_
  refine V.iload_n dJ6_bitCount_0f7a4_48 rfl rfl ?_
  refine V.bipush (v := 63) dJ6_bitCount_0f7a4_49 rfl ?_
  refine V.iand dJ6_bitCount_0f7a4_51 ?_
  refine V.ireturn dJ6_bitCount_0f7a4_52 rfl rfl ⟨rfl, rfl⟩ rfl ?_
  refine ⟨?_, rfl⟩
  rw [← jBit_pc]
  subst_vars
  rfl
def maskF (f : Nat → Int32) : Int32 := shl 1 (f 0) - 1
def rowF (f : Nat → Int32) (p y : Int32) : Int32 := shr p (y * f 0) &&& maskF f
def placeF (f : Nat → Int32) (x y : Int32) : Int32 := if 0 ≤ x.toInt ∧ x.toInt < (f 0).toInt ∧ 0 ≤ y.toInt ∧ y.toInt < (f 1).toInt then y * f 0 + x else -1
def aroundB (f : Nat → Int32) (x : Int32) : Int32 := ((shl (x &&& (f 8 ^^^ -1)) 1 ||| shr (x &&& (f 7 ^^^ -1)) 1) ||| (shl x (f 0) &&& f 3)) ||| shr x (f 0)
def aroundF (f : Nat → Int32) (x : Int32) : Int32 := if f 2 = 0 then aroundB f x else aroundB f x ||| (shr (x &&& f 8) (f 0 - 1) ||| shl (x &&& f 7) (f 0 - 1))
def leftF (f : Nat → Int32) (x : Int32) : Int32 := if f 2 = 0 then shl (x &&& (f 8 ^^^ -1)) 1 else shl (x &&& (f 8 ^^^ -1)) 1 ||| shr (x &&& f 8) (f 0 - 1)
def rightF (f : Nat → Int32) (x : Int32) : Int32 := if f 2 = 0 then shr (x &&& (f 7 ^^^ -1)) 1 else shr (x &&& (f 7 ^^^ -1)) 1 ||| shl (x &&& f 7) (f 0 - 1)
def aboveF (f : Nat → Int32) (x : Int32) : Int32 := shl x (f 0) &&& f 3
def belowF (f : Nat → Int32) (x : Int32) : Int32 := shr x (f 0)
def onesF (l r a b : Int32) : Int32 := (l ^^^ r) ^^^ (a ^^^ b)
def twosF (l r a b : Int32) : Int32 := ((l &&& r) ^^^ (a &&& b)) ^^^ ((l ^^^ r) &&& (a ^^^ b))
def foursF (l r a b : Int32) : Int32 := (l &&& r) &&& (a &&& b)
/-- the places with m lit neighbours -/
def litF (f : Nat → Int32) (x : Int32) (m : Nat) : Int32 :=
  let o := onesF (leftF f x) (rightF f x) (aboveF f x) (belowF f x)
  let t := twosF (leftF f x) (rightF f x) (aboveF f x) (belowF f x)
  let q := foursF (leftF f x) (rightF f x) (aboveF f x) (belowF f x)
  match m with
  | 0 => ((o ||| t) ||| q) ^^^ -1
  | 1 => o &&& (t ^^^ -1)
  | 2 => t &&& (o ^^^ -1)
  | 3 => o &&& t
  | _ => q
def litRow (g f : Nat → Int32) (x : Int32) : Nat → Int32 := fun j => if j < 5 then litF f x j else g j
theorem litRow_upd (g f : Nat → Int32) (x : Int32) : upd (upd (upd (upd (upd g 0 (litF f x 0)) 1 (litF f x 1)) 2 (litF f x 2)) 3 (litF f x 3)) 4 (litF f x 4) = litRow g f x := by
  funext j
  unfold litRow
  by_cases h : j < 5
  · rw [if_pos h]
    rcases (show j = 0 ∨ j = 1 ∨ j = 2 ∨ j = 3 ∨ j = 4 by omega) with rfl | rfl | rfl | rfl | rfl <;> simp [upd]
  · rw [if_neg h]; simp [upd, show j ≠ 0 by omega, show j ≠ 1 by omega, show j ≠ 2 by omega, show j ≠ 3 by omega, show j ≠ 4 by omega]
theorem uI_rI (h : HP) (a j : Nat) (f : Nat → Int32) (x : Int32) : uI (rI h a f) a j x = rI h a (upd f j x) := by
  show rI (rI h a f) a (upd (hI (rI h a f) a) j x) = _
  rw [hI_rI_s, rI_rI]
def keptF (born stays x : Int32) (m : Nat) : Int32 := (if shr born (nI m) &&& 1 = 0 then 0 else x ^^^ -1) ||| (if shr stays (nI m) &&& 1 = 0 then 0 else x)
def thenF (w : Nat → Int32) (born stays x : Int32) : Nat → Int32
  | 0 => 0
  | m + 1 => thenF w born stays x m ||| (keptF born stays x m &&& w m)
def stepF (f : Nat → Int32) (x born stays : Int32) : Int32 := (thenF (litF f x) born stays x 5 &&& f 5) ||| f 6
/-- the world with what was counted latest -/
abbrev litH (h : HP) (a : Nat) (x : Int32) : HP := rI h (a + 1) (litRow (hI h (a + 1)) (hI h a) x)
set_option maxRecDepth 100000 in
theorem sp_X1_rowMask {h : HP} (ly : Lay h) {a : Nat} (hA : isH a)  : Spec yX1_rowMask cX1_rowMask miX1_rowMask [.ref a] h (pI fun r h' => r = maskF (hI h a) ∧ h' = h) := by
  refine Spec.of (ls0 := [.ref a]) mo_X1_rowMask (Nat.le_of_ble_eq_true rfl) rfl ?_
  rw [ly.1]
  refine V.iconst (v := 1) dX1_rowMask_0 rfl ?_
  refine V.aload_n dX1_rowMask_1 rfl rfl (sH0 hA) ?_
  refine V.getI dX1_rowMask_2 fl_X1_7 (sH0 hA) (Or.inl ⟨rfl, SHL_lt (sH0 hA)⟩) rfl rfl ?_
  refine V.ishl dX1_rowMask_5 ?_
  refine V.iconst (v := 1) dX1_rowMask_6 rfl ?_
  refine V.isub dX1_rowMask_7 ?_
  refine V.ireturn dX1_rowMask_8 rfl rfl ⟨rfl, rfl⟩ ly.1 ?_
  first | exact ⟨rfl, rfl⟩ | exact ⟨by assumption, rfl⟩ | (subst_vars; exact ⟨rfl, rfl⟩)
set_option maxRecDepth 100000 in
theorem sp_X1_rowOf {h : HP} (ly : Lay h) {a : Nat} (hA : isH a) (p y : Int32) : Spec yX1_rowOf cX1_rowOf miX1_rowOf [.ref a, .int p, .int y] h (pI fun r h' => r = rowF (hI h a) p y ∧ h' = h) := by
  refine Spec.of (ls0 := [.ref a, .int p, .int y]) mo_X1_rowOf (Nat.le_of_ble_eq_true rfl) rfl ?_
  rw [ly.1]
  refine V.iload_n dX1_rowOf_0 rfl rfl ?_
  refine V.iload_n dX1_rowOf_1 rfl rfl ?_
  refine V.aload_n dX1_rowOf_2 rfl rfl (sH0 hA) ?_
  refine V.getI dX1_rowOf_3 fl_X1_7 (sH0 hA) (Or.inl ⟨rfl, SHL_lt (sH0 hA)⟩) rfl rfl ?_
  refine V.imul dX1_rowOf_6 ?_
  refine V.ishr dX1_rowOf_7 ?_
  refine V.aload_n dX1_rowOf_8 rfl rfl (sH0 hA) ?_
  refine V.callVI dX1_rowOf_9 ml_X1_42 mo_X1_rowMask mv_X1_rowMask (sH0 hA) (fun q hq => by cases hq; rfl) (by decide) (Or.inl ⟨rfl, SHL_lt (sH0 hA)⟩) (sp_X1_rowMask (by exact ly.keep rfl rfl) hA) rfl rfl ⟨Nat.le_of_ble_eq_true rfl, Nat.le_of_ble_eq_true rfl, fun _ => ⟨rfl, rfl⟩⟩ (Nat.le_of_ble_eq_true rfl) rfl (fun r1 h2 p3 => ?_)
  obtain ⟨er1, p3⟩ := p3
  have p3 := p3.symm
  subst p3
  refine V.iand dX1_rowOf_12 ?_
  refine V.ireturn dX1_rowOf_13 rfl rfl ⟨rfl, rfl⟩ ly.1 ?_
  subst_vars
  exact ⟨rfl, rfl⟩
set_option maxRecDepth 100000 in
theorem sp_X1_placeOf {h : HP} (ly : Lay h) {a : Nat} (hA : isH a) (x y : Int32) : Spec yX1_placeOf cX1_placeOf miX1_placeOf [.ref a, .int x, .int y] h (pI fun r h' => r = placeF (hI h a) x y ∧ h' = h) := by
  refine Spec.of (ls0 := [.ref a, .int x, .int y]) mo_X1_placeOf (Nat.le_of_ble_eq_true rfl) rfl ?_
  rw [ly.1]
  refine V.iload_n dX1_placeOf_0 rfl rfl ?_
  refine V.if_lt (tgt := 35) dX1_placeOf_1 (by decide) (fun c1 => ?_) (fun c1 => ?_)
  · refine V.iconst (v := (-1)) dX1_placeOf_35 rfl ?_
    refine V.ireturn dX1_placeOf_36 rfl rfl ⟨rfl, rfl⟩ ly.1 ?_
    refine ⟨?_, rfl⟩
    unfold placeF
    simp only [Int32.lt_iff_toInt_lt, Int32.le_iff_toInt_le, Int32.reduceToInt] at *
    first | (rw [if_pos (by omega)]; done) | (rw [if_neg (by omega)]; done)
  · refine V.iload_n dX1_placeOf_4 rfl rfl ?_
    refine V.aload_n dX1_placeOf_5 rfl rfl (sH0 hA) ?_
    refine V.getI dX1_placeOf_6 fl_X1_7 (sH0 hA) (Or.inl ⟨rfl, SHL_lt (sH0 hA)⟩) rfl rfl ?_
    refine V.icmp_ge (tgt := 35) dX1_placeOf_9 (by decide) (fun c2 => ?_) (fun c2 => ?_)
    · refine V.iconst (v := (-1)) dX1_placeOf_35 rfl ?_
      refine V.ireturn dX1_placeOf_36 rfl rfl ⟨rfl, rfl⟩ ly.1 ?_
      refine ⟨?_, rfl⟩
      unfold placeF
      simp only [Int32.lt_iff_toInt_lt, Int32.le_iff_toInt_le, Int32.reduceToInt] at *
      first | (rw [if_pos (by omega)]; done) | (rw [if_neg (by omega)]; done)
    · refine V.iload_n dX1_placeOf_12 rfl rfl ?_
      refine V.if_lt (tgt := 35) dX1_placeOf_13 (by decide) (fun c3 => ?_) (fun c3 => ?_)
      · refine V.iconst (v := (-1)) dX1_placeOf_35 rfl ?_
        refine V.ireturn dX1_placeOf_36 rfl rfl ⟨rfl, rfl⟩ ly.1 ?_
        refine ⟨?_, rfl⟩
        unfold placeF
        simp only [Int32.lt_iff_toInt_lt, Int32.le_iff_toInt_le, Int32.reduceToInt] at *
        first | (rw [if_pos (by omega)]; done) | (rw [if_neg (by omega)]; done)
      · refine V.iload_n dX1_placeOf_16 rfl rfl ?_
        refine V.aload_n dX1_placeOf_17 rfl rfl (sH0 hA) ?_
        refine V.getI dX1_placeOf_18 fl_X1_21 (sH0 hA) (Or.inl ⟨rfl, SHL_lt (sH0 hA)⟩) rfl rfl ?_
        refine V.icmp_ge (tgt := 35) dX1_placeOf_21 (by decide) (fun c4 => ?_) (fun c4 => ?_)
        · refine V.iconst (v := (-1)) dX1_placeOf_35 rfl ?_
          refine V.ireturn dX1_placeOf_36 rfl rfl ⟨rfl, rfl⟩ ly.1 ?_
          refine ⟨?_, rfl⟩
          unfold placeF
          simp only [Int32.lt_iff_toInt_lt, Int32.le_iff_toInt_le, Int32.reduceToInt] at *
          first | (rw [if_pos (by omega)]; done) | (rw [if_neg (by omega)]; done)
        · refine V.iload_n dX1_placeOf_24 rfl rfl ?_
          refine V.aload_n dX1_placeOf_25 rfl rfl (sH0 hA) ?_
          refine V.getI dX1_placeOf_26 fl_X1_7 (sH0 hA) (Or.inl ⟨rfl, SHL_lt (sH0 hA)⟩) rfl rfl ?_
          refine V.imul dX1_placeOf_29 ?_
          refine V.iload_n dX1_placeOf_30 rfl rfl ?_
          refine V.iadd dX1_placeOf_31 ?_
          refine V.goto (tgt := 36) dX1_placeOf_32 (by decide) ?_
          refine V.ireturn dX1_placeOf_36 rfl rfl ⟨rfl, rfl⟩ ly.1 ?_
          refine ⟨?_, rfl⟩
          unfold placeF
          simp only [Int32.lt_iff_toInt_lt, Int32.le_iff_toInt_le, Int32.reduceToInt] at *
          first | (rw [if_pos (by omega)]; done) | (rw [if_neg (by omega)]; done)
set_option maxRecDepth 100000 in
theorem sp_X1_around {h : HP} (ly : Lay h) {a : Nat} (hA : isH a) (x : Int32) : Spec yX1_around cX1_around miX1_around [.ref a, .int x] h (pI fun r h' => r = aroundF (hI h a) x ∧ h' = h) := by
  refine Spec.of (ls0 := [.ref a, .int x, .null]) mo_X1_around (Nat.le_of_ble_eq_true rfl) rfl ?_
  rw [ly.1]
  refine V.iload_n dX1_around_0 rfl rfl ?_
  refine V.aload_n dX1_around_1 rfl rfl (sH0 hA) ?_
  refine V.getI dX1_around_2 fl_X1_39 (sH0 hA) (Or.inl ⟨rfl, SHL_lt (sH0 hA)⟩) rfl rfl ?_
  refine V.iconst (v := (-1)) dX1_around_5 rfl ?_
  refine V.ixor dX1_around_6 ?_
  refine V.iand dX1_around_7 ?_
  refine V.iconst (v := 1) dX1_around_8 rfl ?_
  refine V.ishl dX1_around_9 ?_
  refine V.iload_n dX1_around_10 rfl rfl ?_
  refine V.aload_n dX1_around_11 rfl rfl (sH0 hA) ?_
  refine V.getI dX1_around_12 fl_X1_36 (sH0 hA) (Or.inl ⟨rfl, SHL_lt (sH0 hA)⟩) rfl rfl ?_
  refine V.iconst (v := (-1)) dX1_around_15 rfl ?_
  refine V.ixor dX1_around_16 ?_
  refine V.iand dX1_around_17 ?_
  refine V.iconst (v := 1) dX1_around_18 rfl ?_
  refine V.ishr dX1_around_19 ?_
  refine V.ior dX1_around_20 ?_
  refine V.iload_n dX1_around_21 rfl rfl ?_
  refine V.aload_n dX1_around_22 rfl rfl (sH0 hA) ?_
  refine V.getI dX1_around_23 fl_X1_7 (sH0 hA) (Or.inl ⟨rfl, SHL_lt (sH0 hA)⟩) rfl rfl ?_
  refine V.ishl dX1_around_26 ?_
  refine V.aload_n dX1_around_27 rfl rfl (sH0 hA) ?_
  refine V.getI dX1_around_28 fl_X1_24 (sH0 hA) (Or.inl ⟨rfl, SHL_lt (sH0 hA)⟩) rfl rfl ?_
  refine V.iand dX1_around_31 ?_
  refine V.ior dX1_around_32 ?_
  refine V.iload_n dX1_around_33 rfl rfl ?_
  refine V.aload_n dX1_around_34 rfl rfl (sH0 hA) ?_
  refine V.getI dX1_around_35 fl_X1_7 (sH0 hA) (Or.inl ⟨rfl, SHL_lt (sH0 hA)⟩) rfl rfl ?_
  refine V.ishr dX1_around_38 ?_
  refine V.ior dX1_around_39 ?_
  refine V.nmi (fun x1 ex1 => ?_)
  refine V.istore_n (ls' := [.ref a, .int x, .int x1]) dX1_around_40 rfl (by decide) rfl ?_
  refine V.aload_n dX1_around_41 rfl rfl (sH0 hA) ?_
  refine V.getI dX1_around_42 fl_X1_17 (sH0 hA) (Or.inl ⟨rfl, SHL_lt (sH0 hA)⟩) rfl rfl ?_
  refine V.if_eq (tgt := 78) dX1_around_45 (by decide) (fun c2 => ?_) (fun c2 => ?_)
  · refine V.iload_n dX1_around_78 rfl rfl ?_
    refine V.ireturn dX1_around_79 rfl rfl ⟨rfl, rfl⟩ ly.1 ?_
    subst_vars
    refine ⟨?_, rfl⟩
    unfold aroundF aroundB
    first | rw [if_pos (by assumption)] | rw [if_neg (by assumption)]
  · refine V.iload_n dX1_around_48 rfl rfl ?_
    refine V.iload_n dX1_around_49 rfl rfl ?_
    refine V.aload_n dX1_around_50 rfl rfl (sH0 hA) ?_
    refine V.getI dX1_around_51 fl_X1_39 (sH0 hA) (Or.inl ⟨rfl, SHL_lt (sH0 hA)⟩) rfl rfl ?_
    refine V.iand dX1_around_54 ?_
    refine V.aload_n dX1_around_55 rfl rfl (sH0 hA) ?_
    refine V.getI dX1_around_56 fl_X1_7 (sH0 hA) (Or.inl ⟨rfl, SHL_lt (sH0 hA)⟩) rfl rfl ?_
    refine V.iconst (v := 1) dX1_around_59 rfl ?_
    refine V.isub dX1_around_60 ?_
    refine V.ishr dX1_around_61 ?_
    refine V.iload_n dX1_around_62 rfl rfl ?_
    refine V.aload_n dX1_around_63 rfl rfl (sH0 hA) ?_
    refine V.getI dX1_around_64 fl_X1_36 (sH0 hA) (Or.inl ⟨rfl, SHL_lt (sH0 hA)⟩) rfl rfl ?_
    refine V.iand dX1_around_67 ?_
    refine V.aload_n dX1_around_68 rfl rfl (sH0 hA) ?_
    refine V.getI dX1_around_69 fl_X1_7 (sH0 hA) (Or.inl ⟨rfl, SHL_lt (sH0 hA)⟩) rfl rfl ?_
    refine V.iconst (v := 1) dX1_around_72 rfl ?_
    refine V.isub dX1_around_73 ?_
    refine V.ishl dX1_around_74 ?_
    refine V.ior dX1_around_75 ?_
    refine V.ior dX1_around_76 ?_
    refine V.nmi (fun x3 ex3 => ?_)
    refine V.istore_n (ls' := [.ref a, .int x, .int x3]) dX1_around_77 rfl (by decide) rfl ?_
    refine V.iload_n dX1_around_78 rfl rfl ?_
    refine V.ireturn dX1_around_79 rfl rfl ⟨rfl, rfl⟩ ly.1 ?_
    subst_vars
    refine ⟨?_, rfl⟩
    unfold aroundF aroundB
    first | rw [if_pos (by assumption)] | rw [if_neg (by assumption)]
set_option maxRecDepth 100000 in
theorem sp_X1_countLit {h : HP} (ly : Lay h) {a : Nat} (hA : isH a) (x : Int32) : Spec yX1_countLit cX1_countLit miX1_countLit [.ref a, .int x] h (pV fun h' => h' = litH h a x) := by
  refine Spec.of (ls0 := [.ref a, .int x, .null, .null, .null, .null, .null, .null, .null, .null, .null, .null, .null]) mo_X1_countLit (Nat.le_of_ble_eq_true rfl) rfl ?_
  rw [ly.1]
  refine V.iload_n dX1_countLit_0 rfl rfl ?_
  refine V.aload_n dX1_countLit_1 rfl rfl (sH0 hA) ?_
  refine V.getI dX1_countLit_2 fl_X1_39 (sH0 hA) (Or.inl ⟨rfl, SHL_lt (sH0 hA)⟩) rfl rfl ?_
  refine V.iconst (v := (-1)) dX1_countLit_5 rfl ?_
  refine V.ixor dX1_countLit_6 ?_
  refine V.iand dX1_countLit_7 ?_
  refine V.iconst (v := 1) dX1_countLit_8 rfl ?_
  refine V.ishl dX1_countLit_9 ?_
  refine V.nmi (fun x1 ex1 => ?_)
  refine V.istore_n (ls' := [.ref a, .int x, .int x1, .null, .null, .null, .null, .null, .null, .null, .null, .null, .null]) dX1_countLit_10 rfl (by decide) rfl ?_
  refine V.iload_n dX1_countLit_11 rfl rfl ?_
  refine V.aload_n dX1_countLit_12 rfl rfl (sH0 hA) ?_
  refine V.getI dX1_countLit_13 fl_X1_36 (sH0 hA) (Or.inl ⟨rfl, SHL_lt (sH0 hA)⟩) rfl rfl ?_
  refine V.iconst (v := (-1)) dX1_countLit_16 rfl ?_
  refine V.ixor dX1_countLit_17 ?_
  refine V.iand dX1_countLit_18 ?_
  refine V.iconst (v := 1) dX1_countLit_19 rfl ?_
  refine V.ishr dX1_countLit_20 ?_
  refine V.nmi (fun x2 ex2 => ?_)
  refine V.istore_n (ls' := [.ref a, .int x, .int x1, .int x2, .null, .null, .null, .null, .null, .null, .null, .null, .null]) dX1_countLit_21 rfl (by decide) rfl ?_
  refine V.iload_n dX1_countLit_22 rfl rfl ?_
  refine V.aload_n dX1_countLit_23 rfl rfl (sH0 hA) ?_
  refine V.getI dX1_countLit_24 fl_X1_7 (sH0 hA) (Or.inl ⟨rfl, SHL_lt (sH0 hA)⟩) rfl rfl ?_
  refine V.ishl dX1_countLit_27 ?_
  refine V.aload_n dX1_countLit_28 rfl rfl (sH0 hA) ?_
  refine V.getI dX1_countLit_29 fl_X1_24 (sH0 hA) (Or.inl ⟨rfl, SHL_lt (sH0 hA)⟩) rfl rfl ?_
  refine V.iand dX1_countLit_32 ?_
  refine V.nmi (fun x3 ex3 => ?_)
  refine V.istore (ls' := [.ref a, .int x, .int x1, .int x2, .int x3, .null, .null, .null, .null, .null, .null, .null, .null]) dX1_countLit_33 (by decide) rfl ?_
  refine V.iload_n dX1_countLit_35 rfl rfl ?_
  refine V.aload_n dX1_countLit_36 rfl rfl (sH0 hA) ?_
  refine V.getI dX1_countLit_37 fl_X1_7 (sH0 hA) (Or.inl ⟨rfl, SHL_lt (sH0 hA)⟩) rfl rfl ?_
  refine V.ishr dX1_countLit_40 ?_
  refine V.nmi (fun x4 ex4 => ?_)
  refine V.istore (ls' := [.ref a, .int x, .int x1, .int x2, .int x3, .int x4, .null, .null, .null, .null, .null, .null, .null]) dX1_countLit_41 (by decide) rfl ?_
  refine V.aload_n dX1_countLit_43 rfl rfl (sH0 hA) ?_
  refine V.getI dX1_countLit_44 fl_X1_17 (sH0 hA) (Or.inl ⟨rfl, SHL_lt (sH0 hA)⟩) rfl rfl ?_
  refine V.if_eq (tgt := 82) dX1_countLit_47 (by decide) (fun c5 => ?_) (fun c5 => ?_)
  · refine V.iload_n dX1_countLit_82 rfl rfl ?_
    refine V.iload_n dX1_countLit_83 rfl rfl ?_
    refine V.ixor dX1_countLit_84 ?_
    refine V.nmi (fun x6 ex6 => ?_)
    refine V.istore (ls' := [.ref a, .int x, .int x1, .int x2, .int x3, .int x4, .int x6, .null, .null, .null, .null, .null, .null]) dX1_countLit_85 (by decide) rfl ?_
    refine V.iload_n dX1_countLit_87 rfl rfl ?_
    refine V.iload_n dX1_countLit_88 rfl rfl ?_
    refine V.iand dX1_countLit_89 ?_
    refine V.nmi (fun x7 ex7 => ?_)
    refine V.istore (ls' := [.ref a, .int x, .int x1, .int x2, .int x3, .int x4, .int x6, .int x7, .null, .null, .null, .null, .null]) dX1_countLit_90 (by decide) rfl ?_
    refine V.iload dX1_countLit_92 rfl ?_
    refine V.iload dX1_countLit_94 rfl ?_
    refine V.ixor dX1_countLit_96 ?_
    refine V.nmi (fun x8 ex8 => ?_)
    refine V.istore (ls' := [.ref a, .int x, .int x1, .int x2, .int x3, .int x4, .int x6, .int x7, .int x8, .null, .null, .null, .null]) dX1_countLit_97 (by decide) rfl ?_
    refine V.iload dX1_countLit_99 rfl ?_
    refine V.iload dX1_countLit_101 rfl ?_
    refine V.iand dX1_countLit_103 ?_
    refine V.nmi (fun x9 ex9 => ?_)
    refine V.istore (ls' := [.ref a, .int x, .int x1, .int x2, .int x3, .int x4, .int x6, .int x7, .int x8, .int x9, .null, .null, .null]) dX1_countLit_104 (by decide) rfl ?_
    refine V.iload dX1_countLit_106 rfl ?_
    refine V.iload dX1_countLit_108 rfl ?_
    refine V.ixor dX1_countLit_110 ?_
    refine V.nmi (fun x10 ex10 => ?_)
    refine V.istore (ls' := [.ref a, .int x, .int x1, .int x2, .int x3, .int x4, .int x6, .int x7, .int x8, .int x9, .int x10, .null, .null]) dX1_countLit_111 (by decide) rfl ?_
    refine V.iload dX1_countLit_113 rfl ?_
    refine V.iload dX1_countLit_115 rfl ?_
    refine V.ixor dX1_countLit_117 ?_
    refine V.iload dX1_countLit_118 rfl ?_
    refine V.iload dX1_countLit_120 rfl ?_
    refine V.iand dX1_countLit_122 ?_
    refine V.ixor dX1_countLit_123 ?_
    refine V.nmi (fun x11 ex11 => ?_)
    refine V.istore (ls' := [.ref a, .int x, .int x1, .int x2, .int x3, .int x4, .int x6, .int x7, .int x8, .int x9, .int x10, .int x11, .null]) dX1_countLit_124 (by decide) rfl ?_
    refine V.iload dX1_countLit_126 rfl ?_
    refine V.iload dX1_countLit_128 rfl ?_
    refine V.iand dX1_countLit_130 ?_
    refine V.nmi (fun x12 ex12 => ?_)
    refine V.istore (ls' := [.ref a, .int x, .int x1, .int x2, .int x3, .int x4, .int x6, .int x7, .int x8, .int x9, .int x10, .int x11, .int x12]) dX1_countLit_131 (by decide) rfl ?_
    refine V.aload_n dX1_countLit_133 rfl rfl (sH0 hA) ?_
    refine V.getR (r := a + 1) dX1_countLit_134 fl_X1_13 (sH0 hA) (Or.inl ⟨rfl, SHL_lt (sH0 hA)⟩) rfl (rH_withLit ly hA) ?_
    refine V.iconst (v := 0) dX1_countLit_137 rfl ?_
    refine V.iload dX1_countLit_138 rfl ?_
    refine V.iload dX1_countLit_140 rfl ?_
    refine V.ior dX1_countLit_142 ?_
    refine V.iload dX1_countLit_143 rfl ?_
    refine V.ior dX1_countLit_145 ?_
    refine V.iconst (v := (-1)) dX1_countLit_146 rfl ?_
    refine V.ixor dX1_countLit_147 ?_
    refine V.iastore dX1_countLit_148 (sH1 hA) (Or.inl ⟨rfl, SHL_lt (sH1 hA)⟩) (by first | assumption | (unfold vp_in; decide)) ?_
    rw [show (0 : Int32).toNatClampNeg = 0 from rfl]
    refine V.aload_n dX1_countLit_149 rfl rfl (sH0 hA) ?_
    refine V.getR (r := a + 1) dX1_countLit_150 fl_X1_13 (sH0 hA) (Or.inl ⟨rfl, SHL_lt (sH0 hA)⟩) rfl (rH_withLit ly hA) ?_
    refine V.iconst (v := 1) dX1_countLit_153 rfl ?_
    refine V.iload dX1_countLit_154 rfl ?_
    refine V.iload dX1_countLit_156 rfl ?_
    refine V.iconst (v := (-1)) dX1_countLit_158 rfl ?_
    refine V.ixor dX1_countLit_159 ?_
    refine V.iand dX1_countLit_160 ?_
    refine V.iastore dX1_countLit_161 (sH1 hA) (Or.inl ⟨rfl, SHL_lt (sH1 hA)⟩) (by first | assumption | (unfold vp_in; decide)) ?_
    rw [show (1 : Int32).toNatClampNeg = 1 from rfl]
    refine V.aload_n dX1_countLit_162 rfl rfl (sH0 hA) ?_
    refine V.getR (r := a + 1) dX1_countLit_163 fl_X1_13 (sH0 hA) (Or.inl ⟨rfl, SHL_lt (sH0 hA)⟩) rfl (rH_withLit ly hA) ?_
    refine V.iconst (v := 2) dX1_countLit_166 rfl ?_
    refine V.iload dX1_countLit_167 rfl ?_
    refine V.iload dX1_countLit_169 rfl ?_
    refine V.iconst (v := (-1)) dX1_countLit_171 rfl ?_
    refine V.ixor dX1_countLit_172 ?_
    refine V.iand dX1_countLit_173 ?_
    refine V.iastore dX1_countLit_174 (sH1 hA) (Or.inl ⟨rfl, SHL_lt (sH1 hA)⟩) (by first | assumption | (unfold vp_in; decide)) ?_
    rw [show (2 : Int32).toNatClampNeg = 2 from rfl]
    refine V.aload_n dX1_countLit_175 rfl rfl (sH0 hA) ?_
    refine V.getR (r := a + 1) dX1_countLit_176 fl_X1_13 (sH0 hA) (Or.inl ⟨rfl, SHL_lt (sH0 hA)⟩) rfl (rH_withLit ly hA) ?_
    refine V.iconst (v := 3) dX1_countLit_179 rfl ?_
    refine V.iload dX1_countLit_180 rfl ?_
    refine V.iload dX1_countLit_182 rfl ?_
    refine V.iand dX1_countLit_184 ?_
    refine V.iastore dX1_countLit_185 (sH1 hA) (Or.inl ⟨rfl, SHL_lt (sH1 hA)⟩) (by first | assumption | (unfold vp_in; decide)) ?_
    rw [show (3 : Int32).toNatClampNeg = 3 from rfl]
    refine V.aload_n dX1_countLit_186 rfl rfl (sH0 hA) ?_
    refine V.getR (r := a + 1) dX1_countLit_187 fl_X1_13 (sH0 hA) (Or.inl ⟨rfl, SHL_lt (sH0 hA)⟩) rfl (rH_withLit ly hA) ?_
    refine V.iconst (v := 4) dX1_countLit_190 rfl ?_
    refine V.iload dX1_countLit_191 rfl ?_
    refine V.iastore dX1_countLit_193 (sH1 hA) (Or.inl ⟨rfl, SHL_lt (sH1 hA)⟩) (by first | assumption | (unfold vp_in; decide)) ?_
    rw [show (4 : Int32).toNatClampNeg = 4 from rfl]
    refine V.vreturn' dX1_countLit_194 rfl ly.1 (Or.inl ⟨rfl, rfl⟩) ?_
    subst_vars
    unfold litH
    rw [← litRow_upd]
    simp only [uI_rI, hI_rI_s, litF, leftF, rightF]
    first | simp only [if_pos (show hI h a 2 = 0 by assumption)] | simp only [if_neg (show ¬ hI h a 2 = 0 by assumption)]
    rfl
  · refine V.iload_n dX1_countLit_50 rfl rfl ?_
    refine V.iload_n dX1_countLit_51 rfl rfl ?_
    refine V.aload_n dX1_countLit_52 rfl rfl (sH0 hA) ?_
    refine V.getI dX1_countLit_53 fl_X1_39 (sH0 hA) (Or.inl ⟨rfl, SHL_lt (sH0 hA)⟩) rfl rfl ?_
    refine V.iand dX1_countLit_56 ?_
    refine V.aload_n dX1_countLit_57 rfl rfl (sH0 hA) ?_
    refine V.getI dX1_countLit_58 fl_X1_7 (sH0 hA) (Or.inl ⟨rfl, SHL_lt (sH0 hA)⟩) rfl rfl ?_
    refine V.iconst (v := 1) dX1_countLit_61 rfl ?_
    refine V.isub dX1_countLit_62 ?_
    refine V.ishr dX1_countLit_63 ?_
    refine V.ior dX1_countLit_64 ?_
    refine V.nmi (fun x13 ex13 => ?_)
    refine V.istore_n (ls' := [.ref a, .int x, .int x13, .int x2, .int x3, .int x4, .null, .null, .null, .null, .null, .null, .null]) dX1_countLit_65 rfl (by decide) rfl ?_
    refine V.iload_n dX1_countLit_66 rfl rfl ?_
    refine V.iload_n dX1_countLit_67 rfl rfl ?_
    refine V.aload_n dX1_countLit_68 rfl rfl (sH0 hA) ?_
    refine V.getI dX1_countLit_69 fl_X1_36 (sH0 hA) (Or.inl ⟨rfl, SHL_lt (sH0 hA)⟩) rfl rfl ?_
    refine V.iand dX1_countLit_72 ?_
    refine V.aload_n dX1_countLit_73 rfl rfl (sH0 hA) ?_
    refine V.getI dX1_countLit_74 fl_X1_7 (sH0 hA) (Or.inl ⟨rfl, SHL_lt (sH0 hA)⟩) rfl rfl ?_
    refine V.iconst (v := 1) dX1_countLit_77 rfl ?_
    refine V.isub dX1_countLit_78 ?_
    refine V.ishl dX1_countLit_79 ?_
    refine V.ior dX1_countLit_80 ?_
    refine V.nmi (fun x14 ex14 => ?_)
    refine V.istore_n (ls' := [.ref a, .int x, .int x13, .int x14, .int x3, .int x4, .null, .null, .null, .null, .null, .null, .null]) dX1_countLit_81 rfl (by decide) rfl ?_
    refine V.iload_n dX1_countLit_82 rfl rfl ?_
    refine V.iload_n dX1_countLit_83 rfl rfl ?_
    refine V.ixor dX1_countLit_84 ?_
    refine V.nmi (fun x15 ex15 => ?_)
    refine V.istore (ls' := [.ref a, .int x, .int x13, .int x14, .int x3, .int x4, .int x15, .null, .null, .null, .null, .null, .null]) dX1_countLit_85 (by decide) rfl ?_
    refine V.iload_n dX1_countLit_87 rfl rfl ?_
    refine V.iload_n dX1_countLit_88 rfl rfl ?_
    refine V.iand dX1_countLit_89 ?_
    refine V.nmi (fun x16 ex16 => ?_)
    refine V.istore (ls' := [.ref a, .int x, .int x13, .int x14, .int x3, .int x4, .int x15, .int x16, .null, .null, .null, .null, .null]) dX1_countLit_90 (by decide) rfl ?_
    refine V.iload dX1_countLit_92 rfl ?_
    refine V.iload dX1_countLit_94 rfl ?_
    refine V.ixor dX1_countLit_96 ?_
    refine V.nmi (fun x17 ex17 => ?_)
    refine V.istore (ls' := [.ref a, .int x, .int x13, .int x14, .int x3, .int x4, .int x15, .int x16, .int x17, .null, .null, .null, .null]) dX1_countLit_97 (by decide) rfl ?_
    refine V.iload dX1_countLit_99 rfl ?_
    refine V.iload dX1_countLit_101 rfl ?_
    refine V.iand dX1_countLit_103 ?_
    refine V.nmi (fun x18 ex18 => ?_)
    refine V.istore (ls' := [.ref a, .int x, .int x13, .int x14, .int x3, .int x4, .int x15, .int x16, .int x17, .int x18, .null, .null, .null]) dX1_countLit_104 (by decide) rfl ?_
    refine V.iload dX1_countLit_106 rfl ?_
    refine V.iload dX1_countLit_108 rfl ?_
    refine V.ixor dX1_countLit_110 ?_
    refine V.nmi (fun x19 ex19 => ?_)
    refine V.istore (ls' := [.ref a, .int x, .int x13, .int x14, .int x3, .int x4, .int x15, .int x16, .int x17, .int x18, .int x19, .null, .null]) dX1_countLit_111 (by decide) rfl ?_
    refine V.iload dX1_countLit_113 rfl ?_
    refine V.iload dX1_countLit_115 rfl ?_
    refine V.ixor dX1_countLit_117 ?_
    refine V.iload dX1_countLit_118 rfl ?_
    refine V.iload dX1_countLit_120 rfl ?_
    refine V.iand dX1_countLit_122 ?_
    refine V.ixor dX1_countLit_123 ?_
    refine V.nmi (fun x20 ex20 => ?_)
    refine V.istore (ls' := [.ref a, .int x, .int x13, .int x14, .int x3, .int x4, .int x15, .int x16, .int x17, .int x18, .int x19, .int x20, .null]) dX1_countLit_124 (by decide) rfl ?_
    refine V.iload dX1_countLit_126 rfl ?_
    refine V.iload dX1_countLit_128 rfl ?_
    refine V.iand dX1_countLit_130 ?_
    refine V.nmi (fun x21 ex21 => ?_)
    refine V.istore (ls' := [.ref a, .int x, .int x13, .int x14, .int x3, .int x4, .int x15, .int x16, .int x17, .int x18, .int x19, .int x20, .int x21]) dX1_countLit_131 (by decide) rfl ?_
    refine V.aload_n dX1_countLit_133 rfl rfl (sH0 hA) ?_
    refine V.getR (r := a + 1) dX1_countLit_134 fl_X1_13 (sH0 hA) (Or.inl ⟨rfl, SHL_lt (sH0 hA)⟩) rfl (rH_withLit ly hA) ?_
    refine V.iconst (v := 0) dX1_countLit_137 rfl ?_
    refine V.iload dX1_countLit_138 rfl ?_
    refine V.iload dX1_countLit_140 rfl ?_
    refine V.ior dX1_countLit_142 ?_
    refine V.iload dX1_countLit_143 rfl ?_
    refine V.ior dX1_countLit_145 ?_
    refine V.iconst (v := (-1)) dX1_countLit_146 rfl ?_
    refine V.ixor dX1_countLit_147 ?_
    refine V.iastore dX1_countLit_148 (sH1 hA) (Or.inl ⟨rfl, SHL_lt (sH1 hA)⟩) (by first | assumption | (unfold vp_in; decide)) ?_
    rw [show (0 : Int32).toNatClampNeg = 0 from rfl]
    refine V.aload_n dX1_countLit_149 rfl rfl (sH0 hA) ?_
    refine V.getR (r := a + 1) dX1_countLit_150 fl_X1_13 (sH0 hA) (Or.inl ⟨rfl, SHL_lt (sH0 hA)⟩) rfl (rH_withLit ly hA) ?_
    refine V.iconst (v := 1) dX1_countLit_153 rfl ?_
    refine V.iload dX1_countLit_154 rfl ?_
    refine V.iload dX1_countLit_156 rfl ?_
    refine V.iconst (v := (-1)) dX1_countLit_158 rfl ?_
    refine V.ixor dX1_countLit_159 ?_
    refine V.iand dX1_countLit_160 ?_
    refine V.iastore dX1_countLit_161 (sH1 hA) (Or.inl ⟨rfl, SHL_lt (sH1 hA)⟩) (by first | assumption | (unfold vp_in; decide)) ?_
    rw [show (1 : Int32).toNatClampNeg = 1 from rfl]
    refine V.aload_n dX1_countLit_162 rfl rfl (sH0 hA) ?_
    refine V.getR (r := a + 1) dX1_countLit_163 fl_X1_13 (sH0 hA) (Or.inl ⟨rfl, SHL_lt (sH0 hA)⟩) rfl (rH_withLit ly hA) ?_
    refine V.iconst (v := 2) dX1_countLit_166 rfl ?_
    refine V.iload dX1_countLit_167 rfl ?_
    refine V.iload dX1_countLit_169 rfl ?_
    refine V.iconst (v := (-1)) dX1_countLit_171 rfl ?_
    refine V.ixor dX1_countLit_172 ?_
    refine V.iand dX1_countLit_173 ?_
    refine V.iastore dX1_countLit_174 (sH1 hA) (Or.inl ⟨rfl, SHL_lt (sH1 hA)⟩) (by first | assumption | (unfold vp_in; decide)) ?_
    rw [show (2 : Int32).toNatClampNeg = 2 from rfl]
    refine V.aload_n dX1_countLit_175 rfl rfl (sH0 hA) ?_
    refine V.getR (r := a + 1) dX1_countLit_176 fl_X1_13 (sH0 hA) (Or.inl ⟨rfl, SHL_lt (sH0 hA)⟩) rfl (rH_withLit ly hA) ?_
    refine V.iconst (v := 3) dX1_countLit_179 rfl ?_
    refine V.iload dX1_countLit_180 rfl ?_
    refine V.iload dX1_countLit_182 rfl ?_
    refine V.iand dX1_countLit_184 ?_
    refine V.iastore dX1_countLit_185 (sH1 hA) (Or.inl ⟨rfl, SHL_lt (sH1 hA)⟩) (by first | assumption | (unfold vp_in; decide)) ?_
    rw [show (3 : Int32).toNatClampNeg = 3 from rfl]
    refine V.aload_n dX1_countLit_186 rfl rfl (sH0 hA) ?_
    refine V.getR (r := a + 1) dX1_countLit_187 fl_X1_13 (sH0 hA) (Or.inl ⟨rfl, SHL_lt (sH0 hA)⟩) rfl (rH_withLit ly hA) ?_
    refine V.iconst (v := 4) dX1_countLit_190 rfl ?_
    refine V.iload dX1_countLit_191 rfl ?_
    refine V.iastore dX1_countLit_193 (sH1 hA) (Or.inl ⟨rfl, SHL_lt (sH1 hA)⟩) (by first | assumption | (unfold vp_in; decide)) ?_
    rw [show (4 : Int32).toNatClampNeg = 4 from rfl]
    refine V.vreturn' dX1_countLit_194 rfl ly.1 (Or.inl ⟨rfl, rfl⟩) ?_
    subst_vars
    unfold litH
    rw [← litRow_upd]
    simp only [uI_rI, hI_rI_s, litF, leftF, rightF]
    first | simp only [if_pos (show hI h a 2 = 0 by assumption)] | simp only [if_neg (show ¬ hI h a 2 = 0 by assumption)]
    rfl
set_option maxRecDepth 100000 in
theorem lp_X1_step {h0 h1 : HP} (hn : h0.1 = 130) (ly : Lay h1) {a : Nat} (hA : isH a) {x born stays : Int32} {P : Int32 → HP → Prop} (hP : P ((thenF (hI h1 (a + 1)) born stays x 5 &&& hI h1 a 5) ||| hI h1 a 6) h1) : ∀ n k, k ≤ 5 → 6 ≤ k + n → ∀ t, t = thenF (hI h1 (a + 1)) born stays x k →
    V cX1_step miX1_step (ZM h0 miX1_step.2.2.2.1 (pI P)) 130 11 [.ref a, .int x, .int born, .int stays, .int t, .int (nI k), .null] [] h1 := by
  intro n
  induction n with
  | zero => intro k h1 h2; exact absurd h2 (by omega)
  | succ n ih =>
    intro k hk hkn t et
    refine V.iload dX1_step_11 rfl ?_
    refine V.iconst (v := 5) dX1_step_13 rfl ?_
    refine V.icmp_ge (tgt := 75) dX1_step_14 (by decide) (fun c1 => ?_) (fun c1 => ?_)
    · have hk2 : k = 5 := by have := c1; rw [show (5 : Int32) = nI 5 from rfl, nI_leI (by omega) (by omega)] at this; omega
      subst hk2
      refine V.iload dX1_step_75 rfl ?_
      refine V.aload_n dX1_step_77 rfl rfl (sH0 hA) ?_
      refine V.getI dX1_step_78 fl_X1_30 (sH0 hA) (Or.inl ⟨rfl, SHL_lt (sH0 hA)⟩) rfl rfl ?_
      refine V.iand dX1_step_81 ?_
      refine V.aload_n dX1_step_82 rfl rfl (sH0 hA) ?_
      refine V.getI dX1_step_83 fl_X1_33 (sH0 hA) (Or.inl ⟨rfl, SHL_lt (sH0 hA)⟩) rfl rfl ?_
      refine V.ior dX1_step_86 ?_
      refine V.ireturn dX1_step_87 rfl rfl ⟨rfl, rfl⟩ hn ?_
      rw [et]; exact hP
    · have hlt : k < 5 := by have := c1; rw [show (5 : Int32) = nI 5 from rfl, nI_leI (by omega) (by omega)] at this; omega
      refine V.iload_n dX1_step_17 rfl rfl ?_
      refine V.iload dX1_step_18 rfl ?_
      refine V.ishr dX1_step_20 ?_
      refine V.iconst (v := 1) dX1_step_21 rfl ?_
      refine V.iand dX1_step_22 ?_
      refine V.if_eq (tgt := 32) dX1_step_23 (by decide) (fun c2 => ?_) (fun c2 => ?_)
      · refine V.iconst (v := 0) dX1_step_32 rfl ?_
        refine V.istore (ls' := [.ref a, .int x, .int born, .int stays, .int t, .int (nI k), .int 0]) dX1_step_33 (by decide) rfl ?_
        refine V.iload dX1_step_35 rfl ?_
        refine V.iload_n dX1_step_37 rfl rfl ?_
        refine V.iload dX1_step_38 rfl ?_
        refine V.ishr dX1_step_40 ?_
        refine V.iconst (v := 1) dX1_step_41 rfl ?_
        refine V.iand dX1_step_42 ?_
        refine V.if_eq (tgt := 50) dX1_step_43 (by decide) (fun c3 => ?_) (fun c3 => ?_)
        · refine V.iconst (v := 0) dX1_step_50 rfl ?_
          refine V.ior dX1_step_51 ?_
          refine V.nmi (fun x4 ex4 => ?_)
          refine V.istore (ls' := [.ref a, .int x, .int born, .int stays, .int t, .int (nI k), .int x4]) dX1_step_52 (by decide) rfl ?_
          refine V.iload dX1_step_54 rfl ?_
          refine V.iload dX1_step_56 rfl ?_
          refine V.aload_n dX1_step_58 rfl rfl (sH0 hA) ?_
          refine V.getR (r := a + 1) dX1_step_59 fl_X1_13 (sH0 hA) (Or.inl ⟨rfl, SHL_lt (sH0 hA)⟩) rfl (rH_withLit ly hA) ?_
          refine V.iload dX1_step_62 rfl ?_
          refine V.iaload dX1_step_64 (sH1 hA) (Or.inl ⟨rfl, SHL_lt (sH1 hA)⟩) (vp_in_nI hlt (by decide)) ?_
          rw [nI_clamp (show k < 2 ^ 31 by omega)]
          refine V.iand dX1_step_65 ?_
          refine V.ior dX1_step_66 ?_
          refine V.nmi (fun x5 ex5 => ?_)
          refine V.istore (ls' := [.ref a, .int x, .int born, .int stays, .int x5, .int (nI k), .int x4]) dX1_step_67 (by decide) rfl ?_
          obtain ⟨x6, ex6⟩ : ∃ y : Int32, y = nI k + 1 := ⟨_, rfl⟩
          refine V.iinc (v := x6) (ls' := [.ref a, .int x, .int born, .int stays, .int x5, .int x6, .int x4]) dX1_step_69 rfl (by decide) ex6.symm rfl ?_
          refine V.goto (tgt := 11) dX1_step_72 (by decide) ?_
          have ea : x5 = thenF (hI h1 (a + 1)) born stays x (k + 1) := by
            subst_vars
            simp_all [thenF, keptF]
          rw [ex6, nI_1]
          exact V.less (ls' := [.ref a, .int x, .int born, .int stays, .int x5, .int (nI (k + 1)), .null]) ⟨Or.inr rfl, Or.inr rfl, Or.inr rfl, Or.inr rfl, Or.inr rfl, Or.inr rfl, Or.inl rfl, trivial⟩ (ih (k + 1) (by omega) (by omega) _ ea)
        · refine V.iload_n dX1_step_46 rfl rfl ?_
          refine V.goto (tgt := 51) dX1_step_47 (by decide) ?_
          refine V.ior dX1_step_51 ?_
          refine V.nmi (fun x7 ex7 => ?_)
          refine V.istore (ls' := [.ref a, .int x, .int born, .int stays, .int t, .int (nI k), .int x7]) dX1_step_52 (by decide) rfl ?_
          refine V.iload dX1_step_54 rfl ?_
          refine V.iload dX1_step_56 rfl ?_
          refine V.aload_n dX1_step_58 rfl rfl (sH0 hA) ?_
          refine V.getR (r := a + 1) dX1_step_59 fl_X1_13 (sH0 hA) (Or.inl ⟨rfl, SHL_lt (sH0 hA)⟩) rfl (rH_withLit ly hA) ?_
          refine V.iload dX1_step_62 rfl ?_
          refine V.iaload dX1_step_64 (sH1 hA) (Or.inl ⟨rfl, SHL_lt (sH1 hA)⟩) (vp_in_nI hlt (by decide)) ?_
          rw [nI_clamp (show k < 2 ^ 31 by omega)]
          refine V.iand dX1_step_65 ?_
          refine V.ior dX1_step_66 ?_
          refine V.nmi (fun x8 ex8 => ?_)
          refine V.istore (ls' := [.ref a, .int x, .int born, .int stays, .int x8, .int (nI k), .int x7]) dX1_step_67 (by decide) rfl ?_
          obtain ⟨x9, ex9⟩ : ∃ y : Int32, y = nI k + 1 := ⟨_, rfl⟩
          refine V.iinc (v := x9) (ls' := [.ref a, .int x, .int born, .int stays, .int x8, .int x9, .int x7]) dX1_step_69 rfl (by decide) ex9.symm rfl ?_
          refine V.goto (tgt := 11) dX1_step_72 (by decide) ?_
          have ea : x8 = thenF (hI h1 (a + 1)) born stays x (k + 1) := by
            subst_vars
            simp_all [thenF, keptF]
          rw [ex9, nI_1]
          exact V.less (ls' := [.ref a, .int x, .int born, .int stays, .int x8, .int (nI (k + 1)), .null]) ⟨Or.inr rfl, Or.inr rfl, Or.inr rfl, Or.inr rfl, Or.inr rfl, Or.inr rfl, Or.inl rfl, trivial⟩ (ih (k + 1) (by omega) (by omega) _ ea)
      · refine V.iload_n dX1_step_26 rfl rfl ?_
        refine V.iconst (v := (-1)) dX1_step_27 rfl ?_
        refine V.ixor dX1_step_28 ?_
        refine V.goto (tgt := 33) dX1_step_29 (by decide) ?_
        refine V.nmi (fun x10 ex10 => ?_)
        refine V.istore (ls' := [.ref a, .int x, .int born, .int stays, .int t, .int (nI k), .int x10]) dX1_step_33 (by decide) rfl ?_
        refine V.iload dX1_step_35 rfl ?_
        refine V.iload_n dX1_step_37 rfl rfl ?_
        refine V.iload dX1_step_38 rfl ?_
        refine V.ishr dX1_step_40 ?_
        refine V.iconst (v := 1) dX1_step_41 rfl ?_
        refine V.iand dX1_step_42 ?_
        refine V.if_eq (tgt := 50) dX1_step_43 (by decide) (fun c11 => ?_) (fun c11 => ?_)
        · refine V.iconst (v := 0) dX1_step_50 rfl ?_
          refine V.ior dX1_step_51 ?_
          refine V.nmi (fun x12 ex12 => ?_)
          refine V.istore (ls' := [.ref a, .int x, .int born, .int stays, .int t, .int (nI k), .int x12]) dX1_step_52 (by decide) rfl ?_
          refine V.iload dX1_step_54 rfl ?_
          refine V.iload dX1_step_56 rfl ?_
          refine V.aload_n dX1_step_58 rfl rfl (sH0 hA) ?_
          refine V.getR (r := a + 1) dX1_step_59 fl_X1_13 (sH0 hA) (Or.inl ⟨rfl, SHL_lt (sH0 hA)⟩) rfl (rH_withLit ly hA) ?_
          refine V.iload dX1_step_62 rfl ?_
          refine V.iaload dX1_step_64 (sH1 hA) (Or.inl ⟨rfl, SHL_lt (sH1 hA)⟩) (vp_in_nI hlt (by decide)) ?_
          rw [nI_clamp (show k < 2 ^ 31 by omega)]
          refine V.iand dX1_step_65 ?_
          refine V.ior dX1_step_66 ?_
          refine V.nmi (fun x13 ex13 => ?_)
          refine V.istore (ls' := [.ref a, .int x, .int born, .int stays, .int x13, .int (nI k), .int x12]) dX1_step_67 (by decide) rfl ?_
          obtain ⟨x14, ex14⟩ : ∃ y : Int32, y = nI k + 1 := ⟨_, rfl⟩
          refine V.iinc (v := x14) (ls' := [.ref a, .int x, .int born, .int stays, .int x13, .int x14, .int x12]) dX1_step_69 rfl (by decide) ex14.symm rfl ?_
          refine V.goto (tgt := 11) dX1_step_72 (by decide) ?_
          have ea : x13 = thenF (hI h1 (a + 1)) born stays x (k + 1) := by
            subst_vars
            simp_all [thenF, keptF]
          rw [ex14, nI_1]
          exact V.less (ls' := [.ref a, .int x, .int born, .int stays, .int x13, .int (nI (k + 1)), .null]) ⟨Or.inr rfl, Or.inr rfl, Or.inr rfl, Or.inr rfl, Or.inr rfl, Or.inr rfl, Or.inl rfl, trivial⟩ (ih (k + 1) (by omega) (by omega) _ ea)
        · refine V.iload_n dX1_step_46 rfl rfl ?_
          refine V.goto (tgt := 51) dX1_step_47 (by decide) ?_
          refine V.ior dX1_step_51 ?_
          refine V.nmi (fun x15 ex15 => ?_)
          refine V.istore (ls' := [.ref a, .int x, .int born, .int stays, .int t, .int (nI k), .int x15]) dX1_step_52 (by decide) rfl ?_
          refine V.iload dX1_step_54 rfl ?_
          refine V.iload dX1_step_56 rfl ?_
          refine V.aload_n dX1_step_58 rfl rfl (sH0 hA) ?_
          refine V.getR (r := a + 1) dX1_step_59 fl_X1_13 (sH0 hA) (Or.inl ⟨rfl, SHL_lt (sH0 hA)⟩) rfl (rH_withLit ly hA) ?_
          refine V.iload dX1_step_62 rfl ?_
          refine V.iaload dX1_step_64 (sH1 hA) (Or.inl ⟨rfl, SHL_lt (sH1 hA)⟩) (vp_in_nI hlt (by decide)) ?_
          rw [nI_clamp (show k < 2 ^ 31 by omega)]
          refine V.iand dX1_step_65 ?_
          refine V.ior dX1_step_66 ?_
          refine V.nmi (fun x16 ex16 => ?_)
          refine V.istore (ls' := [.ref a, .int x, .int born, .int stays, .int x16, .int (nI k), .int x15]) dX1_step_67 (by decide) rfl ?_
          obtain ⟨x17, ex17⟩ : ∃ y : Int32, y = nI k + 1 := ⟨_, rfl⟩
          refine V.iinc (v := x17) (ls' := [.ref a, .int x, .int born, .int stays, .int x16, .int x17, .int x15]) dX1_step_69 rfl (by decide) ex17.symm rfl ?_
          refine V.goto (tgt := 11) dX1_step_72 (by decide) ?_
          have ea : x16 = thenF (hI h1 (a + 1)) born stays x (k + 1) := by
            subst_vars
            simp_all [thenF, keptF]
          rw [ex17, nI_1]
          exact V.less (ls' := [.ref a, .int x, .int born, .int stays, .int x16, .int (nI (k + 1)), .null]) ⟨Or.inr rfl, Or.inr rfl, Or.inr rfl, Or.inr rfl, Or.inr rfl, Or.inr rfl, Or.inl rfl, trivial⟩ (ih (k + 1) (by omega) (by omega) _ ea)
set_option maxRecDepth 100000 in
theorem sp_X1_step {h : HP} (ly : Lay h) {a : Nat} (hA : isH a) (x born stays : Int32) : Spec yX1_step cX1_step miX1_step [.ref a, .int x, .int born, .int stays] h (pI fun r h' => r = stepF (hI h a) x born stays ∧ h' = litH h a x) := by
  refine Spec.of (ls0 := [.ref a, .int x, .int born, .int stays, .null, .null, .null]) mo_X1_step (Nat.le_of_ble_eq_true rfl) rfl ?_
  rw [ly.1]
  refine V.aload_n dX1_step_0 rfl rfl (sH0 hA) ?_
  refine V.iload_n dX1_step_1 rfl rfl ?_
  refine V.callVV dX1_step_2 ml_X1_46 mo_X1_countLit mv_X1_countLit (sH0 hA) (fun q hq => by cases hq; rfl) (by decide) (Or.inl ⟨rfl, SHL_lt (sH0 hA)⟩) (sp_X1_countLit (by exact ly.keep rfl rfl) hA _) rfl rfl ⟨Nat.le_of_ble_eq_true rfl, Nat.le_of_ble_eq_true rfl, fun _ => ⟨rfl, rfl⟩⟩ (Nat.le_of_ble_eq_true rfl) (Or.inl rfl) (fun h1 p2 => ?_)
  have p2 := p2.symm
  subst p2
  refine V.iconst (v := 0) dX1_step_5 rfl ?_
  refine V.istore (ls' := [.ref a, .int x, .int born, .int stays, .int 0, .null, .null]) dX1_step_6 (by decide) rfl ?_
  refine V.iconst (v := 0) dX1_step_8 rfl ?_
  refine V.istore (ls' := [.ref a, .int x, .int born, .int stays, .int 0, .int 0, .null]) dX1_step_9 (by decide) rfl ?_
  have hna : a ≠ a + 1 := by omega
  have e5 : thenF (litRow (hI h (a + 1)) (hI h a) x) born stays x 5 = thenF (litF (hI h a) x) born stays x 5 := by
    simp [thenF, litRow]
  refine lp_X1_step (h1 := litH h a x) ly.1 (ly.keep rfl rfl) hA ⟨?_, rfl⟩ 6 0 (by omega) (by omega) 0 rfl
  unfold stepF
  rw [hI_rI_s, hI_rI_n _ _ hna, e5]
def cntF (f : Nat → Int32) (x b : Int32) : Int32 := if litF f x 1 &&& b ≠ 0 then 1 else if litF f x 2 &&& b ≠ 0 then 2 else if litF f x 3 &&& b ≠ 0 then 3 else if litF f x 4 &&& b ≠ 0 then 4 else 0
set_option maxRecDepth 100000 in
theorem sp_X1_countAround {h : HP} (ly : Lay h) {a : Nat} (hA : isH a) (b x : Int32) : Spec yX1_countAround cX1_countAround miX1_countAround [.ref a, .int b, .int x] h (pI fun r h' => r = cntF (hI h a) x b ∧ h' = litH h a x) := by
  refine Spec.of (ls0 := [.ref a, .int b, .int x, .null]) mo_X1_countAround (Nat.le_of_ble_eq_true rfl) rfl ?_
  rw [ly.1]
  refine V.aload_n dX1_countAround_0 rfl rfl (sH0 hA) ?_
  refine V.iload_n dX1_countAround_1 rfl rfl ?_
  refine V.callVV dX1_countAround_2 ml_X1_46 mo_X1_countLit mv_X1_countLit (sH0 hA) (fun q hq => by cases hq; rfl) (by decide) (Or.inl ⟨rfl, SHL_lt (sH0 hA)⟩) (sp_X1_countLit (by exact ly.keep rfl rfl) hA _) rfl rfl ⟨Nat.le_of_ble_eq_true rfl, Nat.le_of_ble_eq_true rfl, fun _ => ⟨rfl, rfl⟩⟩ (Nat.le_of_ble_eq_true rfl) (Or.inl rfl) (fun h1 p2 => ?_)
  have p2 := p2.symm
  subst p2
  refine V.iconst (v := 1) dX1_countAround_5 rfl ?_
  refine V.istore_n (ls' := [.ref a, .int b, .int x, .int 1]) dX1_countAround_6 rfl (by decide) rfl ?_
  refine V.iload_n dX1_countAround_7 rfl rfl ?_
  refine V.iconst (v := 5) dX1_countAround_8 rfl ?_
  refine V.icmp_ge (tgt := 31) dX1_countAround_9 (by decide) (fun c3 => absurd c3 (by decide)) (fun _ => ?_)
  refine V.aload_n dX1_countAround_12 rfl rfl (sH0 hA) ?_
  refine V.getR (r := a + 1) dX1_countAround_13 fl_X1_13 (sH0 hA) (Or.inl ⟨rfl, SHL_lt (sH0 hA)⟩) rfl (rH_withLit ly hA) ?_
  refine V.iload_n dX1_countAround_16 rfl rfl ?_
  refine V.iaload dX1_countAround_17 (sH1 hA) (Or.inl ⟨rfl, SHL_lt (sH1 hA)⟩) (by first | assumption | (unfold vp_in; decide)) ?_
  rw [show (1 : Int32).toNatClampNeg = 1 from rfl]
  refine V.iload_n dX1_countAround_18 rfl rfl ?_
  refine V.iand dX1_countAround_19 ?_
  refine V.if_eq (tgt := 25) dX1_countAround_20 (by decide) (fun c4 => ?_) (fun c4 => ?_)
  · refine V.iinc (v := 2) (ls' := [.ref a, .int b, .int x, .int 2]) dX1_countAround_25 rfl (by decide) rfl rfl ?_
    refine V.goto (tgt := 7) dX1_countAround_28 (by decide) ?_
    refine V.iload_n dX1_countAround_7 rfl rfl ?_
    refine V.iconst (v := 5) dX1_countAround_8 rfl ?_
    refine V.icmp_ge (tgt := 31) dX1_countAround_9 (by decide) (fun c5 => absurd c5 (by decide)) (fun _ => ?_)
    refine V.aload_n dX1_countAround_12 rfl rfl (sH0 hA) ?_
    refine V.getR (r := a + 1) dX1_countAround_13 fl_X1_13 (sH0 hA) (Or.inl ⟨rfl, SHL_lt (sH0 hA)⟩) rfl (rH_withLit ly hA) ?_
    refine V.iload_n dX1_countAround_16 rfl rfl ?_
    refine V.iaload dX1_countAround_17 (sH1 hA) (Or.inl ⟨rfl, SHL_lt (sH1 hA)⟩) (by first | assumption | (unfold vp_in; decide)) ?_
    rw [show (2 : Int32).toNatClampNeg = 2 from rfl]
    refine V.iload_n dX1_countAround_18 rfl rfl ?_
    refine V.iand dX1_countAround_19 ?_
    refine V.if_eq (tgt := 25) dX1_countAround_20 (by decide) (fun c6 => ?_) (fun c6 => ?_)
    · refine V.iinc (v := 3) (ls' := [.ref a, .int b, .int x, .int 3]) dX1_countAround_25 rfl (by decide) rfl rfl ?_
      refine V.goto (tgt := 7) dX1_countAround_28 (by decide) ?_
      refine V.iload_n dX1_countAround_7 rfl rfl ?_
      refine V.iconst (v := 5) dX1_countAround_8 rfl ?_
      refine V.icmp_ge (tgt := 31) dX1_countAround_9 (by decide) (fun c7 => absurd c7 (by decide)) (fun _ => ?_)
      refine V.aload_n dX1_countAround_12 rfl rfl (sH0 hA) ?_
      refine V.getR (r := a + 1) dX1_countAround_13 fl_X1_13 (sH0 hA) (Or.inl ⟨rfl, SHL_lt (sH0 hA)⟩) rfl (rH_withLit ly hA) ?_
      refine V.iload_n dX1_countAround_16 rfl rfl ?_
      refine V.iaload dX1_countAround_17 (sH1 hA) (Or.inl ⟨rfl, SHL_lt (sH1 hA)⟩) (by first | assumption | (unfold vp_in; decide)) ?_
      rw [show (3 : Int32).toNatClampNeg = 3 from rfl]
      refine V.iload_n dX1_countAround_18 rfl rfl ?_
      refine V.iand dX1_countAround_19 ?_
      refine V.if_eq (tgt := 25) dX1_countAround_20 (by decide) (fun c8 => ?_) (fun c8 => ?_)
      · refine V.iinc (v := 4) (ls' := [.ref a, .int b, .int x, .int 4]) dX1_countAround_25 rfl (by decide) rfl rfl ?_
        refine V.goto (tgt := 7) dX1_countAround_28 (by decide) ?_
        refine V.iload_n dX1_countAround_7 rfl rfl ?_
        refine V.iconst (v := 5) dX1_countAround_8 rfl ?_
        refine V.icmp_ge (tgt := 31) dX1_countAround_9 (by decide) (fun c9 => absurd c9 (by decide)) (fun _ => ?_)
        refine V.aload_n dX1_countAround_12 rfl rfl (sH0 hA) ?_
        refine V.getR (r := a + 1) dX1_countAround_13 fl_X1_13 (sH0 hA) (Or.inl ⟨rfl, SHL_lt (sH0 hA)⟩) rfl (rH_withLit ly hA) ?_
        refine V.iload_n dX1_countAround_16 rfl rfl ?_
        refine V.iaload dX1_countAround_17 (sH1 hA) (Or.inl ⟨rfl, SHL_lt (sH1 hA)⟩) (by first | assumption | (unfold vp_in; decide)) ?_
        rw [show (4 : Int32).toNatClampNeg = 4 from rfl]
        refine V.iload_n dX1_countAround_18 rfl rfl ?_
        refine V.iand dX1_countAround_19 ?_
        refine V.if_eq (tgt := 25) dX1_countAround_20 (by decide) (fun c10 => ?_) (fun c10 => ?_)
        · refine V.iinc (v := 5) (ls' := [.ref a, .int b, .int x, .int 5]) dX1_countAround_25 rfl (by decide) rfl rfl ?_
          refine V.goto (tgt := 7) dX1_countAround_28 (by decide) ?_
          refine V.iload_n dX1_countAround_7 rfl rfl ?_
          refine V.iconst (v := 5) dX1_countAround_8 rfl ?_
          refine V.icmp_ge (tgt := 31) dX1_countAround_9 (by decide) (fun _ => ?_) (fun c11 => absurd c11 (by decide))
          refine V.iconst (v := 0) dX1_countAround_31 rfl ?_
          refine V.ireturn dX1_countAround_32 rfl rfl ⟨rfl, rfl⟩ ly.1 ?_
          subst_vars
          refine ⟨?_, rfl⟩
          simp only [hI_rI_s] at *
          simp_all [cntF, litRow]
        · refine V.iload_n dX1_countAround_23 rfl rfl ?_
          refine V.ireturn dX1_countAround_24 rfl rfl ⟨rfl, rfl⟩ ly.1 ?_
          subst_vars
          refine ⟨?_, rfl⟩
          simp only [hI_rI_s] at *
          simp_all [cntF, litRow]
      · refine V.iload_n dX1_countAround_23 rfl rfl ?_
        refine V.ireturn dX1_countAround_24 rfl rfl ⟨rfl, rfl⟩ ly.1 ?_
        subst_vars
        refine ⟨?_, rfl⟩
        simp only [hI_rI_s] at *
        simp_all [cntF, litRow]
    · refine V.iload_n dX1_countAround_23 rfl rfl ?_
      refine V.ireturn dX1_countAround_24 rfl rfl ⟨rfl, rfl⟩ ly.1 ?_
      subst_vars
      refine ⟨?_, rfl⟩
      simp only [hI_rI_s] at *
      simp_all [cntF, litRow]
  · refine V.iload_n dX1_countAround_23 rfl rfl ?_
    refine V.ireturn dX1_countAround_24 rfl rfl ⟨rfl, rfl⟩ ly.1 ?_
    subst_vars
    refine ⟨?_, rfl⟩
    simp only [hI_rI_s] at *
    simp_all [cntF, litRow]
set_option maxRecDepth 100000 in
theorem sp_X1_countUnlike {h : HP} (ly : Lay h) {a : Nat} (hA : isH a) (x y : Int32) : Spec yX1_countUnlike cX1_countUnlike miX1_countUnlike [.ref a, .int x, .int y] h (pI fun r h' => r = nI (pc ((x ^^^ y) &&& hI h a 3)) ∧ h' = h) := by
  refine Spec.of (ls0 := [.ref a, .int x, .int y]) mo_X1_countUnlike (Nat.le_of_ble_eq_true rfl) rfl ?_
  rw [ly.1]
  refine V.iload_n dX1_countUnlike_0 rfl rfl ?_
  refine V.iload_n dX1_countUnlike_1 rfl rfl ?_
  refine V.ixor dX1_countUnlike_2 ?_
  refine V.aload_n dX1_countUnlike_3 rfl rfl (sH0 hA) ?_
  refine V.getI dX1_countUnlike_4 fl_X1_24 (sH0 hA) (Or.inl ⟨rfl, SHL_lt (sH0 hA)⟩) rfl rfl ?_
  refine V.iand dX1_countUnlike_7 ?_
  refine V.callSI dX1_countUnlike_8 ml_X1_50 mo_J6_bitCount_0f7a4 ms_J6_bitCount_0f7a4 (sp_J6_bitCount_0f7a4 _ _) rfl rfl ⟨Nat.le_of_ble_eq_true rfl, Nat.le_of_ble_eq_true rfl, fun _ => ⟨rfl, rfl⟩⟩ (Nat.le_of_ble_eq_true rfl) rfl (fun r1 h2 p3 => ?_)
  obtain ⟨er1, p3⟩ := p3
  have p3 := p3.symm
  subst p3
  refine V.ireturn dX1_countUnlike_11 rfl rfl ⟨rfl, rfl⟩ ly.1 ?_
  first | exact ⟨rfl, rfl⟩ | exact ⟨by assumption, rfl⟩ | (subst_vars; exact ⟨rfl, rfl⟩)
def growF (f : Nat → Int32) (lit : Int32) : Nat → Int32 → Int32
  | 0, x => x
  | n + 1, x => if x ||| (aroundF f x &&& lit) = x then x else growF f lit n (x ||| (aroundF f x &&& lit))
set_option maxRecDepth 100000 in
theorem lp_X1_heapOf {h0 h1 : HP} (hn : h0.1 = 130) (ly : Lay h1) {a : Nat} (hA : isH a) {b0 x : Int32} {P : Int32 → HP → Prop} : ∀ n k, n + k = 30 → ∀ t, P (growF (hI h1 a) x n t) h1 →
    V cX1_heapOf miX1_heapOf (ZM h0 miX1_heapOf.2.2.2.1 (pI P)) 130 5 [.ref a, .int b0, .int x, .int t, .int (nI k), .null] [] h1 := by
  intro n
  induction n with
  | zero =>
    intro k hk t hP
    have hk2 : k = 30 := by omega
    subst hk2
    refine V.iload dX1_heapOf_5 rfl ?_
    refine V.bipush (v := 30) dX1_heapOf_7 rfl ?_
    refine V.icmp_ge (tgt := 41) dX1_heapOf_9 (by decide) (fun _ => ?_) (fun c => absurd (show (30 : Int32) ≤ nI 30 by decide) c)
    refine V.iload_n dX1_heapOf_41 rfl rfl ?_
    refine V.ireturn dX1_heapOf_42 rfl rfl ⟨rfl, rfl⟩ hn ?_
    exact hP
  | succ n ih =>
    intro k hk t hP
    refine V.iload dX1_heapOf_5 rfl ?_
    refine V.bipush (v := 30) dX1_heapOf_7 rfl ?_
    refine V.icmp_ge (tgt := 41) dX1_heapOf_9 (by decide) (fun c1 => ?_) (fun c1 => ?_)
    · exact absurd c1 (by rw [show (30 : Int32) = nI 30 from rfl, nI_leI (by omega) (by omega)]; omega)
    · refine V.iload_n dX1_heapOf_12 rfl rfl ?_
      refine V.aload_n dX1_heapOf_13 rfl rfl (sH0 hA) ?_
      refine V.iload_n dX1_heapOf_14 rfl rfl ?_
      refine V.callVI dX1_heapOf_15 ml_X1_56 mo_X1_around mv_X1_around (sH0 hA) (fun q hq => by cases hq; rfl) (by decide) (Or.inl ⟨rfl, SHL_lt (sH0 hA)⟩) (sp_X1_around (by exact ly.keep rfl rfl) hA _) rfl rfl ⟨Nat.le_of_ble_eq_true rfl, Nat.le_of_ble_eq_true rfl, fun _ => ⟨rfl, rfl⟩⟩ (Nat.le_of_ble_eq_true rfl) rfl (fun r2 h3 p4 => ?_)
      obtain ⟨er2, p4⟩ := p4
      have p4 := p4.symm
      subst p4
      refine V.iload_n dX1_heapOf_18 rfl rfl ?_
      refine V.iand dX1_heapOf_19 ?_
      refine V.ior dX1_heapOf_20 ?_
      refine V.nmi (fun x5 ex5 => ?_)
      refine V.istore (ls' := [.ref a, .int b0, .int x, .int t, .int (nI k), .int x5]) dX1_heapOf_21 (by decide) rfl ?_
      refine V.iload dX1_heapOf_23 rfl ?_
      refine V.iload_n dX1_heapOf_25 rfl rfl ?_
      refine V.icmp_ne (tgt := 32) dX1_heapOf_26 (by decide) (fun c6 => ?_) (fun c6 => ?_)
      · refine V.iload dX1_heapOf_32 rfl ?_
        refine V.istore_n (ls' := [.ref a, .int b0, .int x, .int x5, .int (nI k), .int x5]) dX1_heapOf_34 rfl (by decide) rfl ?_
        obtain ⟨x7, ex7⟩ : ∃ y : Int32, y = nI k + 1 := ⟨_, rfl⟩
        refine V.iinc (v := x7) (ls' := [.ref a, .int b0, .int x, .int x5, .int x7, .int x5]) dX1_heapOf_35 rfl (by decide) ex7.symm rfl ?_
        refine V.goto (tgt := 5) dX1_heapOf_38 (by decide) ?_
        rw [ex7, nI_1]
        exact V.less (ls' := [.ref a, .int b0, .int x, .int x5, .int (nI (k + 1)), .null]) ⟨Or.inr rfl, Or.inr rfl, Or.inr rfl, Or.inr rfl, Or.inr rfl, Or.inl rfl, trivial⟩ (ih (k + 1) (by omega) _ (by subst_vars; rw [growF, if_neg (by assumption)] at hP; exact hP))
      · refine V.goto (tgt := 41) dX1_heapOf_29 (by decide) ?_
        refine V.iload_n dX1_heapOf_41 rfl rfl ?_
        refine V.ireturn dX1_heapOf_42 rfl rfl ⟨rfl, rfl⟩ hn ?_
        subst_vars
        rw [growF, if_pos (by first | assumption | (symm; assumption))] at hP
        exact hP
set_option maxRecDepth 100000 in
theorem sp_X1_heapOf {h : HP} (ly : Lay h) {a : Nat} (hA : isH a) (b0 x : Int32) : Spec yX1_heapOf cX1_heapOf miX1_heapOf [.ref a, .int b0, .int x] h (pI fun r h' => r = growF (hI h a) x 30 b0 ∧ h' = h) := by
  refine Spec.of (ls0 := [.ref a, .int b0, .int x, .null, .null, .null]) mo_X1_heapOf (Nat.le_of_ble_eq_true rfl) rfl ?_
  rw [ly.1]
  refine V.iload_n dX1_heapOf_0 rfl rfl ?_
  refine V.istore_n (ls' := [.ref a, .int b0, .int x, .int b0, .null, .null]) dX1_heapOf_1 rfl (by decide) rfl ?_
  refine V.iconst (v := 0) dX1_heapOf_2 rfl ?_
  refine V.istore (ls' := [.ref a, .int b0, .int x, .int b0, .int 0, .null]) dX1_heapOf_3 (by decide) rfl ?_
  exact lp_X1_heapOf ly.1 ly hA 30 0 rfl _ ⟨rfl, rfl⟩
def mirAt (f : Nat → Int32) (p : Int32) (y x : Nat) : Prop := shr (rowF f p (nI y)) (nI x) &&& 1 = shr (rowF f p (nI y)) (f 0 - 1 - nI x) &&& 1
set_option maxRecDepth 100000 in
theorem lp_X1_isMirror_x {h0 h1 : HP} (hn : h0.1 = 130) (ly : Lay h1) {a : Nat} (hA : isH a) {w r : Nat} (hw : hI h1 a 0 = nI w) (hr : hI h1 a 1 = nI r) (hw5 : w ≤ 5) (hr6 : r ≤ 6) {p q : Int32} {y : Nat} (hy : y < r) (eq : q = rowF (hI h1 a) p (nI y)) {P : Int32 → HP → Prop} (hno : ∀ x, x < w → ¬ mirAt (hI h1 a) p y x → P 0 h1)
    (kk : (∀ x, x < w → mirAt (hI h1 a) p y x) → V cX1_isMirror miX1_isMirror (ZM h0 miX1_isMirror.2.2.2.1 (pI P)) 130 59 [.ref a, .int p, .int (nI y), .null, .null] [] h1) : ∀ n k, n + k = w → (∀ x, x < k → mirAt (hI h1 a) p y x) →
    V cX1_isMirror miX1_isMirror (ZM h0 miX1_isMirror.2.2.2.1 (pI P)) 130 20 [.ref a, .int p, .int (nI y), .int q, .int (nI k)] [] h1 := by
  intro n
  induction n with
  | zero =>
    intro k hk hm
    have hk2 : k = w := by omega
    subst hk2
    refine V.iload dX1_isMirror_20 rfl ?_
    refine V.aload_n dX1_isMirror_22 rfl rfl (sH0 hA) ?_
    refine V.getI dX1_isMirror_23 fl_X1_7 (sH0 hA) (Or.inl ⟨rfl, SHL_lt (sH0 hA)⟩) rfl rfl ?_
    refine V.icmp_ge (tgt := 59) dX1_isMirror_26 (by decide) (fun _ => ?_) (fun c => absurd (by rw [hw]; exact Int32.le_refl _) c)
    exact V.less (ls' := [.ref a, .int p, .int (nI y), .null, .null]) ⟨Or.inr rfl, Or.inr rfl, Or.inr rfl, Or.inl rfl, Or.inl rfl, trivial⟩ (kk hm)
  | succ n ih =>
    intro k hk hm
    refine V.iload dX1_isMirror_20 rfl ?_
    refine V.aload_n dX1_isMirror_22 rfl rfl (sH0 hA) ?_
    refine V.getI dX1_isMirror_23 fl_X1_7 (sH0 hA) (Or.inl ⟨rfl, SHL_lt (sH0 hA)⟩) rfl rfl ?_
    refine V.icmp_ge (tgt := 59) dX1_isMirror_26 (by decide) (fun c1 => ?_) (fun c1 => ?_)
    · exact absurd c1 (by rw [hw, nI_leI (by omega) (by omega)]; omega)
    · refine V.iload_n dX1_isMirror_29 rfl rfl ?_
      refine V.iload dX1_isMirror_30 rfl ?_
      refine V.ishr dX1_isMirror_32 ?_
      refine V.iconst (v := 1) dX1_isMirror_33 rfl ?_
      refine V.iand dX1_isMirror_34 ?_
      refine V.iload_n dX1_isMirror_35 rfl rfl ?_
      refine V.aload_n dX1_isMirror_36 rfl rfl (sH0 hA) ?_
      refine V.getI dX1_isMirror_37 fl_X1_7 (sH0 hA) (Or.inl ⟨rfl, SHL_lt (sH0 hA)⟩) rfl rfl ?_
      refine V.iconst (v := 1) dX1_isMirror_40 rfl ?_
      refine V.isub dX1_isMirror_41 ?_
      refine V.iload dX1_isMirror_42 rfl ?_
      refine V.isub dX1_isMirror_44 ?_
      refine V.ishr dX1_isMirror_45 ?_
      refine V.iconst (v := 1) dX1_isMirror_46 rfl ?_
      refine V.iand dX1_isMirror_47 ?_
      refine V.icmp_eq (tgt := 53) dX1_isMirror_48 (by decide) (fun c2 => ?_) (fun c2 => ?_)
      · obtain ⟨x3, ex3⟩ : ∃ y : Int32, y = nI k + 1 := ⟨_, rfl⟩
        refine V.iinc (v := x3) (ls' := [.ref a, .int p, .int (nI y), .int q, .int x3]) dX1_isMirror_53 rfl (by decide) ex3.symm rfl ?_
        refine V.goto (tgt := 20) dX1_isMirror_56 (by decide) ?_
        rw [ex3, nI_1]
        refine ih (k + 1) (by omega) (fun x hx => ?_)
        rcases Nat.lt_succ_iff_lt_or_eq.mp hx with h9 | h9
        · exact hm x h9
        · subst h9; unfold mirAt; rw [← eq]; assumption
      · refine V.iconst (v := 0) dX1_isMirror_51 rfl ?_
        refine V.ireturn dX1_isMirror_52 rfl rfl ⟨rfl, rfl⟩ hn ?_
        refine hno k (by omega) ?_
        unfold mirAt
        rw [← eq]
        assumption
set_option maxRecDepth 100000 in
theorem lp_X1_isMirror_y {h0 h1 : HP} (hn : h0.1 = 130) (ly : Lay h1) {a : Nat} (hA : isH a) {w r : Nat} (hw : hI h1 a 0 = nI w) (hr : hI h1 a 1 = nI r) (hw5 : w ≤ 5) (hr6 : r ≤ 6) {p : Int32} {P : Int32 → HP → Prop} (hno : ∀ y x, y < r → x < w → ¬ mirAt (hI h1 a) p y x → P 0 h1) (hyes : (∀ y x, y < r → x < w → mirAt (hI h1 a) p y x) → P 1 h1) : ∀ n y, n + y = r → (∀ z x, z < y → x < w → mirAt (hI h1 a) p z x) →
    V cX1_isMirror miX1_isMirror (ZM h0 miX1_isMirror.2.2.2.1 (pI P)) 130 2 [.ref a, .int p, .int (nI y), .null, .null] [] h1 := by
  intro n
  induction n with
  | zero =>
    intro y hk hm
    have hk2 : y = r := by omega
    subst hk2
    refine V.iload_n dX1_isMirror_2 rfl rfl ?_
    refine V.aload_n dX1_isMirror_3 rfl rfl (sH0 hA) ?_
    refine V.getI dX1_isMirror_4 fl_X1_21 (sH0 hA) (Or.inl ⟨rfl, SHL_lt (sH0 hA)⟩) rfl rfl ?_
    refine V.icmp_ge (tgt := 65) dX1_isMirror_7 (by decide) (fun _ => ?_) (fun c => absurd (by rw [hr]; exact Int32.le_refl _) c)
    refine V.iconst (v := 1) dX1_isMirror_65 rfl ?_
    refine V.ireturn dX1_isMirror_66 rfl rfl ⟨rfl, rfl⟩ hn ?_
    exact hyes hm
  | succ n ih =>
    intro y hk hm
    refine V.iload_n dX1_isMirror_2 rfl rfl ?_
    refine V.aload_n dX1_isMirror_3 rfl rfl (sH0 hA) ?_
    refine V.getI dX1_isMirror_4 fl_X1_21 (sH0 hA) (Or.inl ⟨rfl, SHL_lt (sH0 hA)⟩) rfl rfl ?_
    refine V.icmp_ge (tgt := 65) dX1_isMirror_7 (by decide) (fun c1 => ?_) (fun c1 => ?_)
    · exact absurd c1 (by rw [hr, nI_leI (by omega) (by omega)]; omega)
    · refine V.aload_n dX1_isMirror_10 rfl rfl (sH0 hA) ?_
      refine V.iload_n dX1_isMirror_11 rfl rfl ?_
      refine V.iload_n dX1_isMirror_12 rfl rfl ?_
      refine V.callVI dX1_isMirror_13 ml_X1_59 mo_X1_rowOf mv_X1_rowOf (sH0 hA) (fun q hq => by cases hq; rfl) (by decide) (Or.inl ⟨rfl, SHL_lt (sH0 hA)⟩) (sp_X1_rowOf (by exact ly.keep rfl rfl) hA _ _) rfl rfl ⟨Nat.le_of_ble_eq_true rfl, Nat.le_of_ble_eq_true rfl, fun _ => ⟨rfl, rfl⟩⟩ (Nat.le_of_ble_eq_true rfl) rfl (fun r2 h3 p4 => ?_)
      obtain ⟨er2, p4⟩ := p4
      have p4 := p4.symm
      subst p4
      refine V.istore_n (ls' := [.ref a, .int p, .int (nI y), .int r2, .null]) dX1_isMirror_16 rfl (by decide) rfl ?_
      refine V.iconst (v := 0) dX1_isMirror_17 rfl ?_
      refine V.istore (ls' := [.ref a, .int p, .int (nI y), .int r2, .int 0]) dX1_isMirror_18 (by decide) rfl ?_
      refine lp_X1_isMirror_x hn ly hA hw hr hw5 hr6 (show y < r by omega) (by subst_vars; rfl) (fun x hx => hno y x (by omega) hx) (fun hrow => ?_) w 0 (by omega) (fun x hx => absurd hx (by omega))
      obtain ⟨z9, ez9⟩ : ∃ z : Int32, z = nI y + 1 := ⟨_, rfl⟩
      refine V.iinc (v := z9) (ls' := [.ref a, .int p, .int z9, .null, .null]) dX1_isMirror_59 rfl (by decide) ez9.symm rfl ?_
      refine V.goto (tgt := 2) dX1_isMirror_62 (by decide) ?_
      rw [ez9, nI_1]
      refine ih (y + 1) (by omega) (fun z x hz hx => ?_)
      rcases Nat.lt_succ_iff_lt_or_eq.mp hz with h9 | h9
      · exact hm z x h9 hx
      · subst h9; exact hrow x hx
set_option maxRecDepth 100000 in
theorem sp_X1_isMirror {h : HP} (ly : Lay h) {a : Nat} (hA : isH a) {w r : Nat} (hw : hI h a 0 = nI w) (hr : hI h a 1 = nI r) (hw5 : w ≤ 5) (hr6 : r ≤ 6) (p : Int32) : Spec yX1_isMirror cX1_isMirror miX1_isMirror [.ref a, .int p] h (pI fun r' h' => ((r' = 1 ∧ ∀ y x, y < r → x < w → mirAt (hI h a) p y x) ∨ (r' = 0 ∧ ¬ ∀ y x, y < r → x < w → mirAt (hI h a) p y x)) ∧ h' = h) := by
  refine Spec.of (ls0 := [.ref a, .int p, .null, .null, .null]) mo_X1_isMirror (Nat.le_of_ble_eq_true rfl) rfl ?_
  rw [ly.1]
  refine V.iconst (v := 0) dX1_isMirror_0 rfl ?_
  refine V.istore_n (ls' := [.ref a, .int p, .int 0, .null, .null]) dX1_isMirror_1 rfl (by decide) rfl ?_
  exact lp_X1_isMirror_y ly.1 ly hA hw hr hw5 hr6 (fun y x h1 h2 h3 => ⟨Or.inr ⟨rfl, fun h4 => h3 (h4 y x h1 h2)⟩, rfl⟩) (fun h1 => ⟨Or.inl ⟨rfl, h1⟩, rfl⟩) r 0 (by omega) (fun z x hz => absurd hz (by omega))
def colF (f : Nat → Int32) (p x : Int32) : Nat → Int32
  | 0 => 0
  | y + 1 => colF f p x y ||| shl (shr p (nI y * f 0 + x) &&& 1) (nI y)
def startF (g : Nat → Int32) (w ring : Int32) : Nat → Int32 := fun j => if j = 0 then w else if j = 2 then (if ring ≠ 0 ∧ 2 < w then 1 else 0) else if j < 9 then 0 else g j
def addRowF (f : Nat → Int32) : Nat → Int32 := fun j => if j = 7 then f 7 ||| shl 1 (f 1 * f 0) else if j = 8 then f 8 ||| shl 1 (f 1 * f 0 + f 0 - 1) else if j = 1 then f 1 + 1 else if j = 3 then shl 1 ((f 1 + 1) * f 0) - 1 else f j
set_option maxRecDepth 100000 in
theorem lp_X1_columnOf {h0 h1 : HP} (hn : h0.1 = 130) (ly : Lay h1) {a : Nat} (hA : isH a) {r : Nat} (hr : hI h1 a 1 = nI r) (hr6 : r ≤ 6) {p x : Int32} {P : Int32 → HP → Prop} (hP : P (colF (hI h1 a) p x r) h1) : ∀ n k, k ≤ r → r + 1 ≤ k + n → ∀ t, t = colF (hI h1 a) p x k →
    V cX1_columnOf miX1_columnOf (ZM h0 miX1_columnOf.2.2.2.1 (pI P)) 130 5 [.ref a, .int p, .int x, .int t, .int (nI k)] [] (h1) := by
  intro n
  induction n with
  | zero => intro k h1 h2; exact absurd h2 (by omega)
  | succ n ih =>
    intro k hk hkn t et
    refine V.iload dX1_columnOf_5 rfl ?_
    refine V.aload_n dX1_columnOf_7 rfl rfl (sH0 hA) ?_
    refine V.getI dX1_columnOf_8 fl_X1_21 (sH0 hA) (Or.inl ⟨rfl, SHL_lt (sH0 hA)⟩) rfl rfl ?_
    refine V.icmp_ge (tgt := 39) dX1_columnOf_11 (by decide) (fun c1 => ?_) (fun c1 => ?_)
    · have hk2 : k = r := by have h9 := c1; rw [hr, nI_leI (by omega) (by omega)] at h9; omega
      refine V.iload_n dX1_columnOf_39 rfl rfl ?_
      refine V.ireturn dX1_columnOf_40 rfl rfl ⟨rfl, rfl⟩ hn ?_
      subst hk2
      rw [et]; exact hP
    · have hlt : k < r := by have h9 := c1; rw [hr, nI_leI (by omega) (by omega)] at h9; omega
      refine V.iload_n dX1_columnOf_14 rfl rfl ?_
      refine V.iload_n dX1_columnOf_15 rfl rfl ?_
      refine V.iload dX1_columnOf_16 rfl ?_
      refine V.aload_n dX1_columnOf_18 rfl rfl (sH0 hA) ?_
      refine V.getI dX1_columnOf_19 fl_X1_7 (sH0 hA) (Or.inl ⟨rfl, SHL_lt (sH0 hA)⟩) rfl rfl ?_
      refine V.imul dX1_columnOf_22 ?_
      refine V.iload_n dX1_columnOf_23 rfl rfl ?_
      refine V.iadd dX1_columnOf_24 ?_
      refine V.ishr dX1_columnOf_25 ?_
      refine V.iconst (v := 1) dX1_columnOf_26 rfl ?_
      refine V.iand dX1_columnOf_27 ?_
      refine V.iload dX1_columnOf_28 rfl ?_
      refine V.ishl dX1_columnOf_30 ?_
      refine V.ior dX1_columnOf_31 ?_
      refine V.nmi (fun x2 ex2 => ?_)
      refine V.istore_n (ls' := [.ref a, .int p, .int x, .int x2, .int (nI k)]) dX1_columnOf_32 rfl (by decide) rfl ?_
      obtain ⟨x3, ex3⟩ : ∃ y : Int32, y = nI k + 1 := ⟨_, rfl⟩
      refine V.iinc (v := x3) (ls' := [.ref a, .int p, .int x, .int x2, .int x3]) dX1_columnOf_33 rfl (by decide) ex3.symm rfl ?_
      refine V.goto (tgt := 5) dX1_columnOf_36 (by decide) ?_
      rw [ex3, nI_1]
      exact ih (k + 1) (by omega) (by omega) _ (by subst_vars; rfl)
set_option maxRecDepth 100000 in
theorem sp_X1_columnOf {h : HP} (ly : Lay h) {a : Nat} (hA : isH a) {r : Nat} (hr : hI h a 1 = nI r) (hr6 : r ≤ 6) (p x : Int32) : Spec yX1_columnOf cX1_columnOf miX1_columnOf [.ref a, .int p, .int x] h (pI fun r' h' => r' = colF (hI h a) p x r ∧ h' = h) := by
  refine Spec.of (ls0 := [.ref a, .int p, .int x, .null, .null]) mo_X1_columnOf (Nat.le_of_ble_eq_true rfl) rfl ?_
  rw [ly.1]
  refine V.iconst (v := 0) dX1_columnOf_0 rfl ?_
  refine V.istore_n (ls' := [.ref a, .int p, .int x, .int 0, .null]) dX1_columnOf_1 rfl (by decide) rfl ?_
  refine V.iconst (v := 0) dX1_columnOf_2 rfl ?_
  refine V.istore (ls' := [.ref a, .int p, .int x, .int 0, .int 0]) dX1_columnOf_3 (by decide) rfl ?_
  exact lp_X1_columnOf ly.1 ly hA hr hr6 ⟨rfl, rfl⟩ (r + 1) 0 (by omega) (by omega) 0 rfl
set_option maxRecDepth 100000 in
theorem sp_X1_start {h : HP} (ly : Lay h) {a : Nat} (hA : isH a) (w ring : Int32) : Spec yX1_start cX1_start miX1_start [.ref a, .int w, .int ring] h (pV fun h' => h' = rI h a (startF (hI h a) w ring)) := by
  refine Spec.of (ls0 := [.ref a, .int w, .int ring]) mo_X1_start (Nat.le_of_ble_eq_true rfl) rfl ?_
  rw [ly.1]
  refine V.aload_n dX1_start_0 rfl rfl (sH0 hA) ?_
  refine V.iload_n dX1_start_1 rfl rfl ?_
  refine V.putI dX1_start_2 fl_X1_7 (sH0 hA) (Or.inl ⟨rfl, SHL_lt (sH0 hA)⟩) rfl (fun q hq => by cases hq; rfl) ⟨rfl, rfl⟩ ?_
  refine V.aload_n dX1_start_5 rfl rfl (sH0 hA) ?_
  refine V.iload_n dX1_start_6 rfl rfl ?_
  refine V.if_eq (tgt := 19) dX1_start_7 (by decide) (fun c1 => ?_) (fun c1 => ?_)
  · refine V.iconst (v := 0) dX1_start_19 rfl ?_
    refine V.putI dX1_start_20 fl_X1_17 (sH0 hA) (Or.inl ⟨rfl, SHL_lt (sH0 hA)⟩) rfl (fun q hq => by cases hq; rfl) ⟨rfl, rfl⟩ ?_
    refine V.aload_n dX1_start_23 rfl rfl (sH0 hA) ?_
    refine V.iconst (v := 0) dX1_start_24 rfl ?_
    refine V.putI dX1_start_25 fl_X1_21 (sH0 hA) (Or.inl ⟨rfl, SHL_lt (sH0 hA)⟩) rfl (fun q hq => by cases hq; rfl) ⟨rfl, rfl⟩ ?_
    refine V.aload_n dX1_start_28 rfl rfl (sH0 hA) ?_
    refine V.iconst (v := 0) dX1_start_29 rfl ?_
    refine V.putI dX1_start_30 fl_X1_24 (sH0 hA) (Or.inl ⟨rfl, SHL_lt (sH0 hA)⟩) rfl (fun q hq => by cases hq; rfl) ⟨rfl, rfl⟩ ?_
    refine V.aload_n dX1_start_33 rfl rfl (sH0 hA) ?_
    refine V.iconst (v := 0) dX1_start_34 rfl ?_
    refine V.putI dX1_start_35 fl_X1_27 (sH0 hA) (Or.inl ⟨rfl, SHL_lt (sH0 hA)⟩) rfl (fun q hq => by cases hq; rfl) ⟨rfl, rfl⟩ ?_
    refine V.aload_n dX1_start_38 rfl rfl (sH0 hA) ?_
    refine V.iconst (v := 0) dX1_start_39 rfl ?_
    refine V.putI dX1_start_40 fl_X1_30 (sH0 hA) (Or.inl ⟨rfl, SHL_lt (sH0 hA)⟩) rfl (fun q hq => by cases hq; rfl) ⟨rfl, rfl⟩ ?_
    refine V.aload_n dX1_start_43 rfl rfl (sH0 hA) ?_
    refine V.iconst (v := 0) dX1_start_44 rfl ?_
    refine V.putI dX1_start_45 fl_X1_33 (sH0 hA) (Or.inl ⟨rfl, SHL_lt (sH0 hA)⟩) rfl (fun q hq => by cases hq; rfl) ⟨rfl, rfl⟩ ?_
    refine V.aload_n dX1_start_48 rfl rfl (sH0 hA) ?_
    refine V.iconst (v := 0) dX1_start_49 rfl ?_
    refine V.putI dX1_start_50 fl_X1_36 (sH0 hA) (Or.inl ⟨rfl, SHL_lt (sH0 hA)⟩) rfl (fun q hq => by cases hq; rfl) ⟨rfl, rfl⟩ ?_
    refine V.aload_n dX1_start_53 rfl rfl (sH0 hA) ?_
    refine V.iconst (v := 0) dX1_start_54 rfl ?_
    refine V.putI dX1_start_55 fl_X1_39 (sH0 hA) (Or.inl ⟨rfl, SHL_lt (sH0 hA)⟩) rfl (fun q hq => by cases hq; rfl) ⟨rfl, rfl⟩ ?_
    refine V.vreturn' dX1_start_58 rfl ly.1 (Or.inl ⟨rfl, rfl⟩) ?_
    simp only [rI_rI, hI_rI_s]
    congr 1
    funext j
    rcases (show j = 0 ∨ j = 1 ∨ j = 2 ∨ j = 3 ∨ j = 4 ∨ j = 5 ∨ j = 6 ∨ j = 7 ∨ j = 8 ∨ 9 ≤ j by omega) with rfl | rfl | rfl | rfl | rfl | rfl | rfl | rfl | rfl | h9
    all_goals first | rfl | (simp_all [upd, startF, Int32.not_le, Int32.not_lt]; done) | simp [upd, startF, show j ≠ 0 by omega, show j ≠ 1 by omega, show j ≠ 2 by omega, show j ≠ 3 by omega, show j ≠ 4 by omega, show j ≠ 5 by omega, show j ≠ 6 by omega, show j ≠ 7 by omega, show j ≠ 8 by omega, show ¬ j < 9 by omega]
  · refine V.iload_n dX1_start_10 rfl rfl ?_
    refine V.iconst (v := 2) dX1_start_11 rfl ?_
    refine V.icmp_le (tgt := 19) dX1_start_12 (by decide) (fun c2 => ?_) (fun c2 => ?_)
    · refine V.iconst (v := 0) dX1_start_19 rfl ?_
      refine V.putI dX1_start_20 fl_X1_17 (sH0 hA) (Or.inl ⟨rfl, SHL_lt (sH0 hA)⟩) rfl (fun q hq => by cases hq; rfl) ⟨rfl, rfl⟩ ?_
      refine V.aload_n dX1_start_23 rfl rfl (sH0 hA) ?_
      refine V.iconst (v := 0) dX1_start_24 rfl ?_
      refine V.putI dX1_start_25 fl_X1_21 (sH0 hA) (Or.inl ⟨rfl, SHL_lt (sH0 hA)⟩) rfl (fun q hq => by cases hq; rfl) ⟨rfl, rfl⟩ ?_
      refine V.aload_n dX1_start_28 rfl rfl (sH0 hA) ?_
      refine V.iconst (v := 0) dX1_start_29 rfl ?_
      refine V.putI dX1_start_30 fl_X1_24 (sH0 hA) (Or.inl ⟨rfl, SHL_lt (sH0 hA)⟩) rfl (fun q hq => by cases hq; rfl) ⟨rfl, rfl⟩ ?_
      refine V.aload_n dX1_start_33 rfl rfl (sH0 hA) ?_
      refine V.iconst (v := 0) dX1_start_34 rfl ?_
      refine V.putI dX1_start_35 fl_X1_27 (sH0 hA) (Or.inl ⟨rfl, SHL_lt (sH0 hA)⟩) rfl (fun q hq => by cases hq; rfl) ⟨rfl, rfl⟩ ?_
      refine V.aload_n dX1_start_38 rfl rfl (sH0 hA) ?_
      refine V.iconst (v := 0) dX1_start_39 rfl ?_
      refine V.putI dX1_start_40 fl_X1_30 (sH0 hA) (Or.inl ⟨rfl, SHL_lt (sH0 hA)⟩) rfl (fun q hq => by cases hq; rfl) ⟨rfl, rfl⟩ ?_
      refine V.aload_n dX1_start_43 rfl rfl (sH0 hA) ?_
      refine V.iconst (v := 0) dX1_start_44 rfl ?_
      refine V.putI dX1_start_45 fl_X1_33 (sH0 hA) (Or.inl ⟨rfl, SHL_lt (sH0 hA)⟩) rfl (fun q hq => by cases hq; rfl) ⟨rfl, rfl⟩ ?_
      refine V.aload_n dX1_start_48 rfl rfl (sH0 hA) ?_
      refine V.iconst (v := 0) dX1_start_49 rfl ?_
      refine V.putI dX1_start_50 fl_X1_36 (sH0 hA) (Or.inl ⟨rfl, SHL_lt (sH0 hA)⟩) rfl (fun q hq => by cases hq; rfl) ⟨rfl, rfl⟩ ?_
      refine V.aload_n dX1_start_53 rfl rfl (sH0 hA) ?_
      refine V.iconst (v := 0) dX1_start_54 rfl ?_
      refine V.putI dX1_start_55 fl_X1_39 (sH0 hA) (Or.inl ⟨rfl, SHL_lt (sH0 hA)⟩) rfl (fun q hq => by cases hq; rfl) ⟨rfl, rfl⟩ ?_
      refine V.vreturn' dX1_start_58 rfl ly.1 (Or.inl ⟨rfl, rfl⟩) ?_
      simp only [rI_rI, hI_rI_s]
      congr 1
      funext j
      rcases (show j = 0 ∨ j = 1 ∨ j = 2 ∨ j = 3 ∨ j = 4 ∨ j = 5 ∨ j = 6 ∨ j = 7 ∨ j = 8 ∨ 9 ≤ j by omega) with rfl | rfl | rfl | rfl | rfl | rfl | rfl | rfl | rfl | h9
      all_goals first | rfl | (simp_all [upd, startF, Int32.not_le, Int32.not_lt]; done) | simp [upd, startF, show j ≠ 0 by omega, show j ≠ 1 by omega, show j ≠ 2 by omega, show j ≠ 3 by omega, show j ≠ 4 by omega, show j ≠ 5 by omega, show j ≠ 6 by omega, show j ≠ 7 by omega, show j ≠ 8 by omega, show ¬ j < 9 by omega]
    · refine V.iconst (v := 1) dX1_start_15 rfl ?_
      refine V.goto (tgt := 20) dX1_start_16 (by decide) ?_
      refine V.putI dX1_start_20 fl_X1_17 (sH0 hA) (Or.inl ⟨rfl, SHL_lt (sH0 hA)⟩) rfl (fun q hq => by cases hq; rfl) ⟨rfl, rfl⟩ ?_
      refine V.aload_n dX1_start_23 rfl rfl (sH0 hA) ?_
      refine V.iconst (v := 0) dX1_start_24 rfl ?_
      refine V.putI dX1_start_25 fl_X1_21 (sH0 hA) (Or.inl ⟨rfl, SHL_lt (sH0 hA)⟩) rfl (fun q hq => by cases hq; rfl) ⟨rfl, rfl⟩ ?_
      refine V.aload_n dX1_start_28 rfl rfl (sH0 hA) ?_
      refine V.iconst (v := 0) dX1_start_29 rfl ?_
      refine V.putI dX1_start_30 fl_X1_24 (sH0 hA) (Or.inl ⟨rfl, SHL_lt (sH0 hA)⟩) rfl (fun q hq => by cases hq; rfl) ⟨rfl, rfl⟩ ?_
      refine V.aload_n dX1_start_33 rfl rfl (sH0 hA) ?_
      refine V.iconst (v := 0) dX1_start_34 rfl ?_
      refine V.putI dX1_start_35 fl_X1_27 (sH0 hA) (Or.inl ⟨rfl, SHL_lt (sH0 hA)⟩) rfl (fun q hq => by cases hq; rfl) ⟨rfl, rfl⟩ ?_
      refine V.aload_n dX1_start_38 rfl rfl (sH0 hA) ?_
      refine V.iconst (v := 0) dX1_start_39 rfl ?_
      refine V.putI dX1_start_40 fl_X1_30 (sH0 hA) (Or.inl ⟨rfl, SHL_lt (sH0 hA)⟩) rfl (fun q hq => by cases hq; rfl) ⟨rfl, rfl⟩ ?_
      refine V.aload_n dX1_start_43 rfl rfl (sH0 hA) ?_
      refine V.iconst (v := 0) dX1_start_44 rfl ?_
      refine V.putI dX1_start_45 fl_X1_33 (sH0 hA) (Or.inl ⟨rfl, SHL_lt (sH0 hA)⟩) rfl (fun q hq => by cases hq; rfl) ⟨rfl, rfl⟩ ?_
      refine V.aload_n dX1_start_48 rfl rfl (sH0 hA) ?_
      refine V.iconst (v := 0) dX1_start_49 rfl ?_
      refine V.putI dX1_start_50 fl_X1_36 (sH0 hA) (Or.inl ⟨rfl, SHL_lt (sH0 hA)⟩) rfl (fun q hq => by cases hq; rfl) ⟨rfl, rfl⟩ ?_
      refine V.aload_n dX1_start_53 rfl rfl (sH0 hA) ?_
      refine V.iconst (v := 0) dX1_start_54 rfl ?_
      refine V.putI dX1_start_55 fl_X1_39 (sH0 hA) (Or.inl ⟨rfl, SHL_lt (sH0 hA)⟩) rfl (fun q hq => by cases hq; rfl) ⟨rfl, rfl⟩ ?_
      refine V.vreturn' dX1_start_58 rfl ly.1 (Or.inl ⟨rfl, rfl⟩) ?_
      simp only [rI_rI, hI_rI_s]
      congr 1
      funext j
      rcases (show j = 0 ∨ j = 1 ∨ j = 2 ∨ j = 3 ∨ j = 4 ∨ j = 5 ∨ j = 6 ∨ j = 7 ∨ j = 8 ∨ 9 ≤ j by omega) with rfl | rfl | rfl | rfl | rfl | rfl | rfl | rfl | rfl | h9
      all_goals first | rfl | (simp_all [upd, startF, Int32.not_le, Int32.not_lt]; done) | simp [upd, startF, show j ≠ 0 by omega, show j ≠ 1 by omega, show j ≠ 2 by omega, show j ≠ 3 by omega, show j ≠ 4 by omega, show j ≠ 5 by omega, show j ≠ 6 by omega, show j ≠ 7 by omega, show j ≠ 8 by omega, show ¬ j < 9 by omega]
set_option maxRecDepth 100000 in
theorem sp_X1_addRow {h : HP} (ly : Lay h) {a : Nat} (hA : isH a)  : Spec yX1_addRow cX1_addRow miX1_addRow [.ref a] h (pV fun h' => h' = rI h a (addRowF (hI h a))) := by
  refine Spec.of (ls0 := [.ref a]) mo_X1_addRow (Nat.le_of_ble_eq_true rfl) rfl ?_
  rw [ly.1]
  refine V.aload_n dX1_addRow_0 rfl rfl (sH0 hA) ?_
  refine V.dup dX1_addRow_1 rfl ?_
  refine V.getI dX1_addRow_2 fl_X1_36 (sH0 hA) (Or.inl ⟨rfl, SHL_lt (sH0 hA)⟩) rfl rfl ?_
  refine V.iconst (v := 1) dX1_addRow_5 rfl ?_
  refine V.aload_n dX1_addRow_6 rfl rfl (sH0 hA) ?_
  refine V.getI dX1_addRow_7 fl_X1_21 (sH0 hA) (Or.inl ⟨rfl, SHL_lt (sH0 hA)⟩) rfl rfl ?_
  refine V.aload_n dX1_addRow_10 rfl rfl (sH0 hA) ?_
  refine V.getI dX1_addRow_11 fl_X1_7 (sH0 hA) (Or.inl ⟨rfl, SHL_lt (sH0 hA)⟩) rfl rfl ?_
  refine V.imul dX1_addRow_14 ?_
  refine V.ishl dX1_addRow_15 ?_
  refine V.ior dX1_addRow_16 ?_
  refine V.putI dX1_addRow_17 fl_X1_36 (sH0 hA) (Or.inl ⟨rfl, SHL_lt (sH0 hA)⟩) rfl (fun q hq => by cases hq; rfl) ⟨rfl, rfl⟩ ?_
  refine V.aload_n dX1_addRow_20 rfl rfl (sH0 hA) ?_
  refine V.dup dX1_addRow_21 rfl ?_
  refine V.getI dX1_addRow_22 fl_X1_39 (sH0 hA) (Or.inl ⟨rfl, SHL_lt (sH0 hA)⟩) rfl rfl ?_
  refine V.iconst (v := 1) dX1_addRow_25 rfl ?_
  refine V.aload_n dX1_addRow_26 rfl rfl (sH0 hA) ?_
  refine V.getI dX1_addRow_27 fl_X1_21 (sH0 hA) (Or.inl ⟨rfl, SHL_lt (sH0 hA)⟩) rfl rfl ?_
  refine V.aload_n dX1_addRow_30 rfl rfl (sH0 hA) ?_
  refine V.getI dX1_addRow_31 fl_X1_7 (sH0 hA) (Or.inl ⟨rfl, SHL_lt (sH0 hA)⟩) rfl rfl ?_
  refine V.imul dX1_addRow_34 ?_
  refine V.aload_n dX1_addRow_35 rfl rfl (sH0 hA) ?_
  refine V.getI dX1_addRow_36 fl_X1_7 (sH0 hA) (Or.inl ⟨rfl, SHL_lt (sH0 hA)⟩) rfl rfl ?_
  refine V.iadd dX1_addRow_39 ?_
  refine V.iconst (v := 1) dX1_addRow_40 rfl ?_
  refine V.isub dX1_addRow_41 ?_
  refine V.ishl dX1_addRow_42 ?_
  refine V.ior dX1_addRow_43 ?_
  refine V.putI dX1_addRow_44 fl_X1_39 (sH0 hA) (Or.inl ⟨rfl, SHL_lt (sH0 hA)⟩) rfl (fun q hq => by cases hq; rfl) ⟨rfl, rfl⟩ ?_
  refine V.aload_n dX1_addRow_47 rfl rfl (sH0 hA) ?_
  refine V.dup dX1_addRow_48 rfl ?_
  refine V.getI dX1_addRow_49 fl_X1_21 (sH0 hA) (Or.inl ⟨rfl, SHL_lt (sH0 hA)⟩) rfl rfl ?_
  refine V.iconst (v := 1) dX1_addRow_52 rfl ?_
  refine V.iadd dX1_addRow_53 ?_
  refine V.putI dX1_addRow_54 fl_X1_21 (sH0 hA) (Or.inl ⟨rfl, SHL_lt (sH0 hA)⟩) rfl (fun q hq => by cases hq; rfl) ⟨rfl, rfl⟩ ?_
  refine V.aload_n dX1_addRow_57 rfl rfl (sH0 hA) ?_
  refine V.iconst (v := 1) dX1_addRow_58 rfl ?_
  refine V.aload_n dX1_addRow_59 rfl rfl (sH0 hA) ?_
  refine V.getI dX1_addRow_60 fl_X1_21 (sH0 hA) (Or.inl ⟨rfl, SHL_lt (sH0 hA)⟩) rfl rfl ?_
  refine V.aload_n dX1_addRow_63 rfl rfl (sH0 hA) ?_
  refine V.getI dX1_addRow_64 fl_X1_7 (sH0 hA) (Or.inl ⟨rfl, SHL_lt (sH0 hA)⟩) rfl rfl ?_
  refine V.imul dX1_addRow_67 ?_
  refine V.ishl dX1_addRow_68 ?_
  refine V.iconst (v := 1) dX1_addRow_69 rfl ?_
  refine V.isub dX1_addRow_70 ?_
  refine V.putI dX1_addRow_71 fl_X1_24 (sH0 hA) (Or.inl ⟨rfl, SHL_lt (sH0 hA)⟩) rfl (fun q hq => by cases hq; rfl) ⟨rfl, rfl⟩ ?_
  refine V.vreturn' dX1_addRow_74 rfl ly.1 (Or.inl ⟨rfl, rfl⟩) ?_
  simp only [rI_rI, hI_rI_s]
  congr 1
  funext j
  rcases (show j = 0 ∨ j = 1 ∨ j = 2 ∨ j = 3 ∨ j = 4 ∨ j = 5 ∨ j = 6 ∨ j = 7 ∨ j = 8 ∨ 9 ≤ j by omega) with rfl | rfl | rfl | rfl | rfl | rfl | rfl | rfl | rfl | h9
  all_goals first | rfl | (simp_all [upd, addRowF, Int32.not_le, Int32.not_lt]; done) | simp [upd, addRowF, show j ≠ 0 by omega, show j ≠ 1 by omega, show j ≠ 2 by omega, show j ≠ 3 by omega, show j ≠ 4 by omega, show j ≠ 5 by omega, show j ≠ 6 by omega, show j ≠ 7 by omega, show j ≠ 8 by omega, show ¬ j < 9 by omega]
set_option maxRecDepth 100000 in
theorem sp_X1_copyFrom {h : HP} (ly : Lay h) {a : Nat} (hA : isH a) {o : Nat} (hO : isH o) (hne : o ≠ a) (hj : hI h o 2 = 0 ∨ hI h o 2 = 1) : Spec yX1_copyFrom cX1_copyFrom miX1_copyFrom [.ref a, .ref o] h (pV fun h' => h' = rI h a (fun j => if j < 9 then hI h o j else hI h a j)) := by
  refine Spec.of (ls0 := [.ref a, .ref o]) mo_X1_copyFrom (Nat.le_of_ble_eq_true rfl) rfl ?_
  rw [ly.1]
  refine V.aload_n dX1_copyFrom_0 rfl rfl (sH0 hA) ?_
  refine V.aload_n dX1_copyFrom_1 rfl rfl (sH0 hO) ?_
  refine V.getI dX1_copyFrom_2 fl_X1_7 (sH0 hO) (Or.inl ⟨rfl, SHL_lt (sH0 hO)⟩) rfl rfl ?_
  refine V.putI dX1_copyFrom_5 fl_X1_7 (sH0 hA) (Or.inl ⟨rfl, SHL_lt (sH0 hA)⟩) rfl (fun q hq => by cases hq; rfl) ⟨rfl, rfl⟩ ?_
  refine V.aload_n dX1_copyFrom_8 rfl rfl (sH0 hA) ?_
  refine V.aload_n dX1_copyFrom_9 rfl rfl (sH0 hO) ?_
  refine V.getI dX1_copyFrom_10 fl_X1_21 (sH0 hO) (Or.inl ⟨rfl, SHL_lt (sH0 hO)⟩) rfl rfl ?_
  refine V.putI dX1_copyFrom_13 fl_X1_21 (sH0 hA) (Or.inl ⟨rfl, SHL_lt (sH0 hA)⟩) rfl (fun q hq => by cases hq; rfl) ⟨rfl, rfl⟩ ?_
  refine V.aload_n dX1_copyFrom_16 rfl rfl (sH0 hA) ?_
  refine V.aload_n dX1_copyFrom_17 rfl rfl (sH0 hO) ?_
  refine V.getI dX1_copyFrom_18 fl_X1_17 (sH0 hO) (Or.inl ⟨rfl, SHL_lt (sH0 hO)⟩) rfl rfl ?_
  refine V.putI dX1_copyFrom_21 fl_X1_17 (sH0 hA) (Or.inl ⟨rfl, SHL_lt (sH0 hA)⟩) rfl (fun q hq => by cases hq; rfl) (by simp only [hI_rI_n _ _ hne]; rcases hj with h9 | h9 <;> rw [h9] <;> exact ⟨rfl, rfl⟩) ?_
  refine V.aload_n dX1_copyFrom_24 rfl rfl (sH0 hA) ?_
  refine V.aload_n dX1_copyFrom_25 rfl rfl (sH0 hO) ?_
  refine V.getI dX1_copyFrom_26 fl_X1_24 (sH0 hO) (Or.inl ⟨rfl, SHL_lt (sH0 hO)⟩) rfl rfl ?_
  refine V.putI dX1_copyFrom_29 fl_X1_24 (sH0 hA) (Or.inl ⟨rfl, SHL_lt (sH0 hA)⟩) rfl (fun q hq => by cases hq; rfl) ⟨rfl, rfl⟩ ?_
  refine V.aload_n dX1_copyFrom_32 rfl rfl (sH0 hA) ?_
  refine V.aload_n dX1_copyFrom_33 rfl rfl (sH0 hO) ?_
  refine V.getI dX1_copyFrom_34 fl_X1_27 (sH0 hO) (Or.inl ⟨rfl, SHL_lt (sH0 hO)⟩) rfl rfl ?_
  refine V.putI dX1_copyFrom_37 fl_X1_27 (sH0 hA) (Or.inl ⟨rfl, SHL_lt (sH0 hA)⟩) rfl (fun q hq => by cases hq; rfl) ⟨rfl, rfl⟩ ?_
  refine V.aload_n dX1_copyFrom_40 rfl rfl (sH0 hA) ?_
  refine V.aload_n dX1_copyFrom_41 rfl rfl (sH0 hO) ?_
  refine V.getI dX1_copyFrom_42 fl_X1_30 (sH0 hO) (Or.inl ⟨rfl, SHL_lt (sH0 hO)⟩) rfl rfl ?_
  refine V.putI dX1_copyFrom_45 fl_X1_30 (sH0 hA) (Or.inl ⟨rfl, SHL_lt (sH0 hA)⟩) rfl (fun q hq => by cases hq; rfl) ⟨rfl, rfl⟩ ?_
  refine V.aload_n dX1_copyFrom_48 rfl rfl (sH0 hA) ?_
  refine V.aload_n dX1_copyFrom_49 rfl rfl (sH0 hO) ?_
  refine V.getI dX1_copyFrom_50 fl_X1_33 (sH0 hO) (Or.inl ⟨rfl, SHL_lt (sH0 hO)⟩) rfl rfl ?_
  refine V.putI dX1_copyFrom_53 fl_X1_33 (sH0 hA) (Or.inl ⟨rfl, SHL_lt (sH0 hA)⟩) rfl (fun q hq => by cases hq; rfl) ⟨rfl, rfl⟩ ?_
  refine V.aload_n dX1_copyFrom_56 rfl rfl (sH0 hA) ?_
  refine V.aload_n dX1_copyFrom_57 rfl rfl (sH0 hO) ?_
  refine V.getI dX1_copyFrom_58 fl_X1_36 (sH0 hO) (Or.inl ⟨rfl, SHL_lt (sH0 hO)⟩) rfl rfl ?_
  refine V.putI dX1_copyFrom_61 fl_X1_36 (sH0 hA) (Or.inl ⟨rfl, SHL_lt (sH0 hA)⟩) rfl (fun q hq => by cases hq; rfl) ⟨rfl, rfl⟩ ?_
  refine V.aload_n dX1_copyFrom_64 rfl rfl (sH0 hA) ?_
  refine V.aload_n dX1_copyFrom_65 rfl rfl (sH0 hO) ?_
  refine V.getI dX1_copyFrom_66 fl_X1_39 (sH0 hO) (Or.inl ⟨rfl, SHL_lt (sH0 hO)⟩) rfl rfl ?_
  refine V.putI dX1_copyFrom_69 fl_X1_39 (sH0 hA) (Or.inl ⟨rfl, SHL_lt (sH0 hA)⟩) rfl (fun q hq => by cases hq; rfl) ⟨rfl, rfl⟩ ?_
  refine V.vreturn' dX1_copyFrom_72 rfl ly.1 (Or.inl ⟨rfl, rfl⟩) ?_
  simp only [hI_rI_n _ _ hne]
  simp only [rI_rI, hI_rI_s]
  congr 1
  funext j
  rcases (show j = 0 ∨ j = 1 ∨ j = 2 ∨ j = 3 ∨ j = 4 ∨ j = 5 ∨ j = 6 ∨ j = 7 ∨ j = 8 ∨ 9 ≤ j by omega) with rfl | rfl | rfl | rfl | rfl | rfl | rfl | rfl | rfl | h9
  all_goals first | rfl | (simp_all [upd, rI_1, Int32.not_le, Int32.not_lt]; done) | simp [upd, rI_1, show j ≠ 0 by omega, show j ≠ 1 by omega, show j ≠ 2 by omega, show j ≠ 3 by omega, show j ≠ 4 by omega, show j ≠ 5 by omega, show j ≠ 6 by omega, show j ≠ 7 by omega, show j ≠ 8 by omega, show ¬ j < 9 by omega]
