/-! ===== the class's year: its entries ===== -/
def isB (w : Int32) : Prop := w = 15 ∨ w = 19
theorem isB_dec (w : Int32) : bI (decide (w = 15 ∨ w = 19)) = 0 ↔ ¬ isB w := bI_0
def openAt (h : HP) (y k : Nat) : Prop := isB (hI h (y + 1) k) ∧ hI h (y + 5) k = nI k
def openB (h : HP) (y k : Nat) : Bool := decide ((hI h (y + 1) k = 15 ∨ hI h (y + 1) k = 19) ∧ hI h (y + 5) k = nI k)
theorem openB_iff (h : HP) (y k : Nat) : openB h y k = true ↔ openAt h y k := by unfold openB openAt isB; exact decide_eq_true_iff
set_option maxRecDepth 100000 in
theorem sp_X9_isBlock (h : HP) (w : Int32) : Spec yX9_isBlock cX9_isBlock miX9_isBlock [.int w] h (pI fun r h' => r = bI (decide (w = 15 ∨ w = 19)) ∧ h' = h) := by
  refine Spec.of (ls0 := [.int w]) mo_X9_isBlock (Nat.le_of_ble_eq_true rfl) rfl ?_
  refine V.iload_n dX9_isBlock_0 rfl rfl ?_
  refine V.bipush (v := 15) dX9_isBlock_1 rfl ?_
  refine V.icmp_eq (tgt := 12) dX9_isBlock_3 (by decide) (fun c1 => ?_) (fun c1 => ?_)
  · refine V.iconst (v := 1) dX9_isBlock_12 rfl ?_
    refine V.goto (tgt := 17) dX9_isBlock_13 (by decide) ?_
    refine V.ireturn dX9_isBlock_17 rfl rfl ⟨rfl, rfl⟩ rfl ?_
    refine ⟨?_, rfl⟩
    first | exact bI_t (by first | exact Or.inl (by assumption) | exact Or.inr (by assumption)) | exact bI_f (by rintro (q | q) <;> contradiction)
  · refine V.iload_n dX9_isBlock_6 rfl rfl ?_
    refine V.bipush (v := 19) dX9_isBlock_7 rfl ?_
    refine V.icmp_ne (tgt := 16) dX9_isBlock_9 (by decide) (fun c2 => ?_) (fun c2 => ?_)
    · refine V.iconst (v := 0) dX9_isBlock_16 rfl ?_
      refine V.ireturn dX9_isBlock_17 rfl rfl ⟨rfl, rfl⟩ rfl ?_
      refine ⟨?_, rfl⟩
      first | exact bI_t (by first | exact Or.inl (by assumption) | exact Or.inr (by assumption)) | exact bI_f (by rintro (q | q) <;> contradiction)
    · refine V.iconst (v := 1) dX9_isBlock_12 rfl ?_
      refine V.goto (tgt := 17) dX9_isBlock_13 (by decide) ?_
      refine V.ireturn dX9_isBlock_17 rfl rfl ⟨rfl, rfl⟩ rfl ?_
      refine ⟨?_, rfl⟩
      first | exact bI_t (by first | exact Or.inl (by assumption) | exact Or.inr (by assumption)) | exact bI_f (by rintro (q | q) <;> contradiction)
set_option maxRecDepth 100000 in
theorem sp_X9_makeNone {h : HP} (ly : Lay h) {y : Nat} (hY : isY y)  : Spec yX9_makeNone cX9_makeNone miX9_makeNone [.ref y] h (pV fun h' => h' = rI h y (upd (upd (upd (hI h y) 5 0) 6 0) 7 0)) := by
  refine Spec.of (ls0 := [.ref y]) mo_X9_makeNone (Nat.le_of_ble_eq_true rfl) rfl ?_
  rw [ly.1]
  refine V.aload_n dX9_makeNone_0 rfl rfl (sY0 hY) ?_
  refine V.iconst (v := 0) dX9_makeNone_1 rfl ?_
  refine V.putI dX9_makeNone_2 fl_X9_27 (sY0 hY) (Or.inl ⟨rfl, SHL_lt (sY0 hY)⟩) rfl (fun q hq => by cases hq; rfl) ⟨rfl, rfl⟩ ?_
  refine V.aload_n dX9_makeNone_5 rfl rfl (sY0 hY) ?_
  refine V.iconst (v := 0) dX9_makeNone_6 rfl ?_
  refine V.putI dX9_makeNone_7 fl_X9_31 (sY0 hY) (Or.inl ⟨rfl, SHL_lt (sY0 hY)⟩) rfl (fun q hq => by cases hq; rfl) ⟨rfl, rfl⟩ ?_
  refine V.aload_n dX9_makeNone_10 rfl rfl (sY0 hY) ?_
  refine V.iconst (v := 0) dX9_makeNone_11 rfl ?_
  refine V.putI dX9_makeNone_12 fl_X9_35 (sY0 hY) (Or.inl ⟨rfl, SHL_lt (sY0 hY)⟩) rfl (fun q hq => by cases hq; rfl) ⟨rfl, rfl⟩ ?_
  refine V.vreturn' dX9_makeNone_15 rfl ly.1 (Or.inl ⟨rfl, rfl⟩) ?_
  simp only [rI_rI, hI_rI_s]
set_option maxRecDepth 100000 in
theorem sp_X9_makeEmpty {h : HP} (ly : Lay h) {y : Nat} (hY : isY y)  : Spec yX9_makeEmpty cX9_makeEmpty miX9_makeEmpty [.ref y] h (pV fun h' => h' = rI h y (upd (upd (upd (upd (hI h y) 5 0) 6 0) 7 0) 5 1)) := by
  refine Spec.of (ls0 := [.ref y]) mo_X9_makeEmpty (Nat.le_of_ble_eq_true rfl) rfl ?_
  rw [ly.1]
  refine V.aload_n dX9_makeEmpty_0 rfl rfl (sY0 hY) ?_
  refine V.callVV dX9_makeEmpty_1 ml_X9_38 mo_X9_makeNone mv_X9_makeNone (sY0 hY) (fun q hq => by cases hq; rfl) (by decide) (Or.inl ⟨rfl, SHL_lt (sY0 hY)⟩) (sp_X9_makeNone (by exact ly.keep rfl rfl) hY) rfl rfl ⟨Nat.le_of_ble_eq_true rfl, Nat.le_of_ble_eq_true rfl, fun _ => ⟨rfl, rfl⟩⟩ (Nat.le_of_ble_eq_true rfl) (Or.inl rfl) (fun h1 p2 => ?_)
  have p2 := p2.symm
  subst p2
  refine V.aload_n dX9_makeEmpty_4 rfl rfl (sY0 hY) ?_
  refine V.iconst (v := 1) dX9_makeEmpty_5 rfl ?_
  refine V.putI dX9_makeEmpty_6 fl_X9_27 (sY0 hY) (Or.inl ⟨rfl, SHL_lt (sY0 hY)⟩) rfl (fun q hq => by cases hq; rfl) ⟨rfl, rfl⟩ ?_
  refine V.vreturn' dX9_makeEmpty_9 rfl ly.1 (Or.inl ⟨rfl, rfl⟩) ?_
  simp only [rI_rI, hI_rI_s]
theorem isY_apart {y o : Nat} (hY : isY y) (hO : isY o) (hne : o ≠ y) : ∀ i j, i ≤ 13 → j ≤ 13 → o + i ≠ y + j := by
  intro i j hi hj
  rcases hY with rfl | rfl | rfl | rfl | rfl <;> rcases hO with rfl | rfl | rfl | rfl | rfl <;> omega
def cpy {α : Type} (f g : Nat → α) (e : Nat) : Nat → α := fun k => if k < e then f k else g k
theorem va_cpy0 {α : Type} (f g : Nat → α) (e : Nat) : va_cpy f g 0 0 e = cpy f g e := by
  funext k; unfold va_cpy cpy
  by_cases h : k < e
  · rw [if_pos (by omega), if_pos h]; congr 1; omega
  · rw [if_neg (by omega), if_neg h]
def yearCp (h : HP) (y o e : Nat) : HP :=
  rI (rI (rI (rI (rI (rI h y (upd (upd (upd (hI h y) 5 (hI h o 5)) 6 (nI e)) 7 (hI h o 7))) (y + 1) (cpy (hI h (o + 1)) (hI h (y + 1)) e)) (y + 2) (cpy (hI h (o + 2)) (hI h (y + 2)) e)) (y + 3) (cpy (hI h (o + 3)) (hI h (y + 3)) e)) (y + 4) (cpy (hI h (o + 4)) (hI h (y + 4)) e)) (y + 5) (cpy (hI h (o + 5)) (hI h (y + 5)) e)
set_option maxRecDepth 100000 in
theorem sp_X9_copyFrom {h : HP} (ly : Lay h) {y : Nat} (hY : isY y) {o e : Nat} (hO : isY o) (hne : o ≠ y) (he : e ≤ 60) (ho : hI h o 6 = nI e) (h01 : hI h o 5 = 0 ∨ hI h o 5 = 1) : Spec yX9_copyFrom cX9_copyFrom miX9_copyFrom [.ref y, .ref o] h (pV fun h' => h' = yearCp h y o e) := by
  refine Spec.of (ls0 := [.ref y, .ref o]) mo_X9_copyFrom (Nat.le_of_ble_eq_true rfl) rfl ?_
  rw [ly.1]
  refine V.aload_n dX9_copyFrom_0 rfl rfl (sY0 hY) ?_
  refine V.aload_n dX9_copyFrom_1 rfl rfl (sY0 hO) ?_
  refine V.getI dX9_copyFrom_2 fl_X9_27 (sY0 hO) (Or.inl ⟨rfl, SHL_lt (sY0 hO)⟩) rfl rfl ?_
  refine V.putI dX9_copyFrom_5 fl_X9_27 (sY0 hY) (Or.inl ⟨rfl, SHL_lt (sY0 hY)⟩) rfl (fun q hq => by cases hq; rfl) (by rcases h01 with q | q <;> rw [q] <;> exact ⟨rfl, rfl⟩) ?_
  refine V.aload_n dX9_copyFrom_8 rfl rfl (sY0 hY) ?_
  refine V.aload_n dX9_copyFrom_9 rfl rfl (sY0 hO) ?_
  refine V.getI dX9_copyFrom_10 fl_X9_31 (sY0 hO) (Or.inl ⟨rfl, SHL_lt (sY0 hO)⟩) rfl rfl ?_
  refine V.putI dX9_copyFrom_13 fl_X9_31 (sY0 hY) (Or.inl ⟨rfl, SHL_lt (sY0 hY)⟩) rfl (fun q hq => by cases hq; rfl) ⟨rfl, rfl⟩ ?_
  refine V.aload_n dX9_copyFrom_16 rfl rfl (sY0 hY) ?_
  refine V.aload_n dX9_copyFrom_17 rfl rfl (sY0 hO) ?_
  refine V.getI dX9_copyFrom_18 fl_X9_35 (sY0 hO) (Or.inl ⟨rfl, SHL_lt (sY0 hO)⟩) rfl rfl ?_
  refine V.putI dX9_copyFrom_21 fl_X9_35 (sY0 hY) (Or.inl ⟨rfl, SHL_lt (sY0 hY)⟩) rfl (fun q hq => by cases hq; rfl) ⟨rfl, rfl⟩ ?_
  refine V.heapEq (h' := rI h y (upd (upd (upd (hI h y) 5 (hI h o 5)) 6 (nI e)) 7 (hI h o 7))) (by simp only [rI_rI, hI_rI_s, hI_rI_n _ _ hne, ho]) ?_
  have ap := isY_apart hY hO hne
  have ap0 : ∀ i, i ≤ 13 → o + i ≠ y := fun i hi => ap i 0 hi (by omega)
  refine V.aload_n dX9_copyFrom_24 rfl rfl (sY0 hO) ?_
  refine V.getR (r := o + 1) dX9_copyFrom_25 fl_X9_11 (sY0 hO) (Or.inl ⟨rfl, SHL_lt (sY0 hO)⟩) rfl (rY_words ly hO) ?_
  refine V.iconst (v := 0) dX9_copyFrom_28 rfl ?_
  refine V.aload_n dX9_copyFrom_29 rfl rfl (sY0 hY) ?_
  refine V.getR (r := y + 1) dX9_copyFrom_30 fl_X9_11 (sY0 hY) (Or.inl ⟨rfl, SHL_lt (sY0 hY)⟩) rfl (rY_words ly hY) ?_
  refine V.iconst (v := 0) dX9_copyFrom_33 rfl ?_
  refine V.aload_n dX9_copyFrom_34 rfl rfl (sY0 hY) ?_
  refine V.getI dX9_copyFrom_35 fl_X9_31 (sY0 hY) (Or.inl ⟨rfl, SHL_lt (sY0 hY)⟩) rfl rfl ?_
  refine V.nmi (fun n1 en1 => ?_)
  have he9 : n1 = nI e := by rw [en1]; simp [hI_rI, upd]
  clear en1
  subst he9
  refine V.copyI dX9_copyFrom_38 lk_X9_41 copy_ok (sY1 hO) (sY1 hY) (Or.inl ⟨rfl, SHL_lt (sY1 hO)⟩) (Or.inl ⟨rfl, SHL_lt (sY1 hY)⟩) (by decide) (by decide) (nI_pos (by omega)) (by rw [nI_clamp (by omega)]; show 0 + e ≤ 60; omega) (by rw [nI_clamp (by omega)]; show 0 + e ≤ 60; omega) ⟨Nat.le_of_ble_eq_true rfl, Nat.le_of_ble_eq_true rfl⟩ ?_
  rw [show (0 : Int32).toNatClampNeg = 0 from rfl, nI_clamp (show e < 2 ^ 31 by omega), va_cpy0]
  refine V.aload_n dX9_copyFrom_41 rfl rfl (sY0 hO) ?_
  refine V.getR (r := o + 2) dX9_copyFrom_42 fl_X9_15 (sY0 hO) (Or.inl ⟨rfl, SHL_lt (sY0 hO)⟩) rfl (rY_tests ly hO) ?_
  refine V.iconst (v := 0) dX9_copyFrom_45 rfl ?_
  refine V.aload_n dX9_copyFrom_46 rfl rfl (sY0 hY) ?_
  refine V.getR (r := y + 2) dX9_copyFrom_47 fl_X9_15 (sY0 hY) (Or.inl ⟨rfl, SHL_lt (sY0 hY)⟩) rfl (rY_tests ly hY) ?_
  refine V.iconst (v := 0) dX9_copyFrom_50 rfl ?_
  refine V.aload_n dX9_copyFrom_51 rfl rfl (sY0 hY) ?_
  refine V.getI dX9_copyFrom_52 fl_X9_31 (sY0 hY) (Or.inl ⟨rfl, SHL_lt (sY0 hY)⟩) rfl rfl ?_
  refine V.nmi (fun n2 en2 => ?_)
  have he9 : n2 = nI e := by rw [en2]; simp [hI_rI, upd]
  clear en2
  subst he9
  refine V.copyI dX9_copyFrom_55 lk_X9_41 copy_ok (sY2 hO) (sY2 hY) (Or.inl ⟨rfl, SHL_lt (sY2 hO)⟩) (Or.inl ⟨rfl, SHL_lt (sY2 hY)⟩) (by decide) (by decide) (nI_pos (by omega)) (by rw [nI_clamp (by omega)]; show 0 + e ≤ 60; omega) (by rw [nI_clamp (by omega)]; show 0 + e ≤ 60; omega) ⟨Nat.le_of_ble_eq_true rfl, Nat.le_of_ble_eq_true rfl⟩ ?_
  rw [show (0 : Int32).toNatClampNeg = 0 from rfl, nI_clamp (show e < 2 ^ 31 by omega), va_cpy0]
  refine V.aload_n dX9_copyFrom_58 rfl rfl (sY0 hO) ?_
  refine V.getR (r := o + 3) dX9_copyFrom_59 fl_X9_18 (sY0 hO) (Or.inl ⟨rfl, SHL_lt (sY0 hO)⟩) rfl (rY_firsts ly hO) ?_
  refine V.iconst (v := 0) dX9_copyFrom_62 rfl ?_
  refine V.aload_n dX9_copyFrom_63 rfl rfl (sY0 hY) ?_
  refine V.getR (r := y + 3) dX9_copyFrom_64 fl_X9_18 (sY0 hY) (Or.inl ⟨rfl, SHL_lt (sY0 hY)⟩) rfl (rY_firsts ly hY) ?_
  refine V.iconst (v := 0) dX9_copyFrom_67 rfl ?_
  refine V.aload_n dX9_copyFrom_68 rfl rfl (sY0 hY) ?_
  refine V.getI dX9_copyFrom_69 fl_X9_31 (sY0 hY) (Or.inl ⟨rfl, SHL_lt (sY0 hY)⟩) rfl rfl ?_
  refine V.nmi (fun n3 en3 => ?_)
  have he9 : n3 = nI e := by rw [en3]; simp [hI_rI, upd]
  clear en3
  subst he9
  refine V.copyI dX9_copyFrom_72 lk_X9_41 copy_ok (sY3 hO) (sY3 hY) (Or.inl ⟨rfl, SHL_lt (sY3 hO)⟩) (Or.inl ⟨rfl, SHL_lt (sY3 hY)⟩) (by decide) (by decide) (nI_pos (by omega)) (by rw [nI_clamp (by omega)]; show 0 + e ≤ 60; omega) (by rw [nI_clamp (by omega)]; show 0 + e ≤ 60; omega) ⟨Nat.le_of_ble_eq_true rfl, Nat.le_of_ble_eq_true rfl⟩ ?_
  rw [show (0 : Int32).toNatClampNeg = 0 from rfl, nI_clamp (show e < 2 ^ 31 by omega), va_cpy0]
  refine V.aload_n dX9_copyFrom_75 rfl rfl (sY0 hO) ?_
  refine V.getR (r := o + 4) dX9_copyFrom_76 fl_X9_21 (sY0 hO) (Or.inl ⟨rfl, SHL_lt (sY0 hO)⟩) rfl (rY_seconds ly hO) ?_
  refine V.iconst (v := 0) dX9_copyFrom_79 rfl ?_
  refine V.aload_n dX9_copyFrom_80 rfl rfl (sY0 hY) ?_
  refine V.getR (r := y + 4) dX9_copyFrom_81 fl_X9_21 (sY0 hY) (Or.inl ⟨rfl, SHL_lt (sY0 hY)⟩) rfl (rY_seconds ly hY) ?_
  refine V.iconst (v := 0) dX9_copyFrom_84 rfl ?_
  refine V.aload_n dX9_copyFrom_85 rfl rfl (sY0 hY) ?_
  refine V.getI dX9_copyFrom_86 fl_X9_31 (sY0 hY) (Or.inl ⟨rfl, SHL_lt (sY0 hY)⟩) rfl rfl ?_
  refine V.nmi (fun n4 en4 => ?_)
  have he9 : n4 = nI e := by rw [en4]; simp [hI_rI, upd]
  clear en4
  subst he9
  refine V.copyI dX9_copyFrom_89 lk_X9_41 copy_ok (sY4 hO) (sY4 hY) (Or.inl ⟨rfl, SHL_lt (sY4 hO)⟩) (Or.inl ⟨rfl, SHL_lt (sY4 hY)⟩) (by decide) (by decide) (nI_pos (by omega)) (by rw [nI_clamp (by omega)]; show 0 + e ≤ 60; omega) (by rw [nI_clamp (by omega)]; show 0 + e ≤ 60; omega) ⟨Nat.le_of_ble_eq_true rfl, Nat.le_of_ble_eq_true rfl⟩ ?_
  rw [show (0 : Int32).toNatClampNeg = 0 from rfl, nI_clamp (show e < 2 ^ 31 by omega), va_cpy0]
  refine V.aload_n dX9_copyFrom_92 rfl rfl (sY0 hO) ?_
  refine V.getR (r := o + 5) dX9_copyFrom_93 fl_X9_24 (sY0 hO) (Or.inl ⟨rfl, SHL_lt (sY0 hO)⟩) rfl (rY_partners ly hO) ?_
  refine V.iconst (v := 0) dX9_copyFrom_96 rfl ?_
  refine V.aload_n dX9_copyFrom_97 rfl rfl (sY0 hY) ?_
  refine V.getR (r := y + 5) dX9_copyFrom_98 fl_X9_24 (sY0 hY) (Or.inl ⟨rfl, SHL_lt (sY0 hY)⟩) rfl (rY_partners ly hY) ?_
  refine V.iconst (v := 0) dX9_copyFrom_101 rfl ?_
  refine V.aload_n dX9_copyFrom_102 rfl rfl (sY0 hY) ?_
  refine V.getI dX9_copyFrom_103 fl_X9_31 (sY0 hY) (Or.inl ⟨rfl, SHL_lt (sY0 hY)⟩) rfl rfl ?_
  refine V.nmi (fun n5 en5 => ?_)
  have he9 : n5 = nI e := by rw [en5]; simp [hI_rI, upd]
  clear en5
  subst he9
  refine V.copyI dX9_copyFrom_106 lk_X9_41 copy_ok (sY5 hO) (sY5 hY) (Or.inl ⟨rfl, SHL_lt (sY5 hO)⟩) (Or.inl ⟨rfl, SHL_lt (sY5 hY)⟩) (by decide) (by decide) (nI_pos (by omega)) (by rw [nI_clamp (by omega)]; show 0 + e ≤ 60; omega) (by rw [nI_clamp (by omega)]; show 0 + e ≤ 60; omega) ⟨Nat.le_of_ble_eq_true rfl, Nat.le_of_ble_eq_true rfl⟩ ?_
  rw [show (0 : Int32).toNatClampNeg = 0 from rfl, nI_clamp (show e < 2 ^ 31 by omega), va_cpy0]
  refine V.vreturn' dX9_copyFrom_109 rfl ly.1 (Or.inl ⟨rfl, rfl⟩) ?_
  unfold yearCp
  simp [hI_rI, ap 1 1 (by omega) (by omega), ap 1 2 (by omega) (by omega), ap 1 3 (by omega) (by omega), ap 1 4 (by omega) (by omega), ap 1 5 (by omega) (by omega), ap 2 1 (by omega) (by omega), ap 2 2 (by omega) (by omega), ap 2 3 (by omega) (by omega), ap 2 4 (by omega) (by omega), ap 2 5 (by omega) (by omega), ap 3 1 (by omega) (by omega), ap 3 2 (by omega) (by omega), ap 3 3 (by omega) (by omega), ap 3 4 (by omega) (by omega), ap 3 5 (by omega) (by omega), ap 4 1 (by omega) (by omega), ap 4 2 (by omega) (by omega), ap 4 3 (by omega) (by omega), ap 4 4 (by omega) (by omega), ap 4 5 (by omega) (by omega), ap 5 1 (by omega) (by omega), ap 5 2 (by omega) (by omega), ap 5 3 (by omega) (by omega), ap 5 4 (by omega) (by omega), ap 5 5 (by omega) (by omega), ap0 1 (by omega), ap0 2 (by omega), ap0 3 (by omega), ap0 4 (by omega), ap0 5 (by omega)]
set_option maxRecDepth 100000 in
theorem sp_X9_add {h : HP} (ly : Lay h) {y : Nat} (hY : isY y) {e : Nat} (he : e < 60) (h6 : hI h y 6 = nI e) (w : Int32) : Spec yX9_add cX9_add miX9_add [.ref y, .int w] h (pV fun h' => h' = rI (rI (rI h (y + 1) (upd (hI h (y + 1)) e w)) (y + 5) (upd (hI h (y + 5)) e (nI e))) y (upd (hI h y) 6 (nI (e + 1)))) := by
  refine Spec.of (ls0 := [.ref y, .int w]) mo_X9_add (Nat.le_of_ble_eq_true rfl) rfl ?_
  rw [ly.1]
  refine V.aload_n dX9_add_0 rfl rfl (sY0 hY) ?_
  refine V.getI dX9_add_1 fl_X9_31 (sY0 hY) (Or.inl ⟨rfl, SHL_lt (sY0 hY)⟩) rfl rfl ?_
  refine V.bipush (v := 60) dX9_add_4 rfl ?_
  refine V.icmp_ge (tgt := 42) dX9_add_6 (by decide) (fun c1 => ?_) (fun c1 => ?_)
  · exact absurd c1 (by rw [h6, show (60 : Int32) = nI 60 from rfl, nI_leI (by omega) (by omega)]; omega)
  · refine V.aload_n dX9_add_9 rfl rfl (sY0 hY) ?_
    refine V.getR (r := y + 1) dX9_add_10 fl_X9_11 (sY0 hY) (Or.inl ⟨rfl, SHL_lt (sY0 hY)⟩) rfl (rY_words ly hY) ?_
    refine V.aload_n dX9_add_13 rfl rfl (sY0 hY) ?_
    refine V.getI dX9_add_14 fl_X9_31 (sY0 hY) (Or.inl ⟨rfl, SHL_lt (sY0 hY)⟩) rfl rfl ?_
    refine V.iload_n dX9_add_17 rfl rfl ?_
    refine V.iastore dX9_add_18 (sY1 hY) (Or.inl ⟨rfl, SHL_lt (sY1 hY)⟩) (by rw [h6]; exact vp_in_nI he (by decide)) ?_
    rw [h6, nI_clamp (show e < 2 ^ 31 by omega)]
    refine V.aload_n dX9_add_19 rfl rfl (sY0 hY) ?_
    refine V.getR (r := y + 5) dX9_add_20 fl_X9_24 (sY0 hY) (Or.inl ⟨rfl, SHL_lt (sY0 hY)⟩) rfl (rY_partners ly hY) ?_
    refine V.aload_n dX9_add_23 rfl rfl (sY0 hY) ?_
    refine V.getI dX9_add_24 fl_X9_31 (sY0 hY) (Or.inl ⟨rfl, SHL_lt (sY0 hY)⟩) rfl rfl ?_
    refine V.aload_n dX9_add_27 rfl rfl (sY0 hY) ?_
    refine V.getI dX9_add_28 fl_X9_31 (sY0 hY) (Or.inl ⟨rfl, SHL_lt (sY0 hY)⟩) rfl rfl ?_
    refine V.iastore dX9_add_31 (sY5 hY) (Or.inl ⟨rfl, SHL_lt (sY5 hY)⟩) (by rw [hI_rI_n _ _ (by omega), h6]; exact vp_in_nI he (by decide)) ?_
    rw [hI_rI_n (b := y) _ _ (by omega), h6, nI_clamp (show e < 2 ^ 31 by omega)]
    refine V.aload_n dX9_add_32 rfl rfl (sY0 hY) ?_
    refine V.dup dX9_add_33 rfl ?_
    refine V.getI dX9_add_34 fl_X9_31 (sY0 hY) (Or.inl ⟨rfl, SHL_lt (sY0 hY)⟩) rfl rfl ?_
    refine V.iconst (v := 1) dX9_add_37 rfl ?_
    refine V.iadd dX9_add_38 ?_
    refine V.putI dX9_add_39 fl_X9_31 (sY0 hY) (Or.inl ⟨rfl, SHL_lt (sY0 hY)⟩) rfl (fun q hq => by cases hq; rfl) ⟨rfl, rfl⟩ ?_
    refine V.vreturn' dX9_add_42 rfl ly.1 (Or.inl ⟨rfl, rfl⟩) ?_
    simp [uI, hI_rI, h6, nI_1]
set_option maxRecDepth 100000 in
theorem lp_X9_openEntry {h0 h1 : HP} (hn : h0.1 = 130) (ly : Lay h1) {y : Nat} (hY : isY y) {e : Nat} (h6 : hI h1 y 6 = nI e) (he : e ≤ 60) {P : Int32 → HP → Prop} (hno : (∀ i, i < e → openB h1 y i = false) → P (-1) h1) (hyes : ∀ k, k < e → openB h1 y k = true → (∀ i, k < i → i < e → openB h1 y i = false) → P (nI k) h1) : ∀ k, k ≤ e → (∀ i, k ≤ i → i < e → openB h1 y i = false) → ∀ x, x = nI k - 1 →
    V cX9_openEntry miX9_openEntry (ZM h0 miX9_openEntry.2.2.2.1 (pI P)) 130 7 [.ref y, .int x] [] h1 := by
  intro k
  induction k with
  | zero =>
    intro hk hall x ex
    have ex2 : x = -1 := by rw [ex]; rfl
    subst ex2
    refine V.iload_n dX9_openEntry_7 rfl rfl ?_
    refine V.if_lt (tgt := 41) dX9_openEntry_8 (by decide) (fun _ => ?_) (fun c => absurd (by decide) c)
    refine V.iconst (v := -1) dX9_openEntry_41 rfl ?_
    refine V.ireturn dX9_openEntry_42 rfl rfl ⟨rfl, rfl⟩ hn ?_
    exact hno (fun i hi => hall i (by omega) hi)
  | succ k ih =>
    intro hk hall x ex
    have ex2 : x = nI k := by rw [ex, nI_pred]
    subst ex2
    refine V.iload_n dX9_openEntry_7 rfl rfl ?_
    refine V.if_lt (tgt := 41) dX9_openEntry_8 (by decide) (fun c1 => ?_) (fun c1 => ?_)
    · exact absurd c1 (nI_pos (by omega))
    · refine V.aload_n dX9_openEntry_11 rfl rfl (sY0 hY) ?_
      refine V.getR (r := y + 1) dX9_openEntry_12 fl_X9_11 (sY0 hY) (Or.inl ⟨rfl, SHL_lt (sY0 hY)⟩) rfl (rY_words ly hY) ?_
      refine V.iload_n dX9_openEntry_15 rfl rfl ?_
      refine V.iaload dX9_openEntry_16 (sY1 hY) (Or.inl ⟨rfl, SHL_lt (sY1 hY)⟩) (vp_in_nI (show k < 60 by omega) (by decide)) ?_
      rw [nI_clamp (show k < 2 ^ 31 by omega)]
      refine V.callSI dX9_openEntry_17 ml_X9_47 mo_X9_isBlock ms_X9_isBlock (sp_X9_isBlock _ _) rfl rfl ⟨Nat.le_of_ble_eq_true rfl, Nat.le_of_ble_eq_true rfl, fun _ => ⟨rfl, rfl⟩⟩ (Nat.le_of_ble_eq_true rfl) rfl (fun r2 h3 p4 => ?_)
      obtain ⟨er2, p4⟩ := p4
      have p4 := p4.symm
      subst p4
      refine V.if_eq (tgt := 35) dX9_openEntry_20 (by decide) (fun c5 => ?_) (fun c5 => ?_)
      · rw [er2, bI_0] at c5
        obtain ⟨x6, ex6⟩ : ∃ y : Int32, y = nI k + (-1) := ⟨_, rfl⟩
        refine V.iinc (v := x6) (ls' := [.ref y, .int x6]) dX9_openEntry_35 rfl (by decide) ex6.symm rfl ?_
        refine V.goto (tgt := 7) dX9_openEntry_38 (by decide) ?_
        refine ih (by omega) (fun i h1 h2 => ?_) _ (by rw [ex6, Int32.sub_eq_add_neg])
        rcases Nat.eq_or_lt_of_le h1 with h9 | h9
        · subst h9
          unfold openB
          rw [decide_eq_false_iff_not]
          rintro ⟨q1, q2⟩
          first | exact absurd q1 (by assumption) | exact absurd q2 (by assumption)
        · exact hall i h9 h2
      · rw [er2, bI_0, Decidable.not_not] at c5
        refine V.aload_n dX9_openEntry_23 rfl rfl (sY0 hY) ?_
        refine V.getR (r := y + 5) dX9_openEntry_24 fl_X9_24 (sY0 hY) (Or.inl ⟨rfl, SHL_lt (sY0 hY)⟩) rfl (rY_partners ly hY) ?_
        refine V.iload_n dX9_openEntry_27 rfl rfl ?_
        refine V.iaload dX9_openEntry_28 (sY5 hY) (Or.inl ⟨rfl, SHL_lt (sY5 hY)⟩) (vp_in_nI (show k < 60 by omega) (by decide)) ?_
        rw [nI_clamp (show k < 2 ^ 31 by omega)]
        refine V.iload_n dX9_openEntry_29 rfl rfl ?_
        refine V.icmp_ne (tgt := 35) dX9_openEntry_30 (by decide) (fun c7 => ?_) (fun c7 => ?_)
        · obtain ⟨x8, ex8⟩ : ∃ y : Int32, y = nI k + (-1) := ⟨_, rfl⟩
          refine V.iinc (v := x8) (ls' := [.ref y, .int x8]) dX9_openEntry_35 rfl (by decide) ex8.symm rfl ?_
          refine V.goto (tgt := 7) dX9_openEntry_38 (by decide) ?_
          refine ih (by omega) (fun i h1 h2 => ?_) _ (by rw [ex8, Int32.sub_eq_add_neg])
          rcases Nat.eq_or_lt_of_le h1 with h9 | h9
          · subst h9
            unfold openB
            rw [decide_eq_false_iff_not]
            rintro ⟨q1, q2⟩
            first | exact absurd q1 (by assumption) | exact absurd q2 (by assumption)
          · exact hall i h9 h2
        · refine V.iload_n dX9_openEntry_33 rfl rfl ?_
          refine V.ireturn dX9_openEntry_34 rfl rfl ⟨rfl, rfl⟩ hn ?_
          exact hyes k (by omega) (by unfold openB; exact decide_eq_true_iff.mpr ⟨by assumption, by assumption⟩) (fun i h1 h2 => hall i h1 h2)
set_option maxRecDepth 100000 in
theorem sp_X9_openEntry {h : HP} (ly : Lay h) {y : Nat} (hY : isY y) {e : Nat} (h6 : hI h y 6 = nI e) (he : e ≤ 60) : Spec yX9_openEntry cX9_openEntry miX9_openEntry [.ref y] h (pI fun r h' => ((r = -1 ∧ ∀ i, i < e → openB h y i = false) ∨ ∃ k, k < e ∧ r = nI k ∧ openB h y k = true ∧ ∀ i, k < i → i < e → openB h y i = false) ∧ h' = h) := by
  refine Spec.of (ls0 := [.ref y, .null]) mo_X9_openEntry (Nat.le_of_ble_eq_true rfl) rfl ?_
  rw [ly.1]
  refine V.aload_n dX9_openEntry_0 rfl rfl (sY0 hY) ?_
  refine V.getI dX9_openEntry_1 fl_X9_31 (sY0 hY) (Or.inl ⟨rfl, SHL_lt (sY0 hY)⟩) rfl rfl ?_
  refine V.iconst (v := 1) dX9_openEntry_4 rfl ?_
  refine V.isub dX9_openEntry_5 ?_
  refine V.nmi (fun x1 ex1 => ?_)
  refine V.istore_n (ls' := [.ref y, .int x1]) dX9_openEntry_6 rfl (by decide) rfl ?_
  exact lp_X9_openEntry ly.1 ly hY h6 he (fun q => ⟨Or.inl ⟨rfl, q⟩, rfl⟩) (fun k h1 h2 h3 => ⟨Or.inr ⟨k, h1, rfl, h2, h3⟩, rfl⟩) e (Nat.le_refl _) (fun i h1 h2 => absurd h2 (by omega)) _ (by subst_vars; rw [h6])
set_option maxRecDepth 100000 in
theorem lp_X9_countOpen {h0 h1 : HP} (hn : h0.1 = 130) (ly : Lay h1) {y : Nat} (hY : isY y) {e : Nat} (h6 : hI h1 y 6 = nI e) (he : e ≤ 60) {P : Int32 → HP → Prop} (hP : P (nI (fb_ct (openB h1 y) e)) h1) : ∀ n k, k ≤ e → e + 1 ≤ k + n → ∀ t, t = nI (fb_ct (openB h1 y) k) →
    V cX9_countOpen miX9_countOpen (ZM h0 miX9_countOpen.2.2.2.1 (pI P)) 130 4 [.ref y, .int t, .int (nI k)] [] (h1) := by
  intro n
  induction n with
  | zero => intro k h1 h2; exact absurd h2 (by omega)
  | succ n ih =>
    intro k hk hkn t et
    refine V.iload_n dX9_countOpen_4 rfl rfl ?_
    refine V.aload_n dX9_countOpen_5 rfl rfl (sY0 hY) ?_
    refine V.getI dX9_countOpen_6 fl_X9_31 (sY0 hY) (Or.inl ⟨rfl, SHL_lt (sY0 hY)⟩) rfl rfl ?_
    refine V.icmp_ge (tgt := 48) dX9_countOpen_9 (by decide) (fun c1 => ?_) (fun c1 => ?_)
    · have hk2 : k = e := by have h9 := c1; rw [h6, nI_leI (by omega) (by omega)] at h9; omega
      refine V.iload_n dX9_countOpen_48 rfl rfl ?_
      refine V.ireturn dX9_countOpen_49 rfl rfl ⟨rfl, rfl⟩ hn ?_
      subst hk2
      rw [et]; exact hP
    · have hlt : k < e := by have h9 := c1; rw [h6, nI_leI (by omega) (by omega)] at h9; omega
      refine V.iload_n dX9_countOpen_12 rfl rfl ?_
      refine V.aload_n dX9_countOpen_13 rfl rfl (sY0 hY) ?_
      refine V.getR (r := y + 1) dX9_countOpen_14 fl_X9_11 (sY0 hY) (Or.inl ⟨rfl, SHL_lt (sY0 hY)⟩) rfl (rY_words ly hY) ?_
      refine V.iload_n dX9_countOpen_17 rfl rfl ?_
      refine V.iaload dX9_countOpen_18 (sY1 hY) (Or.inl ⟨rfl, SHL_lt (sY1 hY)⟩) (vp_in_nI (show k < 60 by omega) (by decide)) ?_
      rw [nI_clamp (show k < 2 ^ 31 by omega)]
      refine V.callSI dX9_countOpen_19 ml_X9_47 mo_X9_isBlock ms_X9_isBlock (sp_X9_isBlock _ _) rfl rfl ⟨Nat.le_of_ble_eq_true rfl, Nat.le_of_ble_eq_true rfl, fun _ => ⟨rfl, rfl⟩⟩ (Nat.le_of_ble_eq_true rfl) rfl (fun r2 h3 p4 => ?_)
      obtain ⟨er2, p4⟩ := p4
      have p4 := p4.symm
      subst p4
      refine V.if_eq (tgt := 39) dX9_countOpen_22 (by decide) (fun c5 => ?_) (fun c5 => ?_)
      · rw [er2, bI_0] at c5
        refine V.iconst (v := 0) dX9_countOpen_39 rfl ?_
        refine V.iadd dX9_countOpen_40 ?_
        refine V.nmi (fun x6 ex6 => ?_)
        refine V.istore_n (ls' := [.ref y, .int x6, .int (nI k)]) dX9_countOpen_41 rfl (by decide) rfl ?_
        obtain ⟨x7, ex7⟩ : ∃ y : Int32, y = nI k + 1 := ⟨_, rfl⟩
        refine V.iinc (v := x7) (ls' := [.ref y, .int x6, .int x7]) dX9_countOpen_42 rfl (by decide) ex7.symm rfl ?_
        refine V.goto (tgt := 4) dX9_countOpen_45 (by decide) ?_
        rw [ex7, nI_1]
        refine ih (k + 1) (by omega) (by omega) _ ?_
        rw [ex6, et, fb_ct_succ]
        first
          | (rw [if_pos (show openB h1 y k = true by unfold openB; exact decide_eq_true_iff.mpr ⟨by assumption, by assumption⟩)]; exact nI_1 _)
          | (rw [if_neg (show ¬ openB h1 y k = true by unfold openB; rw [decide_eq_true_iff]; rintro ⟨q1, q2⟩; first | exact absurd q1 (by assumption) | exact absurd q2 (by assumption))]; exact Int32.add_zero _)
      · rw [er2, bI_0, Decidable.not_not] at c5
        refine V.aload_n dX9_countOpen_25 rfl rfl (sY0 hY) ?_
        refine V.getR (r := y + 5) dX9_countOpen_26 fl_X9_24 (sY0 hY) (Or.inl ⟨rfl, SHL_lt (sY0 hY)⟩) rfl (rY_partners ly hY) ?_
        refine V.iload_n dX9_countOpen_29 rfl rfl ?_
        refine V.iaload dX9_countOpen_30 (sY5 hY) (Or.inl ⟨rfl, SHL_lt (sY5 hY)⟩) (vp_in_nI (show k < 60 by omega) (by decide)) ?_
        rw [nI_clamp (show k < 2 ^ 31 by omega)]
        refine V.iload_n dX9_countOpen_31 rfl rfl ?_
        refine V.icmp_ne (tgt := 39) dX9_countOpen_32 (by decide) (fun c8 => ?_) (fun c8 => ?_)
        · refine V.iconst (v := 0) dX9_countOpen_39 rfl ?_
          refine V.iadd dX9_countOpen_40 ?_
          refine V.nmi (fun x9 ex9 => ?_)
          refine V.istore_n (ls' := [.ref y, .int x9, .int (nI k)]) dX9_countOpen_41 rfl (by decide) rfl ?_
          obtain ⟨x10, ex10⟩ : ∃ y : Int32, y = nI k + 1 := ⟨_, rfl⟩
          refine V.iinc (v := x10) (ls' := [.ref y, .int x9, .int x10]) dX9_countOpen_42 rfl (by decide) ex10.symm rfl ?_
          refine V.goto (tgt := 4) dX9_countOpen_45 (by decide) ?_
          rw [ex10, nI_1]
          refine ih (k + 1) (by omega) (by omega) _ ?_
          rw [ex9, et, fb_ct_succ]
          first
            | (rw [if_pos (show openB h1 y k = true by unfold openB; exact decide_eq_true_iff.mpr ⟨by assumption, by assumption⟩)]; exact nI_1 _)
            | (rw [if_neg (show ¬ openB h1 y k = true by unfold openB; rw [decide_eq_true_iff]; rintro ⟨q1, q2⟩; first | exact absurd q1 (by assumption) | exact absurd q2 (by assumption))]; exact Int32.add_zero _)
        · refine V.iconst (v := 1) dX9_countOpen_35 rfl ?_
          refine V.goto (tgt := 40) dX9_countOpen_36 (by decide) ?_
          refine V.iadd dX9_countOpen_40 ?_
          refine V.nmi (fun x11 ex11 => ?_)
          refine V.istore_n (ls' := [.ref y, .int x11, .int (nI k)]) dX9_countOpen_41 rfl (by decide) rfl ?_
          obtain ⟨x12, ex12⟩ : ∃ y : Int32, y = nI k + 1 := ⟨_, rfl⟩
          refine V.iinc (v := x12) (ls' := [.ref y, .int x11, .int x12]) dX9_countOpen_42 rfl (by decide) ex12.symm rfl ?_
          refine V.goto (tgt := 4) dX9_countOpen_45 (by decide) ?_
          rw [ex12, nI_1]
          refine ih (k + 1) (by omega) (by omega) _ ?_
          rw [ex11, et, fb_ct_succ]
          first
            | (rw [if_pos (show openB h1 y k = true by unfold openB; exact decide_eq_true_iff.mpr ⟨by assumption, by assumption⟩)]; exact nI_1 _)
            | (rw [if_neg (show ¬ openB h1 y k = true by unfold openB; rw [decide_eq_true_iff]; rintro ⟨q1, q2⟩; first | exact absurd q1 (by assumption) | exact absurd q2 (by assumption))]; exact Int32.add_zero _)
set_option maxRecDepth 100000 in
theorem sp_X9_countOpen {h : HP} (ly : Lay h) {y : Nat} (hY : isY y) {e : Nat} (h6 : hI h y 6 = nI e) (he : e ≤ 60) : Spec yX9_countOpen cX9_countOpen miX9_countOpen [.ref y] h (pI fun r h' => r = nI (fb_ct (openB h y) e) ∧ h' = h) := by
  refine Spec.of (ls0 := [.ref y, .null, .null]) mo_X9_countOpen (Nat.le_of_ble_eq_true rfl) rfl ?_
  rw [ly.1]
  refine V.iconst (v := 0) dX9_countOpen_0 rfl ?_
  refine V.istore_n (ls' := [.ref y, .int 0, .null]) dX9_countOpen_1 rfl (by decide) rfl ?_
  refine V.iconst (v := 0) dX9_countOpen_2 rfl ?_
  refine V.istore_n (ls' := [.ref y, .int 0, .int 0]) dX9_countOpen_3 rfl (by decide) rfl ?_
  exact lp_X9_countOpen ly.1 ly hY h6 he ⟨rfl, rfl⟩ (e + 1) 0 (by omega) (by omega) 0 rfl
