/-! ===== the class's reader: rows of houses, a whole town ===== -/
set_option maxRecDepth 100000 in
theorem sp_X6_takeParts {h : HP} (rkh : RK h) {t : Nat} (hT : isT t) (tph : TP h t) : Spec yX6_takeParts cX6_takeParts miX6_takeParts [.ref 5, .ref t] h (pI fun r h' => r = (partsG 11 h t).1 ∧ h' = (partsG 11 h t).2) := by
  refine Spec.of (ls0 := [.ref 5, .ref t, .null, .null]) mo_X6_takeParts (Nat.le_of_ble_eq_true rfl) rfl ?_
  rw [rkh.1.1]
  refine V.iconst (v := 0) dX6_takeParts_0 rfl ?_
  refine V.istore_n (ls' := [.ref 5, .ref t, .int 0, .null]) dX6_takeParts_1 rfl (by decide) rfl ?_
  exact lp_X6_takeParts (h0 := h) rkh.1.1 hT (P := fun r h' => r = (partsG 11 h t).1 ∧ h' = (partsG 11 h t).2) 11 0 rfl h rkh tph ⟨rfl, rfl⟩
theorem addH_fr {h : HP} {t e : Nat} (b v : Int32) (h1 : e ≠ t) (h2 : e ≠ t + 1) : hI (addHH h t b v) e = hI h e ∧ (addHH h t b v).1 = h.1 ∧ hR (addHH h t b v) = hR h ∧ hL (addHH h t b v) = hL h := by
  unfold addHH addH4 addH3 addH2 addH1
  refine ⟨?_, ?_, ?_, ?_⟩
  · (repeat' split) <;> simp only [uI, hI_rI_n _ _ h1, hI_rI_n _ _ h2]
  · (repeat' split) <;> rfl
  · (repeat' split) <;> rfl
  · (repeat' split) <;> rfl
theorem addH_0 {h : HP} {t : Nat} (b v : Int32) {j : Nat} (hj : j < 4) : hI (addHH h t b v) (t + 1) j = hI h (t + 1) j := by
  unfold addHH addH4 addH3 addH2 addH1
  have n1 : t + 1 ≠ t := by omega
  have n2 : t ≠ t + 1 := by omega
  have j4 : j ≠ 4 := by omega
  have j5 : j ≠ 5 := by omega
  have j6 : j ≠ 6 := by omega
  (repeat' split) <;> simp only [uI, hI_rI_n _ _ n1, hI_rI_s, upd, if_neg j4, if_neg j5, if_neg j6]
theorem addH_t {h : HP} {t : Nat} (b v : Int32) {j : Nat} (hj : j < 13) : hI (addHH h t b v) t j = hI h t j := by
  unfold addHH addH4 addH3 addH2 addH1
  have n2 : t ≠ t + 1 := by omega
  have j4 : j ≠ 13 := by omega
  (repeat' split) <;> simp only [uI, hI_rI_n _ _ n2, hI_rI_s, upd, if_neg j4]
theorem RK.house {h : HP} (rk : RK h) {t : Nat} (hT : isT t) (b v : Int32) : RK (addHH h t b v) := by
  have := isT_ge hT
  have f := fun e (h1 : e ≠ t) (h2 : e ≠ t + 1) => addH_fr (h := h) b v h1 h2
  exact rk.keep (f 5 (by omega) (by omega)).2.1 (f 5 (by omega) (by omega)).2.2.1 (f 5 (by omega) (by omega)).1 (f 9 (by omega) (by omega)).1 (f 10 (by omega) (by omega)).1
def sA (h : HP) : Nat := (hI h 9 (tA h)).toNatClampNeg
def lA (h : HP) : Nat := (hI h 10 (tA h)).toNatClampNeg
theorem RK.sl {h : HP} (rk : RK h) : hI h 9 (tA h) = nI (sA h) ∧ hI h 10 (tA h) = nI (lA h) ∧ sA h + lA h ≤ 900 := by
  obtain ⟨s, l, e1, e2, e3⟩ := rk.2.pl (tA h) rk.2.lt
  have h1 : sA h = s := by unfold sA; rw [e1]; exact nI_clamp (by omega)
  have h2 : lA h = l := by unfold lA; rw [e2]; exact nI_clamp (by omega)
  rw [h1, h2]; exact ⟨e1, e2, e3⟩
def letAt (h : HP) (k : Nat) : Int32 := if k < lA h then hI h 6 (sA h + k) else -1
theorem letAt_of {h : HP} {k : Nat} (hk : k < 2 ^ 31) : (if 0 ≤ (nI k).toInt ∧ (nI k).toInt < (lA h : Int) then hI h 6 (sA h + (nI k).toInt.toNat) else -1) = letAt h k := by
  unfold letAt
  rw [nI_toInt hk]
  by_cases q : k < lA h
  · rw [if_pos q, if_pos (by omega)]; rfl
  · rw [if_neg q, if_neg (by omega)]
abbrev isLet (c : Int32) : Prop := c = 100 ∨ c = 108 ∨ c = 110 ∨ c = 119 ∨ c = 120
def letG : Nat → Nat → HP → Nat → Int32 → Int32 × HP
  | 0, _, h, _, _ => (1, h)
  | f + 1, k, h, t, a => if isLet (letAt h k) then letG f (k + 1) (addHH h t (shl 1 (a + nI k)) (letAt h k)) t a else (0, failF h 2)
def wA (h : HP) (t : Nat) : Nat := (hI h (t + 1) 0).toNatClampNeg
def WP (h : HP) (t : Nat) : Prop := wA h t ≤ 5 ∧ hI h (t + 1) 0 = nI (wA h t)
def lettersF (h : HP) (t : Nat) : Int32 × HP :=
  if kA h = 4 ∧ hI h 10 (tA h) = hI h (t + 1) 0 then
    let x := letG (wA h t) 0 h t (hI h (t + 1) 1 * hI h (t + 1) 0)
    if x.1 = 0 then (0, x.2) else (1, advF (rI x.2 (t + 1) (addRowF (hI x.2 (t + 1)))))
  else (0, failF h 2)
set_option maxRecDepth 100000 in
theorem lp_X6_takeLetters {h0 : HP} (hn : h0.1 = 130) {t : Nat} (hT : isT t) {w : Nat} (hw5 : w ≤ 5) {a : Int32} {P : Int32 → HP → Prop} (hx : ∀ g, RK g → (letG w 0 h0 t a).1 = 1 → g = (letG w 0 h0 t a).2 → V cX6_takeLetters miX6_takeLetters (ZM h0 miX6_takeLetters.2.2.2.1 (pI P)) 130 106 [.ref 5, .ref t, .int (nI w), .int a, .null, .null] [] g) (hy : ∀ g, (letG w 0 h0 t a).1 = 0 → g = (letG w 0 h0 t a).2 → P 0 g) : ∀ f k, f + k = w → ∀ h1, RK h1 → letG w 0 h0 t a = letG f k h1 t a →
    V cX6_takeLetters miX6_takeLetters (ZM h0 miX6_takeLetters.2.2.2.1 (pI P)) 130 35 [.ref 5, .ref t, .int (nI w), .int a, .int (nI k), .null] [] h1 := by
  intro f
  induction f with
  | zero =>
    intro k hk h1 rkh1 hP
    refine V.iload dX6_takeLetters_35 rfl ?_
    refine V.iload_n dX6_takeLetters_37 rfl rfl ?_
    refine V.icmp_ge (tgt := 106) dX6_takeLetters_38 (by decide) (fun c => ?_) (fun c => absurd (by rw [nI_leI (by omega) (by omega)]; omega) c)
    exact V.less (ls' := [.ref 5, .ref t, .int (nI w), .int a, .null, .null]) ⟨Or.inr rfl, Or.inr rfl, Or.inr rfl, Or.inr rfl, Or.inl rfl, Or.inl rfl, trivial⟩ (hx h1 rkh1 (by rw [hP]; rfl) (by rw [hP]; rfl))
  | succ f ih =>
    intro k hfk h1 rkh1 hP
    refine V.iload dX6_takeLetters_35 rfl ?_
    refine V.iload_n dX6_takeLetters_37 rfl rfl ?_
    refine V.icmp_ge (tgt := 106) dX6_takeLetters_38 (by decide) (fun c1 => ?_) (fun c1 => ?_)
    · exact absurd c1 (by rw [nI_leI (by omega) (by omega)]; omega)
    · refine V.aload_n dX6_takeLetters_41 rfl rfl rfl ?_
      refine V.iload dX6_takeLetters_42 rfl ?_
      refine V.callVI dX6_takeLetters_44 ml_X6_71 mo_X4_letterAt mv_X4_letterAt rfl (fun q hq => by cases hq; rfl) (by decide) (Or.inl ⟨rfl, SHL_lt rfl⟩) (sp_X4_letterAt rkh1.1 rkh1.2.a9 rkh1.2.a rkh1.sl.1 rkh1.sl.2.1 rkh1.sl.2.2 _) rfl rfl ⟨Nat.le_of_ble_eq_true rfl, Nat.le_of_ble_eq_true rfl, fun _ => ⟨rfl, rfl⟩⟩ (Nat.le_of_ble_eq_true rfl) rfl (fun r2 h3 p4 => ?_)
      obtain ⟨er2, p4⟩ := p4
      have p4 := p4.symm
      subst p4
      rw [letAt_of (by omega)] at er2
      refine V.istore (ls' := [.ref 5, .ref t, .int (nI w), .int a, .int (nI k), .int r2]) dX6_takeLetters_47 (by decide) rfl ?_
      refine V.iload dX6_takeLetters_49 rfl ?_
      refine V.bipush (v := 100) dX6_takeLetters_51 rfl ?_
      refine V.icmp_eq (tgt := 90) dX6_takeLetters_53 (by decide) (fun c5 => ?_) (fun c5 => ?_)
      · refine V.aload_n dX6_takeLetters_90 rfl rfl (sT0 hT) ?_
        refine V.iload_n dX6_takeLetters_91 rfl rfl ?_
        refine V.iload dX6_takeLetters_92 rfl ?_
        refine V.iadd dX6_takeLetters_94 ?_
        refine V.iload dX6_takeLetters_95 rfl ?_
        refine V.callVV dX6_takeLetters_97 ml_X6_75 mo_X5_addHouse mv_X5_addHouse (sT0 hT) (fun q hq => by cases hq; rfl) (by decide) (Or.inl ⟨rfl, SHL_lt (sT0 hT)⟩) (sp_X5_addHouse rkh1.1 hT _ _ (by first | exact Or.inl (by assumption) | exact Or.inr (Or.inl (by assumption)) | exact Or.inr (Or.inr (Or.inl (by assumption))) | exact Or.inr (Or.inr (Or.inr (Or.inl (by assumption)))) | exact Or.inr (Or.inr (Or.inr (Or.inr (by assumption)))))) rfl rfl ⟨Nat.le_of_ble_eq_true rfl, Nat.le_of_ble_eq_true rfl, fun _ => ⟨rfl, rfl⟩⟩ (Nat.le_of_ble_eq_true rfl) (Or.inl rfl) (fun h6 p7 => ?_)
        have eh6 := p7
        have rkh6 : RK h6 := by rw [eh6]; exact rkh1.house hT _ _
        obtain ⟨x8, ex8⟩ : ∃ y : Int32, y = nI k + 1 := ⟨_, rfl⟩
        refine V.iinc (v := x8) (ls' := [.ref 5, .ref t, .int (nI w), .int a, .int x8, .int r2]) dX6_takeLetters_100 rfl (by decide) ex8.symm rfl ?_
        refine V.goto (tgt := 35) dX6_takeLetters_103 (by decide) ?_
        have hl : isLet (letAt h1 k) := by rw [← er2]; first | exact Or.inl (by assumption) | exact Or.inr (Or.inl (by assumption)) | exact Or.inr (Or.inr (Or.inl (by assumption))) | exact Or.inr (Or.inr (Or.inr (Or.inl (by assumption)))) | exact Or.inr (Or.inr (Or.inr (Or.inr (by assumption))))
        rw [letG, if_pos hl] at hP
        rw [ex8, nI_1]
        exact V.less (ls' := [.ref 5, .ref t, .int (nI w), .int a, .int (nI (k + 1)), .null]) ⟨Or.inr rfl, Or.inr rfl, Or.inr rfl, Or.inr rfl, Or.inr rfl, Or.inl rfl, trivial⟩ (ih (k + 1) (by omega) h6 rkh6 (by rw [eh6, er2]; exact hP))
      · refine V.iload dX6_takeLetters_56 rfl ?_
        refine V.bipush (v := 108) dX6_takeLetters_58 rfl ?_
        refine V.icmp_eq (tgt := 90) dX6_takeLetters_60 (by decide) (fun c9 => ?_) (fun c9 => ?_)
        · refine V.aload_n dX6_takeLetters_90 rfl rfl (sT0 hT) ?_
          refine V.iload_n dX6_takeLetters_91 rfl rfl ?_
          refine V.iload dX6_takeLetters_92 rfl ?_
          refine V.iadd dX6_takeLetters_94 ?_
          refine V.iload dX6_takeLetters_95 rfl ?_
          refine V.callVV dX6_takeLetters_97 ml_X6_75 mo_X5_addHouse mv_X5_addHouse (sT0 hT) (fun q hq => by cases hq; rfl) (by decide) (Or.inl ⟨rfl, SHL_lt (sT0 hT)⟩) (sp_X5_addHouse rkh1.1 hT _ _ (by first | exact Or.inl (by assumption) | exact Or.inr (Or.inl (by assumption)) | exact Or.inr (Or.inr (Or.inl (by assumption))) | exact Or.inr (Or.inr (Or.inr (Or.inl (by assumption)))) | exact Or.inr (Or.inr (Or.inr (Or.inr (by assumption)))))) rfl rfl ⟨Nat.le_of_ble_eq_true rfl, Nat.le_of_ble_eq_true rfl, fun _ => ⟨rfl, rfl⟩⟩ (Nat.le_of_ble_eq_true rfl) (Or.inl rfl) (fun h10 p11 => ?_)
          have eh10 := p11
          have rkh10 : RK h10 := by rw [eh10]; exact rkh1.house hT _ _
          obtain ⟨x12, ex12⟩ : ∃ y : Int32, y = nI k + 1 := ⟨_, rfl⟩
          refine V.iinc (v := x12) (ls' := [.ref 5, .ref t, .int (nI w), .int a, .int x12, .int r2]) dX6_takeLetters_100 rfl (by decide) ex12.symm rfl ?_
          refine V.goto (tgt := 35) dX6_takeLetters_103 (by decide) ?_
          have hl : isLet (letAt h1 k) := by rw [← er2]; first | exact Or.inl (by assumption) | exact Or.inr (Or.inl (by assumption)) | exact Or.inr (Or.inr (Or.inl (by assumption))) | exact Or.inr (Or.inr (Or.inr (Or.inl (by assumption)))) | exact Or.inr (Or.inr (Or.inr (Or.inr (by assumption))))
          rw [letG, if_pos hl] at hP
          rw [ex12, nI_1]
          exact V.less (ls' := [.ref 5, .ref t, .int (nI w), .int a, .int (nI (k + 1)), .null]) ⟨Or.inr rfl, Or.inr rfl, Or.inr rfl, Or.inr rfl, Or.inr rfl, Or.inl rfl, trivial⟩ (ih (k + 1) (by omega) h10 rkh10 (by rw [eh10, er2]; exact hP))
        · refine V.iload dX6_takeLetters_63 rfl ?_
          refine V.bipush (v := 110) dX6_takeLetters_65 rfl ?_
          refine V.icmp_eq (tgt := 90) dX6_takeLetters_67 (by decide) (fun c13 => ?_) (fun c13 => ?_)
          · refine V.aload_n dX6_takeLetters_90 rfl rfl (sT0 hT) ?_
            refine V.iload_n dX6_takeLetters_91 rfl rfl ?_
            refine V.iload dX6_takeLetters_92 rfl ?_
            refine V.iadd dX6_takeLetters_94 ?_
            refine V.iload dX6_takeLetters_95 rfl ?_
            refine V.callVV dX6_takeLetters_97 ml_X6_75 mo_X5_addHouse mv_X5_addHouse (sT0 hT) (fun q hq => by cases hq; rfl) (by decide) (Or.inl ⟨rfl, SHL_lt (sT0 hT)⟩) (sp_X5_addHouse rkh1.1 hT _ _ (by first | exact Or.inl (by assumption) | exact Or.inr (Or.inl (by assumption)) | exact Or.inr (Or.inr (Or.inl (by assumption))) | exact Or.inr (Or.inr (Or.inr (Or.inl (by assumption)))) | exact Or.inr (Or.inr (Or.inr (Or.inr (by assumption)))))) rfl rfl ⟨Nat.le_of_ble_eq_true rfl, Nat.le_of_ble_eq_true rfl, fun _ => ⟨rfl, rfl⟩⟩ (Nat.le_of_ble_eq_true rfl) (Or.inl rfl) (fun h14 p15 => ?_)
            have eh14 := p15
            have rkh14 : RK h14 := by rw [eh14]; exact rkh1.house hT _ _
            obtain ⟨x16, ex16⟩ : ∃ y : Int32, y = nI k + 1 := ⟨_, rfl⟩
            refine V.iinc (v := x16) (ls' := [.ref 5, .ref t, .int (nI w), .int a, .int x16, .int r2]) dX6_takeLetters_100 rfl (by decide) ex16.symm rfl ?_
            refine V.goto (tgt := 35) dX6_takeLetters_103 (by decide) ?_
            have hl : isLet (letAt h1 k) := by rw [← er2]; first | exact Or.inl (by assumption) | exact Or.inr (Or.inl (by assumption)) | exact Or.inr (Or.inr (Or.inl (by assumption))) | exact Or.inr (Or.inr (Or.inr (Or.inl (by assumption)))) | exact Or.inr (Or.inr (Or.inr (Or.inr (by assumption))))
            rw [letG, if_pos hl] at hP
            rw [ex16, nI_1]
            exact V.less (ls' := [.ref 5, .ref t, .int (nI w), .int a, .int (nI (k + 1)), .null]) ⟨Or.inr rfl, Or.inr rfl, Or.inr rfl, Or.inr rfl, Or.inr rfl, Or.inl rfl, trivial⟩ (ih (k + 1) (by omega) h14 rkh14 (by rw [eh14, er2]; exact hP))
          · refine V.iload dX6_takeLetters_70 rfl ?_
            refine V.bipush (v := 119) dX6_takeLetters_72 rfl ?_
            refine V.icmp_eq (tgt := 90) dX6_takeLetters_74 (by decide) (fun c17 => ?_) (fun c17 => ?_)
            · refine V.aload_n dX6_takeLetters_90 rfl rfl (sT0 hT) ?_
              refine V.iload_n dX6_takeLetters_91 rfl rfl ?_
              refine V.iload dX6_takeLetters_92 rfl ?_
              refine V.iadd dX6_takeLetters_94 ?_
              refine V.iload dX6_takeLetters_95 rfl ?_
              refine V.callVV dX6_takeLetters_97 ml_X6_75 mo_X5_addHouse mv_X5_addHouse (sT0 hT) (fun q hq => by cases hq; rfl) (by decide) (Or.inl ⟨rfl, SHL_lt (sT0 hT)⟩) (sp_X5_addHouse rkh1.1 hT _ _ (by first | exact Or.inl (by assumption) | exact Or.inr (Or.inl (by assumption)) | exact Or.inr (Or.inr (Or.inl (by assumption))) | exact Or.inr (Or.inr (Or.inr (Or.inl (by assumption)))) | exact Or.inr (Or.inr (Or.inr (Or.inr (by assumption)))))) rfl rfl ⟨Nat.le_of_ble_eq_true rfl, Nat.le_of_ble_eq_true rfl, fun _ => ⟨rfl, rfl⟩⟩ (Nat.le_of_ble_eq_true rfl) (Or.inl rfl) (fun h18 p19 => ?_)
              have eh18 := p19
              have rkh18 : RK h18 := by rw [eh18]; exact rkh1.house hT _ _
              obtain ⟨x20, ex20⟩ : ∃ y : Int32, y = nI k + 1 := ⟨_, rfl⟩
              refine V.iinc (v := x20) (ls' := [.ref 5, .ref t, .int (nI w), .int a, .int x20, .int r2]) dX6_takeLetters_100 rfl (by decide) ex20.symm rfl ?_
              refine V.goto (tgt := 35) dX6_takeLetters_103 (by decide) ?_
              have hl : isLet (letAt h1 k) := by rw [← er2]; first | exact Or.inl (by assumption) | exact Or.inr (Or.inl (by assumption)) | exact Or.inr (Or.inr (Or.inl (by assumption))) | exact Or.inr (Or.inr (Or.inr (Or.inl (by assumption)))) | exact Or.inr (Or.inr (Or.inr (Or.inr (by assumption))))
              rw [letG, if_pos hl] at hP
              rw [ex20, nI_1]
              exact V.less (ls' := [.ref 5, .ref t, .int (nI w), .int a, .int (nI (k + 1)), .null]) ⟨Or.inr rfl, Or.inr rfl, Or.inr rfl, Or.inr rfl, Or.inr rfl, Or.inl rfl, trivial⟩ (ih (k + 1) (by omega) h18 rkh18 (by rw [eh18, er2]; exact hP))
            · refine V.iload dX6_takeLetters_77 rfl ?_
              refine V.bipush (v := 120) dX6_takeLetters_79 rfl ?_
              refine V.icmp_eq (tgt := 90) dX6_takeLetters_81 (by decide) (fun c21 => ?_) (fun c21 => ?_)
              · refine V.aload_n dX6_takeLetters_90 rfl rfl (sT0 hT) ?_
                refine V.iload_n dX6_takeLetters_91 rfl rfl ?_
                refine V.iload dX6_takeLetters_92 rfl ?_
                refine V.iadd dX6_takeLetters_94 ?_
                refine V.iload dX6_takeLetters_95 rfl ?_
                refine V.callVV dX6_takeLetters_97 ml_X6_75 mo_X5_addHouse mv_X5_addHouse (sT0 hT) (fun q hq => by cases hq; rfl) (by decide) (Or.inl ⟨rfl, SHL_lt (sT0 hT)⟩) (sp_X5_addHouse rkh1.1 hT _ _ (by first | exact Or.inl (by assumption) | exact Or.inr (Or.inl (by assumption)) | exact Or.inr (Or.inr (Or.inl (by assumption))) | exact Or.inr (Or.inr (Or.inr (Or.inl (by assumption)))) | exact Or.inr (Or.inr (Or.inr (Or.inr (by assumption)))))) rfl rfl ⟨Nat.le_of_ble_eq_true rfl, Nat.le_of_ble_eq_true rfl, fun _ => ⟨rfl, rfl⟩⟩ (Nat.le_of_ble_eq_true rfl) (Or.inl rfl) (fun h22 p23 => ?_)
                have eh22 := p23
                have rkh22 : RK h22 := by rw [eh22]; exact rkh1.house hT _ _
                obtain ⟨x24, ex24⟩ : ∃ y : Int32, y = nI k + 1 := ⟨_, rfl⟩
                refine V.iinc (v := x24) (ls' := [.ref 5, .ref t, .int (nI w), .int a, .int x24, .int r2]) dX6_takeLetters_100 rfl (by decide) ex24.symm rfl ?_
                refine V.goto (tgt := 35) dX6_takeLetters_103 (by decide) ?_
                have hl : isLet (letAt h1 k) := by rw [← er2]; first | exact Or.inl (by assumption) | exact Or.inr (Or.inl (by assumption)) | exact Or.inr (Or.inr (Or.inl (by assumption))) | exact Or.inr (Or.inr (Or.inr (Or.inl (by assumption)))) | exact Or.inr (Or.inr (Or.inr (Or.inr (by assumption))))
                rw [letG, if_pos hl] at hP
                rw [ex24, nI_1]
                exact V.less (ls' := [.ref 5, .ref t, .int (nI w), .int a, .int (nI (k + 1)), .null]) ⟨Or.inr rfl, Or.inr rfl, Or.inr rfl, Or.inr rfl, Or.inr rfl, Or.inl rfl, trivial⟩ (ih (k + 1) (by omega) h22 rkh22 (by rw [eh22, er2]; exact hP))
              · refine V.aload_n dX6_takeLetters_84 rfl rfl rfl ?_
                refine V.iconst (v := 2) dX6_takeLetters_85 rfl ?_
                refine V.callVI dX6_takeLetters_86 ml_X6_52 mo_X4_fail mv_X4_fail rfl (fun q hq => by cases hq; rfl) (by decide) (Or.inl ⟨rfl, SHL_lt rfl⟩) (sp_X4_fail rkh1.1 rkh1.2.a9 rkh1.2.a _) rfl rfl ⟨Nat.le_of_ble_eq_true rfl, Nat.le_of_ble_eq_true rfl, fun _ => ⟨rfl, rfl⟩⟩ (Nat.le_of_ble_eq_true rfl) rfl (fun r25 h26 p27 => ?_)
                obtain ⟨er25, eh26⟩ := p27
                replace eh26 : h26 = failF h1 _ := eh26
                have rkh26 : RK h26 := by rw [eh26]; exact rkh1.fail _
                refine V.ireturn dX6_takeLetters_89 rfl (by rw [er25]; first | rfl | exact bI_01 _ | exact takeK_01 _ _ _) ⟨rfl, rfl⟩ hn ?_
                have hl : ¬ isLet (letAt h1 k) := by
                  rw [← er2]
                  rintro (q | q | q | q | q) <;> exact absurd q (by assumption)
                rw [letG, if_neg hl] at hP
                rw [show r25 = 0 from er25, eh26]
                exact hy (failF h1 2) (by rw [hP]) (by rw [hP])
