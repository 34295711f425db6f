/-! ===== the class's town: what is new to see, elections, names ===== -/
theorem rI_comm (h : HP) {a b : Nat} (f g : Nat → Int32) (hn : a ≠ b) : rI (rI h a f) b g = rI (rI h b g) a f := by
  unfold rI; congr 2; funext c
  show (if c = b then g else if c = a then f else _) = (if c = a then f else if c = b then g else _)
  by_cases h1 : c = b
  · have h2 : c ≠ a := fun q => hn (q.symm.trans h1)
    rw [if_pos h1, if_neg h2, if_pos h1]
  · rw [if_neg h1, if_neg h1]
theorem rI_same {h : HP} {a : Nat} {f : Nat → Int32} (e : f = hI h a) : rI h a f = h := by rw [e, rI_self]
set_option maxRecDepth 100000 in
theorem sp_X5_countNewToSee {h : HP} (ly : Lay h) {t : Nat} (hT : isT t)  : Spec yX5_countNewToSee cX5_countNewToSee miX5_countNewToSee [.ref t] h (pI fun r h' => r = newN (hI h (t + 1)) (hI h (t + 15)) (hI h t 13) 5 ∧ h' = litH h (t + 1) (hI h t 13)) := by
  refine Spec.of (ls0 := [.ref t, .null, .null, .null]) mo_X5_countNewToSee (Nat.le_of_ble_eq_true rfl) rfl ?_
  rw [ly.1]
  refine V.aload_n dX5_countNewToSee_0 rfl rfl (sT0 hT) ?_
  refine V.getR (r := t + 1) dX5_countNewToSee_1 fl_X5_12 (sT0 hT) (Or.inl ⟨rfl, SHL_lt (sT0 hT)⟩) rfl (rT_hill ly hT) ?_
  refine V.aload_n dX5_countNewToSee_4 rfl rfl (sT0 hT) ?_
  refine V.getI dX5_countNewToSee_5 fl_X5_78 (sT0 hT) (Or.inl ⟨rfl, SHL_lt (sT0 hT)⟩) rfl rfl ?_
  refine V.callVV dX5_countNewToSee_8 ml_X5_142 mo_X1_countLit mv_X1_countLit (sH0 hT.H) (fun q hq => by cases hq; rfl) (by decide) (Or.inl ⟨rfl, SHL_lt (sH0 hT.H)⟩) (sp_X1_countLit (by exact ly.keep rfl rfl) hT.H _) rfl rfl ⟨Nat.le_of_ble_eq_true rfl, Nat.le_of_ble_eq_true rfl, fun _ => ⟨rfl, rfl⟩⟩ (Nat.le_of_ble_eq_true rfl) (Or.inl rfl) (fun h1 p2 => ?_)
  have p2 := p2.symm
  subst p2
  refine V.iconst (v := 0) dX5_countNewToSee_11 rfl ?_
  refine V.istore_n (ls' := [.ref t, .int 0, .null, .null]) dX5_countNewToSee_12 rfl (by decide) rfl ?_
  refine V.iconst (v := 0) dX5_countNewToSee_13 rfl ?_
  refine V.istore_n (ls' := [.ref t, .int 0, .int 0, .null]) dX5_countNewToSee_14 rfl (by decide) rfl ?_
  have f1 : ∀ j, j < 5 → hI (litH h (t + 1) (hI h t 13)) (t + 1 + 1) j = litF (hI h (t + 1)) (hI h t 13) j := fun j hj => by rw [hI_rI_s]; exact if_pos hj
  have key := lp_X5_countNewToSee (h0 := h) ly.1 (h1 := (litH h (t + 1) (hI h t 13))) (ly.keep rfl rfl) hT f1 (by rw [hI_rI_n _ _ (show t + 1 ≠ t + 1 + 1 by omega)]) (by rw [hI_rI_n _ _ (show t ≠ t + 1 + 1 by omega)]) (P := fun r h' => r = newN (hI h (t + 1)) (hI h (t + 15)) (hI h t 13) 5 ∧ h' = (litH h (t + 1) (hI h t 13))) ⟨by rw [hI_rI_n _ _ (show t + 15 ≠ t + 1 + 1 by omega)], rfl⟩ 6 0 (by omega) (by omega) 0 rfl
  exact key
/-- how many lamps a rule would light -/
def lookU (h : HP) (t i : Nat) : Int32 := nI (pc (stepF (hI h (t + 1)) (hI h t 13) (hI h (t + 10) i) (hI h (t + 11) i)))
def lkP (s u : Nat → Int32) (k : Nat) : Nat → Int32 := fun j => if j < k then u j else s j
theorem lkP_0 (s u : Nat → Int32) : lkP s u 0 = s := by funext j; unfold lkP; rw [if_neg (by omega)]
theorem lkP_step (s u : Nat → Int32) (k : Nat) : upd (lkP s u k) k (u k) = lkP s u (k + 1) := by
  funext j; unfold upd lkP
  by_cases h : j = k
  · rw [if_pos h, if_pos (by omega), h]
  · rw [if_neg h]
    by_cases h2 : j < k
    · rw [if_pos h2, if_pos (by omega)]
    · rw [if_neg h2, if_neg (by omega)]
set_option maxRecDepth 100000 in
theorem lp_X5_lookAtRules {h0 h1 : HP} (hn : h0.1 = 130) (ly : Lay h1) {t : Nat} (hT : isT t) {m : Nat} (hm : m ≤ 4) (hr : hI h1 t 10 = nI m) {P : HP → Prop} (hP : ∀ g, P (rI (rI h1 (t + 16) (lkP (hI h1 (t + 16)) (lookU h1 t) m)) (t + 1 + 1) g)) : ∀ n k, k ≤ m → m + 1 ≤ k + n → ∀ g,
    V cX5_lookAtRules miX5_lookAtRules (ZM h0 miX5_lookAtRules.2.2.2.1 (pV P)) 130 2 [.ref t, .int (nI k)] [] (rI (rI h1 (t + 16) (lkP (hI h1 (t + 16)) (lookU h1 t) k)) (t + 1 + 1) g) := by
  intro n
  induction n with
  | zero => intro k h1 h2; exact absurd h2 (by omega)
  | succ n ih =>
    intro k hk hkn g
    refine V.iload_n dX5_lookAtRules_2 rfl rfl ?_
    refine V.aload_n dX5_lookAtRules_3 rfl rfl (sT0 hT) ?_
    refine V.getI dX5_lookAtRules_4 fl_X5_68 (sT0 hT) (Or.inl ⟨rfl, SHL_lt (sT0 hT)⟩) rfl rfl ?_
    refine V.icmp_ge (tgt := 48) dX5_lookAtRules_7 (by decide) (fun c1 => ?_) (fun c1 => ?_)
    · have hk2 : k = m := by have h9 := c1; rw [hI_rI_n _ _ (show t ≠ t + 1 + 1 by omega), hI_rI_n _ _ (show t ≠ t + 16 by omega), hr, nI_leI (by omega) (by omega)] at h9; omega
      refine V.vreturn' dX5_lookAtRules_48 rfl hn (Or.inl ⟨rfl, rfl⟩) ?_
      subst hk2
      exact hP _
    · have hlt : k < m := by have h9 := c1; rw [hI_rI_n _ _ (show t ≠ t + 1 + 1 by omega), hI_rI_n _ _ (show t ≠ t + 16 by omega), hr, nI_leI (by omega) (by omega)] at h9; omega
      refine V.aload_n dX5_lookAtRules_10 rfl rfl (sT0 hT) ?_
      refine V.getR (r := t + 16) dX5_lookAtRules_11 fl_X5_48 (sT0 hT) (Or.inl ⟨rfl, SHL_lt (sT0 hT)⟩) rfl (rT_litBy ly hT) ?_
      refine V.iload_n dX5_lookAtRules_14 rfl rfl ?_
      refine V.aload_n dX5_lookAtRules_15 rfl rfl (sT0 hT) ?_
      refine V.getR (r := t + 1) dX5_lookAtRules_16 fl_X5_12 (sT0 hT) (Or.inl ⟨rfl, SHL_lt (sT0 hT)⟩) rfl (rT_hill ly hT) ?_
      refine V.aload_n dX5_lookAtRules_19 rfl rfl (sT0 hT) ?_
      refine V.getI dX5_lookAtRules_20 fl_X5_78 (sT0 hT) (Or.inl ⟨rfl, SHL_lt (sT0 hT)⟩) rfl rfl ?_
      refine V.aload_n dX5_lookAtRules_23 rfl rfl (sT0 hT) ?_
      refine V.getR (r := t + 10) dX5_lookAtRules_24 fl_X5_29 (sT0 hT) (Or.inl ⟨rfl, SHL_lt (sT0 hT)⟩) rfl (rT_bornBy ly hT) ?_
      refine V.iload_n dX5_lookAtRules_27 rfl rfl ?_
      refine V.iaload dX5_lookAtRules_28 (sT10 hT) (Or.inl ⟨rfl, SHL_lt (sT10 hT)⟩) (vp_in_nI (show k < 4 by omega) (by decide)) ?_
      rw [nI_clamp (show k < 2 ^ 31 by omega)]
      refine V.aload_n dX5_lookAtRules_29 rfl rfl (sT0 hT) ?_
      refine V.getR (r := t + 11) dX5_lookAtRules_30 fl_X5_33 (sT0 hT) (Or.inl ⟨rfl, SHL_lt (sT0 hT)⟩) rfl (rT_staysBy ly hT) ?_
      refine V.iload_n dX5_lookAtRules_33 rfl rfl ?_
      refine V.iaload dX5_lookAtRules_34 (sT11 hT) (Or.inl ⟨rfl, SHL_lt (sT11 hT)⟩) (vp_in_nI (show k < 4 by omega) (by decide)) ?_
      rw [nI_clamp (show k < 2 ^ 31 by omega)]
      refine V.callVI dX5_lookAtRules_35 ml_X5_126 mo_X1_step mv_X1_step (sH0 hT.H) (fun q hq => by cases hq; rfl) (by decide) (Or.inl ⟨rfl, SHL_lt (sH0 hT.H)⟩) (sp_X1_step (by exact ly.keep rfl rfl) hT.H _ _ _) rfl rfl ⟨Nat.le_of_ble_eq_true rfl, Nat.le_of_ble_eq_true rfl, fun _ => ⟨rfl, rfl⟩⟩ (Nat.le_of_ble_eq_true rfl) rfl (fun r2 h3 p4 => ?_)
      obtain ⟨er2, p4⟩ := p4
      have p4 := p4.symm
      subst p4
      refine V.callSI dX5_lookAtRules_38 ml_X5_130 mo_J6_bitCount_0f7a4 ms_J6_bitCount_0f7a4 (sp_J6_bitCount_0f7a4 _ _) rfl rfl ⟨Nat.le_of_ble_eq_true rfl, Nat.le_of_ble_eq_true rfl, fun _ => ⟨rfl, rfl⟩⟩ (Nat.le_of_ble_eq_true rfl) rfl (fun r5 h6 p7 => ?_)
      obtain ⟨er5, p7⟩ := p7
      have p7 := p7.symm
      subst p7
      refine V.iastore dX5_lookAtRules_41 (sT16 hT) (Or.inl ⟨rfl, SHL_lt (sT16 hT)⟩) (vp_in_nI (show k < 4 by omega) (by decide)) ?_
      rw [nI_clamp (show k < 2 ^ 31 by omega)]
      have eu : r5 = lookU h1 t k := by rw [er5, er2]; unfold lookU; repeat rw [hI_rI_n _ _ (by omega)]
      rw [eu]
      refine V.heapEq (h' := rI (rI h1 (t + 16) (lkP (hI h1 (t + 16)) (lookU h1 t) (k + 1))) (t + 1 + 1) (litRow (hI (rI (rI h1 (t + 16) (lkP (hI h1 (t + 16)) (lookU h1 t) k)) (t + 1 + 1) g) (t + 1 + 1)) (hI (rI (rI h1 (t + 16) (lkP (hI h1 (t + 16)) (lookU h1 t) k)) (t + 1 + 1) g) (t + 1)) (hI (rI (rI h1 (t + 16) (lkP (hI h1 (t + 16)) (lookU h1 t) k)) (t + 1 + 1) g) t 13))) ?_ ?_
      · show rI (rI (rI (rI h1 (t + 16) (lkP (hI h1 (t + 16)) (lookU h1 t) k)) (t + 1 + 1) g) (t + 1 + 1) _) (t + 16) _ = _
        rw [rI_rI, rI_comm _ _ _ (show t + 1 + 1 ≠ t + 16 by omega), rI_rI, hI_rI_n _ _ (show t + 16 ≠ t + 1 + 1 by omega), hI_rI_n _ _ (show t + 16 ≠ t + 1 + 1 by omega), hI_rI_s, lkP_step]
      obtain ⟨x8, ex8⟩ : ∃ y : Int32, y = nI k + 1 := ⟨_, rfl⟩
      refine V.iinc (v := x8) (ls' := [.ref t, .int x8]) dX5_lookAtRules_42 rfl (by decide) ex8.symm rfl ?_
      refine V.goto (tgt := 2) dX5_lookAtRules_45 (by decide) ?_
      rw [ex8, nI_1]
      exact ih (k + 1) (by omega) (by omega) _
set_option maxRecDepth 100000 in
theorem sp_X5_lookAtRules {h : HP} (ly : Lay h) {t : Nat} (hT : isT t) {m : Nat} (hm : m ≤ 4) (hr : hI h t 10 = nI m)  : Spec yX5_lookAtRules cX5_lookAtRules miX5_lookAtRules [.ref t] h (pV fun h' => ∃ g, h' = rI (rI h (t + 16) (lkP (hI h (t + 16)) (lookU h t) m)) (t + 1 + 1) g) := by
  refine Spec.of (ls0 := [.ref t, .null]) mo_X5_lookAtRules (Nat.le_of_ble_eq_true rfl) rfl ?_
  rw [ly.1]
  refine V.iconst (v := 0) dX5_lookAtRules_0 rfl ?_
  refine V.istore_n (ls' := [.ref t, .int 0]) dX5_lookAtRules_1 rfl (by decide) rfl ?_
  have key := lp_X5_lookAtRules (h0 := h) ly.1 ly hT hm hr (P := fun h' => ∃ g, h' = rI (rI h (t + 16) (lkP (hI h (t + 16)) (lookU h t) m)) (t + 1 + 1) g) (fun g => ⟨g, rfl⟩) (m + 1) 0 (by omega) (by omega) (hI h (t + 1 + 1))
  rw [lkP_0, rI_self, rI_self] at key
  exact key
