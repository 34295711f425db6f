/-! ===== the class's town: what is new to see, elections, names ===== -/
theorem rI_comm (h : HP) {a b : Nat} (f g : Nat → Int32) (hn : a ≠ b) : rI (rI h a f) b g = rI (rI h b g) a f := by
  unfold rI; congr 2; funext c
  show (if c = b then g else if c = a then f else _) = (if c = a then f else if c = b then g else _)
  by_cases h1 : c = b
  · have h2 : c ≠ a := fun q => hn (q.symm.trans h1)
    rw [if_pos h1, if_neg h2, if_pos h1]
  · rw [if_neg h1, if_neg h1]
theorem rI_same {h : HP} {a : Nat} {f : Nat → Int32} (e : f = hI h a) : rI h a f = h := by rw [e, rI_self]
set_option maxRecDepth 100000 in
theorem sp_X5_countNewToSee {h : HP} (ly : Lay h) {t : Nat} (hT : isT t)  : Spec yX5_countNewToSee cX5_countNewToSee miX5_countNewToSee [.ref t] h (pI fun r h' => r = newN (hI h (t + 1)) (hI h (t + 15)) (hI h t 13) 5 ∧ h' = litH h (t + 1) (hI h t 13)) := by
  refine Spec.of (ls0 := [.ref t, .null, .null, .null]) mo_X5_countNewToSee (Nat.le_of_ble_eq_true rfl) rfl ?_
  rw [ly.1]
  refine V.aload_n dX5_countNewToSee_0 rfl rfl (sT0 hT) ?_
  refine V.getR (r := t + 1) dX5_countNewToSee_1 fl_X5_12 (sT0 hT) (Or.inl ⟨rfl, SHL_lt (sT0 hT)⟩) rfl (rT_hill ly hT) ?_
  refine V.aload_n dX5_countNewToSee_4 rfl rfl (sT0 hT) ?_
  refine V.getI dX5_countNewToSee_5 fl_X5_78 (sT0 hT) (Or.inl ⟨rfl, SHL_lt (sT0 hT)⟩) rfl rfl ?_
  refine V.callVV dX5_countNewToSee_8 ml_X5_142 mo_X1_countLit mv_X1_countLit (sH0 hT.H) (fun q hq => by cases hq; rfl) (by decide) (Or.inl ⟨rfl, SHL_lt (sH0 hT.H)⟩) (sp_X1_countLit (by exact ly.keep rfl rfl) hT.H _) rfl rfl ⟨Nat.le_of_ble_eq_true rfl, Nat.le_of_ble_eq_true rfl, fun _ => ⟨rfl, rfl⟩⟩ (Nat.le_of_ble_eq_true rfl) (Or.inl rfl) (fun h1 p2 => ?_)
  have p2 := p2.symm
  subst p2
  refine V.iconst (v := 0) dX5_countNewToSee_11 rfl ?_
  refine V.istore_n (ls' := [.ref t, .int 0, .null, .null]) dX5_countNewToSee_12 rfl (by decide) rfl ?_
  refine V.iconst (v := 0) dX5_countNewToSee_13 rfl ?_
  refine V.istore_n (ls' := [.ref t, .int 0, .int 0, .null]) dX5_countNewToSee_14 rfl (by decide) rfl ?_
  have f1 : ∀ j, j < 5 → hI (litH h (t + 1) (hI h t 13)) (t + 1 + 1) j = litF (hI h (t + 1)) (hI h t 13) j := fun j hj => by rw [hI_rI_s]; exact if_pos hj
  have key := lp_X5_countNewToSee (h0 := h) ly.1 (h1 := (litH h (t + 1) (hI h t 13))) (ly.keep rfl rfl) hT f1 (by rw [hI_rI_n _ _ (show t + 1 ≠ t + 1 + 1 by omega)]) (by rw [hI_rI_n _ _ (show t ≠ t + 1 + 1 by omega)]) (P := fun r h' => r = newN (hI h (t + 1)) (hI h (t + 15)) (hI h t 13) 5 ∧ h' = (litH h (t + 1) (hI h t 13))) ⟨by rw [hI_rI_n _ _ (show t + 15 ≠ t + 1 + 1 by omega)], rfl⟩ 6 0 (by omega) (by omega) 0 rfl
  exact key
/-- how many lamps a rule would light -/
def lookU (h : HP) (t i : Nat) : Int32 := nI (pc (stepF (hI h (t + 1)) (hI h t 13) (hI h (t + 10) i) (hI h (t + 11) i)))
def lkP (s u : Nat → Int32) (k : Nat) : Nat → Int32 := fun j => if j < k then u j else s j
theorem lkP_0 (s u : Nat → Int32) : lkP s u 0 = s := by funext j; unfold lkP; rw [if_neg (by omega)]
theorem lkP_step (s u : Nat → Int32) (k : Nat) : upd (lkP s u k) k (u k) = lkP s u (k + 1) := by
  funext j; unfold upd lkP
  by_cases h : j = k
  · rw [if_pos h, if_pos (by omega), h]
  · rw [if_neg h]
    by_cases h2 : j < k
    · rw [if_pos h2, if_pos (by omega)]
    · rw [if_neg h2, if_neg (by omega)]
set_option maxRecDepth 100000 in
theorem lp_X5_lookAtRules {h0 h1 : HP} (hn : h0.1 = 130) (ly : Lay h1) {t : Nat} (hT : isT t) {m : Nat} (hm : m ≤ 4) (hr : hI h1 t 10 = nI m) {P : HP → Prop} (hP : ∀ g, P (rI (rI h1 (t + 16) (lkP (hI h1 (t + 16)) (lookU h1 t) m)) (t + 1 + 1) g)) : ∀ n k, k ≤ m → m + 1 ≤ k + n → ∀ g,
    V cX5_lookAtRules miX5_lookAtRules (ZM h0 miX5_lookAtRules.2.2.2.1 (pV P)) 130 2 [.ref t, .int (nI k)] [] (rI (rI h1 (t + 16) (lkP (hI h1 (t + 16)) (lookU h1 t) k)) (t + 1 + 1) g) := by
  intro n
  induction n with
  | zero => intro k h1 h2; exact absurd h2 (by omega)
  | succ n ih =>
    intro k hk hkn g
    refine V.iload_n dX5_lookAtRules_2 rfl rfl ?_
    refine V.aload_n dX5_lookAtRules_3 rfl rfl (sT0 hT) ?_
    refine V.getI dX5_lookAtRules_4 fl_X5_68 (sT0 hT) (Or.inl ⟨rfl, SHL_lt (sT0 hT)⟩) rfl rfl ?_
    refine V.icmp_ge (tgt := 48) dX5_lookAtRules_7 (by decide) (fun c1 => ?_) (fun c1 => ?_)
    · have hk2 : k = m := by have h9 := c1; rw [hI_rI_n _ _ (show t ≠ t + 1 + 1 by omega), hI_rI_n _ _ (show t ≠ t + 16 by omega), hr, nI_leI (by omega) (by omega)] at h9; omega
      refine V.vreturn' dX5_lookAtRules_48 rfl hn (Or.inl ⟨rfl, rfl⟩) ?_
      subst hk2
      exact hP _
    · have hlt : k < m := by have h9 := c1; rw [hI_rI_n _ _ (show t ≠ t + 1 + 1 by omega), hI_rI_n _ _ (show t ≠ t + 16 by omega), hr, nI_leI (by omega) (by omega)] at h9; omega
      refine V.aload_n dX5_lookAtRules_10 rfl rfl (sT0 hT) ?_
      refine V.getR (r := t + 16) dX5_lookAtRules_11 fl_X5_48 (sT0 hT) (Or.inl ⟨rfl, SHL_lt (sT0 hT)⟩) rfl (rT_litBy ly hT) ?_
      refine V.iload_n dX5_lookAtRules_14 rfl rfl ?_
      refine V.aload_n dX5_lookAtRules_15 rfl rfl (sT0 hT) ?_
      refine V.getR (r := t + 1) dX5_lookAtRules_16 fl_X5_12 (sT0 hT) (Or.inl ⟨rfl, SHL_lt (sT0 hT)⟩) rfl (rT_hill ly hT) ?_
      refine V.aload_n dX5_lookAtRules_19 rfl rfl (sT0 hT) ?_
      refine V.getI dX5_lookAtRules_20 fl_X5_78 (sT0 hT) (Or.inl ⟨rfl, SHL_lt (sT0 hT)⟩) rfl rfl ?_
      refine V.aload_n dX5_lookAtRules_23 rfl rfl (sT0 hT) ?_
      refine V.getR (r := t + 10) dX5_lookAtRules_24 fl_X5_29 (sT0 hT) (Or.inl ⟨rfl, SHL_lt (sT0 hT)⟩) rfl (rT_bornBy ly hT) ?_
      refine V.iload_n dX5_lookAtRules_27 rfl rfl ?_
      refine V.iaload dX5_lookAtRules_28 (sT10 hT) (Or.inl ⟨rfl, SHL_lt (sT10 hT)⟩) (vp_in_nI (show k < 4 by omega) (by decide)) ?_
      rw [nI_clamp (show k < 2 ^ 31 by omega)]
      refine V.aload_n dX5_lookAtRules_29 rfl rfl (sT0 hT) ?_
      refine V.getR (r := t + 11) dX5_lookAtRules_30 fl_X5_33 (sT0 hT) (Or.inl ⟨rfl, SHL_lt (sT0 hT)⟩) rfl (rT_staysBy ly hT) ?_
      refine V.iload_n dX5_lookAtRules_33 rfl rfl ?_
      refine V.iaload dX5_lookAtRules_34 (sT11 hT) (Or.inl ⟨rfl, SHL_lt (sT11 hT)⟩) (vp_in_nI (show k < 4 by omega) (by decide)) ?_
      rw [nI_clamp (show k < 2 ^ 31 by omega)]
      refine V.callVI dX5_lookAtRules_35 ml_X5_126 mo_X1_step mv_X1_step (sH0 hT.H) (fun q hq => by cases hq; rfl) (by decide) (Or.inl ⟨rfl, SHL_lt (sH0 hT.H)⟩) (sp_X1_step (by exact ly.keep rfl rfl) hT.H _ _ _) rfl rfl ⟨Nat.le_of_ble_eq_true rfl, Nat.le_of_ble_eq_true rfl, fun _ => ⟨rfl, rfl⟩⟩ (Nat.le_of_ble_eq_true rfl) rfl (fun r2 h3 p4 => ?_)
      obtain ⟨er2, p4⟩ := p4
      have p4 := p4.symm
      subst p4
      refine V.callSI dX5_lookAtRules_38 ml_X5_130 mo_J6_bitCount_0f7a4 ms_J6_bitCount_0f7a4 (sp_J6_bitCount_0f7a4 _ _) rfl rfl ⟨Nat.le_of_ble_eq_true rfl, Nat.le_of_ble_eq_true rfl, fun _ => ⟨rfl, rfl⟩⟩ (Nat.le_of_ble_eq_true rfl) rfl (fun r5 h6 p7 => ?_)
      obtain ⟨er5, p7⟩ := p7
      have p7 := p7.symm
      subst p7
      refine V.iastore dX5_lookAtRules_41 (sT16 hT) (Or.inl ⟨rfl, SHL_lt (sT16 hT)⟩) (vp_in_nI (show k < 4 by omega) (by decide)) ?_
      rw [nI_clamp (show k < 2 ^ 31 by omega)]
      have eu : r5 = lookU h1 t k := by rw [er5, er2]; unfold lookU; repeat rw [hI_rI_n _ _ (by omega)]
      rw [eu]
      refine V.heapEq (h' := rI (rI h1 (t + 16) (lkP (hI h1 (t + 16)) (lookU h1 t) (k + 1))) (t + 1 + 1) (litRow (hI (rI (rI h1 (t + 16) (lkP (hI h1 (t + 16)) (lookU h1 t) k)) (t + 1 + 1) g) (t + 1 + 1)) (hI (rI (rI h1 (t + 16) (lkP (hI h1 (t + 16)) (lookU h1 t) k)) (t + 1 + 1) g) (t + 1)) (hI (rI (rI h1 (t + 16) (lkP (hI h1 (t + 16)) (lookU h1 t) k)) (t + 1 + 1) g) t 13))) ?_ ?_
      · show rI (rI (rI (rI h1 (t + 16) (lkP (hI h1 (t + 16)) (lookU h1 t) k)) (t + 1 + 1) g) (t + 1 + 1) _) (t + 16) _ = _
        rw [rI_rI, rI_comm _ _ _ (show t + 1 + 1 ≠ t + 16 by omega), rI_rI, hI_rI_n _ _ (show t + 16 ≠ t + 1 + 1 by omega), hI_rI_n _ _ (show t + 16 ≠ t + 1 + 1 by omega), hI_rI_s, lkP_step]
      obtain ⟨x8, ex8⟩ : ∃ y : Int32, y = nI k + 1 := ⟨_, rfl⟩
      refine V.iinc (v := x8) (ls' := [.ref t, .int x8]) dX5_lookAtRules_42 rfl (by decide) ex8.symm rfl ?_
      refine V.goto (tgt := 2) dX5_lookAtRules_45 (by decide) ?_
      rw [ex8, nI_1]
      exact ih (k + 1) (by omega) (by omega) _
set_option maxRecDepth 100000 in
theorem sp_X5_lookAtRules {h : HP} (ly : Lay h) {t : Nat} (hT : isT t) {m : Nat} (hm : m ≤ 4) (hr : hI h t 10 = nI m)  : Spec yX5_lookAtRules cX5_lookAtRules miX5_lookAtRules [.ref t] h (pV fun h' => ∃ g, h' = rI (rI h (t + 16) (lkP (hI h (t + 16)) (lookU h t) m)) (t + 1 + 1) g) := by
  refine Spec.of (ls0 := [.ref t, .null]) mo_X5_lookAtRules (Nat.le_of_ble_eq_true rfl) rfl ?_
  rw [ly.1]
  refine V.iconst (v := 0) dX5_lookAtRules_0 rfl ?_
  refine V.istore_n (ls' := [.ref t, .int 0]) dX5_lookAtRules_1 rfl (by decide) rfl ?_
  have key := lp_X5_lookAtRules (h0 := h) ly.1 ly hT hm hr (P := fun h' => ∃ g, h' = rI (rI h (t + 16) (lkP (hI h (t + 16)) (lookU h t) m)) (t + 1 + 1) g) (fun g => ⟨g, rfl⟩) (m + 1) 0 (by omega) (by omega) (hI h (t + 1 + 1))
  rw [lkP_0, rI_self, rI_self] at key
  exact key
def mxI (x y : Int32) : Int32 := if x < y then y else x
def wayF (lo hi l : Int32) : Int32 := mxI 0 (mxI (lo - l) (l - hi))
/-- a citizen's choice among the first k rules, and how far it is -/
def chF (lo hi : Int32) (L : Nat → Int32) : Nat → Int32 × Int32
  | 0 => (0, 100)
  | k + 1 => if wayF lo hi (L k) < (chF lo hi L k).2 then (nI k, wayF lo hi (L k)) else chF lo hi L k
def chC (h : HP) (t m c : Nat) : Int32 := (chF (hI h (t + 13) c) (hI h (t + 14) c) (hI h (t + 16)) m).1
def voF (ch : Nat → Int32) (r : Int32) : Nat → Int32
  | 0 => 0
  | k + 1 => voF ch r k + (if ch k = r then 1 else 0)
def elF (v : Nat → Int32) : Nat → Int32 × Int32
  | 0 => (0, -1)
  | k + 1 => if (elF v k).2 < v k then (nI k, v k) else elF v k
set_option maxRecDepth 100000 in
theorem lp_X5_choiceOf {h0 h1 : HP} (hn : h0.1 = 130) (ly : Lay h1) {t : Nat} (hT : isT t) {m : Nat} (hm : m ≤ 4) (hr : hI h1 t 10 = nI m) {c : Nat} (hc : c < 6) {P : Int32 → HP → Prop} (hP : P (chC h1 t m c) h1) : ∀ n k, k ≤ m → m + 1 ≤ k + n → ∀ b w, b = (chF (hI h1 (t + 13) c) (hI h1 (t + 14) c) (hI h1 (t + 16)) k).1 → w = (chF (hI h1 (t + 13) c) (hI h1 (t + 14) c) (hI h1 (t + 16)) k).2 →
    V cX5_choiceOf miX5_choiceOf (ZM h0 miX5_choiceOf.2.2.2.1 (pI P)) 130 8 [.ref t, .int (nI c), .int b, .int w, .int (nI k), .null] [] (h1) := by
  intro n
  induction n with
  | zero => intro k h1 h2; exact absurd h2 (by omega)
  | succ n ih =>
    intro k hk hkn b w eb ew
    refine V.iload dX5_choiceOf_8 rfl ?_
    refine V.aload_n dX5_choiceOf_10 rfl rfl (sT0 hT) ?_
    refine V.getI dX5_choiceOf_11 fl_X5_68 (sT0 hT) (Or.inl ⟨rfl, SHL_lt (sT0 hT)⟩) rfl rfl ?_
    refine V.icmp_ge (tgt := 72) dX5_choiceOf_14 (by decide) (fun c1 => ?_) (fun c1 => ?_)
    · have hk2 : k = m := by have h9 := c1; rw [hr, nI_leI (by omega) (by omega)] at h9; omega
      refine V.iload_n dX5_choiceOf_72 rfl rfl ?_
      refine V.ireturn dX5_choiceOf_73 rfl rfl ⟨rfl, rfl⟩ hn ?_
      subst hk2
      rw [eb]; exact hP
    · have hlt : k < m := by have h9 := c1; rw [hr, nI_leI (by omega) (by omega)] at h9; omega
      refine V.iconst (v := 0) dX5_choiceOf_17 rfl ?_
      refine V.aload_n dX5_choiceOf_18 rfl rfl (sT0 hT) ?_
      refine V.getR (r := t + 13) dX5_choiceOf_19 fl_X5_39 (sT0 hT) (Or.inl ⟨rfl, SHL_lt (sT0 hT)⟩) rfl (rT_least ly hT) ?_
      refine V.iload_n dX5_choiceOf_22 rfl rfl ?_
      refine V.iaload dX5_choiceOf_23 (sT13 hT) (Or.inl ⟨rfl, SHL_lt (sT13 hT)⟩) (vp_in_nI hc (by decide)) ?_
      rw [nI_clamp (show c < 2 ^ 31 by omega)]
      refine V.aload_n dX5_choiceOf_24 rfl rfl (sT0 hT) ?_
      refine V.getR (r := t + 16) dX5_choiceOf_25 fl_X5_48 (sT0 hT) (Or.inl ⟨rfl, SHL_lt (sT0 hT)⟩) rfl (rT_litBy ly hT) ?_
      refine V.iload dX5_choiceOf_28 rfl ?_
      refine V.iaload dX5_choiceOf_30 (sT16 hT) (Or.inl ⟨rfl, SHL_lt (sT16 hT)⟩) (vp_in_nI (show k < 4 by omega) (by decide)) ?_
      rw [nI_clamp (show k < 2 ^ 31 by omega)]
      refine V.isub dX5_choiceOf_31 ?_
      refine V.aload_n dX5_choiceOf_32 rfl rfl (sT0 hT) ?_
      refine V.getR (r := t + 16) dX5_choiceOf_33 fl_X5_48 (sT0 hT) (Or.inl ⟨rfl, SHL_lt (sT0 hT)⟩) rfl (rT_litBy ly hT) ?_
      refine V.iload dX5_choiceOf_36 rfl ?_
      refine V.iaload dX5_choiceOf_38 (sT16 hT) (Or.inl ⟨rfl, SHL_lt (sT16 hT)⟩) (vp_in_nI (show k < 4 by omega) (by decide)) ?_
      rw [nI_clamp (show k < 2 ^ 31 by omega)]
      refine V.aload_n dX5_choiceOf_39 rfl rfl (sT0 hT) ?_
      refine V.getR (r := t + 14) dX5_choiceOf_40 fl_X5_42 (sT0 hT) (Or.inl ⟨rfl, SHL_lt (sT0 hT)⟩) rfl (rT_most ly hT) ?_
      refine V.iload_n dX5_choiceOf_43 rfl rfl ?_
      refine V.iaload dX5_choiceOf_44 (sT14 hT) (Or.inl ⟨rfl, SHL_lt (sT14 hT)⟩) (vp_in_nI hc (by decide)) ?_
      rw [nI_clamp (show c < 2 ^ 31 by omega)]
      refine V.isub dX5_choiceOf_45 ?_
      refine V.max dX5_choiceOf_46 lk_X5_146 max_ok rfl ⟨Nat.le_of_ble_eq_true rfl, Nat.le_of_ble_eq_true rfl⟩ ?_
      refine V.max dX5_choiceOf_49 lk_X5_146 max_ok rfl ⟨Nat.le_of_ble_eq_true rfl, Nat.le_of_ble_eq_true rfl⟩ ?_
      refine V.nmi (fun x2 ex2 => ?_)
      refine V.istore (ls' := [.ref t, .int (nI c), .int b, .int w, .int (nI k), .int x2]) dX5_choiceOf_52 (by decide) rfl ?_
      have ex29 : x2 = wayF (hI h1 (t + 13) c) (hI h1 (t + 14) c) (hI h1 (t + 16) k) := ex2
      clear ex2
      have ex2 := ex29
      refine V.iload dX5_choiceOf_54 rfl ?_
      refine V.iload_n dX5_choiceOf_56 rfl rfl ?_
      refine V.icmp_ge (tgt := 66) dX5_choiceOf_57 (by decide) (fun c3 => ?_) (fun c3 => ?_)
      · obtain ⟨x4, ex4⟩ : ∃ y : Int32, y = nI k + 1 := ⟨_, rfl⟩
        refine V.iinc (v := x4) (ls' := [.ref t, .int (nI c), .int b, .int w, .int x4, .int x2]) dX5_choiceOf_66 rfl (by decide) ex4.symm rfl ?_
        refine V.goto (tgt := 8) dX5_choiceOf_69 (by decide) ?_
        rw [ex4, nI_1]
        exact V.less (ls' := [.ref t, .int (nI c), .int b, .int w, .int (nI (k + 1)), .null]) ⟨Or.inr rfl, Or.inr rfl, Or.inr rfl, Or.inr rfl, Or.inr rfl, Or.inl rfl, trivial⟩ (ih (k + 1) (by omega) (by omega) _ _ (by rw [eb]; show _ = (chF _ _ _ (k + 1)).1; rw [chF, if_neg (by rw [← ew, ← ex2]; exact Int32.not_lt.mpr c3)]) (by rw [ew]; show _ = (chF _ _ _ (k + 1)).2; rw [chF, if_neg (by rw [← ew, ← ex2]; exact Int32.not_lt.mpr c3)]))
      · refine V.iload dX5_choiceOf_60 rfl ?_
        refine V.istore_n (ls' := [.ref t, .int (nI c), .int b, .int x2, .int (nI k), .int x2]) dX5_choiceOf_62 rfl (by decide) rfl ?_
        refine V.iload dX5_choiceOf_63 rfl ?_
        refine V.istore_n (ls' := [.ref t, .int (nI c), .int (nI k), .int x2, .int (nI k), .int x2]) dX5_choiceOf_65 rfl (by decide) rfl ?_
        obtain ⟨x5, ex5⟩ : ∃ y : Int32, y = nI k + 1 := ⟨_, rfl⟩
        refine V.iinc (v := x5) (ls' := [.ref t, .int (nI c), .int (nI k), .int x2, .int x5, .int x2]) dX5_choiceOf_66 rfl (by decide) ex5.symm rfl ?_
        refine V.goto (tgt := 8) dX5_choiceOf_69 (by decide) ?_
        rw [ex5, nI_1]
        exact V.less (ls' := [.ref t, .int (nI c), .int (nI k), .int x2, .int (nI (k + 1)), .null]) ⟨Or.inr rfl, Or.inr rfl, Or.inr rfl, Or.inr rfl, Or.inr rfl, Or.inl rfl, trivial⟩ (ih (k + 1) (by omega) (by omega) _ _ (by show _ = (chF _ _ _ (k + 1)).1; unfold chF; rw [← ex2, ← ew, if_pos (Int32.not_le.mp c3)]) (by show _ = (chF _ _ _ (k + 1)).2; unfold chF; rw [← ex2, ← ew, if_pos (Int32.not_le.mp c3)]))
set_option maxRecDepth 100000 in
theorem sp_X5_choiceOf {h : HP} (ly : Lay h) {t : Nat} (hT : isT t) {m : Nat} (hm : m ≤ 4) (hr : hI h t 10 = nI m) {c : Nat} (hc : c < 6)  : Spec yX5_choiceOf cX5_choiceOf miX5_choiceOf [.ref t, .int (nI c)] h (pI fun r h' => r = chC h t m c ∧ h' = h) := by
  refine Spec.of (ls0 := [.ref t, .int (nI c), .null, .null, .null, .null]) mo_X5_choiceOf (Nat.le_of_ble_eq_true rfl) rfl ?_
  rw [ly.1]
  refine V.iconst (v := 0) dX5_choiceOf_0 rfl ?_
  refine V.istore_n (ls' := [.ref t, .int (nI c), .int 0, .null, .null, .null]) dX5_choiceOf_1 rfl (by decide) rfl ?_
  refine V.bipush (v := 100) dX5_choiceOf_2 rfl ?_
  refine V.istore_n (ls' := [.ref t, .int (nI c), .int 0, .int 100, .null, .null]) dX5_choiceOf_4 rfl (by decide) rfl ?_
  refine V.iconst (v := 0) dX5_choiceOf_5 rfl ?_
  refine V.istore (ls' := [.ref t, .int (nI c), .int 0, .int 100, .int 0, .null]) dX5_choiceOf_6 (by decide) rfl ?_
  exact lp_X5_choiceOf ly.1 ly hT hm hr hc ⟨rfl, rfl⟩ (m + 1) 0 (by omega) (by omega) _ _ rfl rfl
set_option maxRecDepth 100000 in
theorem lp_X5_countVotes {h0 h1 : HP} (hn : h0.1 = 130) (ly : Lay h1) {t : Nat} (hT : isT t) {m : Nat} (hm : m ≤ 4) (hr : hI h1 t 10 = nI m) {c : Nat} (hc : c ≤ 6) (hcz : hI h1 t 11 = nI c) {r : Int32} {P : Int32 → HP → Prop} (hP : P (voF (chC h1 t m) r c) h1) : ∀ n k, k ≤ c → c + 1 ≤ k + n → ∀ z, z = voF (chC h1 t m) r k →
    V cX5_countVotes miX5_countVotes (ZM h0 miX5_countVotes.2.2.2.1 (pI P)) 130 4 [.ref t, .int r, .int z, .int (nI k)] [] (h1) := by
  intro n
  induction n with
  | zero => intro k h1 h2; exact absurd h2 (by omega)
  | succ n ih =>
    intro k hk hkn z ez
    refine V.iload_n dX5_countVotes_4 rfl rfl ?_
    refine V.aload_n dX5_countVotes_5 rfl rfl (sT0 hT) ?_
    refine V.getI dX5_countVotes_6 fl_X5_72 (sT0 hT) (Or.inl ⟨rfl, SHL_lt (sT0 hT)⟩) rfl rfl ?_
    refine V.icmp_ge (tgt := 35) dX5_countVotes_9 (by decide) (fun c1 => ?_) (fun c1 => ?_)
    · have hk2 : k = c := by have h9 := c1; rw [hcz, nI_leI (by omega) (by omega)] at h9; omega
      refine V.iload_n dX5_countVotes_35 rfl rfl ?_
      refine V.ireturn dX5_countVotes_36 rfl rfl ⟨rfl, rfl⟩ hn ?_
      subst hk2
      rw [ez]; exact hP
    · have hlt : k < c := by have h9 := c1; rw [hcz, nI_leI (by omega) (by omega)] at h9; omega
      refine V.iload_n dX5_countVotes_12 rfl rfl ?_
      refine V.aload_n dX5_countVotes_13 rfl rfl (sT0 hT) ?_
      refine V.iload_n dX5_countVotes_14 rfl rfl ?_
      refine V.callVI dX5_countVotes_15 ml_X5_152 mo_X5_choiceOf mv_X5_choiceOf (sT0 hT) (fun q hq => by cases hq; rfl) (by decide) (Or.inl ⟨rfl, SHL_lt (sT0 hT)⟩) (sp_X5_choiceOf (by exact ly.keep rfl rfl) hT hm hr (by omega)) rfl rfl ⟨Nat.le_of_ble_eq_true rfl, Nat.le_of_ble_eq_true rfl, fun _ => ⟨rfl, rfl⟩⟩ (Nat.le_of_ble_eq_true rfl) rfl (fun r2 h3 p4 => ?_)
      obtain ⟨er2, p4⟩ := p4
      have p4 := p4.symm
      subst p4
      refine V.iload_n dX5_countVotes_18 rfl rfl ?_
      refine V.icmp_ne (tgt := 26) dX5_countVotes_19 (by decide) (fun c5 => ?_) (fun c5 => ?_)
      · refine V.iconst (v := 0) dX5_countVotes_26 rfl ?_
        refine V.iadd dX5_countVotes_27 ?_
        refine V.nmi (fun x6 ex6 => ?_)
        refine V.istore_n (ls' := [.ref t, .int r, .int x6, .int (nI k)]) dX5_countVotes_28 rfl (by decide) rfl ?_
        obtain ⟨x7, ex7⟩ : ∃ y : Int32, y = nI k + 1 := ⟨_, rfl⟩
        refine V.iinc (v := x7) (ls' := [.ref t, .int r, .int x6, .int x7]) dX5_countVotes_29 rfl (by decide) ex7.symm rfl ?_
        refine V.goto (tgt := 4) dX5_countVotes_32 (by decide) ?_
        rw [ex7, nI_1]
        refine ih (k + 1) (by omega) (by omega) _ ?_
        rw [ex6, ez, voF]
        congr 1
        symm
        first | exact if_pos (by rw [← er2]; assumption) | exact if_neg (by rw [← er2]; assumption)
      · refine V.iconst (v := 1) dX5_countVotes_22 rfl ?_
        refine V.goto (tgt := 27) dX5_countVotes_23 (by decide) ?_
        refine V.iadd dX5_countVotes_27 ?_
        refine V.nmi (fun x8 ex8 => ?_)
        refine V.istore_n (ls' := [.ref t, .int r, .int x8, .int (nI k)]) dX5_countVotes_28 rfl (by decide) rfl ?_
        obtain ⟨x9, ex9⟩ : ∃ y : Int32, y = nI k + 1 := ⟨_, rfl⟩
        refine V.iinc (v := x9) (ls' := [.ref t, .int r, .int x8, .int x9]) dX5_countVotes_29 rfl (by decide) ex9.symm rfl ?_
        refine V.goto (tgt := 4) dX5_countVotes_32 (by decide) ?_
        rw [ex9, nI_1]
        refine ih (k + 1) (by omega) (by omega) _ ?_
        rw [ex8, ez, voF]
        congr 1
        symm
        first | exact if_pos (by rw [← er2]; assumption) | exact if_neg (by rw [← er2]; assumption)
set_option maxRecDepth 100000 in
theorem sp_X5_countVotes {h : HP} (ly : Lay h) {t : Nat} (hT : isT t) {m : Nat} (hm : m ≤ 4) (hr : hI h t 10 = nI m) {c : Nat} (hc : c ≤ 6) (hcz : hI h t 11 = nI c) (r : Int32) : Spec yX5_countVotes cX5_countVotes miX5_countVotes [.ref t, .int r] h (pI fun r' h' => r' = voF (chC h t m) r c ∧ h' = h) := by
  refine Spec.of (ls0 := [.ref t, .int r, .null, .null]) mo_X5_countVotes (Nat.le_of_ble_eq_true rfl) rfl ?_
  rw [ly.1]
  refine V.iconst (v := 0) dX5_countVotes_0 rfl ?_
  refine V.istore_n (ls' := [.ref t, .int r, .int 0, .null]) dX5_countVotes_1 rfl (by decide) rfl ?_
  refine V.iconst (v := 0) dX5_countVotes_2 rfl ?_
  refine V.istore_n (ls' := [.ref t, .int r, .int 0, .int 0]) dX5_countVotes_3 rfl (by decide) rfl ?_
  exact lp_X5_countVotes ly.1 ly hT hm hr hc hcz ⟨rfl, rfl⟩ (c + 1) 0 (by omega) (by omega) _ rfl
set_option maxRecDepth 100000 in
theorem lp_X5_holdElection {h0 h1 : HP} (hn : h0.1 = 130) (ly : Lay h1) {t : Nat} (hT : isT t) {m : Nat} (hm : m ≤ 4) (hr : hI h1 t 10 = nI m) {c : Nat} (hc : c ≤ 6) (hcz : hI h1 t 11 = nI c) {P : Int32 → HP → Prop} (hP : P 1 (uI h1 t 12 (elF (fun r => voF (chC h1 t m) (nI r) c) m).1)) : ∀ n k, k ≤ m → m + 1 ≤ k + n → ∀ b v, b = (elF (fun r => voF (chC h1 t m) (nI r) c) k).1 → v = (elF (fun r => voF (chC h1 t m) (nI r) c) k).2 →
    V cX5_holdElection miX5_holdElection (ZM h0 miX5_holdElection.2.2.2.1 (pI P)) 130 26 [.ref t, .int b, .int v, .int (nI k), .null] [] (h1) := by
  intro n
  induction n with
  | zero => intro k h1 h2; exact absurd h2 (by omega)
  | succ n ih =>
    intro k hk hkn b v eb ev
    refine V.iload_n dX5_holdElection_26 rfl rfl ?_
    refine V.aload_n dX5_holdElection_27 rfl rfl (sT0 hT) ?_
    refine V.getI dX5_holdElection_28 fl_X5_68 (sT0 hT) (Or.inl ⟨rfl, SHL_lt (sT0 hT)⟩) rfl rfl ?_
    refine V.icmp_ge (tgt := 58) dX5_holdElection_31 (by decide) (fun c1 => ?_) (fun c1 => ?_)
    · have hk2 : k = m := by have h9 := c1; rw [hr, nI_leI (by omega) (by omega)] at h9; omega
      refine V.aload_n dX5_holdElection_58 rfl rfl (sT0 hT) ?_
      refine V.iload_n dX5_holdElection_59 rfl rfl ?_
      refine V.putI dX5_holdElection_60 fl_X5_75 (sT0 hT) (Or.inl ⟨rfl, SHL_lt (sT0 hT)⟩) rfl (fun q hq => by cases hq; rfl) ⟨rfl, rfl⟩ ?_
      refine V.iconst (v := 1) dX5_holdElection_63 rfl ?_
      refine V.ireturn dX5_holdElection_64 rfl rfl ⟨rfl, rfl⟩ hn ?_
      subst hk2
      rw [eb]; exact hP
    · have hlt : k < m := by have h9 := c1; rw [hr, nI_leI (by omega) (by omega)] at h9; omega
      refine V.aload_n dX5_holdElection_34 rfl rfl (sT0 hT) ?_
      refine V.iload_n dX5_holdElection_35 rfl rfl ?_
      refine V.callVI dX5_holdElection_36 ml_X5_158 mo_X5_countVotes mv_X5_countVotes (sT0 hT) (fun q hq => by cases hq; rfl) (by decide) (Or.inl ⟨rfl, SHL_lt (sT0 hT)⟩) (sp_X5_countVotes (by exact ly.keep rfl rfl) hT hm hr hc hcz _) rfl rfl ⟨Nat.le_of_ble_eq_true rfl, Nat.le_of_ble_eq_true rfl, fun _ => ⟨rfl, rfl⟩⟩ (Nat.le_of_ble_eq_true rfl) rfl (fun r2 h3 p4 => ?_)
      obtain ⟨er2, p4⟩ := p4
      have p4 := p4.symm
      subst p4
      refine V.istore (ls' := [.ref t, .int b, .int v, .int (nI k), .int r2]) dX5_holdElection_39 (by decide) rfl ?_
      refine V.iload dX5_holdElection_41 rfl ?_
      refine V.iload_n dX5_holdElection_43 rfl rfl ?_
      refine V.icmp_le (tgt := 52) dX5_holdElection_44 (by decide) (fun c5 => ?_) (fun c5 => ?_)
      · obtain ⟨x6, ex6⟩ : ∃ y : Int32, y = nI k + 1 := ⟨_, rfl⟩
        refine V.iinc (v := x6) (ls' := [.ref t, .int b, .int v, .int x6, .int r2]) dX5_holdElection_52 rfl (by decide) ex6.symm rfl ?_
        refine V.goto (tgt := 26) dX5_holdElection_55 (by decide) ?_
        rw [ex6, nI_1]
        exact V.less (ls' := [.ref t, .int b, .int v, .int (nI (k + 1)), .null]) ⟨Or.inr rfl, Or.inr rfl, Or.inr rfl, Or.inr rfl, Or.inl rfl, trivial⟩ (ih (k + 1) (by omega) (by omega) _ _ (by rw [eb]; show _ = (elF _ (k + 1)).1; rw [elF, if_neg (by rw [← ev]; show ¬ v < voF (chC h1 t m) (nI k) c; rw [← er2]; exact Int32.not_lt.mpr c5)]) (by rw [ev]; show _ = (elF _ (k + 1)).2; rw [elF, if_neg (by rw [← ev]; show ¬ v < voF (chC h1 t m) (nI k) c; rw [← er2]; exact Int32.not_lt.mpr c5)]))
      · refine V.iload dX5_holdElection_47 rfl ?_
        refine V.istore_n (ls' := [.ref t, .int b, .int r2, .int (nI k), .int r2]) dX5_holdElection_49 rfl (by decide) rfl ?_
        refine V.iload_n dX5_holdElection_50 rfl rfl ?_
        refine V.istore_n (ls' := [.ref t, .int (nI k), .int r2, .int (nI k), .int r2]) dX5_holdElection_51 rfl (by decide) rfl ?_
        obtain ⟨x7, ex7⟩ : ∃ y : Int32, y = nI k + 1 := ⟨_, rfl⟩
        refine V.iinc (v := x7) (ls' := [.ref t, .int (nI k), .int r2, .int x7, .int r2]) dX5_holdElection_52 rfl (by decide) ex7.symm rfl ?_
        refine V.goto (tgt := 26) dX5_holdElection_55 (by decide) ?_
        rw [ex7, nI_1]
        exact V.less (ls' := [.ref t, .int (nI k), .int r2, .int (nI (k + 1)), .null]) ⟨Or.inr rfl, Or.inr rfl, Or.inr rfl, Or.inr rfl, Or.inl rfl, trivial⟩ (ih (k + 1) (by omega) (by omega) _ _ (by show _ = (elF _ (k + 1)).1; rw [elF, if_pos (by rw [← ev]; show v < voF (chC h1 t m) (nI k) c; rw [← er2]; exact Int32.not_le.mp c5)]) (by show _ = (elF _ (k + 1)).2; rw [elF, if_pos (by rw [← ev]; show v < voF (chC h1 t m) (nI k) c; rw [← er2]; exact Int32.not_le.mp c5)]; exact er2))
set_option maxRecDepth 100000 in
theorem sp_X5_holdElection {h : HP} (ly : Lay h) {t : Nat} (hT : isT t) {m : Nat} (hm : m ≤ 4) (hr : hI h t 10 = nI m) {c : Nat} (hc : c ≤ 6) (hcz : hI h t 11 = nI c)  : Spec yX5_holdElection cX5_holdElection miX5_holdElection [.ref t] h (pI fun r h' => ((m = 0 ∨ c = 0) ∧ r = 0 ∧ h' = h) ∨ ((0 < m ∧ 0 < c) ∧ r = 1 ∧ ∃ g, h' = uI (rI (rI h (t + 16) (lkP (hI h (t + 16)) (lookU h t) m)) (t + 1 + 1) g) t 12 (elF (fun r => voF (chC (rI h (t + 16) (lkP (hI h (t + 16)) (lookU h t) m)) t m) (nI r) c) m).1)) := by
  refine Spec.of (ls0 := [.ref t, .null, .null, .null, .null]) mo_X5_holdElection (Nat.le_of_ble_eq_true rfl) rfl ?_
  rw [ly.1]
  refine V.aload_n dX5_holdElection_0 rfl rfl (sT0 hT) ?_
  refine V.getI dX5_holdElection_1 fl_X5_68 (sT0 hT) (Or.inl ⟨rfl, SHL_lt (sT0 hT)⟩) rfl rfl ?_
  refine V.if_eq (tgt := 14) dX5_holdElection_4 (by decide) (fun c1 => ?_) (fun c1 => ?_)
  · refine V.iconst (v := 0) dX5_holdElection_14 rfl ?_
    refine V.ireturn dX5_holdElection_15 rfl rfl ⟨rfl, rfl⟩ ly.1 ?_
    refine Or.inl ⟨Or.inl (by have h9 := c1; rw [hr] at h9; have := nI_inj (by omega) (by omega) (h9.trans (show (0 : Int32) = nI 0 from rfl)); omega), rfl, rfl⟩
  · have hq1 := c1
    refine V.aload_n dX5_holdElection_7 rfl rfl (sT0 hT) ?_
    refine V.getI dX5_holdElection_8 fl_X5_72 (sT0 hT) (Or.inl ⟨rfl, SHL_lt (sT0 hT)⟩) rfl rfl ?_
    refine V.if_ne (tgt := 16) dX5_holdElection_11 (by decide) (fun c2 => ?_) (fun c2 => ?_)
    · have hq2 := c2
      refine V.aload_n dX5_holdElection_16 rfl rfl (sT0 hT) ?_
      refine V.callVV dX5_holdElection_17 ml_X5_155 mo_X5_lookAtRules mv_X5_lookAtRules (sT0 hT) (fun q hq => by cases hq; rfl) (by decide) (Or.inl ⟨rfl, SHL_lt (sT0 hT)⟩) (sp_X5_lookAtRules (by exact ly.keep rfl rfl) hT hm hr) rfl rfl ⟨Nat.le_of_ble_eq_true rfl, Nat.le_of_ble_eq_true rfl, fun _ => ⟨rfl, rfl⟩⟩ (Nat.le_of_ble_eq_true rfl) (Or.inl rfl) (fun h3 p4 => ?_)
      obtain ⟨g, p4⟩ := p4
      have p4 := p4.symm
      subst p4
      refine V.iconst (v := 0) dX5_holdElection_20 rfl ?_
      refine V.istore_n (ls' := [.ref t, .int 0, .null, .null, .null]) dX5_holdElection_21 rfl (by decide) rfl ?_
      refine V.iconst (v := (-1)) dX5_holdElection_22 rfl ?_
      refine V.istore_n (ls' := [.ref t, .int 0, .int ((-1)), .null, .null]) dX5_holdElection_23 rfl (by decide) rfl ?_
      refine V.iconst (v := 0) dX5_holdElection_24 rfl ?_
      refine V.istore_n (ls' := [.ref t, .int 0, .int ((-1)), .int 0, .null]) dX5_holdElection_25 rfl (by decide) rfl ?_
      have hm0 : 0 < m := by have h9 := hq1; rw [hr] at h9; rcases Nat.eq_zero_or_pos m with q | q; exact absurd (by rw [q]; rfl) h9; exact q
      have hc0 : 0 < c := by have h9 := hq2; rw [hcz] at h9; rcases Nat.eq_zero_or_pos c with q | q; exact absurd (by rw [q]; rfl) h9; exact q
      have key := lp_X5_holdElection (h0 := h) ly.1 (h1 := rI (rI h (t + 16) (lkP (hI h (t + 16)) (lookU h t) m)) (t + 1 + 1) g) (ly.keep rfl rfl) hT hm (by rw [hI_rI_n _ _ (by omega), hI_rI_n _ _ (by omega)]; exact hr) hc (by rw [hI_rI_n _ _ (by omega), hI_rI_n _ _ (by omega)]; exact hcz) (P := fun r h' => ((m = 0 ∨ c = 0) ∧ r = 0 ∧ h' = h) ∨ ((0 < m ∧ 0 < c) ∧ r = 1 ∧ ∃ g, h' = uI (rI (rI h (t + 16) (lkP (hI h (t + 16)) (lookU h t) m)) (t + 1 + 1) g) t 12 (elF (fun r => voF (chC (rI h (t + 16) (lkP (hI h (t + 16)) (lookU h t) m)) t m) (nI r) c) m).1)) (Or.inr ⟨⟨hm0, hc0⟩, rfl, g, by
        have e : chC (rI (rI h (t + 16) (lkP (hI h (t + 16)) (lookU h t) m)) (t + 1 + 1) g) t m = chC (rI h (t + 16) (lkP (hI h (t + 16)) (lookU h t) m)) t m := by
          funext q; unfold chC
          rw [hI_rI_n (a := t + 1 + 1) (b := t + 13) _ _ (by omega), hI_rI_n (a := t + 1 + 1) (b := t + 14) _ _ (by omega), hI_rI_n (a := t + 1 + 1) (b := t + 16) _ _ (by omega)]
        rw [e]⟩) (m + 1) 0 (by omega) (by omega) _ _ rfl rfl
      exact key
    · refine V.iconst (v := 0) dX5_holdElection_14 rfl ?_
      refine V.ireturn dX5_holdElection_15 rfl rfl ⟨rfl, rfl⟩ ly.1 ?_
      refine Or.inl ⟨Or.inr (by have h9 := c2; rw [hcz] at h9; have := nI_inj (by omega) (by omega) (h9.trans (show (0 : Int32) = nI 0 from rfl)); omega), rfl, rfl⟩
set_option maxRecDepth 100000 in
theorem lp_X5_ruleNamed {h0 h1 : HP} (hn : h0.1 = 130) (ly : Lay h1) {t : Nat} (hT : isT t) {m : Nat} (hm : m ≤ 4) (hr : hI h1 t 10 = nI m) {P : Int32 → HP → Prop} {x : Int64} (hyes : ∀ k, k < m → hL h1 (t + 9) k = x → (∀ j, j < k → hL h1 (t + 9) j ≠ x) → P (nI k) h1) (hno : (∀ j, j < m → hL h1 (t + 9) j ≠ x) → P (-1) h1) : ∀ n k, k ≤ m → m + 1 ≤ k + n → (∀ j, j < k → hL h1 (t + 9) j ≠ x) →
    V cX5_ruleNamed miX5_ruleNamed (ZM h0 miX5_ruleNamed.2.2.2.1 (pI P)) 130 2 [.ref t, .long x, .null, .int (nI k)] [] (h1) := by
  intro n
  induction n with
  | zero => intro k h1 h2; exact absurd h2 (by omega)
  | succ n ih =>
    intro k hk hkn hall
    refine V.iload_n dX5_ruleNamed_2 rfl rfl ?_
    refine V.aload_n dX5_ruleNamed_3 rfl rfl (sT0 hT) ?_
    refine V.getI dX5_ruleNamed_4 fl_X5_68 (sT0 hT) (Or.inl ⟨rfl, SHL_lt (sT0 hT)⟩) rfl rfl ?_
    refine V.icmp_ge (tgt := 29) dX5_ruleNamed_7 (by decide) (fun c1 => ?_) (fun c1 => ?_)
    · have hk2 : k = m := by have h9 := c1; rw [hr, nI_leI (by omega) (by omega)] at h9; omega
      refine V.iconst (v := (-1)) dX5_ruleNamed_29 rfl ?_
      refine V.ireturn dX5_ruleNamed_30 rfl rfl ⟨rfl, rfl⟩ hn ?_
      subst hk2
      exact hno hall
    · have hlt : k < m := by have h9 := c1; rw [hr, nI_leI (by omega) (by omega)] at h9; omega
      refine V.aload_n dX5_ruleNamed_10 rfl rfl (sT0 hT) ?_
      refine V.getR (r := t + 9) dX5_ruleNamed_11 fl_X5_25 (sT0 hT) (Or.inl ⟨rfl, SHL_lt (sT0 hT)⟩) rfl (rT_ruleNames ly hT) ?_
      refine V.iload_n dX5_ruleNamed_14 rfl rfl ?_
      refine V.laload dX5_ruleNamed_15 (sT9 hT) (Or.inl ⟨rfl, SHL_lt (sT9 hT)⟩) (vp_in_nI (show k < 4 by omega) (by decide)) ?_
      rw [nI_clamp (show k < 2 ^ 31 by omega)]
      refine V.lload_n dX5_ruleNamed_16 rfl rfl ?_
      refine V.lcmp dX5_ruleNamed_17 ?_
      refine V.if_ne (tgt := 23) dX5_ruleNamed_18 (by decide) (fun c2 => ?_) (fun c2 => ?_)
      · obtain ⟨x3, ex3⟩ : ∃ y : Int32, y = nI k + 1 := ⟨_, rfl⟩
        refine V.iinc (v := x3) (ls' := [.ref t, .long x, .null, .int x3]) dX5_ruleNamed_23 rfl (by decide) ex3.symm rfl ?_
        refine V.goto (tgt := 2) dX5_ruleNamed_26 (by decide) ?_
        rw [ex3, nI_1]
        refine ih (k + 1) (by omega) (by omega) (fun i hi => ?_)
        rw [lg_cmp_eq] at c2
        rcases Nat.lt_succ_iff_lt_or_eq.mp hi with h9 | h9
        · exact hall i h9
        · subst h9; exact c2
      · refine V.iload_n dX5_ruleNamed_21 rfl rfl ?_
        refine V.ireturn dX5_ruleNamed_22 rfl rfl ⟨rfl, rfl⟩ hn ?_
        exact hyes k hlt (by have h9 := c2; rw [lg_cmp_eq] at h9; exact h9) hall
set_option maxRecDepth 100000 in
theorem sp_X5_ruleNamed {h : HP} (ly : Lay h) {t : Nat} (hT : isT t) {m : Nat} (hm : m ≤ 4) (hr : hI h t 10 = nI m) (x : Int64) : Spec yX5_ruleNamed cX5_ruleNamed miX5_ruleNamed [.ref t, .long x] h (pI fun r h' => ((∃ k, k < m ∧ hL h (t + 9) k = x ∧ (∀ j, j < k → hL h (t + 9) j ≠ x) ∧ r = nI k) ∨ ((∀ j, j < m → hL h (t + 9) j ≠ x) ∧ r = -1)) ∧ h' = h) := by
  refine Spec.of (ls0 := [.ref t, .long x, .null, .null]) mo_X5_ruleNamed (Nat.le_of_ble_eq_true rfl) rfl ?_
  rw [ly.1]
  refine V.iconst (v := 0) dX5_ruleNamed_0 rfl ?_
  refine V.istore_n (ls' := [.ref t, .long x, .null, .int 0]) dX5_ruleNamed_1 rfl (by decide) rfl ?_
  exact lp_X5_ruleNamed ly.1 ly hT hm hr (fun k q1 q2 q3 => ⟨Or.inl ⟨k, q1, q2, q3, rfl⟩, rfl⟩) (fun q => ⟨Or.inr ⟨q, rfl⟩, rfl⟩) (m + 1) 0 (by omega) (by omega) (fun j hj => absurd hj (by omega))
set_option maxRecDepth 100000 in
theorem lp_X5_isNameTaken {h0 h1 : HP} (hn : h0.1 = 130) (ly : Lay h1) {t : Nat} (hT : isT t) {m : Nat} (hm : m ≤ 4) (hr : hI h1 t 10 = nI m) {c : Nat} (hc : c ≤ 6) (hcz : hI h1 t 11 = nI c) {P : Int32 → HP → Prop} {x : Int64} (hyes : ((∃ k, k < c ∧ hL h1 (t + 12) k = x) ∨ ∃ k, k < m ∧ hL h1 (t + 9) k = x) → P 1 h1) (hno : ¬ ((∃ k, k < c ∧ hL h1 (t + 12) k = x) ∨ ∃ k, k < m ∧ hL h1 (t + 9) k = x) → P 0 h1) : ∀ n k, k ≤ c → c + 1 ≤ k + n → (∀ j, j < k → hL h1 (t + 12) j ≠ x) →
    V cX5_isNameTaken miX5_isNameTaken (ZM h0 miX5_isNameTaken.2.2.2.1 (pI P)) 130 2 [.ref t, .long x, .null, .int (nI k)] [] (h1) := by
  intro n
  induction n with
  | zero => intro k h1 h2; exact absurd h2 (by omega)
  | succ n ih =>
    intro k hk hkn hall
    refine V.iload_n dX5_isNameTaken_2 rfl rfl ?_
    refine V.aload_n dX5_isNameTaken_3 rfl rfl (sT0 hT) ?_
    refine V.getI dX5_isNameTaken_4 fl_X5_72 (sT0 hT) (Or.inl ⟨rfl, SHL_lt (sT0 hT)⟩) rfl rfl ?_
    refine V.icmp_ge (tgt := 29) dX5_isNameTaken_7 (by decide) (fun c1 => ?_) (fun c1 => ?_)
    · have hk2 : k = c := by have h9 := c1; rw [hcz, nI_leI (by omega) (by omega)] at h9; omega
      refine V.aload_n dX5_isNameTaken_29 rfl rfl (sT0 hT) ?_
      refine V.lload_n dX5_isNameTaken_30 rfl rfl ?_
      refine V.callVI dX5_isNameTaken_31 ml_X5_115 mo_X5_ruleNamed mv_X5_ruleNamed (sT0 hT) (fun q hq => by cases hq; rfl) (by decide) (Or.inl ⟨rfl, SHL_lt (sT0 hT)⟩) (sp_X5_ruleNamed (by exact ly.keep rfl rfl) hT hm hr _) rfl rfl ⟨Nat.le_of_ble_eq_true rfl, Nat.le_of_ble_eq_true rfl, fun _ => ⟨rfl, rfl⟩⟩ (Nat.le_of_ble_eq_true rfl) rfl (fun r2 h3 p4 => ?_)
      obtain ⟨qr2, p4⟩ := p4
      have p4 := p4.symm
      subst p4
      refine V.if_lt (tgt := 41) dX5_isNameTaken_34 (by decide) (fun c5 => ?_) (fun c5 => ?_)
      · refine V.iconst (v := 0) dX5_isNameTaken_41 rfl ?_
        refine V.ireturn dX5_isNameTaken_42 rfl rfl ⟨rfl, rfl⟩ hn ?_
        subst hk2
        rcases qr2 with ⟨i, q1, q2, q3, q4⟩ | ⟨q1, q2⟩
        · first
            | exact hyes (Or.inr ⟨i, q1, q2⟩)
            | exact absurd c5 (by rw [q4]; exact nI_pos (by omega))
        · first
            | exact hno (fun q => by rcases q with ⟨i, h1, h2⟩ | ⟨i, h1, h2⟩; exact hall i h1 h2; exact q1 i h1 h2)
            | exact absurd (show r2 < 0 by rw [q2]; decide) c5
      · refine V.iconst (v := 1) dX5_isNameTaken_37 rfl ?_
        refine V.goto (tgt := 42) dX5_isNameTaken_38 (by decide) ?_
        refine V.ireturn dX5_isNameTaken_42 rfl rfl ⟨rfl, rfl⟩ hn ?_
        subst hk2
        rcases qr2 with ⟨i, q1, q2, q3, q4⟩ | ⟨q1, q2⟩
        · first
            | exact hyes (Or.inr ⟨i, q1, q2⟩)
            | exact absurd c5 (by rw [q4]; exact nI_pos (by omega))
        · first
            | exact hno (fun q => by rcases q with ⟨i, h1, h2⟩ | ⟨i, h1, h2⟩; exact hall i h1 h2; exact q1 i h1 h2)
            | exact absurd (show r2 < 0 by rw [q2]; decide) c5
    · have hlt : k < c := by have h9 := c1; rw [hcz, nI_leI (by omega) (by omega)] at h9; omega
      refine V.aload_n dX5_isNameTaken_10 rfl rfl (sT0 hT) ?_
      refine V.getR (r := t + 12) dX5_isNameTaken_11 fl_X5_36 (sT0 hT) (Or.inl ⟨rfl, SHL_lt (sT0 hT)⟩) rfl (rT_citizenNames ly hT) ?_
      refine V.iload_n dX5_isNameTaken_14 rfl rfl ?_
      refine V.laload dX5_isNameTaken_15 (sT12 hT) (Or.inl ⟨rfl, SHL_lt (sT12 hT)⟩) (vp_in_nI (show k < 6 by omega) (by decide)) ?_
      rw [nI_clamp (show k < 2 ^ 31 by omega)]
      refine V.lload_n dX5_isNameTaken_16 rfl rfl ?_
      refine V.lcmp dX5_isNameTaken_17 ?_
      refine V.if_ne (tgt := 23) dX5_isNameTaken_18 (by decide) (fun c6 => ?_) (fun c6 => ?_)
      · obtain ⟨x7, ex7⟩ : ∃ y : Int32, y = nI k + 1 := ⟨_, rfl⟩
        refine V.iinc (v := x7) (ls' := [.ref t, .long x, .null, .int x7]) dX5_isNameTaken_23 rfl (by decide) ex7.symm rfl ?_
        refine V.goto (tgt := 2) dX5_isNameTaken_26 (by decide) ?_
        rw [ex7, nI_1]
        refine ih (k + 1) (by omega) (by omega) (fun i hi => ?_)
        rw [lg_cmp_eq] at c6
        rcases Nat.lt_succ_iff_lt_or_eq.mp hi with h9 | h9
        · exact hall i h9
        · subst h9; exact c6
      · refine V.iconst (v := 1) dX5_isNameTaken_21 rfl ?_
        refine V.ireturn dX5_isNameTaken_22 rfl rfl ⟨rfl, rfl⟩ hn ?_
        exact hyes (Or.inl ⟨k, hlt, by have h9 := c6; rw [lg_cmp_eq] at h9; exact h9⟩)
set_option maxRecDepth 100000 in
theorem sp_X5_isNameTaken {h : HP} (ly : Lay h) {t : Nat} (hT : isT t) {m : Nat} (hm : m ≤ 4) (hr : hI h t 10 = nI m) {c : Nat} (hc : c ≤ 6) (hcz : hI h t 11 = nI c) (x : Int64) : Spec yX5_isNameTaken cX5_isNameTaken miX5_isNameTaken [.ref t, .long x] h (pI fun r h' => r = bI (decide ((∃ k, k < c ∧ hL h (t + 12) k = x) ∨ ∃ k, k < m ∧ hL h (t + 9) k = x)) ∧ h' = h) := by
  refine Spec.of (ls0 := [.ref t, .long x, .null, .null]) mo_X5_isNameTaken (Nat.le_of_ble_eq_true rfl) rfl ?_
  rw [ly.1]
  refine V.iconst (v := 0) dX5_isNameTaken_0 rfl ?_
  refine V.istore_n (ls' := [.ref t, .long x, .null, .int 0]) dX5_isNameTaken_1 rfl (by decide) rfl ?_
  exact lp_X5_isNameTaken ly.1 ly hT hm hr hc hcz (fun q => ⟨bI_t q, rfl⟩) (fun q => ⟨bI_f q, rfl⟩) (c + 1) 0 (by omega) (by omega) (fun j hj => absurd hj (by omega))
