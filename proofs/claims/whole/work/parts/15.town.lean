/-! ===== the class's town: many nights, rules left, elections, names, houses ===== -/
set_option maxRecDepth 100000 in
theorem sp_X5_passNights {h : HP} (ly : Lay h) {t : Nat} (hT : isT t) (hr : (hI h t 10).toInt ≤ 4) {m : Nat} (hm : m < 2 ^ 20) : Spec yX5_passNights cX5_passNights miX5_passNights [.ref t, .int (nI m)] h (pV fun h' => ∃ g, h' = uI (TH h t (itN (nxF h t) m (hI h t 13)) (hI h t 15 + oilN (nxF h t) m (hI h t 13)) (fun i => hI h (t + 15) i ||| seenN (nxF h t) (uT h t) m (hI h t 13) i) g) t 14 (hI h t 14 + nI m)) := by
  refine Spec.of (ls0 := [.ref t, .int (nI m), .null, .null, .null, .null, .null, .null, .null]) mo_X5_passNights (Nat.le_of_ble_eq_true rfl) rfl ?_
  rw [ly.1]
  refine V.aload_n dX5_passNights_0 rfl rfl (sT0 hT) ?_
  refine V.getI dX5_passNights_1 fl_X5_78 (sT0 hT) (Or.inl ⟨rfl, SHL_lt (sT0 hT)⟩) rfl rfl ?_
  refine V.nmi (fun x1 ex1 => ?_)
  refine V.istore_n (ls' := [.ref t, .int (nI m), .int x1, .null, .null, .null, .null, .null, .null]) dX5_passNights_4 rfl (by decide) rfl ?_
  refine V.iconst (v := 0) dX5_passNights_5 rfl ?_
  refine V.istore_n (ls' := [.ref t, .int (nI m), .int x1, .int 0, .null, .null, .null, .null, .null]) dX5_passNights_6 rfl (by decide) rfl ?_
  refine V.aload_n dX5_passNights_7 rfl rfl (sT0 hT) ?_
  refine V.getI dX5_passNights_8 fl_X5_84 (sT0 hT) (Or.inl ⟨rfl, SHL_lt (sT0 hT)⟩) rfl rfl ?_
  refine V.nmi (fun x2 ex2 => ?_)
  refine V.istore (ls' := [.ref t, .int (nI m), .int x1, .int 0, .int x2, .null, .null, .null, .null]) dX5_passNights_11 (by decide) rfl ?_
  refine V.iconst (v := 1) dX5_passNights_13 rfl ?_
  refine V.istore (ls' := [.ref t, .int (nI m), .int x1, .int 0, .int x2, .int 1, .null, .null, .null]) dX5_passNights_14 (by decide) rfl ?_
  refine V.iconst (v := 1) dX5_passNights_16 rfl ?_
  refine V.istore (ls' := [.ref t, .int (nI m), .int x1, .int 0, .int x2, .int 1, .int 1, .null, .null]) dX5_passNights_17 (by decide) rfl ?_
  rw [ex1, ex2]
  have key := lp_X5_passNights (h0 := h) ly.1 ly hT hr hm (X := itN (nxF h t) m (hI h t 13)) (O := hI h t 15 + oilN (nxF h t) m (hI h t 13)) (S := fun i => hI h (t + 15) i ||| seenN (nxF h t) (uT h t) m (hI h t 13) i) (P := fun h' => ∃ g, h' = uI (TH h t (itN (nxF h t) m (hI h t 13)) (hI h t 15 + oilN (nxF h t) m (hI h t 13)) (fun i => hI h (t + 15) i ||| seenN (nxF h t) (uT h t) m (hI h t 13) i) g) t 14 (hI h t 14 + nI m)) (fun g => ⟨g, rfl⟩) (m + 1) 1 0 (hI h t 13) (hI h t 13) (hI h t 15) (hI h t 15) 1 (hI h (t + 15)) (hI h (t + 1 + 1)) (by omega) (by omega) (by omega) (by omega) (by rw [show m + 1 - 1 = m by omega]) (by rw [show m + 1 - 1 = m by omega]) (fun i => by rw [show m + 1 - 1 = m by omega]) rfl (Int32.add_zero _).symm (fun i => Int32.or_zero)
  rw [TH_self] at key
  exact key
def leftN (s : Nat → Int32) : Nat → Int32
  | 0 => 1
  | k + 1 => if s k = 0 then leftN s k * 2 else if s k = 3 then 0 else leftN s k
set_option maxRecDepth 100000 in
theorem lp_X5_countRulesLeft {h0 h1 : HP} (hn : h0.1 = 130) (ly : Lay h1) {t : Nat} (hT : isT t) {P : Int32 → HP → Prop} (hP : P (leftN (hI h1 (t + 15)) 10) h1) : ∀ n k, k ≤ 10 → 10 + 1 ≤ k + n → ∀ z, z = leftN (hI h1 (t + 15)) k →
    V cX5_countRulesLeft miX5_countRulesLeft (ZM h0 miX5_countRulesLeft.2.2.2.1 (pI P)) 130 4 [.ref t, .int z, .int (nI k)] [] (h1) := by
  intro n
  induction n with
  | zero => intro k h1 h2; exact absurd h2 (by omega)
  | succ n ih =>
    intro k hk hkn z ez
    refine V.iload_n dX5_countRulesLeft_4 rfl rfl ?_
    refine V.bipush (v := 10) dX5_countRulesLeft_5 rfl ?_
    refine V.icmp_ge (tgt := 44) dX5_countRulesLeft_7 (by decide) (fun c1 => ?_) (fun c1 => ?_)
    · have hk2 : k = 10 := by have h9 := c1; rw [show (10 : Int32) = nI 10 from rfl, nI_leI (by omega) (by omega)] at h9; omega
      refine V.iload_n dX5_countRulesLeft_44 rfl rfl ?_
      refine V.ireturn dX5_countRulesLeft_45 rfl rfl ⟨rfl, rfl⟩ hn ?_
      subst hk2
      rw [ez]; exact hP
    · have hlt : k < 10 := by have h9 := c1; rw [show (10 : Int32) = nI 10 from rfl, nI_leI (by omega) (by omega)] at h9; omega
      refine V.aload_n dX5_countRulesLeft_10 rfl rfl (sT0 hT) ?_
      refine V.getR (r := t + 15) dX5_countRulesLeft_11 fl_X5_45 (sT0 hT) (Or.inl ⟨rfl, SHL_lt (sT0 hT)⟩) rfl (rT_seen ly hT) ?_
      refine V.iload_n dX5_countRulesLeft_14 rfl rfl ?_
      refine V.iaload dX5_countRulesLeft_15 (sT15 hT) (Or.inl ⟨rfl, SHL_lt (sT15 hT)⟩) (vp_in_nI (show k < 10 by omega) (by decide)) ?_
      rw [nI_clamp (show k < 2 ^ 31 by omega)]
      refine V.if_ne (tgt := 26) dX5_countRulesLeft_16 (by decide) (fun c2 => ?_) (fun c2 => ?_)
      · refine V.aload_n dX5_countRulesLeft_26 rfl rfl (sT0 hT) ?_
        refine V.getR (r := t + 15) dX5_countRulesLeft_27 fl_X5_45 (sT0 hT) (Or.inl ⟨rfl, SHL_lt (sT0 hT)⟩) rfl (rT_seen ly hT) ?_
        refine V.iload_n dX5_countRulesLeft_30 rfl rfl ?_
        refine V.iaload dX5_countRulesLeft_31 (sT15 hT) (Or.inl ⟨rfl, SHL_lt (sT15 hT)⟩) (vp_in_nI (show k < 10 by omega) (by decide)) ?_
        rw [nI_clamp (show k < 2 ^ 31 by omega)]
        refine V.iconst (v := 3) dX5_countRulesLeft_32 rfl ?_
        refine V.icmp_ne (tgt := 38) dX5_countRulesLeft_33 (by decide) (fun c3 => ?_) (fun c3 => ?_)
        · obtain ⟨x4, ex4⟩ : ∃ y : Int32, y = nI k + 1 := ⟨_, rfl⟩
          refine V.iinc (v := x4) (ls' := [.ref t, .int z, .int x4]) dX5_countRulesLeft_38 rfl (by decide) ex4.symm rfl ?_
          refine V.goto (tgt := 4) dX5_countRulesLeft_41 (by decide) ?_
          rw [ex4, nI_1]
          refine ih (k + 1) (by omega) (by omega) _ ?_
          unfold leftN
          first
            | (rw [if_pos (by assumption), ← ez]; assumption)
            | (rw [if_neg (by assumption), if_pos (by assumption)])
            | (rw [if_neg (by assumption), if_neg (by assumption)]; exact ez)
        · refine V.iconst (v := 0) dX5_countRulesLeft_36 rfl ?_
          refine V.istore_n (ls' := [.ref t, .int 0, .int (nI k)]) dX5_countRulesLeft_37 rfl (by decide) rfl ?_
          obtain ⟨x5, ex5⟩ : ∃ y : Int32, y = nI k + 1 := ⟨_, rfl⟩
          refine V.iinc (v := x5) (ls' := [.ref t, .int 0, .int x5]) dX5_countRulesLeft_38 rfl (by decide) ex5.symm rfl ?_
          refine V.goto (tgt := 4) dX5_countRulesLeft_41 (by decide) ?_
          rw [ex5, nI_1]
          refine ih (k + 1) (by omega) (by omega) _ ?_
          unfold leftN
          first
            | (rw [if_pos (by assumption), ← ez]; assumption)
            | (rw [if_neg (by assumption), if_pos (by assumption)])
            | (rw [if_neg (by assumption), if_neg (by assumption)]; exact ez)
      · refine V.iload_n dX5_countRulesLeft_19 rfl rfl ?_
        refine V.iconst (v := 2) dX5_countRulesLeft_20 rfl ?_
        refine V.imul dX5_countRulesLeft_21 ?_
        refine V.nmi (fun x6 ex6 => ?_)
        refine V.istore_n (ls' := [.ref t, .int x6, .int (nI k)]) dX5_countRulesLeft_22 rfl (by decide) rfl ?_
        refine V.goto (tgt := 38) dX5_countRulesLeft_23 (by decide) ?_
        obtain ⟨x7, ex7⟩ : ∃ y : Int32, y = nI k + 1 := ⟨_, rfl⟩
        refine V.iinc (v := x7) (ls' := [.ref t, .int x6, .int x7]) dX5_countRulesLeft_38 rfl (by decide) ex7.symm rfl ?_
        refine V.goto (tgt := 4) dX5_countRulesLeft_41 (by decide) ?_
        rw [ex7, nI_1]
        refine ih (k + 1) (by omega) (by omega) _ ?_
        unfold leftN
        first
          | (rw [if_pos (by assumption), ← ez]; assumption)
          | (rw [if_neg (by assumption), if_pos (by assumption)])
          | (rw [if_neg (by assumption), if_neg (by assumption)]; exact ez)
set_option maxRecDepth 100000 in
theorem sp_X5_countRulesLeft {h : HP} (ly : Lay h) {t : Nat} (hT : isT t)  : Spec yX5_countRulesLeft cX5_countRulesLeft miX5_countRulesLeft [.ref t] h (pI fun r h' => r = leftN (hI h (t + 15)) 10 ∧ h' = h) := by
  refine Spec.of (ls0 := [.ref t, .null, .null]) mo_X5_countRulesLeft (Nat.le_of_ble_eq_true rfl) rfl ?_
  rw [ly.1]
  refine V.iconst (v := 1) dX5_countRulesLeft_0 rfl ?_
  refine V.istore_n (ls' := [.ref t, .int 1, .null]) dX5_countRulesLeft_1 rfl (by decide) rfl ?_
  refine V.iconst (v := 0) dX5_countRulesLeft_2 rfl ?_
  refine V.istore_n (ls' := [.ref t, .int 1, .int 0]) dX5_countRulesLeft_3 rfl (by decide) rfl ?_
  exact lp_X5_countRulesLeft ly.1 ly hT ⟨rfl, rfl⟩ 11 0 (by omega) (by omega) 1 rfl
def fitAt (s : Nat → Int32) (sets : Int32) (k : Nat) : Prop := s k &&& (shl 1 (shr sets (nI k) &&& 1) ^^^ -1) = 0
set_option maxRecDepth 100000 in
theorem lp_X5_ruleFits {h0 h1 : HP} (hn : h0.1 = 130) (ly : Lay h1) {t : Nat} (hT : isT t) {r : Int32} {P : Int32 → HP → Prop} {sets : Int32} (hno : ∀ k, k < 10 → ¬ fitAt (hI h1 (t + 15)) sets k → P 0 h1) (hyes : (∀ k, k < 10 → fitAt (hI h1 (t + 15)) sets k) → P 1 h1) : ∀ n k, k ≤ 10 → 10 + 1 ≤ k + n → (∀ i, i < k → fitAt (hI h1 (t + 15)) sets i) →
    V cX5_ruleFits miX5_ruleFits (ZM h0 miX5_ruleFits.2.2.2.1 (pI P)) 130 18 [.ref t, .int r, .int sets, .int (nI k)] [] (h1) := by
  intro n
  induction n with
  | zero => intro k h1 h2; exact absurd h2 (by omega)
  | succ n ih =>
    intro k hk hkn hall
    refine V.iload_n dX5_ruleFits_18 rfl rfl ?_
    refine V.bipush (v := 10) dX5_ruleFits_19 rfl ?_
    refine V.icmp_ge (tgt := 51) dX5_ruleFits_21 (by decide) (fun c1 => ?_) (fun c1 => ?_)
    · have hk2 : k = 10 := by have h9 := c1; rw [show (10 : Int32) = nI 10 from rfl, nI_leI (by omega) (by omega)] at h9; omega
      refine V.iconst (v := 1) dX5_ruleFits_51 rfl ?_
      refine V.ireturn dX5_ruleFits_52 rfl rfl ⟨rfl, rfl⟩ hn ?_
      subst hk2
      exact hyes hall
    · have hlt : k < 10 := by have h9 := c1; rw [show (10 : Int32) = nI 10 from rfl, nI_leI (by omega) (by omega)] at h9; omega
      refine V.aload_n dX5_ruleFits_24 rfl rfl (sT0 hT) ?_
      refine V.getR (r := t + 15) dX5_ruleFits_25 fl_X5_45 (sT0 hT) (Or.inl ⟨rfl, SHL_lt (sT0 hT)⟩) rfl (rT_seen ly hT) ?_
      refine V.iload_n dX5_ruleFits_28 rfl rfl ?_
      refine V.iaload dX5_ruleFits_29 (sT15 hT) (Or.inl ⟨rfl, SHL_lt (sT15 hT)⟩) (vp_in_nI (show k < 10 by omega) (by decide)) ?_
      rw [nI_clamp (show k < 2 ^ 31 by omega)]
      refine V.iconst (v := 1) dX5_ruleFits_30 rfl ?_
      refine V.iload_n dX5_ruleFits_31 rfl rfl ?_
      refine V.iload_n dX5_ruleFits_32 rfl rfl ?_
      refine V.ishr dX5_ruleFits_33 ?_
      refine V.iconst (v := 1) dX5_ruleFits_34 rfl ?_
      refine V.iand dX5_ruleFits_35 ?_
      refine V.ishl dX5_ruleFits_36 ?_
      refine V.iconst (v := (-1)) dX5_ruleFits_37 rfl ?_
      refine V.ixor dX5_ruleFits_38 ?_
      refine V.iand dX5_ruleFits_39 ?_
      refine V.if_eq (tgt := 45) dX5_ruleFits_40 (by decide) (fun c2 => ?_) (fun c2 => ?_)
      · obtain ⟨x3, ex3⟩ : ∃ y : Int32, y = nI k + 1 := ⟨_, rfl⟩
        refine V.iinc (v := x3) (ls' := [.ref t, .int r, .int sets, .int x3]) dX5_ruleFits_45 rfl (by decide) ex3.symm rfl ?_
        refine V.goto (tgt := 18) dX5_ruleFits_48 (by decide) ?_
        rw [ex3, nI_1]
        refine ih (k + 1) (by omega) (by omega) (fun i hi => ?_)
        rcases Nat.lt_succ_iff_lt_or_eq.mp hi with h9 | h9
        · exact hall i h9
        · subst h9; unfold fitAt; assumption
      · refine V.iconst (v := 0) dX5_ruleFits_43 rfl ?_
        refine V.ireturn dX5_ruleFits_44 rfl rfl ⟨rfl, rfl⟩ hn ?_
        exact hno k hlt (by unfold fitAt; assumption)
set_option maxRecDepth 100000 in
theorem sp_X5_ruleFits {h : HP} (ly : Lay h) {t : Nat} (hT : isT t) {i : Nat} (hi : i < 4) : Spec yX5_ruleFits cX5_ruleFits miX5_ruleFits [.ref t, .int (nI i)] h (pI fun r h' => ((r = 1 ∧ ∀ k, k < 10 → fitAt (hI h (t + 15)) (hI h (t + 10) i ||| shl (hI h (t + 11) i) 5) k) ∨ (r = 0 ∧ ¬ ∀ k, k < 10 → fitAt (hI h (t + 15)) (hI h (t + 10) i ||| shl (hI h (t + 11) i) 5) k)) ∧ h' = h) := by
  refine Spec.of (ls0 := [.ref t, .int (nI i), .null, .null]) mo_X5_ruleFits (Nat.le_of_ble_eq_true rfl) rfl ?_
  rw [ly.1]
  refine V.aload_n dX5_ruleFits_0 rfl rfl (sT0 hT) ?_
  refine V.getR (r := t + 10) dX5_ruleFits_1 fl_X5_29 (sT0 hT) (Or.inl ⟨rfl, SHL_lt (sT0 hT)⟩) rfl (rT_bornBy ly hT) ?_
  refine V.iload_n dX5_ruleFits_4 rfl rfl ?_
  refine V.iaload dX5_ruleFits_5 (sT10 hT) (Or.inl ⟨rfl, SHL_lt (sT10 hT)⟩) (vp_in_nI hi (by decide)) ?_
  rw [nI_clamp (show i < 2 ^ 31 by omega)]
  refine V.aload_n dX5_ruleFits_6 rfl rfl (sT0 hT) ?_
  refine V.getR (r := t + 11) dX5_ruleFits_7 fl_X5_33 (sT0 hT) (Or.inl ⟨rfl, SHL_lt (sT0 hT)⟩) rfl (rT_staysBy ly hT) ?_
  refine V.iload_n dX5_ruleFits_10 rfl rfl ?_
  refine V.iaload dX5_ruleFits_11 (sT11 hT) (Or.inl ⟨rfl, SHL_lt (sT11 hT)⟩) (vp_in_nI hi (by decide)) ?_
  rw [nI_clamp (show i < 2 ^ 31 by omega)]
  refine V.iconst (v := 5) dX5_ruleFits_12 rfl ?_
  refine V.ishl dX5_ruleFits_13 ?_
  refine V.ior dX5_ruleFits_14 ?_
  refine V.nmi (fun x1 ex1 => ?_)
  refine V.istore_n (ls' := [.ref t, .int (nI i), .int x1, .null]) dX5_ruleFits_15 rfl (by decide) rfl ?_
  refine V.iconst (v := 0) dX5_ruleFits_16 rfl ?_
  refine V.istore_n (ls' := [.ref t, .int (nI i), .int x1, .int 0]) dX5_ruleFits_17 rfl (by decide) rfl ?_
  subst_vars
  exact lp_X5_ruleFits ly.1 ly hT (fun k h1 h2 => ⟨Or.inr ⟨rfl, fun q => h2 (q k h1)⟩, rfl⟩) (fun q => ⟨Or.inl ⟨rfl, q⟩, rfl⟩) 11 0 (by omega) (by omega) (fun i h9 => absurd h9 (by omega))
def zk (s : Nat → Int32) (k : Nat) : Nat → Int32 := fun j => if j < k then 0 else s j
theorem zk_0 (s : Nat → Int32) : zk s 0 = s := by funext j; unfold zk; rw [if_neg (by omega)]
theorem zk_step (s : Nat → Int32) (k : Nat) : upd (zk s k) k 0 = zk s (k + 1) := by
  funext j; unfold upd zk
  by_cases h : j = k
  · rw [if_pos h, if_pos (by omega)]
  · rw [if_neg h]
    by_cases h2 : j < k
    · rw [if_pos h2, if_pos (by omega)]
    · rw [if_neg h2, if_neg (by omega)]
theorem zk_at (s : Nat → Int32) (k : Nat) : zk s k k = s k := if_neg (by omega)
def nzN (s : Nat → Int32) : Nat → Int32
  | 0 => 0
  | k + 1 => nzN s k + (if s k = 0 then 0 else 1)
set_option maxRecDepth 100000 in
theorem lp_X5_forgetSeen {h0 h1 : HP} (hn : h0.1 = 130) (ly : Lay h1) {t : Nat} (hT : isT t) {P : Int32 → HP → Prop} (hP : P (nzN (hI h1 (t + 15)) 10) (rI h1 (t + 15) (zk (hI h1 (t + 15)) 10))) : ∀ n k, k ≤ 10 → 10 + 1 ≤ k + n → ∀ z, z = nzN (hI h1 (t + 15)) k →
    V cX5_forgetSeen miX5_forgetSeen (ZM h0 miX5_forgetSeen.2.2.2.1 (pI P)) 130 4 [.ref t, .int z, .int (nI k)] [] (rI h1 (t + 15) (zk (hI h1 (t + 15)) k)) := by
  intro n
  induction n with
  | zero => intro k h1 h2; exact absurd h2 (by omega)
  | succ n ih =>
    intro k hk hkn z ez
    refine V.iload_n dX5_forgetSeen_4 rfl rfl ?_
    refine V.bipush (v := 10) dX5_forgetSeen_5 rfl ?_
    refine V.icmp_ge (tgt := 40) dX5_forgetSeen_7 (by decide) (fun c1 => ?_) (fun c1 => ?_)
    · have hk2 : k = 10 := by have h9 := c1; rw [show (10 : Int32) = nI 10 from rfl, nI_leI (by omega) (by omega)] at h9; omega
      refine V.iload_n dX5_forgetSeen_40 rfl rfl ?_
      refine V.ireturn dX5_forgetSeen_41 rfl rfl ⟨rfl, rfl⟩ hn ?_
      subst hk2
      rw [ez]; exact hP
    · have hlt : k < 10 := by have h9 := c1; rw [show (10 : Int32) = nI 10 from rfl, nI_leI (by omega) (by omega)] at h9; omega
      refine V.iload_n dX5_forgetSeen_10 rfl rfl ?_
      refine V.aload_n dX5_forgetSeen_11 rfl rfl (sT0 hT) ?_
      refine V.getR (r := t + 15) dX5_forgetSeen_12 fl_X5_45 (sT0 hT) (Or.inl ⟨rfl, SHL_lt (sT0 hT)⟩) rfl (rT_seen ly hT) ?_
      refine V.iload_n dX5_forgetSeen_15 rfl rfl ?_
      refine V.iaload dX5_forgetSeen_16 (sT15 hT) (Or.inl ⟨rfl, SHL_lt (sT15 hT)⟩) (vp_in_nI (show k < 10 by omega) (by decide)) ?_
      rw [nI_clamp (show k < 2 ^ 31 by omega)]
      refine V.if_eq (tgt := 24) dX5_forgetSeen_17 (by decide) (fun c2 => ?_) (fun c2 => ?_)
      · refine V.iconst (v := 0) dX5_forgetSeen_24 rfl ?_
        refine V.iadd dX5_forgetSeen_25 ?_
        refine V.nmi (fun x3 ex3 => ?_)
        refine V.istore_n (ls' := [.ref t, .int x3, .int (nI k)]) dX5_forgetSeen_26 rfl (by decide) rfl ?_
        refine V.aload_n dX5_forgetSeen_27 rfl rfl (sT0 hT) ?_
        refine V.getR (r := t + 15) dX5_forgetSeen_28 fl_X5_45 (sT0 hT) (Or.inl ⟨rfl, SHL_lt (sT0 hT)⟩) rfl (rT_seen ly hT) ?_
        refine V.iload_n dX5_forgetSeen_31 rfl rfl ?_
        refine V.iconst (v := 0) dX5_forgetSeen_32 rfl ?_
        refine V.iastore dX5_forgetSeen_33 (sT15 hT) (Or.inl ⟨rfl, SHL_lt (sT15 hT)⟩) (vp_in_nI (show k < 10 by omega) (by decide)) ?_
        rw [nI_clamp (show k < 2 ^ 31 by omega)]
        rw [uI_rI, zk_step]
        obtain ⟨x4, ex4⟩ : ∃ y : Int32, y = nI k + 1 := ⟨_, rfl⟩
        refine V.iinc (v := x4) (ls' := [.ref t, .int x3, .int x4]) dX5_forgetSeen_34 rfl (by decide) ex4.symm rfl ?_
        refine V.goto (tgt := 4) dX5_forgetSeen_37 (by decide) ?_
        rw [ex4, nI_1]
        refine ih (k + 1) (by omega) (by omega) _ ?_
        rw [hI_rI_s, zk_at] at *
        subst_vars
        simp_all [nzN]
      · refine V.iconst (v := 1) dX5_forgetSeen_20 rfl ?_
        refine V.goto (tgt := 25) dX5_forgetSeen_21 (by decide) ?_
        refine V.iadd dX5_forgetSeen_25 ?_
        refine V.nmi (fun x5 ex5 => ?_)
        refine V.istore_n (ls' := [.ref t, .int x5, .int (nI k)]) dX5_forgetSeen_26 rfl (by decide) rfl ?_
        refine V.aload_n dX5_forgetSeen_27 rfl rfl (sT0 hT) ?_
        refine V.getR (r := t + 15) dX5_forgetSeen_28 fl_X5_45 (sT0 hT) (Or.inl ⟨rfl, SHL_lt (sT0 hT)⟩) rfl (rT_seen ly hT) ?_
        refine V.iload_n dX5_forgetSeen_31 rfl rfl ?_
        refine V.iconst (v := 0) dX5_forgetSeen_32 rfl ?_
        refine V.iastore dX5_forgetSeen_33 (sT15 hT) (Or.inl ⟨rfl, SHL_lt (sT15 hT)⟩) (vp_in_nI (show k < 10 by omega) (by decide)) ?_
        rw [nI_clamp (show k < 2 ^ 31 by omega)]
        rw [uI_rI, zk_step]
        obtain ⟨x6, ex6⟩ : ∃ y : Int32, y = nI k + 1 := ⟨_, rfl⟩
        refine V.iinc (v := x6) (ls' := [.ref t, .int x5, .int x6]) dX5_forgetSeen_34 rfl (by decide) ex6.symm rfl ?_
        refine V.goto (tgt := 4) dX5_forgetSeen_37 (by decide) ?_
        rw [ex6, nI_1]
        refine ih (k + 1) (by omega) (by omega) _ ?_
        rw [hI_rI_s, zk_at] at *
        subst_vars
        simp_all [nzN]
set_option maxRecDepth 100000 in
theorem sp_X5_forgetSeen {h : HP} (ly : Lay h) {t : Nat} (hT : isT t)  : Spec yX5_forgetSeen cX5_forgetSeen miX5_forgetSeen [.ref t] h (pI fun r h' => r = nzN (hI h (t + 15)) 10 ∧ h' = rI h (t + 15) (zk (hI h (t + 15)) 10)) := by
  refine Spec.of (ls0 := [.ref t, .null, .null]) mo_X5_forgetSeen (Nat.le_of_ble_eq_true rfl) rfl ?_
  rw [ly.1]
  refine V.iconst (v := 0) dX5_forgetSeen_0 rfl ?_
  refine V.istore_n (ls' := [.ref t, .int 0, .null]) dX5_forgetSeen_1 rfl (by decide) rfl ?_
  refine V.iconst (v := 0) dX5_forgetSeen_2 rfl ?_
  refine V.istore_n (ls' := [.ref t, .int 0, .int 0]) dX5_forgetSeen_3 rfl (by decide) rfl ?_
  have key := lp_X5_forgetSeen (h0 := h) ly.1 ly hT (P := fun r h' => r = nzN (hI h (t + 15)) 10 ∧ h' = rI h (t + 15) (zk (hI h (t + 15)) 10)) ⟨rfl, rfl⟩ 11 0 (by omega) (by omega) 0 rfl
  rw [zk_0, rI_self] at key
  exact key
def newN (f s : Nat → Int32) (x : Int32) : Nat → Int32
  | 0 => 0
  | k + 1 => (newN f s x k + (if s k = 0 ∧ ¬ (litF f x k &&& f 5) &&& (x ^^^ -1) = 0 then 1 else 0)) + (if s (5 + k) = 0 ∧ ¬ (litF f x k &&& f 5) &&& x = 0 then 1 else 0)
set_option maxRecDepth 100000 in
theorem lp_X5_countNewToSee {h0 h1 : HP} (hn : h0.1 = 130) (ly : Lay h1) {t : Nat} (hT : isT t) {f : Nat → Int32} {x : Int32} (f1 : ∀ j, j < 5 → hI h1 (t + 1 + 1) j = litF f x j) (f2 : hI h1 (t + 1) 5 = f 5) (f3 : hI h1 t 13 = x) {P : Int32 → HP → Prop} (hP : P (newN f (hI h1 (t + 15)) x 5) h1) : ∀ n k, k ≤ 5 → 5 + 1 ≤ k + n → ∀ z, z = newN f (hI h1 (t + 15)) x k →
    V cX5_countNewToSee miX5_countNewToSee (ZM h0 miX5_countNewToSee.2.2.2.1 (pI P)) 130 15 [.ref t, .int z, .int (nI k), .null] [] (h1) := by
  intro n
  induction n with
  | zero => intro k h1 h2; exact absurd h2 (by omega)
  | succ n ih =>
    intro k hk hkn z ez
    refine V.iload_n dX5_countNewToSee_15 rfl rfl ?_
    refine V.iconst (v := 5) dX5_countNewToSee_16 rfl ?_
    refine V.icmp_ge (tgt := 100) dX5_countNewToSee_17 (by decide) (fun c1 => ?_) (fun c1 => ?_)
    · have hk2 : k = 5 := by have h9 := c1; rw [show (5 : Int32) = nI 5 from rfl, nI_leI (by omega) (by omega)] at h9; omega
      refine V.iload_n dX5_countNewToSee_100 rfl rfl ?_
      refine V.ireturn dX5_countNewToSee_101 rfl rfl ⟨rfl, rfl⟩ hn ?_
      subst hk2
      rw [ez]; exact hP
    · have hlt : k < 5 := by have h9 := c1; rw [show (5 : Int32) = nI 5 from rfl, nI_leI (by omega) (by omega)] at h9; omega
      refine V.aload_n dX5_countNewToSee_20 rfl rfl (sT0 hT) ?_
      refine V.getR (r := t + 1) dX5_countNewToSee_21 fl_X5_12 (sT0 hT) (Or.inl ⟨rfl, SHL_lt (sT0 hT)⟩) rfl (rT_hill ly hT) ?_
      refine V.getR (r := t + 1 + 1) dX5_countNewToSee_24 fl_X5_139 (sH0 hT.H) (Or.inl ⟨rfl, SHL_lt (sH0 hT.H)⟩) rfl (rH_withLit ly hT.H) ?_
      refine V.iload_n dX5_countNewToSee_27 rfl rfl ?_
      refine V.iaload dX5_countNewToSee_28 (sH1 hT.H) (Or.inl ⟨rfl, SHL_lt (sH1 hT.H)⟩) (vp_in_nI hlt (by decide)) ?_
      rw [nI_clamp (show k < 2 ^ 31 by omega)]
      refine V.aload_n dX5_countNewToSee_29 rfl rfl (sT0 hT) ?_
      refine V.getR (r := t + 1) dX5_countNewToSee_30 fl_X5_12 (sT0 hT) (Or.inl ⟨rfl, SHL_lt (sT0 hT)⟩) rfl (rT_hill ly hT) ?_
      refine V.getI dX5_countNewToSee_33 fl_X5_96 (sH0 hT.H) (Or.inl ⟨rfl, SHL_lt (sH0 hT.H)⟩) rfl rfl ?_
      refine V.iand dX5_countNewToSee_36 ?_
      refine V.nmi (fun x2 ex2 => ?_)
      refine V.istore_n (ls' := [.ref t, .int z, .int (nI k), .int x2]) dX5_countNewToSee_37 rfl (by decide) rfl ?_
      rw [f1 k hlt, f2] at ex2
      refine V.iload_n dX5_countNewToSee_38 rfl rfl ?_
      refine V.aload_n dX5_countNewToSee_39 rfl rfl (sT0 hT) ?_
      refine V.getR (r := t + 15) dX5_countNewToSee_40 fl_X5_45 (sT0 hT) (Or.inl ⟨rfl, SHL_lt (sT0 hT)⟩) rfl (rT_seen ly hT) ?_
      refine V.iload_n dX5_countNewToSee_43 rfl rfl ?_
      refine V.iaload dX5_countNewToSee_44 (sT15 hT) (Or.inl ⟨rfl, SHL_lt (sT15 hT)⟩) (vp_in_nI (show k < 10 by omega) (by decide)) ?_
      rw [nI_clamp (show k < 2 ^ 31 by omega)]
      refine V.if_ne (tgt := 63) dX5_countNewToSee_45 (by decide) (fun c3 => ?_) (fun c3 => ?_)
      · refine V.iconst (v := 0) dX5_countNewToSee_63 rfl ?_
        refine V.iadd dX5_countNewToSee_64 ?_
        refine V.nmi (fun x4 ex4 => ?_)
        refine V.istore_n (ls' := [.ref t, .int x4, .int (nI k), .int x2]) dX5_countNewToSee_65 rfl (by decide) rfl ?_
        refine V.iload_n dX5_countNewToSee_66 rfl rfl ?_
        refine V.aload_n dX5_countNewToSee_67 rfl rfl (sT0 hT) ?_
        refine V.getR (r := t + 15) dX5_countNewToSee_68 fl_X5_45 (sT0 hT) (Or.inl ⟨rfl, SHL_lt (sT0 hT)⟩) rfl (rT_seen ly hT) ?_
        refine V.iconst (v := 5) dX5_countNewToSee_71 rfl ?_
        refine V.iload_n dX5_countNewToSee_72 rfl rfl ?_
        refine V.iadd dX5_countNewToSee_73 ?_
        refine V.iaload dX5_countNewToSee_74 (sT15 hT) (Or.inl ⟨rfl, SHL_lt (sT15 hT)⟩) (by rw [show (5 : Int32) = nI 5 from rfl, nI_add]; exact vp_in_nI (by omega) (by decide)) ?_
        rw [show (5 + nI k).toNatClampNeg = 5 + k by rw [show (5 : Int32) = nI 5 from rfl, nI_add]; exact nI_clamp (by omega)]
        refine V.if_ne (tgt := 91) dX5_countNewToSee_75 (by decide) (fun c5 => ?_) (fun c5 => ?_)
        · refine V.iconst (v := 0) dX5_countNewToSee_91 rfl ?_
          refine V.iadd dX5_countNewToSee_92 ?_
          refine V.nmi (fun x6 ex6 => ?_)
          refine V.istore_n (ls' := [.ref t, .int x6, .int (nI k), .int x2]) dX5_countNewToSee_93 rfl (by decide) rfl ?_
          obtain ⟨x7, ex7⟩ : ∃ y : Int32, y = nI k + 1 := ⟨_, rfl⟩
          refine V.iinc (v := x7) (ls' := [.ref t, .int x6, .int x7, .int x2]) dX5_countNewToSee_94 rfl (by decide) ex7.symm rfl ?_
          refine V.goto (tgt := 15) dX5_countNewToSee_97 (by decide) ?_
          rw [ex7, nI_1]
          refine V.less (ls' := [.ref t, .int x6, .int (nI (k + 1)), .null]) ⟨Or.inr rfl, Or.inr rfl, Or.inr rfl, Or.inl rfl, trivial⟩ (ih (k + 1) (by omega) (by omega) _ ?_)
          unfold newN
          rw [← ez, ← ex2, ex6, ex4]
          congr 1
          · congr 1
            symm
            first | exact if_pos ⟨by assumption, by assumption⟩ | exact if_neg (fun q => absurd q.1 (by assumption)) | exact if_neg (fun q => absurd (by assumption) q.2)
          · symm
            first | exact if_pos ⟨by assumption, by assumption⟩ | exact if_neg (fun q => absurd q.1 (by assumption)) | exact if_neg (fun q => absurd (by assumption) q.2)
        · refine V.iload_n dX5_countNewToSee_78 rfl rfl ?_
          refine V.aload_n dX5_countNewToSee_79 rfl rfl (sT0 hT) ?_
          refine V.getI dX5_countNewToSee_80 fl_X5_78 (sT0 hT) (Or.inl ⟨rfl, SHL_lt (sT0 hT)⟩) rfl rfl ?_
          refine V.iand dX5_countNewToSee_83 ?_
          refine V.if_eq (tgt := 91) dX5_countNewToSee_84 (by decide) (fun c8 => ?_) (fun c8 => ?_)
          · simp only [f3] at c8
            refine V.iconst (v := 0) dX5_countNewToSee_91 rfl ?_
            refine V.iadd dX5_countNewToSee_92 ?_
            refine V.nmi (fun x9 ex9 => ?_)
            refine V.istore_n (ls' := [.ref t, .int x9, .int (nI k), .int x2]) dX5_countNewToSee_93 rfl (by decide) rfl ?_
            obtain ⟨x10, ex10⟩ : ∃ y : Int32, y = nI k + 1 := ⟨_, rfl⟩
            refine V.iinc (v := x10) (ls' := [.ref t, .int x9, .int x10, .int x2]) dX5_countNewToSee_94 rfl (by decide) ex10.symm rfl ?_
            refine V.goto (tgt := 15) dX5_countNewToSee_97 (by decide) ?_
            rw [ex10, nI_1]
            refine V.less (ls' := [.ref t, .int x9, .int (nI (k + 1)), .null]) ⟨Or.inr rfl, Or.inr rfl, Or.inr rfl, Or.inl rfl, trivial⟩ (ih (k + 1) (by omega) (by omega) _ ?_)
            unfold newN
            rw [← ez, ← ex2, ex9, ex4]
            congr 1
            · congr 1
              symm
              first | exact if_pos ⟨by assumption, by assumption⟩ | exact if_neg (fun q => absurd q.1 (by assumption)) | exact if_neg (fun q => absurd (by assumption) q.2)
            · symm
              first | exact if_pos ⟨by assumption, by assumption⟩ | exact if_neg (fun q => absurd q.1 (by assumption)) | exact if_neg (fun q => absurd (by assumption) q.2)
          · simp only [f3] at c8
            refine V.iconst (v := 1) dX5_countNewToSee_87 rfl ?_
            refine V.goto (tgt := 92) dX5_countNewToSee_88 (by decide) ?_
            refine V.iadd dX5_countNewToSee_92 ?_
            refine V.nmi (fun x11 ex11 => ?_)
            refine V.istore_n (ls' := [.ref t, .int x11, .int (nI k), .int x2]) dX5_countNewToSee_93 rfl (by decide) rfl ?_
            obtain ⟨x12, ex12⟩ : ∃ y : Int32, y = nI k + 1 := ⟨_, rfl⟩
            refine V.iinc (v := x12) (ls' := [.ref t, .int x11, .int x12, .int x2]) dX5_countNewToSee_94 rfl (by decide) ex12.symm rfl ?_
            refine V.goto (tgt := 15) dX5_countNewToSee_97 (by decide) ?_
            rw [ex12, nI_1]
            refine V.less (ls' := [.ref t, .int x11, .int (nI (k + 1)), .null]) ⟨Or.inr rfl, Or.inr rfl, Or.inr rfl, Or.inl rfl, trivial⟩ (ih (k + 1) (by omega) (by omega) _ ?_)
            unfold newN
            rw [← ez, ← ex2, ex11, ex4]
            congr 1
            · congr 1
              symm
              first | exact if_pos ⟨by assumption, by assumption⟩ | exact if_neg (fun q => absurd q.1 (by assumption)) | exact if_neg (fun q => absurd (by assumption) q.2)
            · symm
              first | exact if_pos ⟨by assumption, by assumption⟩ | exact if_neg (fun q => absurd q.1 (by assumption)) | exact if_neg (fun q => absurd (by assumption) q.2)
      · refine V.iload_n dX5_countNewToSee_48 rfl rfl ?_
        refine V.aload_n dX5_countNewToSee_49 rfl rfl (sT0 hT) ?_
        refine V.getI dX5_countNewToSee_50 fl_X5_78 (sT0 hT) (Or.inl ⟨rfl, SHL_lt (sT0 hT)⟩) rfl rfl ?_
        refine V.iconst (v := (-1)) dX5_countNewToSee_53 rfl ?_
        refine V.ixor dX5_countNewToSee_54 ?_
        refine V.iand dX5_countNewToSee_55 ?_
        refine V.if_eq (tgt := 63) dX5_countNewToSee_56 (by decide) (fun c13 => ?_) (fun c13 => ?_)
        · simp only [f3] at c13
          refine V.iconst (v := 0) dX5_countNewToSee_63 rfl ?_
          refine V.iadd dX5_countNewToSee_64 ?_
          refine V.nmi (fun x14 ex14 => ?_)
          refine V.istore_n (ls' := [.ref t, .int x14, .int (nI k), .int x2]) dX5_countNewToSee_65 rfl (by decide) rfl ?_
          refine V.iload_n dX5_countNewToSee_66 rfl rfl ?_
          refine V.aload_n dX5_countNewToSee_67 rfl rfl (sT0 hT) ?_
          refine V.getR (r := t + 15) dX5_countNewToSee_68 fl_X5_45 (sT0 hT) (Or.inl ⟨rfl, SHL_lt (sT0 hT)⟩) rfl (rT_seen ly hT) ?_
          refine V.iconst (v := 5) dX5_countNewToSee_71 rfl ?_
          refine V.iload_n dX5_countNewToSee_72 rfl rfl ?_
          refine V.iadd dX5_countNewToSee_73 ?_
          refine V.iaload dX5_countNewToSee_74 (sT15 hT) (Or.inl ⟨rfl, SHL_lt (sT15 hT)⟩) (by rw [show (5 : Int32) = nI 5 from rfl, nI_add]; exact vp_in_nI (by omega) (by decide)) ?_
          rw [show (5 + nI k).toNatClampNeg = 5 + k by rw [show (5 : Int32) = nI 5 from rfl, nI_add]; exact nI_clamp (by omega)]
          refine V.if_ne (tgt := 91) dX5_countNewToSee_75 (by decide) (fun c15 => ?_) (fun c15 => ?_)
          · refine V.iconst (v := 0) dX5_countNewToSee_91 rfl ?_
            refine V.iadd dX5_countNewToSee_92 ?_
            refine V.nmi (fun x16 ex16 => ?_)
            refine V.istore_n (ls' := [.ref t, .int x16, .int (nI k), .int x2]) dX5_countNewToSee_93 rfl (by decide) rfl ?_
            obtain ⟨x17, ex17⟩ : ∃ y : Int32, y = nI k + 1 := ⟨_, rfl⟩
            refine V.iinc (v := x17) (ls' := [.ref t, .int x16, .int x17, .int x2]) dX5_countNewToSee_94 rfl (by decide) ex17.symm rfl ?_
            refine V.goto (tgt := 15) dX5_countNewToSee_97 (by decide) ?_
            rw [ex17, nI_1]
            refine V.less (ls' := [.ref t, .int x16, .int (nI (k + 1)), .null]) ⟨Or.inr rfl, Or.inr rfl, Or.inr rfl, Or.inl rfl, trivial⟩ (ih (k + 1) (by omega) (by omega) _ ?_)
            unfold newN
            rw [← ez, ← ex2, ex16, ex14]
            congr 1
            · congr 1
              symm
              first | exact if_pos ⟨by assumption, by assumption⟩ | exact if_neg (fun q => absurd q.1 (by assumption)) | exact if_neg (fun q => absurd (by assumption) q.2)
            · symm
              first | exact if_pos ⟨by assumption, by assumption⟩ | exact if_neg (fun q => absurd q.1 (by assumption)) | exact if_neg (fun q => absurd (by assumption) q.2)
          · refine V.iload_n dX5_countNewToSee_78 rfl rfl ?_
            refine V.aload_n dX5_countNewToSee_79 rfl rfl (sT0 hT) ?_
            refine V.getI dX5_countNewToSee_80 fl_X5_78 (sT0 hT) (Or.inl ⟨rfl, SHL_lt (sT0 hT)⟩) rfl rfl ?_
            refine V.iand dX5_countNewToSee_83 ?_
            refine V.if_eq (tgt := 91) dX5_countNewToSee_84 (by decide) (fun c18 => ?_) (fun c18 => ?_)
            · simp only [f3] at c18
              refine V.iconst (v := 0) dX5_countNewToSee_91 rfl ?_
              refine V.iadd dX5_countNewToSee_92 ?_
              refine V.nmi (fun x19 ex19 => ?_)
              refine V.istore_n (ls' := [.ref t, .int x19, .int (nI k), .int x2]) dX5_countNewToSee_93 rfl (by decide) rfl ?_
              obtain ⟨x20, ex20⟩ : ∃ y : Int32, y = nI k + 1 := ⟨_, rfl⟩
              refine V.iinc (v := x20) (ls' := [.ref t, .int x19, .int x20, .int x2]) dX5_countNewToSee_94 rfl (by decide) ex20.symm rfl ?_
              refine V.goto (tgt := 15) dX5_countNewToSee_97 (by decide) ?_
              rw [ex20, nI_1]
              refine V.less (ls' := [.ref t, .int x19, .int (nI (k + 1)), .null]) ⟨Or.inr rfl, Or.inr rfl, Or.inr rfl, Or.inl rfl, trivial⟩ (ih (k + 1) (by omega) (by omega) _ ?_)
              unfold newN
              rw [← ez, ← ex2, ex19, ex14]
              congr 1
              · congr 1
                symm
                first | exact if_pos ⟨by assumption, by assumption⟩ | exact if_neg (fun q => absurd q.1 (by assumption)) | exact if_neg (fun q => absurd (by assumption) q.2)
              · symm
                first | exact if_pos ⟨by assumption, by assumption⟩ | exact if_neg (fun q => absurd q.1 (by assumption)) | exact if_neg (fun q => absurd (by assumption) q.2)
            · simp only [f3] at c18
              refine V.iconst (v := 1) dX5_countNewToSee_87 rfl ?_
              refine V.goto (tgt := 92) dX5_countNewToSee_88 (by decide) ?_
              refine V.iadd dX5_countNewToSee_92 ?_
              refine V.nmi (fun x21 ex21 => ?_)
              refine V.istore_n (ls' := [.ref t, .int x21, .int (nI k), .int x2]) dX5_countNewToSee_93 rfl (by decide) rfl ?_
              obtain ⟨x22, ex22⟩ : ∃ y : Int32, y = nI k + 1 := ⟨_, rfl⟩
              refine V.iinc (v := x22) (ls' := [.ref t, .int x21, .int x22, .int x2]) dX5_countNewToSee_94 rfl (by decide) ex22.symm rfl ?_
              refine V.goto (tgt := 15) dX5_countNewToSee_97 (by decide) ?_
              rw [ex22, nI_1]
              refine V.less (ls' := [.ref t, .int x21, .int (nI (k + 1)), .null]) ⟨Or.inr rfl, Or.inr rfl, Or.inr rfl, Or.inl rfl, trivial⟩ (ih (k + 1) (by omega) (by omega) _ ?_)
              unfold newN
              rw [← ez, ← ex2, ex21, ex14]
              congr 1
              · congr 1
                symm
                first | exact if_pos ⟨by assumption, by assumption⟩ | exact if_neg (fun q => absurd q.1 (by assumption)) | exact if_neg (fun q => absurd (by assumption) q.2)
              · symm
                first | exact if_pos ⟨by assumption, by assumption⟩ | exact if_neg (fun q => absurd q.1 (by assumption)) | exact if_neg (fun q => absurd (by assumption) q.2)
        · simp only [f3] at c13
          refine V.iconst (v := 1) dX5_countNewToSee_59 rfl ?_
          refine V.goto (tgt := 64) dX5_countNewToSee_60 (by decide) ?_
          refine V.iadd dX5_countNewToSee_64 ?_
          refine V.nmi (fun x23 ex23 => ?_)
          refine V.istore_n (ls' := [.ref t, .int x23, .int (nI k), .int x2]) dX5_countNewToSee_65 rfl (by decide) rfl ?_
          refine V.iload_n dX5_countNewToSee_66 rfl rfl ?_
          refine V.aload_n dX5_countNewToSee_67 rfl rfl (sT0 hT) ?_
          refine V.getR (r := t + 15) dX5_countNewToSee_68 fl_X5_45 (sT0 hT) (Or.inl ⟨rfl, SHL_lt (sT0 hT)⟩) rfl (rT_seen ly hT) ?_
          refine V.iconst (v := 5) dX5_countNewToSee_71 rfl ?_
          refine V.iload_n dX5_countNewToSee_72 rfl rfl ?_
          refine V.iadd dX5_countNewToSee_73 ?_
          refine V.iaload dX5_countNewToSee_74 (sT15 hT) (Or.inl ⟨rfl, SHL_lt (sT15 hT)⟩) (by rw [show (5 : Int32) = nI 5 from rfl, nI_add]; exact vp_in_nI (by omega) (by decide)) ?_
          rw [show (5 + nI k).toNatClampNeg = 5 + k by rw [show (5 : Int32) = nI 5 from rfl, nI_add]; exact nI_clamp (by omega)]
          refine V.if_ne (tgt := 91) dX5_countNewToSee_75 (by decide) (fun c24 => ?_) (fun c24 => ?_)
          · refine V.iconst (v := 0) dX5_countNewToSee_91 rfl ?_
            refine V.iadd dX5_countNewToSee_92 ?_
            refine V.nmi (fun x25 ex25 => ?_)
            refine V.istore_n (ls' := [.ref t, .int x25, .int (nI k), .int x2]) dX5_countNewToSee_93 rfl (by decide) rfl ?_
            obtain ⟨x26, ex26⟩ : ∃ y : Int32, y = nI k + 1 := ⟨_, rfl⟩
            refine V.iinc (v := x26) (ls' := [.ref t, .int x25, .int x26, .int x2]) dX5_countNewToSee_94 rfl (by decide) ex26.symm rfl ?_
            refine V.goto (tgt := 15) dX5_countNewToSee_97 (by decide) ?_
            rw [ex26, nI_1]
            refine V.less (ls' := [.ref t, .int x25, .int (nI (k + 1)), .null]) ⟨Or.inr rfl, Or.inr rfl, Or.inr rfl, Or.inl rfl, trivial⟩ (ih (k + 1) (by omega) (by omega) _ ?_)
            unfold newN
            rw [← ez, ← ex2, ex25, ex23]
            congr 1
            · congr 1
              symm
              first | exact if_pos ⟨by assumption, by assumption⟩ | exact if_neg (fun q => absurd q.1 (by assumption)) | exact if_neg (fun q => absurd (by assumption) q.2)
            · symm
              first | exact if_pos ⟨by assumption, by assumption⟩ | exact if_neg (fun q => absurd q.1 (by assumption)) | exact if_neg (fun q => absurd (by assumption) q.2)
          · refine V.iload_n dX5_countNewToSee_78 rfl rfl ?_
            refine V.aload_n dX5_countNewToSee_79 rfl rfl (sT0 hT) ?_
            refine V.getI dX5_countNewToSee_80 fl_X5_78 (sT0 hT) (Or.inl ⟨rfl, SHL_lt (sT0 hT)⟩) rfl rfl ?_
            refine V.iand dX5_countNewToSee_83 ?_
            refine V.if_eq (tgt := 91) dX5_countNewToSee_84 (by decide) (fun c27 => ?_) (fun c27 => ?_)
            · simp only [f3] at c27
              refine V.iconst (v := 0) dX5_countNewToSee_91 rfl ?_
              refine V.iadd dX5_countNewToSee_92 ?_
              refine V.nmi (fun x28 ex28 => ?_)
              refine V.istore_n (ls' := [.ref t, .int x28, .int (nI k), .int x2]) dX5_countNewToSee_93 rfl (by decide) rfl ?_
              obtain ⟨x29, ex29⟩ : ∃ y : Int32, y = nI k + 1 := ⟨_, rfl⟩
              refine V.iinc (v := x29) (ls' := [.ref t, .int x28, .int x29, .int x2]) dX5_countNewToSee_94 rfl (by decide) ex29.symm rfl ?_
              refine V.goto (tgt := 15) dX5_countNewToSee_97 (by decide) ?_
              rw [ex29, nI_1]
              refine V.less (ls' := [.ref t, .int x28, .int (nI (k + 1)), .null]) ⟨Or.inr rfl, Or.inr rfl, Or.inr rfl, Or.inl rfl, trivial⟩ (ih (k + 1) (by omega) (by omega) _ ?_)
              unfold newN
              rw [← ez, ← ex2, ex28, ex23]
              congr 1
              · congr 1
                symm
                first | exact if_pos ⟨by assumption, by assumption⟩ | exact if_neg (fun q => absurd q.1 (by assumption)) | exact if_neg (fun q => absurd (by assumption) q.2)
              · symm
                first | exact if_pos ⟨by assumption, by assumption⟩ | exact if_neg (fun q => absurd q.1 (by assumption)) | exact if_neg (fun q => absurd (by assumption) q.2)
            · simp only [f3] at c27
              refine V.iconst (v := 1) dX5_countNewToSee_87 rfl ?_
              refine V.goto (tgt := 92) dX5_countNewToSee_88 (by decide) ?_
              refine V.iadd dX5_countNewToSee_92 ?_
              refine V.nmi (fun x30 ex30 => ?_)
              refine V.istore_n (ls' := [.ref t, .int x30, .int (nI k), .int x2]) dX5_countNewToSee_93 rfl (by decide) rfl ?_
              obtain ⟨x31, ex31⟩ : ∃ y : Int32, y = nI k + 1 := ⟨_, rfl⟩
              refine V.iinc (v := x31) (ls' := [.ref t, .int x30, .int x31, .int x2]) dX5_countNewToSee_94 rfl (by decide) ex31.symm rfl ?_
              refine V.goto (tgt := 15) dX5_countNewToSee_97 (by decide) ?_
              rw [ex31, nI_1]
              refine V.less (ls' := [.ref t, .int x30, .int (nI (k + 1)), .null]) ⟨Or.inr rfl, Or.inr rfl, Or.inr rfl, Or.inl rfl, trivial⟩ (ih (k + 1) (by omega) (by omega) _ ?_)
              unfold newN
              rw [← ez, ← ex2, ex30, ex23]
              congr 1
              · congr 1
                symm
                first | exact if_pos ⟨by assumption, by assumption⟩ | exact if_neg (fun q => absurd q.1 (by assumption)) | exact if_neg (fun q => absurd (by assumption) q.2)
              · symm
                first | exact if_pos ⟨by assumption, by assumption⟩ | exact if_neg (fun q => absurd q.1 (by assumption)) | exact if_neg (fun q => absurd (by assumption) q.2)
