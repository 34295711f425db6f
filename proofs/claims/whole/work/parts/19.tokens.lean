/-! ===== the class's tokens: how a text is cut into them ===== -/
/-- past what b says, from p on, n places at most -/
def runN (b : Nat → Bool) : Nat → Nat → Nat
  | 0, p => p
  | n + 1, p => if b p then runN b n (p + 1) else p
theorem runN_step {b : Nat → Bool} {p L : Nat} (h : p < L) (hb : b p = true) : runN b (L - p) p = runN b (L - (p + 1)) (p + 1) := by
  rw [show L - p = (L - (p + 1)) + 1 by omega, runN, if_pos hb]
theorem runN_stop {b : Nat → Bool} {p L : Nat} (h : L ≤ p ∨ b p = false) : runN b (L - p) p = p := by
  rcases h with h | h
  · rw [Nat.sub_eq_zero_of_le h]; rfl
  · cases hn : L - p with
    | zero => rfl
    | succ n => rw [runN, if_neg (by rw [h]; decide)]
theorem runN_le (b : Nat → Bool) : ∀ n p, runN b n p ≤ p + n
  | 0, p => Nat.le_refl _
  | n + 1, p => by
    unfold runN; split
    · have := runN_le b n (p + 1); omega
    · omega
theorem runN_ge (b : Nat → Bool) : ∀ n p, p ≤ runN b n p
  | 0, p => Nat.le_refl _
  | n + 1, p => by
    unfold runN; split
    · have := runN_ge b n (p + 1); omega
    · omega
def isBl (T : Nat → Int32) (i : Nat) : Bool := decide (T i = 32 ∨ T i = 10)
def isLo (T : Nat → Int32) (i : Nat) : Bool := decide (97 ≤ T i ∧ T i ≤ 122)
def isDi (T : Nat → Int32) (i : Nat) : Bool := decide (48 ≤ T i ∧ T i ≤ 57)
def skipT (T : Nat → Int32) (L p : Nat) : Nat := runN (isBl T) (L - p) p
def wEnd (T : Nat → Int32) (L p : Nat) : Nat := runN (isLo T) (L - p) p
def dEnd (T : Nat → Int32) (L p : Nat) : Nat := runN (isDi T) (L - p) p
/-- the letters of a word as one number -/
def codN (T : Nat → Int32) (s : Nat) : Nat → Int64
  | 0 => 0
  | i + 1 => if i < 8 then codN T s i * 27 + (T (s + i) - 97 + 1).toInt64 else -1
def numN (T : Nat → Int32) (s : Nat) : Nat → Int32
  | 0 => 0
  | i + 1 => if i < 4 then numN T s i * 10 + (T (s + i) - 48) else 0
def kwN (c : Nat → Int64) (x : Int64) : Nat → Int32
  | 0 => -1
  | k + 1 => if c k = x then nI k else kwN c x k
set_option maxRecDepth 100000 in
theorem lp_X4_skipBlanks {h0 h1 : HP} (hn : h0.1 = 130) (ly : Lay h1) {L : Nat} (hL9 : L ≤ 900) (hlen : hI h1 5 8 = nI L) {f : Int32} {E : Nat} {P : Int32 → HP → Prop} (hP : P (nI E) h1) : ∀ n k, k ≤ L → L + 1 ≤ k + n → runN (isBl (hI h1 6)) (L - k) k = E →
    V cX4_skipBlanks miX4_skipBlanks (ZM h0 miX4_skipBlanks.2.2.2.1 (pI P)) 130 2 [.ref 5, .int f, .int (nI k)] [] (h1) := by
  intro n
  induction n with
  | zero => intro k h1 h2; exact absurd h2 (by omega)
  | succ n ih =>
    intro k hk hkn hE
    refine V.iload_n dX4_skipBlanks_2 rfl rfl ?_
    refine V.aload_n dX4_skipBlanks_3 rfl rfl rfl ?_
    refine V.getI dX4_skipBlanks_4 fl_X4_65 rfl (Or.inl ⟨rfl, SHL_lt rfl⟩) rfl rfl ?_
    refine V.icmp_ge (tgt := 38) dX4_skipBlanks_7 (by decide) (fun c1 => ?_) (fun c1 => ?_)
    · have hk2 : k = L := by have h9 := c1; rw [hlen, nI_leI (by omega) (by omega)] at h9; omega
      refine V.iload_n dX4_skipBlanks_38 rfl rfl ?_
      refine V.ireturn dX4_skipBlanks_39 rfl rfl ⟨rfl, rfl⟩ hn ?_
      rw [show k = E from (by rw [← hE]; exact (runN_stop (by first | exact Or.inl (by omega) | exact Or.inr (by unfold isBl; exact decide_eq_false_iff_not.mpr (fun q => q.elim (by assumption) (by assumption))))).symm)]
      exact hP
    · have hlt : k < L := by have h9 := c1; rw [hlen, nI_leI (by omega) (by omega)] at h9; omega
      refine V.aload_n dX4_skipBlanks_10 rfl rfl rfl ?_
      refine V.getR (r := 6) dX4_skipBlanks_11 fl_X4_11 rfl (Or.inl ⟨rfl, SHL_lt rfl⟩) rfl (ly_5_0 ly) ?_
      refine V.iload_n dX4_skipBlanks_14 rfl rfl ?_
      refine V.baload dX4_skipBlanks_15 rfl (Or.inl ⟨rfl, SHL_lt rfl⟩) (vp_in_nI (show k < 900 by omega) (by decide)) ?_
      rw [nI_clamp (show k < 2 ^ 31 by omega)]
      refine V.bipush (v := 32) dX4_skipBlanks_16 rfl ?_
      refine V.icmp_eq (tgt := 32) dX4_skipBlanks_18 (by decide) (fun c2 => ?_) (fun c2 => ?_)
      · obtain ⟨x3, ex3⟩ : ∃ y : Int32, y = nI k + 1 := ⟨_, rfl⟩
        refine V.iinc (v := x3) (ls' := [.ref 5, .int f, .int x3]) dX4_skipBlanks_32 rfl (by decide) ex3.symm rfl ?_
        refine V.goto (tgt := 2) dX4_skipBlanks_35 (by decide) ?_
        rw [ex3, nI_1]
        exact ih (k + 1) (by omega) (by omega) (by rw [← hE]; exact (runN_step hlt (by unfold isBl; exact decide_eq_true_iff.mpr (by first | exact Or.inl (by assumption) | exact Or.inr (by assumption)))).symm)
      · refine V.aload_n dX4_skipBlanks_21 rfl rfl rfl ?_
        refine V.getR (r := 6) dX4_skipBlanks_22 fl_X4_11 rfl (Or.inl ⟨rfl, SHL_lt rfl⟩) rfl (ly_5_0 ly) ?_
        refine V.iload_n dX4_skipBlanks_25 rfl rfl ?_
        refine V.baload dX4_skipBlanks_26 rfl (Or.inl ⟨rfl, SHL_lt rfl⟩) (vp_in_nI (show k < 900 by omega) (by decide)) ?_
        rw [nI_clamp (show k < 2 ^ 31 by omega)]
        refine V.bipush (v := 10) dX4_skipBlanks_27 rfl ?_
        refine V.icmp_ne (tgt := 38) dX4_skipBlanks_29 (by decide) (fun c4 => ?_) (fun c4 => ?_)
        · refine V.iload_n dX4_skipBlanks_38 rfl rfl ?_
          refine V.ireturn dX4_skipBlanks_39 rfl rfl ⟨rfl, rfl⟩ hn ?_
          rw [show k = E from (by rw [← hE]; exact (runN_stop (by first | exact Or.inl (by omega) | exact Or.inr (by unfold isBl; exact decide_eq_false_iff_not.mpr (fun q => q.elim (by assumption) (by assumption))))).symm)]
          exact hP
        · obtain ⟨x5, ex5⟩ : ∃ y : Int32, y = nI k + 1 := ⟨_, rfl⟩
          refine V.iinc (v := x5) (ls' := [.ref 5, .int f, .int x5]) dX4_skipBlanks_32 rfl (by decide) ex5.symm rfl ?_
          refine V.goto (tgt := 2) dX4_skipBlanks_35 (by decide) ?_
          rw [ex5, nI_1]
          exact ih (k + 1) (by omega) (by omega) (by rw [← hE]; exact (runN_step hlt (by unfold isBl; exact decide_eq_true_iff.mpr (by first | exact Or.inl (by assumption) | exact Or.inr (by assumption)))).symm)
set_option maxRecDepth 100000 in
theorem sp_X4_skipBlanks {h : HP} (ly : Lay h) {L : Nat} (hL9 : L ≤ 900) (hlen : hI h 5 8 = nI L) {p : Nat} (hp : p ≤ L) : Spec yX4_skipBlanks cX4_skipBlanks miX4_skipBlanks [.ref 5, .int (nI p)] h (pI fun r h' => r = nI (skipT (hI h 6) L p) ∧ h' = h) := by
  refine Spec.of (ls0 := [.ref 5, .int (nI p), .null]) mo_X4_skipBlanks (Nat.le_of_ble_eq_true rfl) rfl ?_
  rw [ly.1]
  refine V.iload_n dX4_skipBlanks_0 rfl rfl ?_
  refine V.istore_n (ls' := [.ref 5, .int (nI p), .int (nI p)]) dX4_skipBlanks_1 rfl (by decide) rfl ?_
  exact lp_X4_skipBlanks ly.1 ly hL9 hlen (E := skipT (hI h 6) L p) ⟨rfl, rfl⟩ (L + 1) p (by omega) (by omega) rfl
/-- one token more -/
def noteH (h : HP) (n : Nat) (kind s len v : Int32) : HP := uI (uI (uI (uI (uI h 8 n kind) 9 n s) 10 n len) 11 n v) 5 9 (nI (n + 1))
theorem hI_uI95 (h : HP) {a : Nat} (i : Nat) (x : Int32) (ha : a ≠ 5) : hI (uI h a i x) 5 = hI h 5 := hI_rI_n _ _ (Ne.symm ha)
set_option maxRecDepth 100000 in
theorem sp_X4_note {h : HP} (ly : Lay h) {n : Nat} (hn9 : n ≤ 900) (hct : hI h 5 9 = nI n) (kind s len v : Int32) (hk : kind.toInt8.toInt32 = kind) (hs : s.toInt16.toInt32 = s) (hl : len.toInt16.toInt32 = len) : Spec yX4_note cX4_note miX4_note [.ref 5, .int kind, .int s, .int len, .int v] h (pV fun h' => h' = noteH h n kind s len v.toInt16.toInt32) := by
  refine Spec.of (ls0 := [.ref 5, .int kind, .int s, .int len, .int v]) mo_X4_note (Nat.le_of_ble_eq_true rfl) rfl ?_
  rw [ly.1]
  refine V.aload_n dX4_note_0 rfl rfl rfl ?_
  refine V.getI dX4_note_1 fl_X4_67 rfl (Or.inl ⟨rfl, SHL_lt rfl⟩) rfl rfl ?_
  refine V.sipush (v := 900) dX4_note_4 rfl ?_
  refine V.icmp_gt (tgt := 65) dX4_note_7 (by decide) (fun c1 => ?_) (fun c1 => ?_)
  · exact absurd c1 (by rw [hct, show (900 : Int32) = nI 900 from rfl, ← Int32.not_le, nI_leI (by omega) (by omega)]; omega)
  · refine V.aload_n dX4_note_10 rfl rfl rfl ?_
    refine V.getR (r := 8) dX4_note_11 fl_X4_19 rfl (Or.inl ⟨rfl, SHL_lt rfl⟩) rfl (ly_5_2 ly) ?_
    refine V.aload_n dX4_note_14 rfl rfl rfl ?_
    refine V.getI dX4_note_15 fl_X4_67 rfl (Or.inl ⟨rfl, SHL_lt rfl⟩) rfl rfl ?_
    simp only [hI_uI95 _ _ _ (show (8 : Nat) ≠ 5 by decide), hI_uI95 _ _ _ (show (9 : Nat) ≠ 5 by decide), hI_uI95 _ _ _ (show (10 : Nat) ≠ 5 by decide), hI_uI95 _ _ _ (show (11 : Nat) ≠ 5 by decide), hct]
    refine V.iload_n dX4_note_18 rfl rfl ?_
    refine V.i2b dX4_note_19 ?_
    refine V.bastore dX4_note_20 rfl (Or.inl ⟨rfl, SHL_lt rfl⟩) (vp_in_nI (show n < 901 by omega) (by decide)) ?_
    rw [nI_clamp (show n < 2 ^ 31 by omega)]
    refine V.aload_n dX4_note_21 rfl rfl rfl ?_
    refine V.getR (r := 9) dX4_note_22 fl_X4_22 rfl (Or.inl ⟨rfl, SHL_lt rfl⟩) rfl (ly_5_3 ly) ?_
    refine V.aload_n dX4_note_25 rfl rfl rfl ?_
    refine V.getI dX4_note_26 fl_X4_67 rfl (Or.inl ⟨rfl, SHL_lt rfl⟩) rfl rfl ?_
    simp only [hI_uI95 _ _ _ (show (8 : Nat) ≠ 5 by decide), hI_uI95 _ _ _ (show (9 : Nat) ≠ 5 by decide), hI_uI95 _ _ _ (show (10 : Nat) ≠ 5 by decide), hI_uI95 _ _ _ (show (11 : Nat) ≠ 5 by decide), hct]
    refine V.iload_n dX4_note_29 rfl rfl ?_
    refine V.i2s dX4_note_30 ?_
    refine V.sastore dX4_note_31 rfl (Or.inl ⟨rfl, SHL_lt rfl⟩) (vp_in_nI (show n < 901 by omega) (by decide)) ?_
    rw [nI_clamp (show n < 2 ^ 31 by omega)]
    refine V.aload_n dX4_note_32 rfl rfl rfl ?_
    refine V.getR (r := 10) dX4_note_33 fl_X4_26 rfl (Or.inl ⟨rfl, SHL_lt rfl⟩) rfl (ly_5_4 ly) ?_
    refine V.aload_n dX4_note_36 rfl rfl rfl ?_
    refine V.getI dX4_note_37 fl_X4_67 rfl (Or.inl ⟨rfl, SHL_lt rfl⟩) rfl rfl ?_
    simp only [hI_uI95 _ _ _ (show (8 : Nat) ≠ 5 by decide), hI_uI95 _ _ _ (show (9 : Nat) ≠ 5 by decide), hI_uI95 _ _ _ (show (10 : Nat) ≠ 5 by decide), hI_uI95 _ _ _ (show (11 : Nat) ≠ 5 by decide), hct]
    refine V.iload_n dX4_note_40 rfl rfl ?_
    refine V.i2s dX4_note_41 ?_
    refine V.sastore dX4_note_42 rfl (Or.inl ⟨rfl, SHL_lt rfl⟩) (vp_in_nI (show n < 901 by omega) (by decide)) ?_
    rw [nI_clamp (show n < 2 ^ 31 by omega)]
    refine V.aload_n dX4_note_43 rfl rfl rfl ?_
    refine V.getR (r := 11) dX4_note_44 fl_X4_29 rfl (Or.inl ⟨rfl, SHL_lt rfl⟩) rfl (ly_5_5 ly) ?_
    refine V.aload_n dX4_note_47 rfl rfl rfl ?_
    refine V.getI dX4_note_48 fl_X4_67 rfl (Or.inl ⟨rfl, SHL_lt rfl⟩) rfl rfl ?_
    simp only [hI_uI95 _ _ _ (show (8 : Nat) ≠ 5 by decide), hI_uI95 _ _ _ (show (9 : Nat) ≠ 5 by decide), hI_uI95 _ _ _ (show (10 : Nat) ≠ 5 by decide), hI_uI95 _ _ _ (show (11 : Nat) ≠ 5 by decide), hct]
    refine V.iload dX4_note_51 rfl ?_
    refine V.i2s dX4_note_53 ?_
    refine V.sastore dX4_note_54 rfl (Or.inl ⟨rfl, SHL_lt rfl⟩) (vp_in_nI (show n < 901 by omega) (by decide)) ?_
    rw [nI_clamp (show n < 2 ^ 31 by omega)]
    refine V.aload_n dX4_note_55 rfl rfl rfl ?_
    refine V.dup dX4_note_56 rfl ?_
    refine V.getI dX4_note_57 fl_X4_67 rfl (Or.inl ⟨rfl, SHL_lt rfl⟩) rfl rfl ?_
    simp only [hI_uI95 _ _ _ (show (8 : Nat) ≠ 5 by decide), hI_uI95 _ _ _ (show (9 : Nat) ≠ 5 by decide), hI_uI95 _ _ _ (show (10 : Nat) ≠ 5 by decide), hI_uI95 _ _ _ (show (11 : Nat) ≠ 5 by decide), hct]
    refine V.iconst (v := 1) dX4_note_60 rfl ?_
    refine V.iadd dX4_note_61 ?_
    refine V.putI dX4_note_62 fl_X4_67 rfl (Or.inl ⟨rfl, SHL_lt rfl⟩) rfl (fun q hq => by cases hq; rfl) ⟨rfl, rfl⟩ ?_
    refine V.vreturn' dX4_note_65 rfl ly.1 (Or.inl ⟨rfl, rfl⟩) ?_
    unfold noteH
    simp only [n8_n8, n16_n16, hk, hs, hl, nI_1]
set_option maxRecDepth 100000 in
theorem lp_X4_addWord_a {h0 h1 : HP} (hn : h0.1 = 130) (ly : Lay h1) {L : Nat} (hL9 : L ≤ 900) (hlen : hI h1 5 8 = nI L) {s E : Nat} {P : Int32 → HP → Prop} (hx : V cX4_addWord miX4_addWord (ZM h0 miX4_addWord.2.2.2.1 (pI P)) 130 73 [.ref 5, .int (nI s), .int (nI E), .long (codN (hI h1 6) s (E - s)), .null, .null, .null] [] h1) : ∀ n k, L + 1 ≤ s + k + n → s + k ≤ L → ∀ c, c = codN (hI h1 6) s k → runN (isLo (hI h1 6)) (L - (s + k)) (s + k) = E →
    V cX4_addWord miX4_addWord (ZM h0 miX4_addWord.2.2.2.1 (pI P)) 130 4 [.ref 5, .int (nI s), .int (nI (s + k)), .long c, .null, .null, .null] [] h1 := by
  intro n
  induction n with
  | zero => intro k h1 h2; exact absurd h1 (by omega)
  | succ n ih =>
    intro k hkn hk c ec hE
    refine V.iload_n dX4_addWord_4 rfl rfl ?_
    refine V.aload_n dX4_addWord_5 rfl rfl rfl ?_
    refine V.getI dX4_addWord_6 fl_X4_65 rfl (Or.inl ⟨rfl, SHL_lt rfl⟩) rfl rfl ?_
    refine V.icmp_ge (tgt := 73) dX4_addWord_9 (by decide) (fun c1 => ?_) (fun c1 => ?_)
    · have hse : s + k = E := by rw [← hE]; exact (runN_stop (Or.inl (by have h9 := c1; rw [hlen, nI_leI (by omega) (by omega)] at h9; omega))).symm
      rw [ec, hse, show k = E - s by omega]
      exact hx
    · have hlt : s + k < L := by have h9 := c1; rw [hlen, nI_leI (by omega) (by omega)] at h9; omega
      refine V.aload_n dX4_addWord_12 rfl rfl rfl ?_
      refine V.getR (r := 6) dX4_addWord_13 fl_X4_11 rfl (Or.inl ⟨rfl, SHL_lt rfl⟩) rfl (ly_5_0 ly) ?_
      refine V.iload_n dX4_addWord_16 rfl rfl ?_
      refine V.baload dX4_addWord_17 rfl (Or.inl ⟨rfl, SHL_lt rfl⟩) (vp_in_nI (show s + k < 900 by omega) (by decide)) ?_
      rw [nI_clamp (show (s + k) < 2 ^ 31 by omega)]
      refine V.bipush (v := 97) dX4_addWord_18 rfl ?_
      refine V.icmp_lt (tgt := 73) dX4_addWord_20 (by decide) (fun c2 => ?_) (fun c2 => ?_)
      · have hse : s + k = E := by rw [← hE]; exact (runN_stop (Or.inr (by unfold isLo; exact decide_eq_false_iff_not.mpr (fun q => by first | exact absurd q.1 (Int32.not_le.mpr (by assumption)) | exact absurd (Int32.not_lt.mpr q.2) (by first | assumption | exact Decidable.not_not.mpr (by assumption)))))).symm
        rw [ec, hse, show k = E - s by omega]
        exact hx
      · refine V.aload_n dX4_addWord_23 rfl rfl rfl ?_
        refine V.getR (r := 6) dX4_addWord_24 fl_X4_11 rfl (Or.inl ⟨rfl, SHL_lt rfl⟩) rfl (ly_5_0 ly) ?_
        refine V.iload_n dX4_addWord_27 rfl rfl ?_
        refine V.baload dX4_addWord_28 rfl (Or.inl ⟨rfl, SHL_lt rfl⟩) (vp_in_nI (show s + k < 900 by omega) (by decide)) ?_
        rw [nI_clamp (show (s + k) < 2 ^ 31 by omega)]
        refine V.bipush (v := 122) dX4_addWord_29 rfl ?_
        refine V.icmp_gt (tgt := 73) dX4_addWord_31 (by decide) (fun c3 => ?_) (fun c3 => ?_)
        · have hse : s + k = E := by rw [← hE]; exact (runN_stop (Or.inr (by unfold isLo; exact decide_eq_false_iff_not.mpr (fun q => by first | exact absurd q.1 (Int32.not_le.mpr (by assumption)) | exact absurd (Int32.not_lt.mpr q.2) (by first | assumption | exact Decidable.not_not.mpr (by assumption)))))).symm
          rw [ec, hse, show k = E - s by omega]
          exact hx
        · refine V.iload_n dX4_addWord_34 rfl rfl ?_
          refine V.iload_n dX4_addWord_35 rfl rfl ?_
          refine V.isub dX4_addWord_36 ?_
          refine V.bipush (v := 8) dX4_addWord_37 rfl ?_
          refine V.icmp_ge (tgt := 63) dX4_addWord_39 (by decide) (fun c4 => ?_) (fun c4 => ?_)
          · have hk8 : ¬ k < 8 := by have h9 := c4; rw [nI_sub (show s ≤ s + k by omega), Nat.add_sub_cancel_left, show (8 : Int32) = nI 8 from rfl, nI_leI (by omega) (by omega)] at h9; omega
            refine V.ldc2 (v := (-1)) dX4_addWord_63 kc_X4_90 ?_
            refine V.lstore_n (ls' := [.ref 5, .int (nI s), .int (nI (s + k)), .long ((-1)), .null, .null, .null]) dX4_addWord_66 rfl (by decide) rfl ?_
            obtain ⟨x5, ex5⟩ : ∃ y : Int32, y = nI (s + k) + 1 := ⟨_, rfl⟩
            refine V.iinc (v := x5) (ls' := [.ref 5, .int (nI s), .int x5, .long ((-1)), .null, .null, .null]) dX4_addWord_67 rfl (by decide) ex5.symm rfl ?_
            refine V.goto (tgt := 4) dX4_addWord_70 (by decide) ?_
            rw [ex5, show nI (s + k) + 1 = nI (s + (k + 1)) from nI_1 _]
            exact ih (k + 1) (by omega) (by omega) _ (by rw [codN]; first | (rw [if_pos hk8, ← ec]; done) | (rw [if_neg hk8])) (by rw [← hE]; exact (runN_step hlt (by unfold isLo; exact decide_eq_true_iff.mpr ⟨Int32.not_lt.mp (by assumption), by first | assumption | exact Int32.not_lt.mp (by assumption)⟩)).symm)
          · have hk8 : k < 8 := by have h9 := c4; rw [nI_sub (show s ≤ s + k by omega), Nat.add_sub_cancel_left, show (8 : Int32) = nI 8 from rfl, nI_leI (by omega) (by omega)] at h9; omega
            refine V.lload_n dX4_addWord_42 rfl rfl ?_
            refine V.ldc2 (v := 27) dX4_addWord_43 kc_X4_54 ?_
            refine V.lmul dX4_addWord_46 ?_
            refine V.aload_n dX4_addWord_47 rfl rfl rfl ?_
            refine V.getR (r := 6) dX4_addWord_48 fl_X4_11 rfl (Or.inl ⟨rfl, SHL_lt rfl⟩) rfl (ly_5_0 ly) ?_
            refine V.iload_n dX4_addWord_51 rfl rfl ?_
            refine V.baload dX4_addWord_52 rfl (Or.inl ⟨rfl, SHL_lt rfl⟩) (vp_in_nI (show s + k < 900 by omega) (by decide)) ?_
            rw [nI_clamp (show (s + k) < 2 ^ 31 by omega)]
            refine V.bipush (v := 97) dX4_addWord_53 rfl ?_
            refine V.isub dX4_addWord_55 ?_
            refine V.iconst (v := 1) dX4_addWord_56 rfl ?_
            refine V.iadd dX4_addWord_57 ?_
            refine V.i2l dX4_addWord_58 ?_
            refine V.ladd dX4_addWord_59 ?_
            refine V.goto (tgt := 66) dX4_addWord_60 (by decide) ?_
            refine V.nml (fun x6 ex6 => ?_)
            refine V.lstore_n (ls' := [.ref 5, .int (nI s), .int (nI (s + k)), .long x6, .null, .null, .null]) dX4_addWord_66 rfl (by decide) rfl ?_
            obtain ⟨x7, ex7⟩ : ∃ y : Int32, y = nI (s + k) + 1 := ⟨_, rfl⟩
            refine V.iinc (v := x7) (ls' := [.ref 5, .int (nI s), .int x7, .long x6, .null, .null, .null]) dX4_addWord_67 rfl (by decide) ex7.symm rfl ?_
            refine V.goto (tgt := 4) dX4_addWord_70 (by decide) ?_
            rw [ex7, show nI (s + k) + 1 = nI (s + (k + 1)) from nI_1 _]
            exact ih (k + 1) (by omega) (by omega) _ (by rw [ex6, codN]; first | (rw [if_pos hk8, ← ec]; done) | (rw [if_neg hk8])) (by rw [← hE]; exact (runN_step hlt (by unfold isLo; exact decide_eq_true_iff.mpr ⟨Int32.not_lt.mp (by assumption), by first | assumption | exact Int32.not_lt.mp (by assumption)⟩)).symm)
set_option maxRecDepth 100000 in
theorem lp_X4_addWord_b {h0 h1 : HP} (hn : h0.1 = 130) (ly : Lay h1) {L : Nat} (hL9 : L ≤ 900) (hlen : hI h1 5 8 = nI L) {s E : Nat} {c : Int64} {P : Int32 → HP → Prop} (hx : V cX4_addWord miX4_addWord (ZM h0 miX4_addWord.2.2.2.1 (pI P)) 130 108 [.ref 5, .int (nI s), .int (nI E), .long c, .null, .int (kwN (hL h1 7) c 22), .null] [] h1) : ∀ n k, k ≤ 22 → 22 + 1 ≤ k + n → ∀ z, z = kwN (hL h1 7) c k →
    V cX4_addWord miX4_addWord (ZM h0 miX4_addWord.2.2.2.1 (pI P)) 130 79 [.ref 5, .int (nI s), .int (nI E), .long c, .null, .int z, .int (nI k)] [] (h1) := by
  intro n
  induction n with
  | zero => intro k h1 h2; exact absurd h2 (by omega)
  | succ n ih =>
    intro k hk hkn z ez
    refine V.iload dX4_addWord_79 rfl ?_
    refine V.bipush (v := 22) dX4_addWord_81 rfl ?_
    refine V.icmp_ge (tgt := 108) dX4_addWord_83 (by decide) (fun c1 => ?_) (fun c1 => ?_)
    · have hk2 : k = 22 := by have h9 := c1; rw [show (22 : Int32) = nI 22 from rfl, nI_leI (by omega) (by omega)] at h9; omega
      subst hk2
      rw [ez]
      exact V.less (ls' := [.ref 5, .int (nI s), .int (nI E), .long c, .null, .int (kwN (hL h1 7) c 22), .null]) ⟨Or.inr rfl, Or.inr rfl, Or.inr rfl, Or.inr rfl, Or.inl rfl, Or.inr rfl, Or.inl rfl, trivial⟩ hx
    · have hlt : k < 22 := by have h9 := c1; rw [show (22 : Int32) = nI 22 from rfl, nI_leI (by omega) (by omega)] at h9; omega
      refine V.aload_n dX4_addWord_86 rfl rfl rfl ?_
      refine V.getR (r := 7) dX4_addWord_87 fl_X4_15 rfl (Or.inl ⟨rfl, SHL_lt rfl⟩) rfl (ly_5_1 ly) ?_
      refine V.iload dX4_addWord_90 rfl ?_
      refine V.laload dX4_addWord_92 rfl (Or.inl ⟨rfl, SHL_lt rfl⟩) (vp_in_nI (show k < 22 by omega) (by decide)) ?_
      rw [nI_clamp (show k < 2 ^ 31 by omega)]
      refine V.lload_n dX4_addWord_93 rfl rfl ?_
      refine V.lcmp dX4_addWord_94 ?_
      refine V.if_ne (tgt := 102) dX4_addWord_95 (by decide) (fun c2 => ?_) (fun c2 => ?_)
      · obtain ⟨x3, ex3⟩ : ∃ y : Int32, y = nI k + 1 := ⟨_, rfl⟩
        refine V.iinc (v := x3) (ls' := [.ref 5, .int (nI s), .int (nI E), .long c, .null, .int z, .int x3]) dX4_addWord_102 rfl (by decide) ex3.symm rfl ?_
        refine V.goto (tgt := 79) dX4_addWord_105 (by decide) ?_
        rw [ex3, nI_1]
        refine ih (k + 1) (by omega) (by omega) _ ?_
        rw [kwN]
        have h9 := c2
        rw [lg_cmp_eq] at h9
        first | (rw [if_pos h9]; done) | (rw [if_neg h9]; exact ez)
      · refine V.iload dX4_addWord_98 rfl ?_
        refine V.istore (ls' := [.ref 5, .int (nI s), .int (nI E), .long c, .null, .int (nI k), .int (nI k)]) dX4_addWord_100 (by decide) rfl ?_
        obtain ⟨x4, ex4⟩ : ∃ y : Int32, y = nI k + 1 := ⟨_, rfl⟩
        refine V.iinc (v := x4) (ls' := [.ref 5, .int (nI s), .int (nI E), .long c, .null, .int (nI k), .int x4]) dX4_addWord_102 rfl (by decide) ex4.symm rfl ?_
        refine V.goto (tgt := 79) dX4_addWord_105 (by decide) ?_
        rw [ex4, nI_1]
        refine ih (k + 1) (by omega) (by omega) _ ?_
        rw [kwN]
        have h9 := c2
        rw [lg_cmp_eq] at h9
        first | (rw [if_pos h9]; done) | (rw [if_neg h9]; exact ez)
theorem wEnd_ge (T : Nat → Int32) (L p : Nat) : p ≤ wEnd T L p := runN_ge _ _ _
theorem dEnd_ge (T : Nat → Int32) (L p : Nat) : p ≤ dEnd T L p := runN_ge _ _ _
theorem wEnd_le (T : Nat → Int32) {L p : Nat} (h : p ≤ L) : wEnd T L p ≤ L := by have := runN_le (isLo T) (L - p) p; unfold wEnd; omega
theorem dEnd_le (T : Nat → Int32) {L p : Nat} (h : p ≤ L) : dEnd T L p ≤ L := by have := runN_le (isDi T) (L - p) p; unfold dEnd; omega
theorem skipT_ge (T : Nat → Int32) (L p : Nat) : p ≤ skipT T L p := runN_ge _ _ _
theorem skipT_le (T : Nat → Int32) {L p : Nat} (h : p ≤ L) : skipT T L p ≤ L := by have := runN_le (isBl T) (L - p) p; unfold skipT; omega
theorem kwN_16 (c : Nat → Int64) (x : Int64) : ∀ k, k ≤ 22 → (kwN c x k).toInt16.toInt32 = kwN c x k
  | 0, _ => rfl
  | k + 1, h => by
    unfold kwN; split
    · exact n16_nI (by omega)
    · exact kwN_16 c x k (by omega)
set_option maxRecDepth 100000 in
theorem sp_X4_addWord {h : HP} (ly : Lay h) {L : Nat} (hL9 : L ≤ 900) (hlen : hI h 5 8 = nI L) {n : Nat} (hn9 : n ≤ 900) (hct : hI h 5 9 = nI n) {s : Nat} (hs : s < L)  : Spec yX4_addWord cX4_addWord miX4_addWord [.ref 5, .int (nI s)] h (pI fun r h' => r = nI (wEnd (hI h 6) L s - s) ∧ h' = (noteH (uL h 12 n (codN (hI h 6) s (wEnd (hI h 6) L s - s))) n 4 (nI s) (nI (wEnd (hI h 6) L s - s)) (kwN (hL h 7) (codN (hI h 6) s (wEnd (hI h 6) L s - s)) 22))) := by
  refine Spec.of (ls0 := [.ref 5, .int (nI s), .null, .null, .null, .null, .null]) mo_X4_addWord (Nat.le_of_ble_eq_true rfl) rfl ?_
  rw [ly.1]
  refine V.iload_n dX4_addWord_0 rfl rfl ?_
  refine V.istore_n (ls' := [.ref 5, .int (nI s), .int (nI s), .null, .null, .null, .null]) dX4_addWord_1 rfl (by decide) rfl ?_
  refine V.lconst (v := 0) dX4_addWord_2 rfl ?_
  refine V.lstore_n (ls' := [.ref 5, .int (nI s), .int (nI s), .long 0, .null, .null, .null]) dX4_addWord_3 rfl (by decide) rfl ?_
  obtain ⟨E, eE⟩ : ∃ E, E = wEnd (hI h 6) L s := ⟨_, rfl⟩
  have hE1 : s ≤ E := by rw [eE]; exact wEnd_ge _ _ _
  have hE2 : E ≤ L := by rw [eE]; exact wEnd_le _ (by omega)
  rw [← eE]
  refine lp_X4_addWord_a (h0 := h) ly.1 ly hL9 hlen (E := E) ?_ (L + 1) 0 (by omega) (by omega) 0 rfl eE.symm
  obtain ⟨c, ec⟩ : ∃ c, c = codN (hI h 6) s (E - s) := ⟨_, rfl⟩
  rw [← ec]
  refine V.iconst (v := (-1)) dX4_addWord_73 rfl ?_
  refine V.istore (ls' := [.ref 5, .int (nI s), .int (nI E), .long c, .null, .int ((-1)), .null]) dX4_addWord_74 (by decide) rfl ?_
  refine V.iconst (v := 0) dX4_addWord_76 rfl ?_
  refine V.istore (ls' := [.ref 5, .int (nI s), .int (nI E), .long c, .null, .int ((-1)), .int 0]) dX4_addWord_77 (by decide) rfl ?_
  refine lp_X4_addWord_b (h0 := h) ly.1 ly hL9 hlen ?_ 23 0 (by omega) (by omega) (-1) rfl
  obtain ⟨nu, enu⟩ : ∃ z, z = kwN (hL h 7) c 22 := ⟨_, rfl⟩
  have enu2 := kwN_16 (hL h 7) c 22 (by omega)
  rw [← enu] at *
  refine V.aload_n dX4_addWord_108 rfl rfl rfl ?_
  refine V.getI dX4_addWord_109 fl_X4_67 rfl (Or.inl ⟨rfl, SHL_lt rfl⟩) rfl rfl ?_
  refine V.sipush (v := 900) dX4_addWord_112 rfl ?_
  refine V.icmp_gt (tgt := 128) dX4_addWord_115 (by decide) (fun c1 => ?_) (fun c1 => ?_)
  · exact absurd c1 (by rw [hct, show (900 : Int32) = nI 900 from rfl, ← Int32.not_le, nI_leI (by omega) (by omega)]; omega)
  · refine V.aload_n dX4_addWord_118 rfl rfl rfl ?_
    refine V.getR (r := 12) dX4_addWord_119 fl_X4_32 rfl (Or.inl ⟨rfl, SHL_lt rfl⟩) rfl (ly_5_6 ly) ?_
    refine V.aload_n dX4_addWord_122 rfl rfl rfl ?_
    refine V.getI dX4_addWord_123 fl_X4_67 rfl (Or.inl ⟨rfl, SHL_lt rfl⟩) rfl rfl ?_
    rw [hct]
    refine V.lload_n dX4_addWord_126 rfl rfl ?_
    refine V.lastore dX4_addWord_127 rfl (Or.inl ⟨rfl, SHL_lt rfl⟩) (vp_in_nI (show n < 901 by omega) (by decide)) ?_
    rw [nI_clamp (show n < 2 ^ 31 by omega)]
    refine V.aload_n dX4_addWord_128 rfl rfl rfl ?_
    refine V.iconst (v := 4) dX4_addWord_129 rfl ?_
    refine V.iload_n dX4_addWord_130 rfl rfl ?_
    refine V.iload_n dX4_addWord_131 rfl rfl ?_
    refine V.iload_n dX4_addWord_132 rfl rfl ?_
    refine V.isub dX4_addWord_133 ?_
    rw [nI_sub hE1]
    refine V.iload dX4_addWord_134 rfl ?_
    refine V.callVV dX4_addWord_136 ml_X4_80 mo_X4_note mv_X4_note rfl (fun q hq => by cases hq; rfl) (by decide) (Or.inl ⟨rfl, SHL_lt rfl⟩) (sp_X4_note (by exact ly.keep rfl rfl) hn9 (by exact hct) _ _ _ _ (by decide) (n16_nI (by omega)) (n16_nI (by omega))) rfl rfl ⟨Nat.le_of_ble_eq_true rfl, Nat.le_of_ble_eq_true rfl, fun _ => ⟨rfl, rfl⟩⟩ (Nat.le_of_ble_eq_true rfl) (Or.inl rfl) (fun h2 p3 => ?_)
    have p3 := p3.symm
    subst p3
    refine V.iload_n dX4_addWord_139 rfl rfl ?_
    refine V.iload_n dX4_addWord_140 rfl rfl ?_
    refine V.isub dX4_addWord_141 ?_
    rw [nI_sub hE1]
    refine V.ireturn dX4_addWord_142 rfl rfl ⟨rfl, rfl⟩ ly.1 ?_
    refine ⟨rfl, ?_⟩
    rw [enu2, enu, ec]
set_option maxRecDepth 100000 in
theorem lp_X4_addNumber {h0 h1 : HP} (hn : h0.1 = 130) (ly : Lay h1) {L : Nat} (hL9 : L ≤ 900) (hlen : hI h1 5 8 = nI L) {s E : Nat} {P : Int32 → HP → Prop} (hx : V cX4_addNumber miX4_addNumber (ZM h0 miX4_addNumber.2.2.2.1 (pI P)) 130 66 [.ref 5, .int (nI s), .int (nI E), .int (numN (hI h1 6) s (E - s))] [] h1) : ∀ n k, L + 1 ≤ s + k + n → s + k ≤ L → ∀ c, c = numN (hI h1 6) s k → runN (isDi (hI h1 6)) (L - (s + k)) (s + k) = E →
    V cX4_addNumber miX4_addNumber (ZM h0 miX4_addNumber.2.2.2.1 (pI P)) 130 4 [.ref 5, .int (nI s), .int (nI (s + k)), .int c] [] h1 := by
  intro n
  induction n with
  | zero => intro k h1 h2; exact absurd h1 (by omega)
  | succ n ih =>
    intro k hkn hk c ec hE
    refine V.iload_n dX4_addNumber_4 rfl rfl ?_
    refine V.aload_n dX4_addNumber_5 rfl rfl rfl ?_
    refine V.getI dX4_addNumber_6 fl_X4_65 rfl (Or.inl ⟨rfl, SHL_lt rfl⟩) rfl rfl ?_
    refine V.icmp_ge (tgt := 66) dX4_addNumber_9 (by decide) (fun c1 => ?_) (fun c1 => ?_)
    · have hse : s + k = E := by rw [← hE]; exact (runN_stop (Or.inl (by have h9 := c1; rw [hlen, nI_leI (by omega) (by omega)] at h9; omega))).symm
      rw [ec, hse, show k = E - s by omega]
      exact hx
    · have hlt : s + k < L := by have h9 := c1; rw [hlen, nI_leI (by omega) (by omega)] at h9; omega
      refine V.aload_n dX4_addNumber_12 rfl rfl rfl ?_
      refine V.getR (r := 6) dX4_addNumber_13 fl_X4_11 rfl (Or.inl ⟨rfl, SHL_lt rfl⟩) rfl (ly_5_0 ly) ?_
      refine V.iload_n dX4_addNumber_16 rfl rfl ?_
      refine V.baload dX4_addNumber_17 rfl (Or.inl ⟨rfl, SHL_lt rfl⟩) (vp_in_nI (show s + k < 900 by omega) (by decide)) ?_
      rw [nI_clamp (show (s + k) < 2 ^ 31 by omega)]
      refine V.bipush (v := 48) dX4_addNumber_18 rfl ?_
      refine V.icmp_lt (tgt := 66) dX4_addNumber_20 (by decide) (fun c2 => ?_) (fun c2 => ?_)
      · have hse : s + k = E := by rw [← hE]; exact (runN_stop (Or.inr (by unfold isDi; exact decide_eq_false_iff_not.mpr (fun q => by first | exact absurd q.1 (Int32.not_le.mpr (by assumption)) | exact absurd (Int32.not_lt.mpr q.2) (by first | assumption | exact Decidable.not_not.mpr (by assumption)))))).symm
        rw [ec, hse, show k = E - s by omega]
        exact hx
      · refine V.aload_n dX4_addNumber_23 rfl rfl rfl ?_
        refine V.getR (r := 6) dX4_addNumber_24 fl_X4_11 rfl (Or.inl ⟨rfl, SHL_lt rfl⟩) rfl (ly_5_0 ly) ?_
        refine V.iload_n dX4_addNumber_27 rfl rfl ?_
        refine V.baload dX4_addNumber_28 rfl (Or.inl ⟨rfl, SHL_lt rfl⟩) (vp_in_nI (show s + k < 900 by omega) (by decide)) ?_
        rw [nI_clamp (show (s + k) < 2 ^ 31 by omega)]
        refine V.bipush (v := 57) dX4_addNumber_29 rfl ?_
        refine V.icmp_gt (tgt := 66) dX4_addNumber_31 (by decide) (fun c3 => ?_) (fun c3 => ?_)
        · have hse : s + k = E := by rw [← hE]; exact (runN_stop (Or.inr (by unfold isDi; exact decide_eq_false_iff_not.mpr (fun q => by first | exact absurd q.1 (Int32.not_le.mpr (by assumption)) | exact absurd (Int32.not_lt.mpr q.2) (by first | assumption | exact Decidable.not_not.mpr (by assumption)))))).symm
          rw [ec, hse, show k = E - s by omega]
          exact hx
        · refine V.iload_n dX4_addNumber_34 rfl rfl ?_
          refine V.iload_n dX4_addNumber_35 rfl rfl ?_
          refine V.isub dX4_addNumber_36 ?_
          refine V.iconst (v := 4) dX4_addNumber_37 rfl ?_
          refine V.icmp_ge (tgt := 58) dX4_addNumber_38 (by decide) (fun c4 => ?_) (fun c4 => ?_)
          · have hk8 : ¬ k < 4 := by have h9 := c4; rw [nI_sub (show s ≤ s + k by omega), Nat.add_sub_cancel_left, show (4 : Int32) = nI 4 from rfl, nI_leI (by omega) (by omega)] at h9; omega
            refine V.iconst (v := 0) dX4_addNumber_58 rfl ?_
            refine V.istore_n (ls' := [.ref 5, .int (nI s), .int (nI (s + k)), .int 0]) dX4_addNumber_59 rfl (by decide) rfl ?_
            obtain ⟨x5, ex5⟩ : ∃ y : Int32, y = nI (s + k) + 1 := ⟨_, rfl⟩
            refine V.iinc (v := x5) (ls' := [.ref 5, .int (nI s), .int x5, .int 0]) dX4_addNumber_60 rfl (by decide) ex5.symm rfl ?_
            refine V.goto (tgt := 4) dX4_addNumber_63 (by decide) ?_
            rw [ex5, show nI (s + k) + 1 = nI (s + (k + 1)) from nI_1 _]
            exact ih (k + 1) (by omega) (by omega) _ (by rw [numN]; first | (rw [if_pos hk8, ← ec]; done) | (rw [if_neg hk8])) (by rw [← hE]; exact (runN_step hlt (by unfold isDi; exact decide_eq_true_iff.mpr ⟨Int32.not_lt.mp (by assumption), by first | assumption | exact Int32.not_lt.mp (by assumption)⟩)).symm)
          · have hk8 : k < 4 := by have h9 := c4; rw [nI_sub (show s ≤ s + k by omega), Nat.add_sub_cancel_left, show (4 : Int32) = nI 4 from rfl, nI_leI (by omega) (by omega)] at h9; omega
            refine V.iload_n dX4_addNumber_41 rfl rfl ?_
            refine V.bipush (v := 10) dX4_addNumber_42 rfl ?_
            refine V.imul dX4_addNumber_44 ?_
            refine V.aload_n dX4_addNumber_45 rfl rfl rfl ?_
            refine V.getR (r := 6) dX4_addNumber_46 fl_X4_11 rfl (Or.inl ⟨rfl, SHL_lt rfl⟩) rfl (ly_5_0 ly) ?_
            refine V.iload_n dX4_addNumber_49 rfl rfl ?_
            refine V.baload dX4_addNumber_50 rfl (Or.inl ⟨rfl, SHL_lt rfl⟩) (vp_in_nI (show s + k < 900 by omega) (by decide)) ?_
            rw [nI_clamp (show (s + k) < 2 ^ 31 by omega)]
            refine V.bipush (v := 48) dX4_addNumber_51 rfl ?_
            refine V.isub dX4_addNumber_53 ?_
            refine V.iadd dX4_addNumber_54 ?_
            refine V.goto (tgt := 59) dX4_addNumber_55 (by decide) ?_
            refine V.nmi (fun x6 ex6 => ?_)
            refine V.istore_n (ls' := [.ref 5, .int (nI s), .int (nI (s + k)), .int x6]) dX4_addNumber_59 rfl (by decide) rfl ?_
            obtain ⟨x7, ex7⟩ : ∃ y : Int32, y = nI (s + k) + 1 := ⟨_, rfl⟩
            refine V.iinc (v := x7) (ls' := [.ref 5, .int (nI s), .int x7, .int x6]) dX4_addNumber_60 rfl (by decide) ex7.symm rfl ?_
            refine V.goto (tgt := 4) dX4_addNumber_63 (by decide) ?_
            rw [ex7, show nI (s + k) + 1 = nI (s + (k + 1)) from nI_1 _]
            exact ih (k + 1) (by omega) (by omega) _ (by rw [ex6, numN]; first | (rw [if_pos hk8, ← ec]; done) | (rw [if_neg hk8])) (by rw [← hE]; exact (runN_step hlt (by unfold isDi; exact decide_eq_true_iff.mpr ⟨Int32.not_lt.mp (by assumption), by first | assumption | exact Int32.not_lt.mp (by assumption)⟩)).symm)
def numH (h : HP) (n s E : Nat) (c : Int32) : HP := noteH h n (if 4 < E - s then 0 else 2) (nI s) (nI (E - s)) c.toInt16.toInt32
set_option maxRecDepth 100000 in
theorem sp_X4_addNumber {h : HP} (ly : Lay h) {L : Nat} (hL9 : L ≤ 900) (hlen : hI h 5 8 = nI L) {n : Nat} (hn9 : n ≤ 900) (hct : hI h 5 9 = nI n) {s : Nat} (hs : s < L)  : Spec yX4_addNumber cX4_addNumber miX4_addNumber [.ref 5, .int (nI s)] h (pI fun r h' => r = nI (dEnd (hI h 6) L s - s) ∧ h' = numH h n s (dEnd (hI h 6) L s) (numN (hI h 6) s (dEnd (hI h 6) L s - s))) := by
  refine Spec.of (ls0 := [.ref 5, .int (nI s), .null, .null]) mo_X4_addNumber (Nat.le_of_ble_eq_true rfl) rfl ?_
  rw [ly.1]
  refine V.iload_n dX4_addNumber_0 rfl rfl ?_
  refine V.istore_n (ls' := [.ref 5, .int (nI s), .int (nI s), .null]) dX4_addNumber_1 rfl (by decide) rfl ?_
  refine V.iconst (v := 0) dX4_addNumber_2 rfl ?_
  refine V.istore_n (ls' := [.ref 5, .int (nI s), .int (nI s), .int 0]) dX4_addNumber_3 rfl (by decide) rfl ?_
  obtain ⟨E, eE⟩ : ∃ E, E = dEnd (hI h 6) L s := ⟨_, rfl⟩
  have hE1 : s ≤ E := by rw [eE]; exact dEnd_ge _ _ _
  have hE2 : E ≤ L := by rw [eE]; exact dEnd_le _ (by omega)
  rw [← eE]
  refine lp_X4_addNumber (h0 := h) ly.1 ly hL9 hlen (E := E) ?_ (L + 1) 0 (by omega) (by omega) 0 rfl eE.symm
  obtain ⟨c, ec⟩ : ∃ c, c = numN (hI h 6) s (E - s) := ⟨_, rfl⟩
  rw [← ec]
  refine V.aload_n dX4_addNumber_66 rfl rfl rfl ?_
  refine V.iload_n dX4_addNumber_67 rfl rfl ?_
  refine V.iload_n dX4_addNumber_68 rfl rfl ?_
  refine V.isub dX4_addNumber_69 ?_
  rw [nI_sub hE1]
  refine V.iconst (v := 4) dX4_addNumber_70 rfl ?_
  refine V.icmp_le (tgt := 78) dX4_addNumber_71 (by decide) (fun c1 => ?_) (fun c1 => ?_)
  · have hq := c1
    refine V.iconst (v := 2) dX4_addNumber_78 rfl ?_
    refine V.iload_n dX4_addNumber_79 rfl rfl ?_
    refine V.iload_n dX4_addNumber_80 rfl rfl ?_
    refine V.iload_n dX4_addNumber_81 rfl rfl ?_
    refine V.isub dX4_addNumber_82 ?_
    rw [nI_sub hE1]
    refine V.iload_n dX4_addNumber_83 rfl rfl ?_
    refine V.callVV dX4_addNumber_84 ml_X4_80 mo_X4_note mv_X4_note rfl (fun q hq => by cases hq; rfl) (by decide) (Or.inl ⟨rfl, SHL_lt rfl⟩) (sp_X4_note (by exact ly.keep rfl rfl) hn9 (by exact hct) _ _ _ _ (by decide) (n16_nI (by omega)) (n16_nI (by omega))) rfl rfl ⟨Nat.le_of_ble_eq_true rfl, Nat.le_of_ble_eq_true rfl, fun _ => ⟨rfl, rfl⟩⟩ (Nat.le_of_ble_eq_true rfl) (Or.inl rfl) (fun h2 p3 => ?_)
    have p3 := p3.symm
    subst p3
    refine V.iload_n dX4_addNumber_87 rfl rfl ?_
    refine V.iload_n dX4_addNumber_88 rfl rfl ?_
    refine V.isub dX4_addNumber_89 ?_
    rw [nI_sub hE1]
    refine V.ireturn dX4_addNumber_90 rfl rfl ⟨rfl, rfl⟩ ly.1 ?_
    refine ⟨rfl, ?_⟩
    unfold numH
    rw [show (4 : Int32) = nI 4 from rfl, nI_leI (by omega) (by omega)] at hq
    rw [ec]
    first | (rw [if_pos (by omega)]; done) | (rw [if_neg (by omega)]; done)
  · have hq := c1
    refine V.iconst (v := 0) dX4_addNumber_74 rfl ?_
    refine V.goto (tgt := 79) dX4_addNumber_75 (by decide) ?_
    refine V.iload_n dX4_addNumber_79 rfl rfl ?_
    refine V.iload_n dX4_addNumber_80 rfl rfl ?_
    refine V.iload_n dX4_addNumber_81 rfl rfl ?_
    refine V.isub dX4_addNumber_82 ?_
    rw [nI_sub hE1]
    refine V.iload_n dX4_addNumber_83 rfl rfl ?_
    refine V.callVV dX4_addNumber_84 ml_X4_80 mo_X4_note mv_X4_note rfl (fun q hq => by cases hq; rfl) (by decide) (Or.inl ⟨rfl, SHL_lt rfl⟩) (sp_X4_note (by exact ly.keep rfl rfl) hn9 (by exact hct) _ _ _ _ (by decide) (n16_nI (by omega)) (n16_nI (by omega))) rfl rfl ⟨Nat.le_of_ble_eq_true rfl, Nat.le_of_ble_eq_true rfl, fun _ => ⟨rfl, rfl⟩⟩ (Nat.le_of_ble_eq_true rfl) (Or.inl rfl) (fun h4 p5 => ?_)
    have p5 := p5.symm
    subst p5
    refine V.iload_n dX4_addNumber_87 rfl rfl ?_
    refine V.iload_n dX4_addNumber_88 rfl rfl ?_
    refine V.isub dX4_addNumber_89 ?_
    rw [nI_sub hE1]
    refine V.ireturn dX4_addNumber_90 rfl rfl ⟨rfl, rfl⟩ ly.1 ?_
    refine ⟨rfl, ?_⟩
    unfold numH
    rw [show (4 : Int32) = nI 4 from rfl, nI_leI (by omega) (by omega)] at hq
    rw [ec]
    first | (rw [if_pos (by omega)]; done) | (rw [if_neg (by omega)]; done)
def isSg (T : Nat → Int32) (i : Nat) : Bool := decide (T i = 59 ∨ T i = 60 ∨ T i = 62 ∨ T i = 61)
def lenT (T : Nat → Int32) (L s : Nat) : Nat := if isLo T s then wEnd T L s - s else if isDi T s then dEnd T L s - s else 1
def wordH (h : HP) (n s E : Nat) : HP := noteH (uL h 12 n (codN (hI h 6) s (E - s))) n 4 (nI s) (nI (E - s)) (kwN (hL h 7) (codN (hI h 6) s (E - s)) 22)
def tokH (h : HP) (L n s : Nat) : HP := if isLo (hI h 6) s then wordH h n s (wEnd (hI h 6) L s) else if isDi (hI h 6) s then numH h n s (dEnd (hI h 6) L s) (numN (hI h 6) s (dEnd (hI h 6) L s - s)) else noteH h n (if isSg (hI h 6) s then 3 else 0) (nI s) 1 (hI h 6 s).toInt16.toInt32
set_option maxRecDepth 100000 in
theorem sp_X4_addToken {h : HP} (ly : Lay h) {L : Nat} (hL9 : L ≤ 900) (hlen : hI h 5 8 = nI L) {n : Nat} (hn9 : n ≤ 900) (hct : hI h 5 9 = nI n) {s : Nat} (hs : s < L)  : Spec yX4_addToken cX4_addToken miX4_addToken [.ref 5, .int (nI s)] h (pI fun r h' => r = nI (lenT (hI h 6) L s) ∧ h' = tokH h L n s) := by
  refine Spec.of (ls0 := [.ref 5, .int (nI s), .null, .null]) mo_X4_addToken (Nat.le_of_ble_eq_true rfl) rfl ?_
  rw [ly.1]
  refine V.aload_n dX4_addToken_0 rfl rfl rfl ?_
  refine V.getR (r := 6) dX4_addToken_1 fl_X4_11 rfl (Or.inl ⟨rfl, SHL_lt rfl⟩) rfl (ly_5_0 ly) ?_
  refine V.iload_n dX4_addToken_4 rfl rfl ?_
  refine V.baload dX4_addToken_5 rfl (Or.inl ⟨rfl, SHL_lt rfl⟩) (vp_in_nI (show s < 900 by omega) (by decide)) ?_
  rw [nI_clamp (show s < 2 ^ 31 by omega)]
  refine V.nmi (fun x1 ex1 => ?_)
  refine V.istore_n (ls' := [.ref 5, .int (nI s), .int x1, .null]) dX4_addToken_6 rfl (by decide) rfl ?_
  refine V.iload_n dX4_addToken_7 rfl rfl ?_
  refine V.bipush (v := 97) dX4_addToken_8 rfl ?_
  refine V.icmp_lt (tgt := 25) dX4_addToken_10 (by decide) (fun c2 => ?_) (fun c2 => ?_)
  · refine V.iload_n dX4_addToken_25 rfl rfl ?_
    refine V.bipush (v := 48) dX4_addToken_26 rfl ?_
    refine V.icmp_lt (tgt := 43) dX4_addToken_28 (by decide) (fun c3 => ?_) (fun c3 => ?_)
    · refine V.iload_n dX4_addToken_43 rfl rfl ?_
      refine V.bipush (v := 59) dX4_addToken_44 rfl ?_
      refine V.icmp_eq (tgt := 67) dX4_addToken_46 (by decide) (fun c4 => ?_) (fun c4 => ?_)
      · refine V.iconst (v := 1) dX4_addToken_67 rfl ?_
        refine V.goto (tgt := 72) dX4_addToken_68 (by decide) ?_
        refine V.istore_n (ls' := [.ref 5, .int (nI s), .int x1, .int 1]) dX4_addToken_72 rfl (by decide) rfl ?_
        refine V.aload_n dX4_addToken_73 rfl rfl rfl ?_
        refine V.iload_n dX4_addToken_74 rfl rfl ?_
        refine V.if_eq (tgt := 82) dX4_addToken_75 (by decide) (fun c5 => absurd c5 (by decide)) (fun _ => ?_)
        refine V.iconst (v := 3) dX4_addToken_78 rfl ?_
        refine V.goto (tgt := 83) dX4_addToken_79 (by decide) ?_
        refine V.iload_n dX4_addToken_83 rfl rfl ?_
        refine V.iconst (v := 1) dX4_addToken_84 rfl ?_
        refine V.iload_n dX4_addToken_85 rfl rfl ?_
        refine V.callVV dX4_addToken_86 ml_X4_80 mo_X4_note mv_X4_note rfl (fun q hq => by cases hq; rfl) (by decide) (Or.inl ⟨rfl, SHL_lt rfl⟩) (sp_X4_note (by exact ly.keep rfl rfl) hn9 (by exact hct) _ _ _ _ (by decide) (n16_nI (by omega)) (by decide)) rfl rfl ⟨Nat.le_of_ble_eq_true rfl, Nat.le_of_ble_eq_true rfl, fun _ => ⟨rfl, rfl⟩⟩ (Nat.le_of_ble_eq_true rfl) (Or.inl rfl) (fun h6 p7 => ?_)
        have p7 := p7.symm
        subst p7
        refine V.iconst (v := 1) dX4_addToken_89 rfl ?_
        refine V.ireturn dX4_addToken_90 rfl rfl ⟨rfl, rfl⟩ ly.1 ?_
        subst_vars
        have hb : isLo (hI h 6) s = false := by unfold isLo; exact decide_eq_false_iff_not.mpr (fun q => by first | exact absurd q.1 (Int32.not_le.mpr (by assumption)) | exact absurd q.2 (Int32.not_le.mpr (by assumption)))
        have hd : isDi (hI h 6) s = false := by unfold isDi; exact decide_eq_false_iff_not.mpr (fun q => by first | exact absurd q.1 (Int32.not_le.mpr (by assumption)) | exact absurd q.2 (Int32.not_le.mpr (by assumption)))
        unfold lenT tokH
        rw [if_neg (by rw [hb]; decide), if_neg (by rw [hd]; decide), if_neg (by rw [hb]; decide), if_neg (by rw [hd]; decide)]
        refine ⟨rfl, ?_⟩
        first
          | (rw [if_pos (show isSg (hI h 6) s = true by unfold isSg; exact decide_eq_true_iff.mpr (by first | exact Or.inl (by assumption) | exact Or.inr (Or.inl (by assumption)) | exact Or.inr (Or.inr (Or.inl (by assumption))) | exact Or.inr (Or.inr (Or.inr (by assumption)))))]; done)
          | (rw [if_neg (show ¬ isSg (hI h 6) s = true by unfold isSg; rw [decide_eq_true_iff]; rintro (q | q | q | q) <;> exact absurd q (by assumption))]; done)
      · refine V.iload_n dX4_addToken_49 rfl rfl ?_
        refine V.bipush (v := 60) dX4_addToken_50 rfl ?_
        refine V.icmp_eq (tgt := 67) dX4_addToken_52 (by decide) (fun c8 => ?_) (fun c8 => ?_)
        · refine V.iconst (v := 1) dX4_addToken_67 rfl ?_
          refine V.goto (tgt := 72) dX4_addToken_68 (by decide) ?_
          refine V.istore_n (ls' := [.ref 5, .int (nI s), .int x1, .int 1]) dX4_addToken_72 rfl (by decide) rfl ?_
          refine V.aload_n dX4_addToken_73 rfl rfl rfl ?_
          refine V.iload_n dX4_addToken_74 rfl rfl ?_
          refine V.if_eq (tgt := 82) dX4_addToken_75 (by decide) (fun c9 => absurd c9 (by decide)) (fun _ => ?_)
          refine V.iconst (v := 3) dX4_addToken_78 rfl ?_
          refine V.goto (tgt := 83) dX4_addToken_79 (by decide) ?_
          refine V.iload_n dX4_addToken_83 rfl rfl ?_
          refine V.iconst (v := 1) dX4_addToken_84 rfl ?_
          refine V.iload_n dX4_addToken_85 rfl rfl ?_
          refine V.callVV dX4_addToken_86 ml_X4_80 mo_X4_note mv_X4_note rfl (fun q hq => by cases hq; rfl) (by decide) (Or.inl ⟨rfl, SHL_lt rfl⟩) (sp_X4_note (by exact ly.keep rfl rfl) hn9 (by exact hct) _ _ _ _ (by decide) (n16_nI (by omega)) (by decide)) rfl rfl ⟨Nat.le_of_ble_eq_true rfl, Nat.le_of_ble_eq_true rfl, fun _ => ⟨rfl, rfl⟩⟩ (Nat.le_of_ble_eq_true rfl) (Or.inl rfl) (fun h10 p11 => ?_)
          have p11 := p11.symm
          subst p11
          refine V.iconst (v := 1) dX4_addToken_89 rfl ?_
          refine V.ireturn dX4_addToken_90 rfl rfl ⟨rfl, rfl⟩ ly.1 ?_
          subst_vars
          have hb : isLo (hI h 6) s = false := by unfold isLo; exact decide_eq_false_iff_not.mpr (fun q => by first | exact absurd q.1 (Int32.not_le.mpr (by assumption)) | exact absurd q.2 (Int32.not_le.mpr (by assumption)))
          have hd : isDi (hI h 6) s = false := by unfold isDi; exact decide_eq_false_iff_not.mpr (fun q => by first | exact absurd q.1 (Int32.not_le.mpr (by assumption)) | exact absurd q.2 (Int32.not_le.mpr (by assumption)))
          unfold lenT tokH
          rw [if_neg (by rw [hb]; decide), if_neg (by rw [hd]; decide), if_neg (by rw [hb]; decide), if_neg (by rw [hd]; decide)]
          refine ⟨rfl, ?_⟩
          first
            | (rw [if_pos (show isSg (hI h 6) s = true by unfold isSg; exact decide_eq_true_iff.mpr (by first | exact Or.inl (by assumption) | exact Or.inr (Or.inl (by assumption)) | exact Or.inr (Or.inr (Or.inl (by assumption))) | exact Or.inr (Or.inr (Or.inr (by assumption)))))]; done)
            | (rw [if_neg (show ¬ isSg (hI h 6) s = true by unfold isSg; rw [decide_eq_true_iff]; rintro (q | q | q | q) <;> exact absurd q (by assumption))]; done)
        · refine V.iload_n dX4_addToken_55 rfl rfl ?_
          refine V.bipush (v := 62) dX4_addToken_56 rfl ?_
          refine V.icmp_eq (tgt := 67) dX4_addToken_58 (by decide) (fun c12 => ?_) (fun c12 => ?_)
          · refine V.iconst (v := 1) dX4_addToken_67 rfl ?_
            refine V.goto (tgt := 72) dX4_addToken_68 (by decide) ?_
            refine V.istore_n (ls' := [.ref 5, .int (nI s), .int x1, .int 1]) dX4_addToken_72 rfl (by decide) rfl ?_
            refine V.aload_n dX4_addToken_73 rfl rfl rfl ?_
            refine V.iload_n dX4_addToken_74 rfl rfl ?_
            refine V.if_eq (tgt := 82) dX4_addToken_75 (by decide) (fun c13 => absurd c13 (by decide)) (fun _ => ?_)
            refine V.iconst (v := 3) dX4_addToken_78 rfl ?_
            refine V.goto (tgt := 83) dX4_addToken_79 (by decide) ?_
            refine V.iload_n dX4_addToken_83 rfl rfl ?_
            refine V.iconst (v := 1) dX4_addToken_84 rfl ?_
            refine V.iload_n dX4_addToken_85 rfl rfl ?_
            refine V.callVV dX4_addToken_86 ml_X4_80 mo_X4_note mv_X4_note rfl (fun q hq => by cases hq; rfl) (by decide) (Or.inl ⟨rfl, SHL_lt rfl⟩) (sp_X4_note (by exact ly.keep rfl rfl) hn9 (by exact hct) _ _ _ _ (by decide) (n16_nI (by omega)) (by decide)) rfl rfl ⟨Nat.le_of_ble_eq_true rfl, Nat.le_of_ble_eq_true rfl, fun _ => ⟨rfl, rfl⟩⟩ (Nat.le_of_ble_eq_true rfl) (Or.inl rfl) (fun h14 p15 => ?_)
            have p15 := p15.symm
            subst p15
            refine V.iconst (v := 1) dX4_addToken_89 rfl ?_
            refine V.ireturn dX4_addToken_90 rfl rfl ⟨rfl, rfl⟩ ly.1 ?_
            subst_vars
            have hb : isLo (hI h 6) s = false := by unfold isLo; exact decide_eq_false_iff_not.mpr (fun q => by first | exact absurd q.1 (Int32.not_le.mpr (by assumption)) | exact absurd q.2 (Int32.not_le.mpr (by assumption)))
            have hd : isDi (hI h 6) s = false := by unfold isDi; exact decide_eq_false_iff_not.mpr (fun q => by first | exact absurd q.1 (Int32.not_le.mpr (by assumption)) | exact absurd q.2 (Int32.not_le.mpr (by assumption)))
            unfold lenT tokH
            rw [if_neg (by rw [hb]; decide), if_neg (by rw [hd]; decide), if_neg (by rw [hb]; decide), if_neg (by rw [hd]; decide)]
            refine ⟨rfl, ?_⟩
            first
              | (rw [if_pos (show isSg (hI h 6) s = true by unfold isSg; exact decide_eq_true_iff.mpr (by first | exact Or.inl (by assumption) | exact Or.inr (Or.inl (by assumption)) | exact Or.inr (Or.inr (Or.inl (by assumption))) | exact Or.inr (Or.inr (Or.inr (by assumption)))))]; done)
              | (rw [if_neg (show ¬ isSg (hI h 6) s = true by unfold isSg; rw [decide_eq_true_iff]; rintro (q | q | q | q) <;> exact absurd q (by assumption))]; done)
          · refine V.iload_n dX4_addToken_61 rfl rfl ?_
            refine V.bipush (v := 61) dX4_addToken_62 rfl ?_
            refine V.icmp_ne (tgt := 71) dX4_addToken_64 (by decide) (fun c16 => ?_) (fun c16 => ?_)
            · refine V.iconst (v := 0) dX4_addToken_71 rfl ?_
              refine V.istore_n (ls' := [.ref 5, .int (nI s), .int x1, .int 0]) dX4_addToken_72 rfl (by decide) rfl ?_
              refine V.aload_n dX4_addToken_73 rfl rfl rfl ?_
              refine V.iload_n dX4_addToken_74 rfl rfl ?_
              refine V.if_eq (tgt := 82) dX4_addToken_75 (by decide) (fun _ => ?_) (fun c17 => absurd c17 (by decide))
              refine V.iconst (v := 0) dX4_addToken_82 rfl ?_
              refine V.iload_n dX4_addToken_83 rfl rfl ?_
              refine V.iconst (v := 1) dX4_addToken_84 rfl ?_
              refine V.iload_n dX4_addToken_85 rfl rfl ?_
              refine V.callVV dX4_addToken_86 ml_X4_80 mo_X4_note mv_X4_note rfl (fun q hq => by cases hq; rfl) (by decide) (Or.inl ⟨rfl, SHL_lt rfl⟩) (sp_X4_note (by exact ly.keep rfl rfl) hn9 (by exact hct) _ _ _ _ (by decide) (n16_nI (by omega)) (by decide)) rfl rfl ⟨Nat.le_of_ble_eq_true rfl, Nat.le_of_ble_eq_true rfl, fun _ => ⟨rfl, rfl⟩⟩ (Nat.le_of_ble_eq_true rfl) (Or.inl rfl) (fun h18 p19 => ?_)
              have p19 := p19.symm
              subst p19
              refine V.iconst (v := 1) dX4_addToken_89 rfl ?_
              refine V.ireturn dX4_addToken_90 rfl rfl ⟨rfl, rfl⟩ ly.1 ?_
              subst_vars
              have hb : isLo (hI h 6) s = false := by unfold isLo; exact decide_eq_false_iff_not.mpr (fun q => by first | exact absurd q.1 (Int32.not_le.mpr (by assumption)) | exact absurd q.2 (Int32.not_le.mpr (by assumption)))
              have hd : isDi (hI h 6) s = false := by unfold isDi; exact decide_eq_false_iff_not.mpr (fun q => by first | exact absurd q.1 (Int32.not_le.mpr (by assumption)) | exact absurd q.2 (Int32.not_le.mpr (by assumption)))
              unfold lenT tokH
              rw [if_neg (by rw [hb]; decide), if_neg (by rw [hd]; decide), if_neg (by rw [hb]; decide), if_neg (by rw [hd]; decide)]
              refine ⟨rfl, ?_⟩
              first
                | (rw [if_pos (show isSg (hI h 6) s = true by unfold isSg; exact decide_eq_true_iff.mpr (by first | exact Or.inl (by assumption) | exact Or.inr (Or.inl (by assumption)) | exact Or.inr (Or.inr (Or.inl (by assumption))) | exact Or.inr (Or.inr (Or.inr (by assumption)))))]; done)
                | (rw [if_neg (show ¬ isSg (hI h 6) s = true by unfold isSg; rw [decide_eq_true_iff]; rintro (q | q | q | q) <;> exact absurd q (by assumption))]; done)
            · refine V.iconst (v := 1) dX4_addToken_67 rfl ?_
              refine V.goto (tgt := 72) dX4_addToken_68 (by decide) ?_
              refine V.istore_n (ls' := [.ref 5, .int (nI s), .int x1, .int 1]) dX4_addToken_72 rfl (by decide) rfl ?_
              refine V.aload_n dX4_addToken_73 rfl rfl rfl ?_
              refine V.iload_n dX4_addToken_74 rfl rfl ?_
              refine V.if_eq (tgt := 82) dX4_addToken_75 (by decide) (fun c20 => absurd c20 (by decide)) (fun _ => ?_)
              refine V.iconst (v := 3) dX4_addToken_78 rfl ?_
              refine V.goto (tgt := 83) dX4_addToken_79 (by decide) ?_
              refine V.iload_n dX4_addToken_83 rfl rfl ?_
              refine V.iconst (v := 1) dX4_addToken_84 rfl ?_
              refine V.iload_n dX4_addToken_85 rfl rfl ?_
              refine V.callVV dX4_addToken_86 ml_X4_80 mo_X4_note mv_X4_note rfl (fun q hq => by cases hq; rfl) (by decide) (Or.inl ⟨rfl, SHL_lt rfl⟩) (sp_X4_note (by exact ly.keep rfl rfl) hn9 (by exact hct) _ _ _ _ (by decide) (n16_nI (by omega)) (by decide)) rfl rfl ⟨Nat.le_of_ble_eq_true rfl, Nat.le_of_ble_eq_true rfl, fun _ => ⟨rfl, rfl⟩⟩ (Nat.le_of_ble_eq_true rfl) (Or.inl rfl) (fun h21 p22 => ?_)
              have p22 := p22.symm
              subst p22
              refine V.iconst (v := 1) dX4_addToken_89 rfl ?_
              refine V.ireturn dX4_addToken_90 rfl rfl ⟨rfl, rfl⟩ ly.1 ?_
              subst_vars
              have hb : isLo (hI h 6) s = false := by unfold isLo; exact decide_eq_false_iff_not.mpr (fun q => by first | exact absurd q.1 (Int32.not_le.mpr (by assumption)) | exact absurd q.2 (Int32.not_le.mpr (by assumption)))
              have hd : isDi (hI h 6) s = false := by unfold isDi; exact decide_eq_false_iff_not.mpr (fun q => by first | exact absurd q.1 (Int32.not_le.mpr (by assumption)) | exact absurd q.2 (Int32.not_le.mpr (by assumption)))
              unfold lenT tokH
              rw [if_neg (by rw [hb]; decide), if_neg (by rw [hd]; decide), if_neg (by rw [hb]; decide), if_neg (by rw [hd]; decide)]
              refine ⟨rfl, ?_⟩
              first
                | (rw [if_pos (show isSg (hI h 6) s = true by unfold isSg; exact decide_eq_true_iff.mpr (by first | exact Or.inl (by assumption) | exact Or.inr (Or.inl (by assumption)) | exact Or.inr (Or.inr (Or.inl (by assumption))) | exact Or.inr (Or.inr (Or.inr (by assumption)))))]; done)
                | (rw [if_neg (show ¬ isSg (hI h 6) s = true by unfold isSg; rw [decide_eq_true_iff]; rintro (q | q | q | q) <;> exact absurd q (by assumption))]; done)
    · refine V.iload_n dX4_addToken_31 rfl rfl ?_
      refine V.bipush (v := 57) dX4_addToken_32 rfl ?_
      refine V.icmp_gt (tgt := 43) dX4_addToken_34 (by decide) (fun c23 => ?_) (fun c23 => ?_)
      · refine V.iload_n dX4_addToken_43 rfl rfl ?_
        refine V.bipush (v := 59) dX4_addToken_44 rfl ?_
        refine V.icmp_eq (tgt := 67) dX4_addToken_46 (by decide) (fun c24 => ?_) (fun c24 => ?_)
        · refine V.iconst (v := 1) dX4_addToken_67 rfl ?_
          refine V.goto (tgt := 72) dX4_addToken_68 (by decide) ?_
          refine V.istore_n (ls' := [.ref 5, .int (nI s), .int x1, .int 1]) dX4_addToken_72 rfl (by decide) rfl ?_
          refine V.aload_n dX4_addToken_73 rfl rfl rfl ?_
          refine V.iload_n dX4_addToken_74 rfl rfl ?_
          refine V.if_eq (tgt := 82) dX4_addToken_75 (by decide) (fun c25 => absurd c25 (by decide)) (fun _ => ?_)
          refine V.iconst (v := 3) dX4_addToken_78 rfl ?_
          refine V.goto (tgt := 83) dX4_addToken_79 (by decide) ?_
          refine V.iload_n dX4_addToken_83 rfl rfl ?_
          refine V.iconst (v := 1) dX4_addToken_84 rfl ?_
          refine V.iload_n dX4_addToken_85 rfl rfl ?_
          refine V.callVV dX4_addToken_86 ml_X4_80 mo_X4_note mv_X4_note rfl (fun q hq => by cases hq; rfl) (by decide) (Or.inl ⟨rfl, SHL_lt rfl⟩) (sp_X4_note (by exact ly.keep rfl rfl) hn9 (by exact hct) _ _ _ _ (by decide) (n16_nI (by omega)) (by decide)) rfl rfl ⟨Nat.le_of_ble_eq_true rfl, Nat.le_of_ble_eq_true rfl, fun _ => ⟨rfl, rfl⟩⟩ (Nat.le_of_ble_eq_true rfl) (Or.inl rfl) (fun h26 p27 => ?_)
          have p27 := p27.symm
          subst p27
          refine V.iconst (v := 1) dX4_addToken_89 rfl ?_
          refine V.ireturn dX4_addToken_90 rfl rfl ⟨rfl, rfl⟩ ly.1 ?_
          subst_vars
          have hb : isLo (hI h 6) s = false := by unfold isLo; exact decide_eq_false_iff_not.mpr (fun q => by first | exact absurd q.1 (Int32.not_le.mpr (by assumption)) | exact absurd q.2 (Int32.not_le.mpr (by assumption)))
          have hd : isDi (hI h 6) s = false := by unfold isDi; exact decide_eq_false_iff_not.mpr (fun q => by first | exact absurd q.1 (Int32.not_le.mpr (by assumption)) | exact absurd q.2 (Int32.not_le.mpr (by assumption)))
          unfold lenT tokH
          rw [if_neg (by rw [hb]; decide), if_neg (by rw [hd]; decide), if_neg (by rw [hb]; decide), if_neg (by rw [hd]; decide)]
          refine ⟨rfl, ?_⟩
          first
            | (rw [if_pos (show isSg (hI h 6) s = true by unfold isSg; exact decide_eq_true_iff.mpr (by first | exact Or.inl (by assumption) | exact Or.inr (Or.inl (by assumption)) | exact Or.inr (Or.inr (Or.inl (by assumption))) | exact Or.inr (Or.inr (Or.inr (by assumption)))))]; done)
            | (rw [if_neg (show ¬ isSg (hI h 6) s = true by unfold isSg; rw [decide_eq_true_iff]; rintro (q | q | q | q) <;> exact absurd q (by assumption))]; done)
        · refine V.iload_n dX4_addToken_49 rfl rfl ?_
          refine V.bipush (v := 60) dX4_addToken_50 rfl ?_
          refine V.icmp_eq (tgt := 67) dX4_addToken_52 (by decide) (fun c28 => ?_) (fun c28 => ?_)
          · refine V.iconst (v := 1) dX4_addToken_67 rfl ?_
            refine V.goto (tgt := 72) dX4_addToken_68 (by decide) ?_
            refine V.istore_n (ls' := [.ref 5, .int (nI s), .int x1, .int 1]) dX4_addToken_72 rfl (by decide) rfl ?_
            refine V.aload_n dX4_addToken_73 rfl rfl rfl ?_
            refine V.iload_n dX4_addToken_74 rfl rfl ?_
            refine V.if_eq (tgt := 82) dX4_addToken_75 (by decide) (fun c29 => absurd c29 (by decide)) (fun _ => ?_)
            refine V.iconst (v := 3) dX4_addToken_78 rfl ?_
            refine V.goto (tgt := 83) dX4_addToken_79 (by decide) ?_
            refine V.iload_n dX4_addToken_83 rfl rfl ?_
            refine V.iconst (v := 1) dX4_addToken_84 rfl ?_
            refine V.iload_n dX4_addToken_85 rfl rfl ?_
            refine V.callVV dX4_addToken_86 ml_X4_80 mo_X4_note mv_X4_note rfl (fun q hq => by cases hq; rfl) (by decide) (Or.inl ⟨rfl, SHL_lt rfl⟩) (sp_X4_note (by exact ly.keep rfl rfl) hn9 (by exact hct) _ _ _ _ (by decide) (n16_nI (by omega)) (by decide)) rfl rfl ⟨Nat.le_of_ble_eq_true rfl, Nat.le_of_ble_eq_true rfl, fun _ => ⟨rfl, rfl⟩⟩ (Nat.le_of_ble_eq_true rfl) (Or.inl rfl) (fun h30 p31 => ?_)
            have p31 := p31.symm
            subst p31
            refine V.iconst (v := 1) dX4_addToken_89 rfl ?_
            refine V.ireturn dX4_addToken_90 rfl rfl ⟨rfl, rfl⟩ ly.1 ?_
            subst_vars
            have hb : isLo (hI h 6) s = false := by unfold isLo; exact decide_eq_false_iff_not.mpr (fun q => by first | exact absurd q.1 (Int32.not_le.mpr (by assumption)) | exact absurd q.2 (Int32.not_le.mpr (by assumption)))
            have hd : isDi (hI h 6) s = false := by unfold isDi; exact decide_eq_false_iff_not.mpr (fun q => by first | exact absurd q.1 (Int32.not_le.mpr (by assumption)) | exact absurd q.2 (Int32.not_le.mpr (by assumption)))
            unfold lenT tokH
            rw [if_neg (by rw [hb]; decide), if_neg (by rw [hd]; decide), if_neg (by rw [hb]; decide), if_neg (by rw [hd]; decide)]
            refine ⟨rfl, ?_⟩
            first
              | (rw [if_pos (show isSg (hI h 6) s = true by unfold isSg; exact decide_eq_true_iff.mpr (by first | exact Or.inl (by assumption) | exact Or.inr (Or.inl (by assumption)) | exact Or.inr (Or.inr (Or.inl (by assumption))) | exact Or.inr (Or.inr (Or.inr (by assumption)))))]; done)
              | (rw [if_neg (show ¬ isSg (hI h 6) s = true by unfold isSg; rw [decide_eq_true_iff]; rintro (q | q | q | q) <;> exact absurd q (by assumption))]; done)
          · refine V.iload_n dX4_addToken_55 rfl rfl ?_
            refine V.bipush (v := 62) dX4_addToken_56 rfl ?_
            refine V.icmp_eq (tgt := 67) dX4_addToken_58 (by decide) (fun c32 => ?_) (fun c32 => ?_)
            · refine V.iconst (v := 1) dX4_addToken_67 rfl ?_
              refine V.goto (tgt := 72) dX4_addToken_68 (by decide) ?_
              refine V.istore_n (ls' := [.ref 5, .int (nI s), .int x1, .int 1]) dX4_addToken_72 rfl (by decide) rfl ?_
              refine V.aload_n dX4_addToken_73 rfl rfl rfl ?_
              refine V.iload_n dX4_addToken_74 rfl rfl ?_
              refine V.if_eq (tgt := 82) dX4_addToken_75 (by decide) (fun c33 => absurd c33 (by decide)) (fun _ => ?_)
              refine V.iconst (v := 3) dX4_addToken_78 rfl ?_
              refine V.goto (tgt := 83) dX4_addToken_79 (by decide) ?_
              refine V.iload_n dX4_addToken_83 rfl rfl ?_
              refine V.iconst (v := 1) dX4_addToken_84 rfl ?_
              refine V.iload_n dX4_addToken_85 rfl rfl ?_
              refine V.callVV dX4_addToken_86 ml_X4_80 mo_X4_note mv_X4_note rfl (fun q hq => by cases hq; rfl) (by decide) (Or.inl ⟨rfl, SHL_lt rfl⟩) (sp_X4_note (by exact ly.keep rfl rfl) hn9 (by exact hct) _ _ _ _ (by decide) (n16_nI (by omega)) (by decide)) rfl rfl ⟨Nat.le_of_ble_eq_true rfl, Nat.le_of_ble_eq_true rfl, fun _ => ⟨rfl, rfl⟩⟩ (Nat.le_of_ble_eq_true rfl) (Or.inl rfl) (fun h34 p35 => ?_)
              have p35 := p35.symm
              subst p35
              refine V.iconst (v := 1) dX4_addToken_89 rfl ?_
              refine V.ireturn dX4_addToken_90 rfl rfl ⟨rfl, rfl⟩ ly.1 ?_
              subst_vars
              have hb : isLo (hI h 6) s = false := by unfold isLo; exact decide_eq_false_iff_not.mpr (fun q => by first | exact absurd q.1 (Int32.not_le.mpr (by assumption)) | exact absurd q.2 (Int32.not_le.mpr (by assumption)))
              have hd : isDi (hI h 6) s = false := by unfold isDi; exact decide_eq_false_iff_not.mpr (fun q => by first | exact absurd q.1 (Int32.not_le.mpr (by assumption)) | exact absurd q.2 (Int32.not_le.mpr (by assumption)))
              unfold lenT tokH
              rw [if_neg (by rw [hb]; decide), if_neg (by rw [hd]; decide), if_neg (by rw [hb]; decide), if_neg (by rw [hd]; decide)]
              refine ⟨rfl, ?_⟩
              first
                | (rw [if_pos (show isSg (hI h 6) s = true by unfold isSg; exact decide_eq_true_iff.mpr (by first | exact Or.inl (by assumption) | exact Or.inr (Or.inl (by assumption)) | exact Or.inr (Or.inr (Or.inl (by assumption))) | exact Or.inr (Or.inr (Or.inr (by assumption)))))]; done)
                | (rw [if_neg (show ¬ isSg (hI h 6) s = true by unfold isSg; rw [decide_eq_true_iff]; rintro (q | q | q | q) <;> exact absurd q (by assumption))]; done)
            · refine V.iload_n dX4_addToken_61 rfl rfl ?_
              refine V.bipush (v := 61) dX4_addToken_62 rfl ?_
              refine V.icmp_ne (tgt := 71) dX4_addToken_64 (by decide) (fun c36 => ?_) (fun c36 => ?_)
              · refine V.iconst (v := 0) dX4_addToken_71 rfl ?_
                refine V.istore_n (ls' := [.ref 5, .int (nI s), .int x1, .int 0]) dX4_addToken_72 rfl (by decide) rfl ?_
                refine V.aload_n dX4_addToken_73 rfl rfl rfl ?_
                refine V.iload_n dX4_addToken_74 rfl rfl ?_
                refine V.if_eq (tgt := 82) dX4_addToken_75 (by decide) (fun _ => ?_) (fun c37 => absurd c37 (by decide))
                refine V.iconst (v := 0) dX4_addToken_82 rfl ?_
                refine V.iload_n dX4_addToken_83 rfl rfl ?_
                refine V.iconst (v := 1) dX4_addToken_84 rfl ?_
                refine V.iload_n dX4_addToken_85 rfl rfl ?_
                refine V.callVV dX4_addToken_86 ml_X4_80 mo_X4_note mv_X4_note rfl (fun q hq => by cases hq; rfl) (by decide) (Or.inl ⟨rfl, SHL_lt rfl⟩) (sp_X4_note (by exact ly.keep rfl rfl) hn9 (by exact hct) _ _ _ _ (by decide) (n16_nI (by omega)) (by decide)) rfl rfl ⟨Nat.le_of_ble_eq_true rfl, Nat.le_of_ble_eq_true rfl, fun _ => ⟨rfl, rfl⟩⟩ (Nat.le_of_ble_eq_true rfl) (Or.inl rfl) (fun h38 p39 => ?_)
                have p39 := p39.symm
                subst p39
                refine V.iconst (v := 1) dX4_addToken_89 rfl ?_
                refine V.ireturn dX4_addToken_90 rfl rfl ⟨rfl, rfl⟩ ly.1 ?_
                subst_vars
                have hb : isLo (hI h 6) s = false := by unfold isLo; exact decide_eq_false_iff_not.mpr (fun q => by first | exact absurd q.1 (Int32.not_le.mpr (by assumption)) | exact absurd q.2 (Int32.not_le.mpr (by assumption)))
                have hd : isDi (hI h 6) s = false := by unfold isDi; exact decide_eq_false_iff_not.mpr (fun q => by first | exact absurd q.1 (Int32.not_le.mpr (by assumption)) | exact absurd q.2 (Int32.not_le.mpr (by assumption)))
                unfold lenT tokH
                rw [if_neg (by rw [hb]; decide), if_neg (by rw [hd]; decide), if_neg (by rw [hb]; decide), if_neg (by rw [hd]; decide)]
                refine ⟨rfl, ?_⟩
                first
                  | (rw [if_pos (show isSg (hI h 6) s = true by unfold isSg; exact decide_eq_true_iff.mpr (by first | exact Or.inl (by assumption) | exact Or.inr (Or.inl (by assumption)) | exact Or.inr (Or.inr (Or.inl (by assumption))) | exact Or.inr (Or.inr (Or.inr (by assumption)))))]; done)
                  | (rw [if_neg (show ¬ isSg (hI h 6) s = true by unfold isSg; rw [decide_eq_true_iff]; rintro (q | q | q | q) <;> exact absurd q (by assumption))]; done)
              · refine V.iconst (v := 1) dX4_addToken_67 rfl ?_
                refine V.goto (tgt := 72) dX4_addToken_68 (by decide) ?_
                refine V.istore_n (ls' := [.ref 5, .int (nI s), .int x1, .int 1]) dX4_addToken_72 rfl (by decide) rfl ?_
                refine V.aload_n dX4_addToken_73 rfl rfl rfl ?_
                refine V.iload_n dX4_addToken_74 rfl rfl ?_
                refine V.if_eq (tgt := 82) dX4_addToken_75 (by decide) (fun c40 => absurd c40 (by decide)) (fun _ => ?_)
                refine V.iconst (v := 3) dX4_addToken_78 rfl ?_
                refine V.goto (tgt := 83) dX4_addToken_79 (by decide) ?_
                refine V.iload_n dX4_addToken_83 rfl rfl ?_
                refine V.iconst (v := 1) dX4_addToken_84 rfl ?_
                refine V.iload_n dX4_addToken_85 rfl rfl ?_
                refine V.callVV dX4_addToken_86 ml_X4_80 mo_X4_note mv_X4_note rfl (fun q hq => by cases hq; rfl) (by decide) (Or.inl ⟨rfl, SHL_lt rfl⟩) (sp_X4_note (by exact ly.keep rfl rfl) hn9 (by exact hct) _ _ _ _ (by decide) (n16_nI (by omega)) (by decide)) rfl rfl ⟨Nat.le_of_ble_eq_true rfl, Nat.le_of_ble_eq_true rfl, fun _ => ⟨rfl, rfl⟩⟩ (Nat.le_of_ble_eq_true rfl) (Or.inl rfl) (fun h41 p42 => ?_)
                have p42 := p42.symm
                subst p42
                refine V.iconst (v := 1) dX4_addToken_89 rfl ?_
                refine V.ireturn dX4_addToken_90 rfl rfl ⟨rfl, rfl⟩ ly.1 ?_
                subst_vars
                have hb : isLo (hI h 6) s = false := by unfold isLo; exact decide_eq_false_iff_not.mpr (fun q => by first | exact absurd q.1 (Int32.not_le.mpr (by assumption)) | exact absurd q.2 (Int32.not_le.mpr (by assumption)))
                have hd : isDi (hI h 6) s = false := by unfold isDi; exact decide_eq_false_iff_not.mpr (fun q => by first | exact absurd q.1 (Int32.not_le.mpr (by assumption)) | exact absurd q.2 (Int32.not_le.mpr (by assumption)))
                unfold lenT tokH
                rw [if_neg (by rw [hb]; decide), if_neg (by rw [hd]; decide), if_neg (by rw [hb]; decide), if_neg (by rw [hd]; decide)]
                refine ⟨rfl, ?_⟩
                first
                  | (rw [if_pos (show isSg (hI h 6) s = true by unfold isSg; exact decide_eq_true_iff.mpr (by first | exact Or.inl (by assumption) | exact Or.inr (Or.inl (by assumption)) | exact Or.inr (Or.inr (Or.inl (by assumption))) | exact Or.inr (Or.inr (Or.inr (by assumption)))))]; done)
                  | (rw [if_neg (show ¬ isSg (hI h 6) s = true by unfold isSg; rw [decide_eq_true_iff]; rintro (q | q | q | q) <;> exact absurd q (by assumption))]; done)
      · refine V.aload_n dX4_addToken_37 rfl rfl rfl ?_
        refine V.iload_n dX4_addToken_38 rfl rfl ?_
        refine V.callVI dX4_addToken_39 ml_X4_87 mo_X4_addNumber mv_X4_addNumber rfl (fun q hq => by cases hq; rfl) (by decide) (Or.inl ⟨rfl, SHL_lt rfl⟩) (sp_X4_addNumber (by exact ly.keep rfl rfl) hL9 hlen hn9 hct hs) rfl rfl ⟨Nat.le_of_ble_eq_true rfl, Nat.le_of_ble_eq_true rfl, fun _ => ⟨rfl, rfl⟩⟩ (Nat.le_of_ble_eq_true rfl) rfl (fun r43 h44 p45 => ?_)
        obtain ⟨er43, p45⟩ := p45
        have p45 := p45.symm
        subst p45
        refine V.ireturn dX4_addToken_42 rfl rfl ⟨rfl, rfl⟩ ly.1 ?_
        subst_vars
        have hb : isLo (hI h 6) s = false := by unfold isLo; exact decide_eq_false_iff_not.mpr (fun q => by first | exact absurd q.1 (Int32.not_le.mpr (by assumption)) | exact absurd q.2 (Int32.not_le.mpr (by assumption)))
        have hd : isDi (hI h 6) s = true := by unfold isDi; exact decide_eq_true_iff.mpr ⟨Int32.not_lt.mp (by assumption), Int32.not_lt.mp (by assumption)⟩
        unfold lenT tokH
        rw [if_neg (by rw [hb]; decide), if_pos hd, if_neg (by rw [hb]; decide), if_pos hd]
        exact ⟨rfl, rfl⟩
  · refine V.iload_n dX4_addToken_13 rfl rfl ?_
    refine V.bipush (v := 122) dX4_addToken_14 rfl ?_
    refine V.icmp_gt (tgt := 25) dX4_addToken_16 (by decide) (fun c46 => ?_) (fun c46 => ?_)
    · refine V.iload_n dX4_addToken_25 rfl rfl ?_
      refine V.bipush (v := 48) dX4_addToken_26 rfl ?_
      refine V.icmp_lt (tgt := 43) dX4_addToken_28 (by decide) (fun c47 => ?_) (fun c47 => ?_)
      · refine V.iload_n dX4_addToken_43 rfl rfl ?_
        refine V.bipush (v := 59) dX4_addToken_44 rfl ?_
        refine V.icmp_eq (tgt := 67) dX4_addToken_46 (by decide) (fun c48 => ?_) (fun c48 => ?_)
        · refine V.iconst (v := 1) dX4_addToken_67 rfl ?_
          refine V.goto (tgt := 72) dX4_addToken_68 (by decide) ?_
          refine V.istore_n (ls' := [.ref 5, .int (nI s), .int x1, .int 1]) dX4_addToken_72 rfl (by decide) rfl ?_
          refine V.aload_n dX4_addToken_73 rfl rfl rfl ?_
          refine V.iload_n dX4_addToken_74 rfl rfl ?_
          refine V.if_eq (tgt := 82) dX4_addToken_75 (by decide) (fun c49 => absurd c49 (by decide)) (fun _ => ?_)
          refine V.iconst (v := 3) dX4_addToken_78 rfl ?_
          refine V.goto (tgt := 83) dX4_addToken_79 (by decide) ?_
          refine V.iload_n dX4_addToken_83 rfl rfl ?_
          refine V.iconst (v := 1) dX4_addToken_84 rfl ?_
          refine V.iload_n dX4_addToken_85 rfl rfl ?_
          refine V.callVV dX4_addToken_86 ml_X4_80 mo_X4_note mv_X4_note rfl (fun q hq => by cases hq; rfl) (by decide) (Or.inl ⟨rfl, SHL_lt rfl⟩) (sp_X4_note (by exact ly.keep rfl rfl) hn9 (by exact hct) _ _ _ _ (by decide) (n16_nI (by omega)) (by decide)) rfl rfl ⟨Nat.le_of_ble_eq_true rfl, Nat.le_of_ble_eq_true rfl, fun _ => ⟨rfl, rfl⟩⟩ (Nat.le_of_ble_eq_true rfl) (Or.inl rfl) (fun h50 p51 => ?_)
          have p51 := p51.symm
          subst p51
          refine V.iconst (v := 1) dX4_addToken_89 rfl ?_
          refine V.ireturn dX4_addToken_90 rfl rfl ⟨rfl, rfl⟩ ly.1 ?_
          subst_vars
          have hb : isLo (hI h 6) s = false := by unfold isLo; exact decide_eq_false_iff_not.mpr (fun q => by first | exact absurd q.1 (Int32.not_le.mpr (by assumption)) | exact absurd q.2 (Int32.not_le.mpr (by assumption)))
          have hd : isDi (hI h 6) s = false := by unfold isDi; exact decide_eq_false_iff_not.mpr (fun q => by first | exact absurd q.1 (Int32.not_le.mpr (by assumption)) | exact absurd q.2 (Int32.not_le.mpr (by assumption)))
          unfold lenT tokH
          rw [if_neg (by rw [hb]; decide), if_neg (by rw [hd]; decide), if_neg (by rw [hb]; decide), if_neg (by rw [hd]; decide)]
          refine ⟨rfl, ?_⟩
          first
            | (rw [if_pos (show isSg (hI h 6) s = true by unfold isSg; exact decide_eq_true_iff.mpr (by first | exact Or.inl (by assumption) | exact Or.inr (Or.inl (by assumption)) | exact Or.inr (Or.inr (Or.inl (by assumption))) | exact Or.inr (Or.inr (Or.inr (by assumption)))))]; done)
            | (rw [if_neg (show ¬ isSg (hI h 6) s = true by unfold isSg; rw [decide_eq_true_iff]; rintro (q | q | q | q) <;> exact absurd q (by assumption))]; done)
        · refine V.iload_n dX4_addToken_49 rfl rfl ?_
          refine V.bipush (v := 60) dX4_addToken_50 rfl ?_
          refine V.icmp_eq (tgt := 67) dX4_addToken_52 (by decide) (fun c52 => ?_) (fun c52 => ?_)
          · refine V.iconst (v := 1) dX4_addToken_67 rfl ?_
            refine V.goto (tgt := 72) dX4_addToken_68 (by decide) ?_
            refine V.istore_n (ls' := [.ref 5, .int (nI s), .int x1, .int 1]) dX4_addToken_72 rfl (by decide) rfl ?_
            refine V.aload_n dX4_addToken_73 rfl rfl rfl ?_
            refine V.iload_n dX4_addToken_74 rfl rfl ?_
            refine V.if_eq (tgt := 82) dX4_addToken_75 (by decide) (fun c53 => absurd c53 (by decide)) (fun _ => ?_)
            refine V.iconst (v := 3) dX4_addToken_78 rfl ?_
            refine V.goto (tgt := 83) dX4_addToken_79 (by decide) ?_
            refine V.iload_n dX4_addToken_83 rfl rfl ?_
            refine V.iconst (v := 1) dX4_addToken_84 rfl ?_
            refine V.iload_n dX4_addToken_85 rfl rfl ?_
            refine V.callVV dX4_addToken_86 ml_X4_80 mo_X4_note mv_X4_note rfl (fun q hq => by cases hq; rfl) (by decide) (Or.inl ⟨rfl, SHL_lt rfl⟩) (sp_X4_note (by exact ly.keep rfl rfl) hn9 (by exact hct) _ _ _ _ (by decide) (n16_nI (by omega)) (by decide)) rfl rfl ⟨Nat.le_of_ble_eq_true rfl, Nat.le_of_ble_eq_true rfl, fun _ => ⟨rfl, rfl⟩⟩ (Nat.le_of_ble_eq_true rfl) (Or.inl rfl) (fun h54 p55 => ?_)
            have p55 := p55.symm
            subst p55
            refine V.iconst (v := 1) dX4_addToken_89 rfl ?_
            refine V.ireturn dX4_addToken_90 rfl rfl ⟨rfl, rfl⟩ ly.1 ?_
            subst_vars
            have hb : isLo (hI h 6) s = false := by unfold isLo; exact decide_eq_false_iff_not.mpr (fun q => by first | exact absurd q.1 (Int32.not_le.mpr (by assumption)) | exact absurd q.2 (Int32.not_le.mpr (by assumption)))
            have hd : isDi (hI h 6) s = false := by unfold isDi; exact decide_eq_false_iff_not.mpr (fun q => by first | exact absurd q.1 (Int32.not_le.mpr (by assumption)) | exact absurd q.2 (Int32.not_le.mpr (by assumption)))
            unfold lenT tokH
            rw [if_neg (by rw [hb]; decide), if_neg (by rw [hd]; decide), if_neg (by rw [hb]; decide), if_neg (by rw [hd]; decide)]
            refine ⟨rfl, ?_⟩
            first
              | (rw [if_pos (show isSg (hI h 6) s = true by unfold isSg; exact decide_eq_true_iff.mpr (by first | exact Or.inl (by assumption) | exact Or.inr (Or.inl (by assumption)) | exact Or.inr (Or.inr (Or.inl (by assumption))) | exact Or.inr (Or.inr (Or.inr (by assumption)))))]; done)
              | (rw [if_neg (show ¬ isSg (hI h 6) s = true by unfold isSg; rw [decide_eq_true_iff]; rintro (q | q | q | q) <;> exact absurd q (by assumption))]; done)
          · refine V.iload_n dX4_addToken_55 rfl rfl ?_
            refine V.bipush (v := 62) dX4_addToken_56 rfl ?_
            refine V.icmp_eq (tgt := 67) dX4_addToken_58 (by decide) (fun c56 => ?_) (fun c56 => ?_)
            · refine V.iconst (v := 1) dX4_addToken_67 rfl ?_
              refine V.goto (tgt := 72) dX4_addToken_68 (by decide) ?_
              refine V.istore_n (ls' := [.ref 5, .int (nI s), .int x1, .int 1]) dX4_addToken_72 rfl (by decide) rfl ?_
              refine V.aload_n dX4_addToken_73 rfl rfl rfl ?_
              refine V.iload_n dX4_addToken_74 rfl rfl ?_
              refine V.if_eq (tgt := 82) dX4_addToken_75 (by decide) (fun c57 => absurd c57 (by decide)) (fun _ => ?_)
              refine V.iconst (v := 3) dX4_addToken_78 rfl ?_
              refine V.goto (tgt := 83) dX4_addToken_79 (by decide) ?_
              refine V.iload_n dX4_addToken_83 rfl rfl ?_
              refine V.iconst (v := 1) dX4_addToken_84 rfl ?_
              refine V.iload_n dX4_addToken_85 rfl rfl ?_
              refine V.callVV dX4_addToken_86 ml_X4_80 mo_X4_note mv_X4_note rfl (fun q hq => by cases hq; rfl) (by decide) (Or.inl ⟨rfl, SHL_lt rfl⟩) (sp_X4_note (by exact ly.keep rfl rfl) hn9 (by exact hct) _ _ _ _ (by decide) (n16_nI (by omega)) (by decide)) rfl rfl ⟨Nat.le_of_ble_eq_true rfl, Nat.le_of_ble_eq_true rfl, fun _ => ⟨rfl, rfl⟩⟩ (Nat.le_of_ble_eq_true rfl) (Or.inl rfl) (fun h58 p59 => ?_)
              have p59 := p59.symm
              subst p59
              refine V.iconst (v := 1) dX4_addToken_89 rfl ?_
              refine V.ireturn dX4_addToken_90 rfl rfl ⟨rfl, rfl⟩ ly.1 ?_
              subst_vars
              have hb : isLo (hI h 6) s = false := by unfold isLo; exact decide_eq_false_iff_not.mpr (fun q => by first | exact absurd q.1 (Int32.not_le.mpr (by assumption)) | exact absurd q.2 (Int32.not_le.mpr (by assumption)))
              have hd : isDi (hI h 6) s = false := by unfold isDi; exact decide_eq_false_iff_not.mpr (fun q => by first | exact absurd q.1 (Int32.not_le.mpr (by assumption)) | exact absurd q.2 (Int32.not_le.mpr (by assumption)))
              unfold lenT tokH
              rw [if_neg (by rw [hb]; decide), if_neg (by rw [hd]; decide), if_neg (by rw [hb]; decide), if_neg (by rw [hd]; decide)]
              refine ⟨rfl, ?_⟩
              first
                | (rw [if_pos (show isSg (hI h 6) s = true by unfold isSg; exact decide_eq_true_iff.mpr (by first | exact Or.inl (by assumption) | exact Or.inr (Or.inl (by assumption)) | exact Or.inr (Or.inr (Or.inl (by assumption))) | exact Or.inr (Or.inr (Or.inr (by assumption)))))]; done)
                | (rw [if_neg (show ¬ isSg (hI h 6) s = true by unfold isSg; rw [decide_eq_true_iff]; rintro (q | q | q | q) <;> exact absurd q (by assumption))]; done)
            · refine V.iload_n dX4_addToken_61 rfl rfl ?_
              refine V.bipush (v := 61) dX4_addToken_62 rfl ?_
              refine V.icmp_ne (tgt := 71) dX4_addToken_64 (by decide) (fun c60 => ?_) (fun c60 => ?_)
              · refine V.iconst (v := 0) dX4_addToken_71 rfl ?_
                refine V.istore_n (ls' := [.ref 5, .int (nI s), .int x1, .int 0]) dX4_addToken_72 rfl (by decide) rfl ?_
                refine V.aload_n dX4_addToken_73 rfl rfl rfl ?_
                refine V.iload_n dX4_addToken_74 rfl rfl ?_
                refine V.if_eq (tgt := 82) dX4_addToken_75 (by decide) (fun _ => ?_) (fun c61 => absurd c61 (by decide))
                refine V.iconst (v := 0) dX4_addToken_82 rfl ?_
                refine V.iload_n dX4_addToken_83 rfl rfl ?_
                refine V.iconst (v := 1) dX4_addToken_84 rfl ?_
                refine V.iload_n dX4_addToken_85 rfl rfl ?_
                refine V.callVV dX4_addToken_86 ml_X4_80 mo_X4_note mv_X4_note rfl (fun q hq => by cases hq; rfl) (by decide) (Or.inl ⟨rfl, SHL_lt rfl⟩) (sp_X4_note (by exact ly.keep rfl rfl) hn9 (by exact hct) _ _ _ _ (by decide) (n16_nI (by omega)) (by decide)) rfl rfl ⟨Nat.le_of_ble_eq_true rfl, Nat.le_of_ble_eq_true rfl, fun _ => ⟨rfl, rfl⟩⟩ (Nat.le_of_ble_eq_true rfl) (Or.inl rfl) (fun h62 p63 => ?_)
                have p63 := p63.symm
                subst p63
                refine V.iconst (v := 1) dX4_addToken_89 rfl ?_
                refine V.ireturn dX4_addToken_90 rfl rfl ⟨rfl, rfl⟩ ly.1 ?_
                subst_vars
                have hb : isLo (hI h 6) s = false := by unfold isLo; exact decide_eq_false_iff_not.mpr (fun q => by first | exact absurd q.1 (Int32.not_le.mpr (by assumption)) | exact absurd q.2 (Int32.not_le.mpr (by assumption)))
                have hd : isDi (hI h 6) s = false := by unfold isDi; exact decide_eq_false_iff_not.mpr (fun q => by first | exact absurd q.1 (Int32.not_le.mpr (by assumption)) | exact absurd q.2 (Int32.not_le.mpr (by assumption)))
                unfold lenT tokH
                rw [if_neg (by rw [hb]; decide), if_neg (by rw [hd]; decide), if_neg (by rw [hb]; decide), if_neg (by rw [hd]; decide)]
                refine ⟨rfl, ?_⟩
                first
                  | (rw [if_pos (show isSg (hI h 6) s = true by unfold isSg; exact decide_eq_true_iff.mpr (by first | exact Or.inl (by assumption) | exact Or.inr (Or.inl (by assumption)) | exact Or.inr (Or.inr (Or.inl (by assumption))) | exact Or.inr (Or.inr (Or.inr (by assumption)))))]; done)
                  | (rw [if_neg (show ¬ isSg (hI h 6) s = true by unfold isSg; rw [decide_eq_true_iff]; rintro (q | q | q | q) <;> exact absurd q (by assumption))]; done)
              · refine V.iconst (v := 1) dX4_addToken_67 rfl ?_
                refine V.goto (tgt := 72) dX4_addToken_68 (by decide) ?_
                refine V.istore_n (ls' := [.ref 5, .int (nI s), .int x1, .int 1]) dX4_addToken_72 rfl (by decide) rfl ?_
                refine V.aload_n dX4_addToken_73 rfl rfl rfl ?_
                refine V.iload_n dX4_addToken_74 rfl rfl ?_
                refine V.if_eq (tgt := 82) dX4_addToken_75 (by decide) (fun c64 => absurd c64 (by decide)) (fun _ => ?_)
                refine V.iconst (v := 3) dX4_addToken_78 rfl ?_
                refine V.goto (tgt := 83) dX4_addToken_79 (by decide) ?_
                refine V.iload_n dX4_addToken_83 rfl rfl ?_
                refine V.iconst (v := 1) dX4_addToken_84 rfl ?_
                refine V.iload_n dX4_addToken_85 rfl rfl ?_
                refine V.callVV dX4_addToken_86 ml_X4_80 mo_X4_note mv_X4_note rfl (fun q hq => by cases hq; rfl) (by decide) (Or.inl ⟨rfl, SHL_lt rfl⟩) (sp_X4_note (by exact ly.keep rfl rfl) hn9 (by exact hct) _ _ _ _ (by decide) (n16_nI (by omega)) (by decide)) rfl rfl ⟨Nat.le_of_ble_eq_true rfl, Nat.le_of_ble_eq_true rfl, fun _ => ⟨rfl, rfl⟩⟩ (Nat.le_of_ble_eq_true rfl) (Or.inl rfl) (fun h65 p66 => ?_)
                have p66 := p66.symm
                subst p66
                refine V.iconst (v := 1) dX4_addToken_89 rfl ?_
                refine V.ireturn dX4_addToken_90 rfl rfl ⟨rfl, rfl⟩ ly.1 ?_
                subst_vars
                have hb : isLo (hI h 6) s = false := by unfold isLo; exact decide_eq_false_iff_not.mpr (fun q => by first | exact absurd q.1 (Int32.not_le.mpr (by assumption)) | exact absurd q.2 (Int32.not_le.mpr (by assumption)))
                have hd : isDi (hI h 6) s = false := by unfold isDi; exact decide_eq_false_iff_not.mpr (fun q => by first | exact absurd q.1 (Int32.not_le.mpr (by assumption)) | exact absurd q.2 (Int32.not_le.mpr (by assumption)))
                unfold lenT tokH
                rw [if_neg (by rw [hb]; decide), if_neg (by rw [hd]; decide), if_neg (by rw [hb]; decide), if_neg (by rw [hd]; decide)]
                refine ⟨rfl, ?_⟩
                first
                  | (rw [if_pos (show isSg (hI h 6) s = true by unfold isSg; exact decide_eq_true_iff.mpr (by first | exact Or.inl (by assumption) | exact Or.inr (Or.inl (by assumption)) | exact Or.inr (Or.inr (Or.inl (by assumption))) | exact Or.inr (Or.inr (Or.inr (by assumption)))))]; done)
                  | (rw [if_neg (show ¬ isSg (hI h 6) s = true by unfold isSg; rw [decide_eq_true_iff]; rintro (q | q | q | q) <;> exact absurd q (by assumption))]; done)
      · refine V.iload_n dX4_addToken_31 rfl rfl ?_
        refine V.bipush (v := 57) dX4_addToken_32 rfl ?_
        refine V.icmp_gt (tgt := 43) dX4_addToken_34 (by decide) (fun c67 => ?_) (fun c67 => ?_)
        · refine V.iload_n dX4_addToken_43 rfl rfl ?_
          refine V.bipush (v := 59) dX4_addToken_44 rfl ?_
          refine V.icmp_eq (tgt := 67) dX4_addToken_46 (by decide) (fun c68 => ?_) (fun c68 => ?_)
          · refine V.iconst (v := 1) dX4_addToken_67 rfl ?_
            refine V.goto (tgt := 72) dX4_addToken_68 (by decide) ?_
            refine V.istore_n (ls' := [.ref 5, .int (nI s), .int x1, .int 1]) dX4_addToken_72 rfl (by decide) rfl ?_
            refine V.aload_n dX4_addToken_73 rfl rfl rfl ?_
            refine V.iload_n dX4_addToken_74 rfl rfl ?_
            refine V.if_eq (tgt := 82) dX4_addToken_75 (by decide) (fun c69 => absurd c69 (by decide)) (fun _ => ?_)
            refine V.iconst (v := 3) dX4_addToken_78 rfl ?_
            refine V.goto (tgt := 83) dX4_addToken_79 (by decide) ?_
            refine V.iload_n dX4_addToken_83 rfl rfl ?_
            refine V.iconst (v := 1) dX4_addToken_84 rfl ?_
            refine V.iload_n dX4_addToken_85 rfl rfl ?_
            refine V.callVV dX4_addToken_86 ml_X4_80 mo_X4_note mv_X4_note rfl (fun q hq => by cases hq; rfl) (by decide) (Or.inl ⟨rfl, SHL_lt rfl⟩) (sp_X4_note (by exact ly.keep rfl rfl) hn9 (by exact hct) _ _ _ _ (by decide) (n16_nI (by omega)) (by decide)) rfl rfl ⟨Nat.le_of_ble_eq_true rfl, Nat.le_of_ble_eq_true rfl, fun _ => ⟨rfl, rfl⟩⟩ (Nat.le_of_ble_eq_true rfl) (Or.inl rfl) (fun h70 p71 => ?_)
            have p71 := p71.symm
            subst p71
            refine V.iconst (v := 1) dX4_addToken_89 rfl ?_
            refine V.ireturn dX4_addToken_90 rfl rfl ⟨rfl, rfl⟩ ly.1 ?_
            subst_vars
            have hb : isLo (hI h 6) s = false := by unfold isLo; exact decide_eq_false_iff_not.mpr (fun q => by first | exact absurd q.1 (Int32.not_le.mpr (by assumption)) | exact absurd q.2 (Int32.not_le.mpr (by assumption)))
            have hd : isDi (hI h 6) s = false := by unfold isDi; exact decide_eq_false_iff_not.mpr (fun q => by first | exact absurd q.1 (Int32.not_le.mpr (by assumption)) | exact absurd q.2 (Int32.not_le.mpr (by assumption)))
            unfold lenT tokH
            rw [if_neg (by rw [hb]; decide), if_neg (by rw [hd]; decide), if_neg (by rw [hb]; decide), if_neg (by rw [hd]; decide)]
            refine ⟨rfl, ?_⟩
            first
              | (rw [if_pos (show isSg (hI h 6) s = true by unfold isSg; exact decide_eq_true_iff.mpr (by first | exact Or.inl (by assumption) | exact Or.inr (Or.inl (by assumption)) | exact Or.inr (Or.inr (Or.inl (by assumption))) | exact Or.inr (Or.inr (Or.inr (by assumption)))))]; done)
              | (rw [if_neg (show ¬ isSg (hI h 6) s = true by unfold isSg; rw [decide_eq_true_iff]; rintro (q | q | q | q) <;> exact absurd q (by assumption))]; done)
          · refine V.iload_n dX4_addToken_49 rfl rfl ?_
            refine V.bipush (v := 60) dX4_addToken_50 rfl ?_
            refine V.icmp_eq (tgt := 67) dX4_addToken_52 (by decide) (fun c72 => ?_) (fun c72 => ?_)
            · refine V.iconst (v := 1) dX4_addToken_67 rfl ?_
              refine V.goto (tgt := 72) dX4_addToken_68 (by decide) ?_
              refine V.istore_n (ls' := [.ref 5, .int (nI s), .int x1, .int 1]) dX4_addToken_72 rfl (by decide) rfl ?_
              refine V.aload_n dX4_addToken_73 rfl rfl rfl ?_
              refine V.iload_n dX4_addToken_74 rfl rfl ?_
              refine V.if_eq (tgt := 82) dX4_addToken_75 (by decide) (fun c73 => absurd c73 (by decide)) (fun _ => ?_)
              refine V.iconst (v := 3) dX4_addToken_78 rfl ?_
              refine V.goto (tgt := 83) dX4_addToken_79 (by decide) ?_
              refine V.iload_n dX4_addToken_83 rfl rfl ?_
              refine V.iconst (v := 1) dX4_addToken_84 rfl ?_
              refine V.iload_n dX4_addToken_85 rfl rfl ?_
              refine V.callVV dX4_addToken_86 ml_X4_80 mo_X4_note mv_X4_note rfl (fun q hq => by cases hq; rfl) (by decide) (Or.inl ⟨rfl, SHL_lt rfl⟩) (sp_X4_note (by exact ly.keep rfl rfl) hn9 (by exact hct) _ _ _ _ (by decide) (n16_nI (by omega)) (by decide)) rfl rfl ⟨Nat.le_of_ble_eq_true rfl, Nat.le_of_ble_eq_true rfl, fun _ => ⟨rfl, rfl⟩⟩ (Nat.le_of_ble_eq_true rfl) (Or.inl rfl) (fun h74 p75 => ?_)
              have p75 := p75.symm
              subst p75
              refine V.iconst (v := 1) dX4_addToken_89 rfl ?_
              refine V.ireturn dX4_addToken_90 rfl rfl ⟨rfl, rfl⟩ ly.1 ?_
              subst_vars
              have hb : isLo (hI h 6) s = false := by unfold isLo; exact decide_eq_false_iff_not.mpr (fun q => by first | exact absurd q.1 (Int32.not_le.mpr (by assumption)) | exact absurd q.2 (Int32.not_le.mpr (by assumption)))
              have hd : isDi (hI h 6) s = false := by unfold isDi; exact decide_eq_false_iff_not.mpr (fun q => by first | exact absurd q.1 (Int32.not_le.mpr (by assumption)) | exact absurd q.2 (Int32.not_le.mpr (by assumption)))
              unfold lenT tokH
              rw [if_neg (by rw [hb]; decide), if_neg (by rw [hd]; decide), if_neg (by rw [hb]; decide), if_neg (by rw [hd]; decide)]
              refine ⟨rfl, ?_⟩
              first
                | (rw [if_pos (show isSg (hI h 6) s = true by unfold isSg; exact decide_eq_true_iff.mpr (by first | exact Or.inl (by assumption) | exact Or.inr (Or.inl (by assumption)) | exact Or.inr (Or.inr (Or.inl (by assumption))) | exact Or.inr (Or.inr (Or.inr (by assumption)))))]; done)
                | (rw [if_neg (show ¬ isSg (hI h 6) s = true by unfold isSg; rw [decide_eq_true_iff]; rintro (q | q | q | q) <;> exact absurd q (by assumption))]; done)
            · refine V.iload_n dX4_addToken_55 rfl rfl ?_
              refine V.bipush (v := 62) dX4_addToken_56 rfl ?_
              refine V.icmp_eq (tgt := 67) dX4_addToken_58 (by decide) (fun c76 => ?_) (fun c76 => ?_)
              · refine V.iconst (v := 1) dX4_addToken_67 rfl ?_
                refine V.goto (tgt := 72) dX4_addToken_68 (by decide) ?_
                refine V.istore_n (ls' := [.ref 5, .int (nI s), .int x1, .int 1]) dX4_addToken_72 rfl (by decide) rfl ?_
                refine V.aload_n dX4_addToken_73 rfl rfl rfl ?_
                refine V.iload_n dX4_addToken_74 rfl rfl ?_
                refine V.if_eq (tgt := 82) dX4_addToken_75 (by decide) (fun c77 => absurd c77 (by decide)) (fun _ => ?_)
                refine V.iconst (v := 3) dX4_addToken_78 rfl ?_
                refine V.goto (tgt := 83) dX4_addToken_79 (by decide) ?_
                refine V.iload_n dX4_addToken_83 rfl rfl ?_
                refine V.iconst (v := 1) dX4_addToken_84 rfl ?_
                refine V.iload_n dX4_addToken_85 rfl rfl ?_
                refine V.callVV dX4_addToken_86 ml_X4_80 mo_X4_note mv_X4_note rfl (fun q hq => by cases hq; rfl) (by decide) (Or.inl ⟨rfl, SHL_lt rfl⟩) (sp_X4_note (by exact ly.keep rfl rfl) hn9 (by exact hct) _ _ _ _ (by decide) (n16_nI (by omega)) (by decide)) rfl rfl ⟨Nat.le_of_ble_eq_true rfl, Nat.le_of_ble_eq_true rfl, fun _ => ⟨rfl, rfl⟩⟩ (Nat.le_of_ble_eq_true rfl) (Or.inl rfl) (fun h78 p79 => ?_)
                have p79 := p79.symm
                subst p79
                refine V.iconst (v := 1) dX4_addToken_89 rfl ?_
                refine V.ireturn dX4_addToken_90 rfl rfl ⟨rfl, rfl⟩ ly.1 ?_
                subst_vars
                have hb : isLo (hI h 6) s = false := by unfold isLo; exact decide_eq_false_iff_not.mpr (fun q => by first | exact absurd q.1 (Int32.not_le.mpr (by assumption)) | exact absurd q.2 (Int32.not_le.mpr (by assumption)))
                have hd : isDi (hI h 6) s = false := by unfold isDi; exact decide_eq_false_iff_not.mpr (fun q => by first | exact absurd q.1 (Int32.not_le.mpr (by assumption)) | exact absurd q.2 (Int32.not_le.mpr (by assumption)))
                unfold lenT tokH
                rw [if_neg (by rw [hb]; decide), if_neg (by rw [hd]; decide), if_neg (by rw [hb]; decide), if_neg (by rw [hd]; decide)]
                refine ⟨rfl, ?_⟩
                first
                  | (rw [if_pos (show isSg (hI h 6) s = true by unfold isSg; exact decide_eq_true_iff.mpr (by first | exact Or.inl (by assumption) | exact Or.inr (Or.inl (by assumption)) | exact Or.inr (Or.inr (Or.inl (by assumption))) | exact Or.inr (Or.inr (Or.inr (by assumption)))))]; done)
                  | (rw [if_neg (show ¬ isSg (hI h 6) s = true by unfold isSg; rw [decide_eq_true_iff]; rintro (q | q | q | q) <;> exact absurd q (by assumption))]; done)
              · refine V.iload_n dX4_addToken_61 rfl rfl ?_
                refine V.bipush (v := 61) dX4_addToken_62 rfl ?_
                refine V.icmp_ne (tgt := 71) dX4_addToken_64 (by decide) (fun c80 => ?_) (fun c80 => ?_)
                · refine V.iconst (v := 0) dX4_addToken_71 rfl ?_
                  refine V.istore_n (ls' := [.ref 5, .int (nI s), .int x1, .int 0]) dX4_addToken_72 rfl (by decide) rfl ?_
                  refine V.aload_n dX4_addToken_73 rfl rfl rfl ?_
                  refine V.iload_n dX4_addToken_74 rfl rfl ?_
                  refine V.if_eq (tgt := 82) dX4_addToken_75 (by decide) (fun _ => ?_) (fun c81 => absurd c81 (by decide))
                  refine V.iconst (v := 0) dX4_addToken_82 rfl ?_
                  refine V.iload_n dX4_addToken_83 rfl rfl ?_
                  refine V.iconst (v := 1) dX4_addToken_84 rfl ?_
                  refine V.iload_n dX4_addToken_85 rfl rfl ?_
                  refine V.callVV dX4_addToken_86 ml_X4_80 mo_X4_note mv_X4_note rfl (fun q hq => by cases hq; rfl) (by decide) (Or.inl ⟨rfl, SHL_lt rfl⟩) (sp_X4_note (by exact ly.keep rfl rfl) hn9 (by exact hct) _ _ _ _ (by decide) (n16_nI (by omega)) (by decide)) rfl rfl ⟨Nat.le_of_ble_eq_true rfl, Nat.le_of_ble_eq_true rfl, fun _ => ⟨rfl, rfl⟩⟩ (Nat.le_of_ble_eq_true rfl) (Or.inl rfl) (fun h82 p83 => ?_)
                  have p83 := p83.symm
                  subst p83
                  refine V.iconst (v := 1) dX4_addToken_89 rfl ?_
                  refine V.ireturn dX4_addToken_90 rfl rfl ⟨rfl, rfl⟩ ly.1 ?_
                  subst_vars
                  have hb : isLo (hI h 6) s = false := by unfold isLo; exact decide_eq_false_iff_not.mpr (fun q => by first | exact absurd q.1 (Int32.not_le.mpr (by assumption)) | exact absurd q.2 (Int32.not_le.mpr (by assumption)))
                  have hd : isDi (hI h 6) s = false := by unfold isDi; exact decide_eq_false_iff_not.mpr (fun q => by first | exact absurd q.1 (Int32.not_le.mpr (by assumption)) | exact absurd q.2 (Int32.not_le.mpr (by assumption)))
                  unfold lenT tokH
                  rw [if_neg (by rw [hb]; decide), if_neg (by rw [hd]; decide), if_neg (by rw [hb]; decide), if_neg (by rw [hd]; decide)]
                  refine ⟨rfl, ?_⟩
                  first
                    | (rw [if_pos (show isSg (hI h 6) s = true by unfold isSg; exact decide_eq_true_iff.mpr (by first | exact Or.inl (by assumption) | exact Or.inr (Or.inl (by assumption)) | exact Or.inr (Or.inr (Or.inl (by assumption))) | exact Or.inr (Or.inr (Or.inr (by assumption)))))]; done)
                    | (rw [if_neg (show ¬ isSg (hI h 6) s = true by unfold isSg; rw [decide_eq_true_iff]; rintro (q | q | q | q) <;> exact absurd q (by assumption))]; done)
                · refine V.iconst (v := 1) dX4_addToken_67 rfl ?_
                  refine V.goto (tgt := 72) dX4_addToken_68 (by decide) ?_
                  refine V.istore_n (ls' := [.ref 5, .int (nI s), .int x1, .int 1]) dX4_addToken_72 rfl (by decide) rfl ?_
                  refine V.aload_n dX4_addToken_73 rfl rfl rfl ?_
                  refine V.iload_n dX4_addToken_74 rfl rfl ?_
                  refine V.if_eq (tgt := 82) dX4_addToken_75 (by decide) (fun c84 => absurd c84 (by decide)) (fun _ => ?_)
                  refine V.iconst (v := 3) dX4_addToken_78 rfl ?_
                  refine V.goto (tgt := 83) dX4_addToken_79 (by decide) ?_
                  refine V.iload_n dX4_addToken_83 rfl rfl ?_
                  refine V.iconst (v := 1) dX4_addToken_84 rfl ?_
                  refine V.iload_n dX4_addToken_85 rfl rfl ?_
                  refine V.callVV dX4_addToken_86 ml_X4_80 mo_X4_note mv_X4_note rfl (fun q hq => by cases hq; rfl) (by decide) (Or.inl ⟨rfl, SHL_lt rfl⟩) (sp_X4_note (by exact ly.keep rfl rfl) hn9 (by exact hct) _ _ _ _ (by decide) (n16_nI (by omega)) (by decide)) rfl rfl ⟨Nat.le_of_ble_eq_true rfl, Nat.le_of_ble_eq_true rfl, fun _ => ⟨rfl, rfl⟩⟩ (Nat.le_of_ble_eq_true rfl) (Or.inl rfl) (fun h85 p86 => ?_)
                  have p86 := p86.symm
                  subst p86
                  refine V.iconst (v := 1) dX4_addToken_89 rfl ?_
                  refine V.ireturn dX4_addToken_90 rfl rfl ⟨rfl, rfl⟩ ly.1 ?_
                  subst_vars
                  have hb : isLo (hI h 6) s = false := by unfold isLo; exact decide_eq_false_iff_not.mpr (fun q => by first | exact absurd q.1 (Int32.not_le.mpr (by assumption)) | exact absurd q.2 (Int32.not_le.mpr (by assumption)))
                  have hd : isDi (hI h 6) s = false := by unfold isDi; exact decide_eq_false_iff_not.mpr (fun q => by first | exact absurd q.1 (Int32.not_le.mpr (by assumption)) | exact absurd q.2 (Int32.not_le.mpr (by assumption)))
                  unfold lenT tokH
                  rw [if_neg (by rw [hb]; decide), if_neg (by rw [hd]; decide), if_neg (by rw [hb]; decide), if_neg (by rw [hd]; decide)]
                  refine ⟨rfl, ?_⟩
                  first
                    | (rw [if_pos (show isSg (hI h 6) s = true by unfold isSg; exact decide_eq_true_iff.mpr (by first | exact Or.inl (by assumption) | exact Or.inr (Or.inl (by assumption)) | exact Or.inr (Or.inr (Or.inl (by assumption))) | exact Or.inr (Or.inr (Or.inr (by assumption)))))]; done)
                    | (rw [if_neg (show ¬ isSg (hI h 6) s = true by unfold isSg; rw [decide_eq_true_iff]; rintro (q | q | q | q) <;> exact absurd q (by assumption))]; done)
        · refine V.aload_n dX4_addToken_37 rfl rfl rfl ?_
          refine V.iload_n dX4_addToken_38 rfl rfl ?_
          refine V.callVI dX4_addToken_39 ml_X4_87 mo_X4_addNumber mv_X4_addNumber rfl (fun q hq => by cases hq; rfl) (by decide) (Or.inl ⟨rfl, SHL_lt rfl⟩) (sp_X4_addNumber (by exact ly.keep rfl rfl) hL9 hlen hn9 hct hs) rfl rfl ⟨Nat.le_of_ble_eq_true rfl, Nat.le_of_ble_eq_true rfl, fun _ => ⟨rfl, rfl⟩⟩ (Nat.le_of_ble_eq_true rfl) rfl (fun r87 h88 p89 => ?_)
          obtain ⟨er87, p89⟩ := p89
          have p89 := p89.symm
          subst p89
          refine V.ireturn dX4_addToken_42 rfl rfl ⟨rfl, rfl⟩ ly.1 ?_
          subst_vars
          have hb : isLo (hI h 6) s = false := by unfold isLo; exact decide_eq_false_iff_not.mpr (fun q => by first | exact absurd q.1 (Int32.not_le.mpr (by assumption)) | exact absurd q.2 (Int32.not_le.mpr (by assumption)))
          have hd : isDi (hI h 6) s = true := by unfold isDi; exact decide_eq_true_iff.mpr ⟨Int32.not_lt.mp (by assumption), Int32.not_lt.mp (by assumption)⟩
          unfold lenT tokH
          rw [if_neg (by rw [hb]; decide), if_pos hd, if_neg (by rw [hb]; decide), if_pos hd]
          exact ⟨rfl, rfl⟩
    · refine V.aload_n dX4_addToken_19 rfl rfl rfl ?_
      refine V.iload_n dX4_addToken_20 rfl rfl ?_
      refine V.callVI dX4_addToken_21 ml_X4_84 mo_X4_addWord mv_X4_addWord rfl (fun q hq => by cases hq; rfl) (by decide) (Or.inl ⟨rfl, SHL_lt rfl⟩) (sp_X4_addWord (by exact ly.keep rfl rfl) hL9 hlen hn9 hct hs) rfl rfl ⟨Nat.le_of_ble_eq_true rfl, Nat.le_of_ble_eq_true rfl, fun _ => ⟨rfl, rfl⟩⟩ (Nat.le_of_ble_eq_true rfl) rfl (fun r90 h91 p92 => ?_)
      obtain ⟨er90, p92⟩ := p92
      have p92 := p92.symm
      subst p92
      refine V.ireturn dX4_addToken_24 rfl rfl ⟨rfl, rfl⟩ ly.1 ?_
      subst_vars
      have hb : isLo (hI h 6) s = true := by unfold isLo; exact decide_eq_true_iff.mpr ⟨Int32.not_lt.mp (by assumption), Int32.not_lt.mp (by assumption)⟩
      unfold lenT tokH
      rw [if_pos hb, if_pos hb]
      exact ⟨rfl, rfl⟩
