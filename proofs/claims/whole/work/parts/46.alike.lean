/-! ===== alike: rules, citizens, lamps by hand ===== -/
theorem RtH.n {h : HP} {t w r : Nat} (q : RtH h t 0 w r) : (1 ≤ w ∧ w ≤ 5 ∧ hI h 114 0 = nI w ∧ hI h (t + 1) 0 = nI w) ∧ (1 ≤ r ∧ r ≤ 6 ∧ hI h 114 1 = nI r ∧ hI h (t + 1) 1 = nI r) ∧
    (hI h (t + 1) 2 = hI h 114 9 ∧ (hI h 114 9 = 0 ∨ (hI h 114 9 = 1 ∧ 2 < w))) ∧
    (∀ i, i < 32 → (bt (hI h (t + 1) 3) i = decide (i < w * r) ∧ bt (hI h (t + 1) 7) i = decide (i < w * r ∧ i % w = 0) ∧ bt (hI h (t + 1) 8) i = decide (i < w * r ∧ i % w = w - 1))) ∧
    (hI h (t + 1) 4 = hI h 114 2 ∧ hI h t 13 = hI h 114 3) ∧
    (∀ i, i < 32 → (bt (hI h (t + 1) 5) i = (bt (hI h 114 2) i && !bt (hI h 114 4) i)) ∧ bt (hI h (t + 1) 6) i = (bt (hI h 114 3) i && bt (hI h 114 4) i)) ∧
    (∀ i, i < 32 → (bt (hI h 114 2) i = true → i < w * r) ∧ (bt (hI h 114 3) i = true → bt (hI h 114 2) i = true) ∧ (bt (hI h 114 4) i = true → bt (hI h 114 2) i = true)) := by
  unfold RtH at q; simp only [Nat.zero_add] at q; exact q
theorem RtR.n {h : HP} {t m c : Nat} (q : RtR h t 0 0 m c) : (m ≤ 4 ∧ hI h 114 5 = nI m ∧ hI h t 10 = nI m) ∧ (c ≤ 6 ∧ hI h 114 6 = nI c ∧ hI h t 11 = nI c) ∧
    ((m = 0 ∧ hI h 114 10 = -1) ∨ ∃ q, q < m ∧ hI h 114 10 = nI q ∧ hI h t 12 = nI q) ∧
    (∀ i, i < m → hI h (t + 10) i = hI h 114 (12 + 2 * i) ∧ hI h (t + 11) i = hI h 114 (13 + 2 * i) ∧ NmR (hL h (t + 9) i) (hL h 115 i)) ∧
    (∀ i, i < c → hI h (t + 13) i = hI h 114 (20 + 2 * i) ∧ hI h (t + 14) i = hI h 114 (21 + 2 * i) ∧ True) ∧
    (∀ i, i < m → (∃ n, n < 32 ∧ hI h 114 (12 + 2 * i) = nI n) ∧ ∃ n, n < 32 ∧ hI h 114 (13 + 2 * i) = nI n) ∧
    (∀ i, i < c → ∃ n k, n ≤ k ∧ k ≤ 30 ∧ hI h 114 (20 + 2 * i) = nI n ∧ hI h 114 (21 + 2 * i) = nI k) := by
  unfold RtR at q; simp only [Nat.zero_add] at q; exact q
theorem RtS.n {h : HP} {t : Nat} (q : RtS h t 0) : (hI h t 14 = hI h 114 7 ∧ hI h t 15 = hI h 114 8) ∧ ∀ i, i < 10 → hI h (t + 15) i = hI h 114 (32 + i) ∧ ∃ n, n < 4 ∧ hI h 114 (32 + i) = nI n := by
  unfold RtS at q; simp only [Nat.zero_add] at q; exact q
theorem Inv.tn {h : HP} {t u : Nat} (I : Inv h t u) : Rt h t 0 0 := I.2.2.2.2.2.2.1
theorem op_status {h : HP} {t u : Nat} (I : Inv h t u) : Op t u (f_X11_status h) (fun g => f_X12_status g) :=
  ⟨hI h 0 11, h, h, rfl, by show some (hI h 113 2, h) = _; rw [I.2.1.1], I⟩
theorem op_top {h : HP} {t u : Nat} (I : Inv h t u) : OpL t u (f_X11_top h) (fun g => f_X12_top g) :=
  ⟨hL h 0 12, h, h, rfl, by show some (hL h 113 3, h) = _; rw [I.2.1.2.1], I⟩
theorem op_bottom {h : HP} {t u : Nat} (I : Inv h t u) : OpL t u (f_X11_bottom h) (fun g => f_X12_bottom g) :=
  ⟨hL h 0 13, h, h, rfl, by show some (hL h 113 4, h) = _; rw [I.2.1.2.2], I⟩
theorem op_fault {h : HP} {t u : Nat} (I : Inv h t u) (a : Int32) : Op t u (f_X11_fault h a) (fun g => f_X12_fault g a) := by
  obtain ⟨-, k1, k2⟩ := I.2.2.2.1
  unfold f_X11_fault f_X12_fault
  by_cases h0 : a = 0
  · exact ⟨_, h, h, if_pos h0, by show (if a = 0 then _ else _) = _; rw [if_pos h0, k1], I⟩
  · by_cases h1 : a = 1
    · exact ⟨_, h, h, by rw [if_neg h0, if_pos h1], by show (if a = 0 then _ else _) = _; rw [if_neg h0, if_pos h1, k2], I⟩
    · exact ⟨_, h, h, by rw [if_neg h0, if_neg h1], by show (if a = 0 then _ else _) = _; rw [if_neg h0, if_neg h1], I⟩
theorem op_picture {h : HP} {t u : Nat} (I : Inv h t u) : OpL t u (f_X11_picture h t) (fun g => f_X12_picture g) := by
  obtain ⟨w, r, m, c, qH, -⟩ := I.tn
  refine opL_st I (v := 0) (r := (hI h 114 3).toInt64) ?_ ?_
  · show (some ((hI h t 13).toInt64, _) : Option _) = _; rw [qH.n.2.2.2.2.1.2]
  · show (some ((hI (uI h 0 11 0) 114 3).toInt64, _) : Option _) = _; rw [hI_st h 0 (by decide)]
theorem ans_e (h : HP) (v : Int32) : f_X11_answer h v = some (v, uI h 0 11 0) := rfl
theorem ref_e (h : HP) (v : Int32) : f_X11_refuse h v = some (-1, uI h 0 11 v) := rfl
theorem alw_e (h : HP) : f_X11_allow h = some (1, uI h 0 11 0) := rfl
theorem dny_e (h : HP) (v : Int32) : f_X11_deny h v = some (0, uI h 0 11 v) := rfl
theorem giv_e (h : HP) (v : Int32) : f_X12_gives h v = some (v, uI h 113 2 0) := rfl
theorem gvl_e (h : HP) (v : Int64) : f_X12_givesLong h v = some (v, uI h 113 2 0) := rfl
theorem rfs_e (h : HP) (v : Int32) : f_X12_refuse h v = some (-1, uI h 113 2 v) := rfl
theorem is_e (h : HP) (v : Int32) : f_X12_is h v = some (bI (decide (v = 0)), uI h 113 2 v) := by
  unfold f_X12_is
  simp only [ltv_e]
  by_cases h0 : v = 0
  · rw [if_pos h0, bI_dt h0]
  · rw [if_neg h0, bI_df h0]
theorem is01_0 : is01 0 := Or.inl rfl
theorem is01_1 : is01 1 := Or.inr rfl
theorem rng_lt {a : Int32} {m : Nat} (hm : m < 2 ^ 31) (h : 0 ≤ a.toInt ∧ a.toInt < (nI m).toInt) : ∃ i, i < m ∧ a = nI i := by
  rw [nI_t hm] at h; exact ⟨a.toInt.toNat, by omega, nI_toNat h.1⟩
theorem le1 {a : Int32} : (¬ a < 0 ∧ ¬ 1 < a) ↔ (a = 0 ∨ a = 1) := by
  constructor
  · intro q
    simp only [Int32.lt_iff_toInt_lt, Int32.reduceToInt] at q
    rcases (show a.toInt = 0 ∨ a.toInt = 1 by omega) with e | e
    · exact Or.inl (Int32.toInt_inj.mp e)
    · exact Or.inr (Int32.toInt_inj.mp e)
  · rintro (rfl | rfl) <;> decide
theorem idx2 {i : Nat} (hi : i < 1000) (a : Nat) (ha : a < 1000) : ((nI a) + ((2 : Int32) * nI i)) + 0 = nI (a + 2 * i) ∧ ((nI a) + ((2 : Int32) * nI i)) + 1 = nI (a + 1 + 2 * i) ∧ (nI a) + ((2 : Int32) * nI i) = nI (a + 2 * i) := by
  rw [show (2 : Int32) = nI 2 from rfl, nI_mul, nI_add, show (0 : Int32) = nI 0 from rfl, nI_add, show (1 : Int32) = nI 1 from rfl, nI_add]
  exact ⟨by rw [Nat.add_zero], by rw [show a + 2 * i + 1 = a + 1 + 2 * i by omega], rfl⟩
theorem op_rule {h : HP} {t u : Nat} (I : Inv h t u) (a b : Int32) : Op t u (f_X11_rule h t a b) (fun g => f_X12_rule g a b) := by
  obtain ⟨w, r, m, c, -, qR, -⟩ := I.tn
  obtain ⟨⟨m1, m2, m3⟩, -, -, p4, -⟩ := qR.n
  unfold f_X11_rule f_X12_rule f_X5_hasRule
  simp only [bd2_s, isRule_e, hI_st h _ (show 114 ≠ 0 by decide), ref_e, rfs_e, ans_e, giv_e]
  by_cases ha : 0 ≤ a.toInt ∧ a.toInt < (hI h t 10).toInt
  · have ha2 : 0 ≤ a.toInt ∧ a.toInt < (hI h 114 5).toInt := by rw [m2, ← m3]; exact ha
    rw [m3] at ha
    obtain ⟨i, hi, rfl⟩ := rng_lt (by omega) ha
    obtain ⟨f0, f1, -⟩ := idx2 (i := i) (by omega) 12 (by omega)
    obtain ⟨e1, e2, -⟩ := p4 i hi
    by_cases hb : b = 0 ∨ b = 1
    · obtain ⟨b1, b2⟩ := le1.mpr hb
      rcases hb with rfl | rfl
      · refine op_st I (v := 0) (r := hI h 114 (12 + 2 * i)) ?_ ?_
        · rw [bI_dt (by rw [m3]; exact ha), if_neg (by decide), if_neg (by decide), if_pos (by decide), if_pos rfl, gdi_nI (by omega) (by decide), nI_clamp (by omega), e1]
        · simp only [hI_st h _ (show 114 ≠ 0 by decide)]
          rw [bI_dt ha2, if_neg (by decide), if_neg (by decide), if_neg (by decide), show (12 : Int32) = nI 12 from rfl, f0, gdi_nI (by omega) (by decide), nI_clamp (by omega)]
      · refine op_st I (v := 0) (r := hI h 114 (13 + 2 * i)) ?_ ?_
        · rw [bI_dt (by rw [m3]; exact ha), if_neg (by decide), if_neg (by decide), if_pos (by decide), if_neg (by decide), gdi_nI (by omega) (by decide), nI_clamp (by omega), e2]
        · simp only [hI_st h _ (show 114 ≠ 0 by decide)]
          rw [bI_dt ha2, if_neg (by decide), if_neg (by decide), if_neg (by decide), show (12 : Int32) = nI 12 from rfl, f1, gdi_nI (by omega) (by decide), nI_clamp (by omega)]
    · have hb' := fun q => hb (le1.mp q)
      refine op_st I (v := 1) (r := -1) ?_ ?_
      · rw [bI_dt (by rw [m3]; exact ha), if_neg (by decide)]
        by_cases b1 : b < 0
        · rw [if_pos b1]
        · rw [if_neg b1, if_neg (fun q => hb' ⟨b1, Int32.not_lt.mpr q⟩)]
      · simp only [hI_st h _ (show 114 ≠ 0 by decide)]
        rw [bI_dt ha2, if_neg (by decide)]
        by_cases b1 : b < 0
        · rw [if_pos b1]
        · rw [if_neg b1, if_pos (by by_cases q : 1 < b; exact q; exact absurd ⟨b1, q⟩ hb')]
  · have ha2 : ¬ (0 ≤ a.toInt ∧ a.toInt < (hI h 114 5).toInt) := by rw [m2, ← m3]; exact ha
    refine op_st I (v := 1) (r := -1) ?_ ?_
    · rw [bI_df ha, if_pos rfl]
    · simp only [hI_st h _ (show 114 ≠ 0 by decide)]
      rw [bI_df ha2, if_pos rfl]
theorem op_citizen {h : HP} {t u : Nat} (I : Inv h t u) (a b : Int32) : Op t u (f_X11_citizen h t a b) (fun g => f_X12_citizen g a b) := by
  obtain ⟨w, r, m, c, -, qR, -⟩ := I.tn
  obtain ⟨-, ⟨m1, m2, m3⟩, -, -, p4, -⟩ := qR.n
  unfold f_X11_citizen f_X12_citizen f_X5_hasCitizen
  simp only [bd2_s, isCitizen_e, hI_st h _ (show 114 ≠ 0 by decide), ref_e, rfs_e, ans_e, giv_e]
  by_cases ha : 0 ≤ a.toInt ∧ a.toInt < (hI h t 11).toInt
  · have ha2 : 0 ≤ a.toInt ∧ a.toInt < (hI h 114 6).toInt := by rw [m2, ← m3]; exact ha
    rw [m3] at ha
    obtain ⟨i, hi, rfl⟩ := rng_lt (by omega) ha
    obtain ⟨f0, f1, -⟩ := idx2 (i := i) (by omega) 20 (by omega)
    obtain ⟨e1, e2, -⟩ := p4 i hi
    by_cases hb : b = 0 ∨ b = 1
    · obtain ⟨b1, b2⟩ := le1.mpr hb
      rcases hb with rfl | rfl
      · refine op_st I (v := 0) (r := hI h 114 (20 + 2 * i)) ?_ ?_
        · rw [bI_dt (by rw [m3]; exact ha), if_neg (by decide), if_neg (by decide), if_pos (by decide), if_pos rfl, gdi_nI (by omega) (by decide), nI_clamp (by omega), e1]
        · simp only [hI_st h _ (show 114 ≠ 0 by decide)]
          rw [bI_dt ha2, if_neg (by decide), if_neg (by decide), if_neg (by decide), show (20 : Int32) = nI 20 from rfl, f0, gdi_nI (by omega) (by decide), nI_clamp (by omega)]
      · refine op_st I (v := 0) (r := hI h 114 (21 + 2 * i)) ?_ ?_
        · rw [bI_dt (by rw [m3]; exact ha), if_neg (by decide), if_neg (by decide), if_pos (by decide), if_neg (by decide), gdi_nI (by omega) (by decide), nI_clamp (by omega), e2]
        · simp only [hI_st h _ (show 114 ≠ 0 by decide)]
          rw [bI_dt ha2, if_neg (by decide), if_neg (by decide), if_neg (by decide), show (20 : Int32) = nI 20 from rfl, f1, gdi_nI (by omega) (by decide), nI_clamp (by omega)]
    · have hb' := fun q => hb (le1.mp q)
      refine op_st I (v := 1) (r := -1) ?_ ?_
      · rw [bI_dt (by rw [m3]; exact ha), if_neg (by decide)]
        by_cases b1 : b < 0
        · rw [if_pos b1]
        · rw [if_neg b1, if_neg (fun q => hb' ⟨b1, Int32.not_lt.mpr q⟩)]
      · simp only [hI_st h _ (show 114 ≠ 0 by decide)]
        rw [bI_dt ha2, if_neg (by decide)]
        by_cases b1 : b < 0
        · rw [if_pos b1]
        · rw [if_neg b1, if_pos (by by_cases q : 1 < b; exact q; exact absurd ⟨b1, q⟩ hb')]
  · have ha2 : ¬ (0 ≤ a.toInt ∧ a.toInt < (hI h 114 6).toInt) := by rw [m2, ← m3]; exact ha
    refine op_st I (v := 1) (r := -1) ?_ ?_
    · rw [bI_df ha, if_pos rfl]
    · simp only [hI_st h _ (show 114 ≠ 0 by decide)]
      rw [bI_df ha2, if_pos rfl]
