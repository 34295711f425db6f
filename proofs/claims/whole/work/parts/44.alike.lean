/-! ===== what is told alike: the plain answers ===== -/
theorem ne_rng {a : Int32} {lo hi : Int} (h : ¬ (lo ≤ a.toInt ∧ a.toInt ≤ hi)) {k : Int32} (hk : lo ≤ k.toInt ∧ k.toInt ≤ hi) : ¬ a = k := fun e => h (by rw [e]; exact hk)
theorem rng_nI {a : Int32} {n : Nat} (h : 0 ≤ a.toInt ∧ a.toInt ≤ (n : Int)) : ∃ k, k ≤ n ∧ a = nI k := ⟨a.toInt.toNat, by omega, nI_toNat h.1⟩
theorem lt_nI0 (k : Nat) (hk : k < 2 ^ 31) : ¬ nI k < 0 := by rw [show (0 : Int32) = nI 0 from rfl, nI_ltI hk (by omega)]; omega
theorem op_st {h : HP} {t u : Nat} (I : Inv h t u) {r v : Int32} {f1 : Option (Int32 × HP)} {f2 : HP → Option (Int32 × HP)} (e1 : f1 = some (r, uI h 0 11 v)) (e2 : f2 (uI h 0 11 v) = some (r, uI (uI h 0 11 v) 113 2 v)) : Op t u f1 f2 := ⟨_, _, _, e1, e2, I.st v⟩
theorem opL_st {h : HP} {t u : Nat} (I : Inv h t u) {r : Int64} {v : Int32} {f1 : Option (Int64 × HP)} {f2 : HP → Option (Int64 × HP)} (e1 : f1 = some (r, uI h 0 11 v)) (e2 : f2 (uI h 0 11 v) = some (r, uI (uI h 0 11 v) 113 2 v)) : OpL t u f1 f2 := ⟨_, _, _, e1, e2, I.st v⟩
theorem hI_st (h : HP) (v : Int32) {a : Nat} (ha : a ≠ 0) (j : Nat) : hI (uI h 0 11 v) a j = hI h a j := by rw [hI_uI, if_neg (fun q => ha q.1)]
theorem pc_mi {x y z : Int32} (h : ∀ i, i < 32 → bt x i = (bt y i && !bt z i)) (hz : ∀ i, i < 32 → bt z i = true → bt y i = true) : pc (y &&& (x ^^^ -1)) = pc z := by
  unfold pc
  refine fb_ct_cong (fun i hi => ?_)
  rw [b_and, b_xor, b_m1 i hi, h i hi]
  have := hz i hi
  cases hy : bt y i <;> cases hq : bt z i <;> simp_all
theorem gdi_l {β : Type} {i : Int32} {n : Nat} (h : ¬ (i < 0 ∨ n ≤ i.toNatClampNeg)) (k : Option β) : gdi i n k = k := if_neg h
theorem op_told {h : HP} {t u : Nat} (I : Inv h t u) (a : Int32) : Op t u (f_X11_told h t a) (fun g => f_X12_told g a) := by
  obtain ⟨w, r, m, c, ⟨⟨w1, w2, w3, w4⟩, ⟨r1, r2, r3, r4⟩, ⟨j1, j2⟩, h3, ⟨h4, h5⟩, h6, h7⟩, ⟨⟨m1, m2, m3⟩, ⟨c1, c2, c3⟩, hby, -⟩, ⟨⟨s1, s2⟩, -⟩, -⟩ := I.2.2.2.2.2.2.1
  by_cases hr : 0 ≤ a.toInt ∧ a.toInt ≤ 10
  · obtain ⟨k, hk, rfl⟩ := rng_nI (n := 10) hr
    rcases (show k = 0 ∨ k = 1 ∨ k = 2 ∨ k = 3 ∨ k = 4 ∨ k = 5 ∨ k = 6 ∨ k = 7 ∨ k = 8 ∨ k = 9 ∨ k = 10 by omega) with rfl | rfl | rfl | rfl | rfl | rfl | rfl | rfl | rfl | rfl | rfl
    · refine op_st I (v := 0) (r := nI w) ?_ ?_
      · show (some (hI h (t + 1) 0, _) : Option _) = _; rw [w4]
      · show (some (hI (uI h 0 11 0) 114 0, _) : Option _) = _; rw [hI_st h 0 (by decide), w3]
    · refine op_st I (v := 0) (r := nI r) ?_ ?_
      · show (some (hI h (t + 1) 1, _) : Option _) = _; rw [r4]
      · show (some (hI (uI h 0 11 0) 114 1, _) : Option _) = _; rw [hI_st h 0 (by decide), r3]
    · refine op_st I (v := 0) (r := nI (pc (hI h 114 2))) ?_ ?_
      · show (some (nI (pc (hI h (t + 1) 4)), _) : Option _) = _; rw [h4]
      · show f_X12_told _ (nI 2) = _; simp (decide := true) only [f_X12_told, f_X12_gives, f_X12_refuse, f_X12_orNone, if_true, if_false, gdi_l, bits_e, bd2_s, ltv_e, show nI 2 = (2 : Int32) from rfl, show Int32.toNatClampNeg 2 = 2 from rfl]; try rw [hI_st h 0 (by decide)]
    · refine op_st I (v := 0) (r := nI (pc (hI h 114 3))) ?_ ?_
      · show (some (nI (pc (hI h t 13)), _) : Option _) = _; rw [h5]
      · show f_X12_told _ (nI 3) = _; simp (decide := true) only [f_X12_told, f_X12_gives, f_X12_refuse, f_X12_orNone, if_true, if_false, gdi_l, bits_e, bd2_s, ltv_e, show nI 3 = (3 : Int32) from rfl, show Int32.toNatClampNeg 3 = 3 from rfl]; try rw [hI_st h 0 (by decide)]
    · refine op_st I (v := 0) (r := nI (pc (hI h 114 4))) ?_ ?_
      · show (some (nI (pc (hI h (t + 1) 4 &&& (hI h (t + 1) 5 ^^^ -1))), _) : Option _) = _
        rw [h4, pc_mi (fun i hi => (h6 i hi).1) (fun i hi => (h7 i hi).2.2)]
      · show f_X12_told _ (nI 4) = _; simp (decide := true) only [f_X12_told, f_X12_gives, f_X12_refuse, f_X12_orNone, if_true, if_false, gdi_l, bits_e, bd2_s, ltv_e, show nI 4 = (4 : Int32) from rfl, show Int32.toNatClampNeg 4 = 4 from rfl]; try rw [hI_st h 0 (by decide)]
    · refine op_st I (v := 0) (r := nI m) ?_ ?_
      · show (some (hI h t 10, _) : Option _) = _; rw [m3]
      · show (some (hI (uI h 0 11 0) 114 5, _) : Option _) = _; rw [hI_st h 0 (by decide), m2]
    · refine op_st I (v := 0) (r := nI c) ?_ ?_
      · show (some (hI h t 11, _) : Option _) = _; rw [c3]
      · show (some (hI (uI h 0 11 0) 114 6, _) : Option _) = _; rw [hI_st h 0 (by decide), c2]
    · refine op_st I (v := 0) (r := hI h 114 7) ?_ ?_
      · show (some (hI h t 14, _) : Option _) = _; rw [s1]
      · show (some (hI (uI h 0 11 0) 114 7, _) : Option _) = _; try rw [hI_st h 0 (by decide)]
    · refine op_st I (v := 0) (r := hI h 114 8) ?_ ?_
      · show (some (hI h t 15, _) : Option _) = _; rw [s2]
      · show (some (hI (uI h 0 11 0) 114 8, _) : Option _) = _; try rw [hI_st h 0 (by decide)]
    · refine op_st I (v := 0) (r := hI h 114 9) ?_ ?_
      · show (if hI h (t + 1) 2 = 0 then _ else _) = _
        rw [j1]
        rcases j2 with j2 | ⟨j2, -⟩ <;> rw [j2] <;> rfl
      · show (some (hI (uI h 0 11 0) 114 9, _) : Option _) = _; try rw [hI_st h 0 (by decide)]
    · rcases hby with ⟨b1, b2⟩ | ⟨q, b1, b2, b3⟩
      · refine op_st I (v := 6) (r := -1) ?_ ?_
        · show (if hI h t 10 = 0 then _ else _) = _
          rw [m3, b1]; rfl
        · show f_X12_told _ (nI 10) = _; simp (decide := true) only [f_X12_told, f_X12_gives, f_X12_refuse, f_X12_orNone, if_true, if_false, gdi_l, bits_e, bd2_s, ltv_e, show nI 10 = (10 : Int32) from rfl, hI_st h 6 (show 114 ≠ 0 by decide), show hI h 114 10 = -1 from b2]
      · refine op_st I (v := 0) (r := nI q) ?_ ?_
        · show (if hI h t 10 = 0 then _ else _) = _
          rw [m3, if_neg (fun e => by have := nI_inj (by omega) (by omega) (e.trans (show (0 : Int32) = nI 0 from rfl)); omega), b3]; rfl
        · have hq : ¬ nI q = -1 := fun e => by have := congrArg Int32.toInt e; rw [nI_t (by omega)] at this; have h1 : (-1 : Int32).toInt = -1 := rfl; omega
          show f_X12_told _ (nI 10) = _; simp (decide := true) only [f_X12_told, f_X12_gives, f_X12_refuse, f_X12_orNone, if_true, if_false, gdi_l, bits_e, bd2_s, ltv_e, show nI 10 = (10 : Int32) from rfl, hI_st h 0 (show 114 ≠ 0 by decide), show hI h 114 10 = nI q from b2, hq]
  · refine op_st I (v := 1) (r := -1) ?_ ?_
    · have N := fun k hk => ne_rng hr (k := k) hk
      unfold f_X11_told
      rw [if_neg (N 0 (by decide)), if_neg (N 1 (by decide)), if_neg (N 2 (by decide)), if_neg (N 3 (by decide)), if_neg (N 4 (by decide)), if_neg (N 5 (by decide)), if_neg (N 6 (by decide)), if_neg (N 7 (by decide)), if_neg (N 8 (by decide)), if_neg (N 9 (by decide)), if_neg (N 10 (by decide))]
      rfl
    · show f_X12_told _ a = _
      unfold f_X12_told
      by_cases h0 : a < 0
      · rw [if_pos h0]; rfl
      · rw [if_neg h0, if_neg (fun q => hr ⟨by simpa [Int32.lt_iff_toInt_lt] using h0, by simpa [Int32.le_iff_toInt_le] using q⟩)]; rfl
