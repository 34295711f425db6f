/-! ===== what matters, part by part ===== -/
def cnTr (b : Nat) : Prop := b = 3 ∨ b = 4 ∨ b = 116 ∨ b = 117
def cnTk (b k : Nat) : Prop := (b = 5 ∧ (k = 7 ∨ k = 12 ∨ k = 13)) ∨ b = 6 ∨ (b = 113 ∧ (k = 10 ∨ k = 16 ∨ k = 17)) ∨ b = 119
def cnLv (b k : Nat) : Prop := (b = 0 ∧ k = 14) ∨ (b = 113 ∧ k = 37) ∨ (b = 75 ∧ 3 ≤ k ∧ k ≤ 7) ∨ b = 129
def cnMk (b k : Nat) : Prop := (b = 0 ∧ k = 10) ∨ (b = 113 ∧ k = 38) ∨ (14 ≤ b ∧ b < 65) ∨ (b = 114 ∧ 410 ≤ k ∧ k < 1640)
def cnT (t b k : Nat) : Prop := cnH t b k ∨ cnR t b k ∨ cnS t b k ∨ cnY t b k
theorem Rtr.k {h h' : HP} (q : Rtr h) (E : ∀ b k, cnTr b → hI h' b k = hI h b k) (L : ∀ b k, b = 2 ∨ b = 118 → hL h' b k = hL h b k) : Rtr h' := by
  refine ⟨fun k hk => ?_, fun j hj => ?_⟩
  · rw [E 3 k (by unfold cnTr; omega), E 4 k (by unfold cnTr; omega), E 116 k (by unfold cnTr; omega), E 117 k (by unfold cnTr; omega)]; exact q.1 k hk
  · rw [L 2 j (by omega), L 118 j (by omega)]; exact q.2 j hj
theorem Rtk.k {h h' : HP} (q : Rtk h) (E : ∀ b k, cnTk b k → hI h' b k = hI h b k) : Rtk h' := by
  unfold Rtk
  rw [E 5 7 (by unfold cnTk; omega), E 113 10 (by unfold cnTk; omega), E 5 12 (by unfold cnTk; omega), E 5 13 (by unfold cnTk; omega), E 113 16 (by unfold cnTk; omega), E 113 17 (by unfold cnTk; omega)]
  obtain ⟨⟨f, f1, f2, f3, f4⟩, f5⟩ := q
  refine ⟨⟨f, f1, f2, f3, fun k hk => ?_⟩, f5⟩
  rw [E 6 k (by unfold cnTk; omega), E 119 k (by unfold cnTk; omega)]; exact f4 k hk
theorem Rlv.k {h h' : HP} (q : Rlv h) (E : ∀ b k, cnLv b k → hI h' b k = hI h b k) : Rlv h' := by
  unfold Rlv
  rw [E 0 14 (by unfold cnLv; omega), E 113 37 (by unfold cnLv; omega), E 75 3 (by unfold cnLv; omega), E 75 4 (by unfold cnLv; omega), E 75 5 (by unfold cnLv; omega), E 75 6 (by unfold cnLv; omega), E 75 7 (by unfold cnLv; omega), E 129 0 (by unfold cnLv; omega), E 129 1 (by unfold cnLv; omega), E 129 2 (by unfold cnLv; omega), E 129 3 (by unfold cnLv; omega), E 129 4 (by unfold cnLv; omega)]
  exact q
theorem Rkw.k {h h' : HP} (q : Rkw h) (L : ∀ k, hL h' 7 k = hL h 7 k) : Rkw h' := fun k hk => by rw [L k]; exact q k hk
theorem Rmk.k {h h' : HP} (q : Rmk h) (E : ∀ b k, cnMk b k → hI h' b k = hI h b k) (L : ∀ b k, (14 ≤ b ∧ b < 65) ∨ (b = 115 ∧ 10 ≤ k ∧ k < 40) → hL h' b k = hL h b k) : Rmk h' := by
  unfold Rmk
  rw [E 0 10 (by unfold cnMk; omega), E 113 38 (by unfold cnMk; omega)]
  obtain ⟨n, n1, n2, n3, n4⟩ := q
  refine ⟨n, n1, n2, n3, fun i hi => (n4 i hi).same ⟨fun a j q => E a j ?_, fun a q => funext fun j => L a j ?_, fun j h1 h2 => E 114 j ?_, fun j h1 h2 => L 115 j ?_⟩⟩
  · unfold inT at q; unfold cnMk; omega
  · unfold inTL at q; omega
  · unfold cnMk; omega
  · omega
theorem Rt.k {h h' : HP} {t : Nat} (q : Rt h t 0 0) (E : ∀ b k, cnT t b k → hI h' b k = hI h b k) (L : ∀ b k, b = t + 9 ∨ b = t + 12 ∨ (b = 115 ∧ k < 10) → hL h' b k = hL h b k) : Rt h' t 0 0 := by
  obtain ⟨w, r, m, c, qH, qR, qS, qY⟩ := q
  exact ⟨w, r, m, c, qH.k (fun b k q => E b k (Or.inl q)), qR.k (fun b k q => E b k (Or.inr (Or.inl q))) L, qS.k (fun b k q => E b k (Or.inr (Or.inr (Or.inl q)))), qY.k (fun b k q => E b k (Or.inr (Or.inr (Or.inr q))))⟩
theorem Inv.re {h h' : HP} {t u : Nat} (I : Inv h t u) (sr : SR h h') (st : Rst h') (tr : Rtr h') (tk : Rtk h') (lv : Rlv h') (kw : Rkw h') (tn : Rt h' t 0 0) (mk : Rmk h') : Inv h' t u :=
  ⟨⟨sr.ly I.1.1, fun k hk => by rw [sr.2]; exact I.1.2.1 k hk, I.1.2.2.1, sr.pr I.1.2.2.2.1, sr.pr I.1.2.2.2.2⟩, st, tr, tk, lv, kw, tn, mk⟩
theorem cnT_b {t b k : Nat} (ht : t = 79 ∨ t = 96) (q : cnT t b k) : b = t ∨ b = 114 ∨ (t < b ∧ b ≤ t + 15 ∧ b ≠ t + 2) := (cn_0 ht q).2.2
/-- the trays alone are others -/
theorem Inv.tr {h h' : HP} {t u : Nat} (I : Inv h t u) (sr : SR h h') (E : ∀ b k, ¬ cnTr b → ¬ (b = 0 ∧ k = 11) → ¬ (b = 113 ∧ k = 2) → hI h' b k = hI h b k) (L : ∀ b k, b ≠ 2 → b ≠ 118 → hL h' b k = hL h b k) (e : hI h' 0 11 = hI h' 113 2) (tr : Rtr h') : Inv h' t u := by
  have ht := I.t
  have I0 := I
  obtain ⟨-, i6, i7, i8, i9, i10, i11, i12⟩ := I0
  refine I.re sr ⟨e, ?_, ?_⟩ tr (i8.k fun b k q => E b k (by unfold cnTk at q; unfold cnTr; omega) (by unfold cnTk at q; omega) (by unfold cnTk at q; omega)) (i9.k fun b k q => E b k (by unfold cnLv at q; unfold cnTr; omega) (by unfold cnLv at q; omega) (by unfold cnLv at q; omega)) (i10.k fun k => L 7 k (by omega) (by omega))
    (i11.k (fun b k q => E b k (by have := cnT_b ht q; unfold cnTr; omega) (by have := cnT_b ht q; omega) (by have := cnT_b ht q; omega)) (fun b k q => L b k (by omega) (by omega))) (i12.k (fun b k q => E b k (by unfold cnMk at q; unfold cnTr; omega) (by unfold cnMk at q; omega) (by unfold cnMk at q; omega)) (fun b k q => L b k (by omega) (by omega)))
  · rw [L 0 12 (by omega) (by omega), L 113 3 (by omega) (by omega)]; exact i6.2.1
  · rw [L 0 13 (by omega) (by omega), L 113 4 (by omega) (by omega)]; exact i6.2.2
/-! ===== alike: trays ===== -/
theorem mTray_e (h : HP) (t : Int32) : f_X12_isTray h t = some (bI (decide (0 ≤ t ∧ t < 4)), h) := by
  unfold f_X12_isTray
  by_cases h1 : t < 0
  · rw [if_pos h1, bI_df (fun q => Int32.not_lt.mpr q.1 h1)]
  · rw [if_neg h1]
    by_cases h2 : 4 ≤ t
    · rw [if_pos h2, bI_df (fun q => Int32.not_lt.mpr h2 q.2)]
    · rw [if_neg h2, bI_dt ⟨Int32.not_lt.mp h1, Int32.not_le.mp h2⟩]
theorem nI_m1 {m : Nat} (hm : m < 2 ^ 31) : ¬ nI m = -1 := fun e => by
  have := congrArg Int32.toInt e; rw [nI_t hm] at this; have h9 : (-1 : Int32).toInt = -1 := rfl; omega
theorem tray_nI {a : Int32} (h : 0 ≤ a ∧ a < 4) : ∃ i, i < 4 ∧ a = nI i := by
  rw [Int32.le_iff_toInt_le, Int32.lt_iff_toInt_lt] at h
  simp only [Int32.reduceToInt] at h
  exact ⟨a.toInt.toNat, by omega, nI_toNat h.1⟩
/-- what is wrong with a place of a tray -/
def wpF (h : HP) (a b : Int32) : Int32 := if 0 ≤ a ∧ a < 4 then (if hI h 117 a.toNatClampNeg = -1 then 2 else if 0 ≤ b.toInt ∧ b.toInt < (hI h 117 a.toNatClampNeg).toInt then 0 else 3) else 1
theorem wrp_e (h : HP) (a b : Int32) : f_X12_wrongPlace h a b = some (wpF h a b, h) := by
  unfold f_X12_wrongPlace wpF
  rw [mTray_e, bd2_s]
  by_cases h1 : 0 ≤ a ∧ a < 4
  · rw [bI_dt h1, if_neg (by decide), if_pos h1]
    obtain ⟨i, hi, rfl⟩ := tray_nI h1
    rw [gdi_nI hi (by decide), gdi_nI hi (by decide)]
    by_cases h2 : hI h 117 (nI i).toNatClampNeg = -1
    · rw [if_pos h2, if_pos h2]
    · rw [if_neg h2, if_neg h2]
      by_cases h3 : b < 0
      · rw [if_pos h3, if_neg (fun q => by rw [Int32.lt_iff_toInt_lt, show (0 : Int32).toInt = 0 from rfl] at h3; omega)]
      · rw [if_neg h3]
        rw [Int32.lt_iff_toInt_lt, show (0 : Int32).toInt = 0 from rfl] at h3
        by_cases h4 : b < hI h 117 (nI i).toNatClampNeg
        · rw [if_pos h4, if_pos ⟨by omega, Int32.lt_iff_toInt_lt.mp h4⟩]
        · rw [if_neg h4, if_neg (fun q => h4 (Int32.lt_iff_toInt_lt.mpr q.2))]
  · rw [bI_df h1, if_pos rfl, if_neg h1]
theorem wnt_e {h : HP} (T : Rtr h) (a b : Int32) : f_X11_whyNotInTray h a b = some (wpF h a b, h) := by
  unfold f_X11_whyNotInTray wpF f_X7_isTray
  rw [bd2_s]
  by_cases h1 : 0 ≤ a ∧ a < 4
  · rw [bI_dt h1, if_neg (by decide), if_pos h1]
    obtain ⟨i, hi, rfl⟩ := tray_nI h1
    unfold f_X7_isMissing f_X7_hasRoom
    obtain ⟨⟨-, e4⟩, -, hm⟩ := T.1 i hi
    rw [gdi_nI hi (by decide), bd2_s, nI_clamp (by omega), e4]
    rcases hm with hm | ⟨m, m60, hm⟩
    · rw [hm, bI_dt (by decide), if_neg (by decide), if_pos rfl]
    · rw [bI_df (by rw [hm]; exact lt_nI0 m (by omega)), if_pos rfl, gdi_nI hi (by decide), bd2_s, hm, if_neg (nI_m1 (by omega)), show (1 : Int32).toInt = 1 from rfl, nI_t (by omega)]
      by_cases h5 : 0 ≤ b.toInt ∧ b.toInt + 1 ≤ (m : Int)
      · rw [bI_dt h5, if_neg (by decide), if_pos (by omega)]
      · rw [bI_df h5, if_pos rfl, if_neg (by omega)]
  · rw [bI_df h1, if_pos rfl, if_neg h1]
theorem wpF_st (h : HP) (a b v : Int32) : wpF (uI h 0 11 v) a b = wpF h a b := by unfold wpF; rw [hI_st h v (by decide)]
/-- a place of a tray that is there -/
theorem wpF_0 {h : HP} (T : Rtr h) {a b : Int32} (q : wpF h a b = 0) : ∃ i j, i < 4 ∧ j < 60 ∧ a = nI i ∧ b = nI j := by
  unfold wpF at q
  by_cases h1 : 0 ≤ a ∧ a < 4
  · rw [if_pos h1] at q
    obtain ⟨i, hi, rfl⟩ := tray_nI h1
    rw [nI_clamp (by omega)] at q
    by_cases h2 : hI h 117 i = -1
    · rw [if_pos h2] at q; exact absurd q (by decide)
    · rw [if_neg h2] at q
      obtain ⟨-, -, hm⟩ := T.1 i hi
      rcases hm with hm | ⟨m, m60, hm⟩
      · exact absurd hm h2
      · by_cases h5 : 0 ≤ b.toInt ∧ b.toInt < (hI h 117 i).toInt
        · rw [hm, nI_t (by omega)] at h5
          exact ⟨i, b.toInt.toNat, hi, by omega, rfl, nI_toNat h5.1⟩
        · rw [if_neg h5] at q; exact absurd q (by decide)
  · rw [if_neg h1] at q; exact absurd q (by decide)
theorem i60 {i j : Nat} : (60 : Int32) * nI i + nI j = nI (i * 60 + j) := by rw [show (60 : Int32) = nI 60 from rfl, nI_mul, nI_add, Nat.mul_comm]
theorem op_read {h : HP} {t u : Nat} (I : Inv h t u) (a b : Int32) : OpL t u (f_X11_read h a b) (fun g => f_X12_read g a b) := by
  have T := I.2.2.1
  unfold f_X11_read f_X12_read f_X7_numberAt
  simp only [bd2_s, ltv_e, wnt_e T, wrp_e, ref_e, wpF_st, hI_uI_s]
  by_cases q : wpF h a b = 0
  · obtain ⟨i, j, hi, hj, rfl, rfl⟩ := wpF_0 T q
    refine opL_st I (v := 0) (r := hL h 118 (i * 60 + j)) ?_ ?_
    · rw [if_pos q, gdi_nI hi (by decide), gdi_nI hj (by decide), bd2_s, nI_clamp (by omega), nI_clamp (by omega), hL_uI, T.2 _ (by omega)]
    · try simp only []
      rw [wpF_st, q, if_pos (by decide), i60, gdi_nI (by omega) (by decide), nI_clamp (by omega)]
      rfl
  · refine opL_st I (v := wpF h a b) (r := -1) ?_ ?_
    · rw [if_neg q]; rfl
    · try simp only []
      rw [wpF_st, if_neg]
      unfold wpF at q ⊢
      by_cases h1 : 0 ≤ a ∧ a < 4
      · rw [if_pos h1] at q ⊢
        by_cases h2 : hI h 117 a.toNatClampNeg = -1
        · rw [if_pos h2]; decide
        · rw [if_neg h2] at q ⊢
          by_cases h3 : 0 ≤ b.toInt ∧ b.toInt < (hI h 117 a.toNatClampNeg).toInt
          · rw [if_pos h3] at q; exact absurd rfl q
          · rw [if_neg h3]; decide
      · rw [if_neg h1]; decide
theorem cut_e (h : HP) (v : Int64) (s : Int32) : f_X12_cut h v s = some (cutV s v, h) := by
  unfold f_X12_cut cutV
  by_cases h0 : s = 0
  · rw [if_pos h0, if_pos h0]
  · rw [if_neg h0, if_neg h0]
    by_cases h1 : s = 1
    · rw [if_pos h1, if_pos h1]
    · rw [if_neg h1, if_neg h1]
      by_cases h2 : s = 2
      · rw [if_pos h2, if_pos h2]
      · rw [if_neg h2, if_neg h2]
theorem op_write {h : HP} {t u : Nat} (I : Inv h t u) (a b : Int32) (v : Int64) : Op t u (f_X11_write h a b v) (fun g => f_X12_write g a b v) := by
  have T := I.2.2.1
  unfold f_X11_write f_X12_write f_X7_put
  simp only [bd2_s, ltv_e, wnt_e T, wrp_e, alw_e, dny_e, cut_e, gdv_t is01_0, gdv_t is01_1]
  by_cases q : wpF h a b = 0
  · obtain ⟨i, j, hi, hj, rfl, rfl⟩ := wpF_0 T q
    obtain ⟨⟨e3, -⟩, -⟩ := T.1 i hi
    obtain ⟨g, eg⟩ : ∃ g, g = uI (uL h 2 (i * 60 + j) (cutV (hI h 3 i) v)) 0 11 0 := ⟨_, rfl⟩
    have Eg : ∀ b k, b ≠ 0 → hI g b k = hI h b k := fun b k hb => by rw [eg, hI_uI_n (by omega)]; rfl
    refine ⟨1, g, uI (uL g 118 (i * 60 + j) (cutV (hI h 3 i) v)) 113 2 0, ?_, ?_, ?_⟩
    · rw [if_pos q, gdi_nI hi (by decide), gdi_nI hj (by decide), bd1_s, nI_clamp (by omega), nI_clamp (by omega), eg]
    · try simp only []
      have q' : wpF g (nI i) (nI j) = 0 := by rw [← q]; unfold wpF; rw [Eg 117 _ (by decide)]
      rw [q', if_pos rfl, gdi_nI hi (by decide), i60, gdi_nI (by omega) (by decide), nI_clamp (by omega), nI_clamp (by omega), Eg 116 _ (by decide), ← e3, is0_e, bd2_s, gdv_t is01_1]
    · refine I.tr (h := h) ⟨by rw [eg]; rfl, by rw [eg]; rfl⟩ (fun b k n1 n2 n3 => ?_) (fun b k n1 n2 => ?_) ?_ ⟨fun k hk => ?_, fun k hk => ?_⟩
      · rw [hI_uI_n (by omega), hI_uL, eg, hI_uI_n (by omega), hI_uL]
      · rw [hL_uI, hL_uL_n (by omega), eg, hL_uI, hL_uL_n (by omega)]
      · rw [hI_uI_s, hI_uI_n (by omega), hI_uL, eg, hI_uI_s]
      · have z : ∀ b k, b ≠ 0 → b ≠ 113 → hI (uI (uL g 118 (i * 60 + j) (cutV (hI h 3 i) v)) 113 2 0) b k = hI h b k := fun b k h1 h2 => by rw [hI_uI_n (by omega), hI_uL, Eg _ _ h1]
        rw [z 3 k (by decide) (by decide), z 4 k (by decide) (by decide), z 116 k (by decide) (by decide), z 117 k (by decide) (by decide)]; exact T.1 k hk
      · rw [hL_uI]
        by_cases e : k = i * 60 + j
        · rw [e, hL_uL_n (by omega), hL_uL_s, eg, hL_uI, hL_uL_s]
        · rw [hL_uL_n (by omega), hL_uL_n (by omega), eg, hL_uI, hL_uL_n (by omega), hL_uL_n (by omega)]; exact T.2 k hk
  · refine op_st I (v := wpF h a b) (r := 0) ?_ ?_
    · rw [if_neg q]
    · try simp only []
      rw [wpF_st, if_neg q, is1_e _ q, bd2_s, gdv_t is01_0]
