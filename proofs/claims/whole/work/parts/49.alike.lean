/-! ===== alike: paint, unlike, what was seen ===== -/
theorem mask_b : ∀ n, n < 31 → ∀ i, i < 32 → bt (((1 : Int32) <<< (nI n &&& 31)) - 1) i = decide (i < n) := by decide +kernel
theorem places_e (h : HP) {w r : Nat} (hw : hI h 114 0 = nI w) (hr : hI h 114 1 = nI r) : f_X12_places h = some (nI (w * r), h) := by
  unfold f_X12_places; rw [hw, hr, nI_mul]
theorem whole_e (h : HP) {w r : Nat} (hw : hI h 114 0 = nI w) (hr : hI h 114 1 = nI r) : f_X12_whole h = some (((1 : Int32) <<< (nI (w * r) &&& 31)) - 1, h) := by
  unfold f_X12_whole; rw [places_e h hw hr, bd2_s]
theorem places_b {h : HP} {t w r : Nat} (q : RtH h t 0 w r) : hI h (t + 1) 3 = ((1 : Int32) <<< (nI (w * r) &&& 31)) - 1 := by
  obtain ⟨⟨w1, w5, -⟩, ⟨r1, r6, -⟩, -, h3, -⟩ := q.n
  refine b_ext (fun i hi => ?_)
  have := wr_le w5 r6
  rw [(h3 i hi).1, mask_b _ (by omega) i hi]
theorem op_unlike {h : HP} {t u : Nat} (I : Inv h t u) (a : Int64) : Op t u (f_X11_unlike h t a) (fun g => f_X12_unlike g a) := by
  obtain ⟨w, r, m, c, qH, -⟩ := I.tn
  obtain ⟨⟨w1, w5, hw, hw'⟩, ⟨r1, r6, hr, hr'⟩, -, -, ⟨h4, h5⟩, -⟩ := qH.n
  unfold f_X11_unlike f_X12_unlike f_X1_countUnlike
  simp only [bd2_s, isPicture_e, isFrom_e, ans_e, ref_e, rfs_e]
  by_cases ha : 0 ≤ a.toInt ∧ a.toInt ≤ 1073741823
  · refine op_st I (v := 0) (r := nI (pc ((hI h 114 3 ^^^ a.toInt32) &&& (((1 : Int32) <<< (nI (w * r) &&& 31)) - 1)))) ?_ ?_
    · rw [bI_dt ha, if_neg (by decide), h5, places_b qH]
    · rw [bI_dt (show Int64.toInt 0 ≤ a.toInt ∧ a.toInt ≤ Int64.toInt 1073741823 from ha), if_neg (by decide), whole_e _ (by rw [hI_st h 0 (by decide)]; exact hw) (by rw [hI_st h 0 (by decide)]; exact hr), bd2_s, hI_st h 0 (by decide), bits_e, bd2_s, giv_e, bd2_s]
  · refine op_st I (v := 1) (r := -1) ?_ ?_
    · rw [bI_df ha, if_pos rfl]
    · rw [bI_df (show ¬ (Int64.toInt 0 ≤ a.toInt ∧ a.toInt ≤ Int64.toInt 1073741823) from ha), if_pos rfl]
theorem freeM_e (h : HP) : f_X12_free h = some (hI h 114 2 &&& (hI h 114 4 ^^^ -1), h) := rfl
/-- the picture painted -/
def pntF (h : HP) (v : Int32) : Int32 := (hI h 114 3 &&& hI h 114 4) ||| (v &&& (hI h 114 2 &&& (hI h 114 4 ^^^ -1)))
theorem pnt_e {h : HP} {t w r : Nat} (q : RtH h t 0 w r) (v : Int32) : (hI h t 13 &&& (hI h (t + 1) 5 ^^^ -1)) ||| (v &&& hI h (t + 1) 5) = pntF h v := by
  obtain ⟨-, -, -, -, ⟨h4, h5⟩, h6, h7⟩ := q.n
  unfold pntF
  refine b_ext (fun i hi => ?_)
  rw [h5, b_or, b_or, b_and, b_and, b_and, b_and, b_xor, b_m1 i hi, (h6 i hi).1, b_and, b_xor, b_m1 i hi]
  have a := (h7 i hi).2.1
  have b := (h7 i hi).2.2
  cases h1 : bt (hI h 114 3) i <;> cases h2 : bt (hI h 114 2) i <;> cases h3 : bt (hI h 114 4) i <;> simp_all
theorem paints_e (h : HP) (v : Int32) : f_X12_paints h v = some (nI (pc (pntF h v)), uI h 114 3 (pntF h v)) := by
  unfold f_X12_paints
  rw [freeM_e, bd2_s]
  simp only [ltv_e, hI_uI_s]
  rw [bits_e, bd2_s]
  rfl
theorem pnt_x {h : HP} {t w r : Nat} (q : RtH h t 0 w r) (v : Int32) : (∀ i, i < 32 → bt (pntF h v) i = true → bt (hI h 114 2) i = true) ∧ ∀ i, i < 32 → bt (hI h 114 4) i = true → bt (pntF h v) i = bt (hI h 114 3) i := by
  obtain ⟨-, -, -, -, -, h6, h7⟩ := q.n
  refine ⟨fun i hi z => ?_, fun i hi z => ?_⟩
  · unfold pntF at z
    rw [b_or, b_and, b_and, b_and, b_xor, b_m1 i hi] at z
    have a := (h7 i hi).2.1
    cases h1 : bt (hI h 114 3) i <;> cases h2 : bt (hI h 114 2) i <;> cases h3 : bt (hI h 114 4) i <;> simp_all
  · unfold pntF
    rw [b_or, b_and, b_and, b_and, b_xor, b_m1 i hi, z]
    cases h1 : bt (hI h 114 3) i <;> simp
theorem repaint_e {h : HP} {t w r : Nat} (q : RtH h t 0 w r) (v : Int32) : f_X5_repaint h t v = some (nI (pc (pntF h v)), uI h t 13 (pntF h v)) := by
  unfold f_X5_repaint
  rw [pnt_e q v, hI_uI_s]
theorem pnt_k {h g : HP} (v : Int32) (e2 : hI g 114 2 = hI h 114 2) (e3 : hI g 114 3 = hI h 114 3) (e4 : hI g 114 4 = hI h 114 4) : pntF g v = pntF h v := by unfold pntF; rw [e2, e3, e4]
theorem op_paint {h : HP} {t u : Nat} (I : Inv h t u) (a : Int64) : Op t u (f_X11_paint h t a) (fun g => f_X12_paint g a) := by
  have ht := I.t
  obtain ⟨w, r, m, c, qH, -⟩ := I.tn
  unfold f_X11_paint f_X12_paint
  simp only [bd2_s, isPicture_e, isFrom_e, ans_e, ref_e, rfs_e, repaint_e qH, paints_e]
  by_cases ha : 0 ≤ a.toInt ∧ a.toInt ≤ 1073741823
  · obtain ⟨p1, p2⟩ := pnt_x qH a.toInt32
    refine ⟨_, _, _, by rw [bI_dt ha, if_neg (by decide)], ?_, I.pic1 (pntF h a.toInt32) 0 p1 p2⟩
    try simp only []
    rw [bI_dt (show Int64.toInt 0 ≤ a.toInt ∧ a.toInt ≤ Int64.toInt 1073741823 from ha), if_neg (by decide), giv_e, bd2_s, pnt_k (h := h) a.toInt32 (by rw [hI_uI_n (by omega), hI_uI_n (by omega)]) (by rw [hI_uI_n (by omega), hI_uI_n (by omega)]) (by rw [hI_uI_n (by omega), hI_uI_n (by omega)])]
  · refine op_st I (v := 1) (r := -1) ?_ ?_
    · rw [bI_df ha, if_pos rfl]
    · rw [bI_df (show ¬ (Int64.toInt 0 ≤ a.toInt ∧ a.toInt ≤ Int64.toInt 1073741823) from ha), if_pos rfl]
theorem op_seen {h : HP} {t u : Nat} (I : Inv h t u) (a b : Int32) : Op t u (f_X11_seen h t a b) (fun g => f_X12_seen g a b) := by
  obtain ⟨w, r, m, c, -, -, qS, -⟩ := I.tn
  have f1 : ∀ g x, f_X12_isFrom g (Int32.toInt64 x) 0 1 = some (bI (decide (0 ≤ x.toInt ∧ x.toInt ≤ 1)), g) := fun g x => fr32 g x (n := 1) (by decide)
  have f4 : ∀ g x, f_X12_isFrom g (Int32.toInt64 x) 0 4 = some (bI (decide (0 ≤ x.toInt ∧ x.toInt ≤ 4)), g) := fun g x => fr32 g x (n := 4) (by decide)
  have b18 : f_X11_seen_18 t h = some (-1, uI h 0 11 1) := rfl
  unfold f_X11_seen f_X12_seen
  simp only [bd2_s, f1, f4, b18, ans_e, rfs_e, giv_e]
  by_cases ha : 0 ≤ a.toInt ∧ a.toInt ≤ 1
  · obtain ⟨a1, a2⟩ := (toI32 (n := 1) (by decide)).mpr ha
    by_cases hb : 0 ≤ b.toInt ∧ b.toInt ≤ 4
    · obtain ⟨b1, b2⟩ := (toI32 (n := 4) (by decide)).mpr hb
      obtain ⟨i, hi, rfl⟩ := rng_nI (n := 1) ha
      obtain ⟨j, hj, rfl⟩ := rng_nI (n := 4) hb
      have e1 : nI i * 5 + nI j = nI (5 * i + j) := by rw [show (5 : Int32) = nI 5 from rfl, nI_mul, nI_add, Nat.mul_comm]
      have e2 : (32 : Int32) + (5 : Int32) * nI i + nI j = nI (32 + (5 * i + j)) := by rw [show (5 : Int32) = nI 5 from rfl, show (32 : Int32) = nI 32 from rfl, nI_mul, nI_add, nI_add, Nat.add_assoc]
      refine op_st I (v := 0) (r := hI h 114 (32 + (5 * i + j))) ?_ ?_
      · rw [if_neg a1, if_neg (show ¬ 1 < nI i from a2), if_neg b1, if_pos (show nI j ≤ 4 from Int32.not_lt.mp b2), e1, gdi_nI (by omega) (by decide), nI_clamp (by omega), (qS.n.2 (5 * i + j) (by omega)).1]
      · rw [bI_dt ha, if_neg (by decide), bI_dt hb, if_neg (by decide), e2, gdi_nI (by omega) (by decide), nI_clamp (by omega), hI_st h 0 (by decide)]
    · refine op_st I (v := 1) (r := -1) ?_ ?_
      · rw [if_neg a1, if_neg (show ¬ 1 < a from a2)]
        by_cases b1 : b < 0
        · rw [if_pos b1]
        · rw [if_neg b1, if_neg (show ¬ b ≤ 4 from fun q => hb ((toI32 (n := 4) (by decide)).mp ⟨b1, Int32.not_lt.mpr q⟩))]
      · rw [bI_dt ha, if_neg (by decide), bI_df hb, if_pos rfl]
  · refine op_st I (v := 1) (r := -1) ?_ ?_
    · by_cases a1 : a < 0
      · rw [if_pos a1]
      · rw [if_neg a1, if_pos (show 1 < a from Decidable.byContradiction fun q => ha ((toI32 (n := 1) (by decide)).mp ⟨a1, q⟩))]
    · rw [bI_df ha, if_pos rfl]
theorem shl64 : ∀ k, k ≤ 30 → ((1 : Int32) <<< (nI k &&& 31)).toInt64 = (1 : Int64) <<< ((nI k).toInt64 &&& 63) := by decide +kernel
theorem op_pictures {h : HP} {t u : Nat} (I : Inv h t u) : OpL t u (f_X11_pictures h t) (fun g => f_X12_pictures g) := by
  obtain ⟨w, r, m, c, qH, -⟩ := I.tn
  obtain ⟨⟨w1, w5, hw, hw'⟩, ⟨r1, r6, hr, hr'⟩, -, -, -, h6, h7⟩ := qH.n
  have h30 := wr_le w5 r6
  have hpc : pc (hI h (t + 1) 5) ≤ 30 := by
    have : pc (hI h (t + 1) 5) = fb_ct (bt (hI h (t + 1) 5)) 30 := by
      unfold pc
      rw [show 32 = 30 + 2 from rfl, fb_ct_split]
      have z : fb_ct (fun k => bt (hI h (t + 1) 5) (30 + k)) 2 = 0 := by
        refine fb_ct_zero.mpr (fun k hk => ?_)
        rw [(h6 (30 + k) (by omega)).1]
        cases h8 : bt (hI h 114 2) (30 + k)
        · rfl
        · have := (h7 (30 + k) (by omega)).1 h8; omega
      omega
    rw [this]; exact fb_ct_le _ _
  refine opL_st I (v := 0) (r := (1 : Int64) <<< ((nI (pc (hI h (t + 1) 5))).toInt64 &&& 63)) ?_ ?_
  · show (some (((1 : Int32) <<< (nI (pc (hI h (t + 1) 5)) &&& 31)).toInt64, _) : Option _) = _
    rw [shl64 _ hpc]
  · unfold f_X12_pictures
    rw [freeM_e, bd2_s, hI_st h 0 (by decide), hI_st h 0 (by decide), bits_e, bd2_s, gvl_e, bd2_s, free_e qH]
