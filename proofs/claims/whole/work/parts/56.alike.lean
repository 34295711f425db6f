/-! ===== alike: rows copied to trays, and painted from them ===== -/
theorem mask_n : ∀ w, w ≤ 5 → ((1 : Int32) <<< (nI w &&& 31)) - 1 = nI (2 ^ w - 1) := by decide +kernel
theorem row_n {w : Nat} (w5 : w ≤ 5) (x : Int32) : ∃ n, n < 32 ∧ x &&& (((1 : Int32) <<< (nI w &&& 31)) - 1) = nI n := by
  obtain ⟨a, ha, rfl⟩ := wb_of32' x
  rw [mask_n w w5, nx_and']
  have h1 : a &&& (2 ^ w - 1) ≤ 2 ^ w - 1 := Nat.and_le_right
  have h2 : 2 ^ w ≤ 2 ^ 5 := Nat.pow_le_pow_right (by decide) w5
  exact ⟨_, by omega, rfl⟩
theorem cut_sm : ∀ n, n < 32 → (nI n).toInt64.toInt32.toInt8.toInt32.toInt64 = (nI n).toInt64 ∧ (nI n).toInt64.toInt32.toInt16.toInt32.toInt64 = (nI n).toInt64 ∧ (nI n).toInt64.toInt32.toInt64 = (nI n).toInt64 := by decide +kernel
theorem cut_row {s : Int32} {n : Nat} (hn : n < 32) : cutV s (nI n).toInt64 = (nI n).toInt64 := by
  obtain ⟨a, b, c⟩ := cut_sm n hn
  unfold cutV
  split
  · exact a
  · split
    · exact b
    · split
      · exact c
      · rfl
/-- the rows of a picture, as numbers -/
def rwL (w : Nat) (p : Int32) (y : Nat) : Int64 := ((p >>> ((nI w * nI y) &&& 31)) &&& (((1 : Int32) <<< (nI w &&& 31)) - 1)).toInt64
theorem ccp_lp (h : HP) (t : Nat) {i w r : Nat} (hi : i < 4) (w5 : w ≤ 5) (r6 : r ≤ 6) (hw : hI h (t + 1) 0 = nI w) : ∀ d k n, k + d = r → d < n →
    f_X11_copyRows_33 t n (nI i) (nI r) (nI k) (rL h 2 (rowL (hL h 2) (rwL w (hI h t 13)) (i * 60) k)) = some (nI r, uI (rL h 2 (rowL (hL h 2) (rwL w (hI h t 13)) (i * 60) r)) 0 11 0)
  | d, k, 0, _, z => absurd z (by omega)
  | 0, k, n + 1, e, _ => by
    unfold f_X11_copyRows_33
    rw [if_pos (by rw [nI_leI (by omega) (by omega)]; omega), ans_e, bd2_s, show k = r by omega]
  | d + 1, k, n + 1, e, z => by
    have key := ccp_lp h t hi w5 r6 hw d (k + 1) n (by omega) (by omega)
    unfold f_X11_copyRows_33 f_X1_rowOf f_X7_put
    rw [if_neg (by rw [nI_leI (by omega) (by omega)]; omega), bd2_s, gdi_nI hi (by decide), gdi_nI (by omega) (by decide), bd1_s, nI_clamp (by omega), nI_clamp (by omega), hI_rL, rowF_e hw]
    obtain ⟨x, hx, ex⟩ := row_n w5 (hI h t 13 >>> ((nI w * nI k) &&& 31))
    simp only [ltv_e, nI_1]
    rw [ex, cut_row hx, ← ex]
    rw [show ((hI h t 13 >>> ((nI w * nI k) &&& 31)) &&& (((1 : Int32) <<< (nI w &&& 31)) - 1)).toInt64 = rwL w (hI h t 13) k from rfl, uL_row]
    exact key
theorem mcp_lp (h : HP) {i w r : Nat} (hi : i < 4) (w5 : w ≤ 5) (r6 : r ≤ 6) (hw : hI h 114 0 = nI w) (hr : hI h 114 1 = nI r) : ∀ d k n, k + d = r → d < n →
    f_X12_copyRows_52 n (nI i) (nI k) (rL h 118 (rowL (hL h 118) (rwL w (hI h 114 3)) (i * 60) k)) = some (nI r, uI (rL h 118 (rowL (hL h 118) (rwL w (hI h 114 3)) (i * 60) r)) 113 2 0)
  | d, k, 0, _, z => absurd z (by omega)
  | 0, k, n + 1, e, _ => by
    unfold f_X12_copyRows_52
    rw [hI_rL, hr, if_pos (by rw [nI_leI (by omega) (by omega)]; omega), giv_e, bd2_s, show k = r by omega]
  | d + 1, k, n + 1, e, z => by
    have key := mcp_lp h hi w5 r6 hw hr d (k + 1) n (by omega) (by omega)
    unfold f_X12_copyRows_52
    rw [hI_rL, hr, if_neg (by rw [nI_leI (by omega) (by omega)]; omega), rowM_e (w := w) (by rw [hI_rL]; exact hw), bd2_s, i60, gdi_nI (by omega) (by decide), nI_clamp (by omega)]
    simp only [ltv_e, nI_1]
    rw [show ((hI h 114 3 >>> ((nI w * nI k) &&& 31)) &&& (((1 : Int32) <<< (nI w &&& 31)) - 1)).toInt64 = rwL w (hI h 114 3) k from rfl, uL_row]
    exact key
theorem wp_rows {h : HP} (T : Rtr h) {a : Int32} {r : Nat} (r1 : 1 ≤ r) (r6 : r ≤ 6) : (wpF h a (nI r - 1) = 0 ∧ ∃ i m, i < 4 ∧ a = nI i ∧ m ≤ 60 ∧ hI h 117 i = nI m ∧ r ≤ m) ∨ (wpF h a (nI r - 1) = 1 ∧ ¬ (0 ≤ a ∧ a < 4)) ∨ (wpF h a (nI r - 1) = 2 ∧ ∃ i, i < 4 ∧ a = nI i ∧ hI h 117 i = -1) ∨ (wpF h a (nI r - 1) = 3 ∧ ∃ i m, i < 4 ∧ a = nI i ∧ m ≤ 60 ∧ hI h 117 i = nI m ∧ m < r) := by
  unfold wpF
  by_cases h1 : 0 ≤ a ∧ a < 4
  · rw [if_pos h1]
    obtain ⟨i, hi, rfl⟩ := tray_nI h1
    rw [nI_clamp (by omega)]
    obtain ⟨-, -, z⟩ := T.1 i hi
    rcases z with z | ⟨m, m60, z⟩
    · rw [if_pos z]; exact Or.inr (Or.inr (Or.inl ⟨rfl, i, hi, rfl, z⟩))
    · rw [z, if_neg (nI_m1 (by omega)), show (1 : Int32) = nI 1 from rfl, nI_sub r1, nI_t (by omega), nI_t (by omega)]
      by_cases q : r ≤ m
      · rw [if_pos (by omega)]; exact Or.inl ⟨rfl, i, m, hi, rfl, m60, z, q⟩
      · rw [if_neg (by omega)]; exact Or.inr (Or.inr (Or.inr ⟨rfl, i, m, hi, rfl, m60, z, by omega⟩))
  · rw [if_neg h1]; exact Or.inr (Or.inl ⟨rfl, h1⟩)
theorem op_copyRows {h : HP} {t u : Nat} (I : Inv h t u) (a : Int32) : Op t u (f_X11_copyRows h t a) (fun g => f_X12_copyRows g a) := by
  have ht := I.t
  have T := I.2.2.1
  obtain ⟨w, r, m, c, qH, -⟩ := I.tn
  obtain ⟨⟨w1, w5, hw, hw'⟩, ⟨r1, r6, hr, hr'⟩, -, -, ⟨h4, h5⟩, -⟩ := qH.n
  have C : f_X11_copyRows h t a = (if wpF h a (nI r - 1) = 0 then f_X11_copyRows_33 t FU a (nI r) 0 h else some (-1, uI h 0 11 (wpF h a (nI r - 1)))) := by
    unfold f_X11_copyRows
    simp only [ltv_e]
    rw [hr', wnt_e T, bd2_s, ref_e, bd2_s]
  rw [C]
  have S : ∀ (v : Int32) (b k : Nat), b ≠ 0 → hI (uI h 0 11 v) b k = hI h b k := fun v b k hb => hI_st h v hb k
  rcases wp_rows (a := a) T r1 r6 with ⟨e, i, m', hi, rfl, m60, z, hrm⟩ | ⟨e, hn⟩ | ⟨e, i, hi, rfl, z⟩ | ⟨e, i, m', hi, rfl, m60, z, hrm⟩
  · rw [if_pos e]
    obtain ⟨g, eg⟩ : ∃ g, g = uI (rL h 2 (rowL (hL h 2) (rwL w (hI h 114 3)) (i * 60) r)) 0 11 0 := ⟨_, rfl⟩
    have Eg : ∀ b k, b ≠ 0 → hI g b k = hI h b k := fun b k hb => by rw [eg, hI_uI_n (by omega)]; rfl
    refine ⟨nI r, g, uI (rL g 118 (rowL (hL g 118) (rwL w (hI g 114 3)) (i * 60) r)) 113 2 0, ?_, ?_, ?_⟩
    · have key := ccp_lp h t hi w5 r6 hw' r 0 FU (by omega) (FU_gt (by omega))
      rw [rowL_0, rL_self, h5] at key
      rw [eg]; exact key
    · show f_X12_copyRows g (nI i) = _
      unfold f_X12_copyRows
      rw [mTray_e, bd2_s, bI_dt (nI_4 hi), if_neg (by decide), gdi_nI hi (by decide), gdi_nI hi (by decide), nI_clamp (by omega), Eg 117 i (by decide), z, if_neg (nI_m1 (by omega)), Eg 114 1 (by decide), hr, if_pos (by rw [nI_leI (by omega) (by omega)]; exact hrm)]
      have key := mcp_lp g hi w5 r6 (by rw [Eg 114 0 (by decide)]; exact hw) (by rw [Eg 114 1 (by decide)]; exact hr) r 0 FU (by omega) (FU_gt (by omega))
      rw [rowL_0, rL_self] at key
      exact key
    · refine I.tr (h := h) ⟨by rw [eg]; rfl, by rw [eg]; rfl⟩ (fun b k n1 n2 n3 => ?_) (fun b k n1 n2 => ?_) ?_ ⟨fun k hk => ?_, fun k hk => ?_⟩
      · rw [hI_uI_n (by omega), hI_rL, eg, hI_uI_n (by omega), hI_rL]
      · rw [hL_uI, hL_rL_n _ _ n2, eg, hL_uI, hL_rL_n _ _ n1]
      · rw [hI_uI_s, hI_uI_n (by omega), hI_rL, eg, hI_uI_s]
      · rw [hI_uI_n (by omega), hI_uI_n (by omega), hI_uI_n (by omega), hI_uI_n (by omega), hI_rL, Eg 3 k (by decide), Eg 4 k (by decide), Eg 116 k (by decide), Eg 117 k (by decide)]; exact T.1 k hk
      · have z2 : hL g 2 = rowL (hL h 2) (rwL w (hI h 114 3)) (i * 60) r := by rw [eg, hL_uI, hL_rL_s]
        have z8 : hL g 118 = hL h 118 := by rw [eg, hL_uI, hL_rL_n _ _ (by decide)]
        rw [hL_uI, hL_rL_n _ _ (by decide), hL_rL_s, z2, z8, Eg 114 3 (by decide)]
        unfold rowL
        by_cases q : i * 60 ≤ k ∧ k < i * 60 + r
        · rw [if_pos q, if_pos q]
        · rw [if_neg q, if_neg q]; exact T.2 k hk
  · rw [e, if_neg (by decide)]
    exact op_st I (v := 1) (r := -1) rfl (by
      unfold f_X12_copyRows
      rw [mTray_e, bd2_s, bI_df hn, if_pos rfl]; rfl)
  · rw [e, if_neg (by decide)]
    exact op_st I (v := 2) (r := -1) rfl (by
      unfold f_X12_copyRows
      rw [mTray_e, bd2_s, bI_dt (nI_4 hi), if_neg (by decide), gdi_nI hi (by decide), nI_clamp (by omega), S 2 117 i (by decide), z, if_pos rfl]; rfl)
  · rw [e, if_neg (by decide)]
    exact op_st I (v := 3) (r := -1) rfl (by
      unfold f_X12_copyRows
      rw [mTray_e, bd2_s, bI_dt (nI_4 hi), if_neg (by decide), gdi_nI hi (by decide), gdi_nI hi (by decide), nI_clamp (by omega), S 3 117 i (by decide), z, if_neg (nI_m1 (by omega)), S 3 114 1 (by decide), hr, if_neg (by rw [nI_leI (by omega) (by omega)]; omega)]; rfl)
/-- what the rows of a tray paint, the first k of them; none if one is no row -/
def pwF (X : Nat → Int64) (w : Nat) : Nat → Int32
  | 0 => 0
  | k + 1 => pwF X w k ||| (((X k).toInt32 &&& (((1 : Int32) <<< (nI w &&& 31)) - 1)) <<< ((nI w * nI k) &&& 31))
def okR (x : Int64) : Prop := 0 ≤ x.toInt ∧ x.toInt ≤ 31
theorem okR_c {x : Int64} : (¬ lg_cmp x 0 < 0 ∧ lg_cmp x 31 ≤ 0) ↔ okR x := by
  unfold okR; rw [lgc_lt, lgc_le, show (0 : Int64).toInt = 0 from rfl, show (31 : Int64).toInt = 31 from rfl]; omega
theorem all_st {P : Nat → Prop} {k : Nat} : (∀ y, y < k + 1 → P y) ↔ ((∀ y, y < k → P y) ∧ P k) :=
  ⟨fun q => ⟨fun y hy => q y (by omega), q k (by omega)⟩, fun q y hy => by
    by_cases e : y = k
    · rw [e]; exact q.2
    · exact q.1 y (by omega)⟩
theorem cpr_lp (h : HP) {t w r : Nat} (qH : RtH h t 0 w r) {i : Nat} (hi : i < 4) (T : Rtr h) (v : Int32) (hv : v = (if cIf (∀ y, y < r → okR (hL h 118 (i * 60 + y))) = 0 then 5 else 0)) : ∀ d k n, k + d = r → d < n → (∀ y, y < k → okR (hL h 118 (i * 60 + y))) →
    f_X11_paintRows_36 t n (nI i) (nI r) (pwF (fun y => hL h 118 (i * 60 + y)) w k) (nI k) h = (if v = 0 then some (nI (pc (pntF h (pwF (fun y => hL h 118 (i * 60 + y)) w r))), uI (uI h t 13 (pntF h (pwF (fun y => hL h 118 (i * 60 + y)) w r))) 0 11 0) else some (-1, uI h 0 11 5))
  | d, k, 0, _, z, _ => absurd z (by omega)
  | 0, k, n + 1, e, _, hall => by
    obtain ⟨-, ⟨r1, r6, -⟩, -⟩ := qH.n
    have hk : k = r := by omega
    subst hk
    rw [cIf_t hall, if_neg (by decide)] at hv
    unfold f_X11_paintRows_36
    rw [if_pos (by rw [nI_leI (by omega) (by omega)]; omega), repaint_e qH, bd2_s, ans_e, bd2_s, hv, if_pos rfl]
  | d + 1, k, n + 1, e, z, hall => by
    obtain ⟨⟨w1, w5, hw, hw'⟩, ⟨r1, r6, hr, hr'⟩, -⟩ := qH.n
    unfold f_X11_paintRows_36 f_X7_numberAt f_X1_rowMask maskF shl
    rw [if_neg (by rw [nI_leI (by omega) (by omega)]; omega), gdi_nI hi (by decide), gdi_nI (by omega) (by decide), bd2_s, nI_clamp (by omega), nI_clamp (by omega), T.2 _ (by omega), hw']
    by_cases q : okR (hL h 118 (i * 60 + k))
    · obtain ⟨q1, q2⟩ := okR_c.mpr q
      have key := cpr_lp h qH hi T v hv d (k + 1) n (by omega) (by omega) (all_st.mpr ⟨hall, q⟩)
      rw [if_neg q1, if_pos q2, bd2_s]
      simp only [ltv_e, nI_1]
      rw [pwF] at key
      rw [hw', Int32.mul_comm (nI k)]
      exact key
    · have hbad : ¬ ∀ y, y < r → okR (hL h 118 (i * 60 + y)) := fun p => q (p k (by omega))
      rw [cIf_f hbad, if_pos rfl] at hv
      rw [hv, if_neg (show ¬ (5 : Int32) = 0 by decide)]
      by_cases q1 : lg_cmp (hL h 118 (i * 60 + k)) 0 < 0
      · rw [if_pos q1]; rfl
      · rw [if_neg q1, if_neg (fun q2 => q (okR_c.mp ⟨q1, q2⟩))]; rfl
theorem mpr_lp (h : HP) {i w r : Nat} (hi : i < 4) (w5 : w ≤ 5) (r6 : r ≤ 6) (hw : hI h 114 0 = nI w) (hr : hI h 114 1 = nI r) (v : Int32) (hv : v = (if cIf (∀ y, y < r → okR (hL h 118 (i * 60 + y))) = 0 then 5 else 0)) : ∀ d k n, k + d = r → d < n → (∀ y, y < k → okR (hL h 118 (i * 60 + y))) →
    f_X12_paintRows_54 n (nI i) (pwF (fun y => hL h 118 (i * 60 + y)) w k) (nI k) h = (if v = 0 then some (nI (pc (pntF h (pwF (fun y => hL h 118 (i * 60 + y)) w r))), uI (uI h 114 3 (pntF h (pwF (fun y => hL h 118 (i * 60 + y)) w r))) 113 2 0) else some (-1, uI h 113 2 5))
  | d, k, 0, _, z, _ => absurd z (by omega)
  | 0, k, n + 1, e, _, hall => by
    have hk : k = r := by omega
    subst hk
    rw [cIf_t hall, if_neg (by decide)] at hv
    unfold f_X12_paintRows_54
    rw [hr, if_pos (by rw [nI_leI (by omega) (by omega)]; omega), paints_e, bd2_s, giv_e, bd2_s, hv, if_pos rfl]
  | d + 1, k, n + 1, e, z, hall => by
    unfold f_X12_paintRows_54
    rw [hr, if_neg (by rw [nI_leI (by omega) (by omega)]; omega), i60, gdi_nI (by omega) (by decide), nI_clamp (by omega), isFrom_e, bd2_s, gdi_nI (by omega) (by decide), hw]
    by_cases q : okR (hL h 118 (i * 60 + k))
    · have key := mpr_lp h hi w5 r6 hw hr v hv d (k + 1) n (by omega) (by omega) (all_st.mpr ⟨hall, q⟩)
      rw [bI_dt (show Int64.toInt 0 ≤ (hL h 118 (i * 60 + k)).toInt ∧ (hL h 118 (i * 60 + k)).toInt ≤ Int64.toInt 31 from q), if_neg (by decide)]
      simp only [ltv_e, nI_1]
      rw [pwF] at key
      exact key
    · have hbad : ¬ ∀ y, y < r → okR (hL h 118 (i * 60 + y)) := fun p => q (p k (by omega))
      rw [cIf_f hbad, if_pos rfl] at hv
      rw [hv, if_neg (show ¬ (5 : Int32) = 0 by decide), bI_df (show ¬ (Int64.toInt 0 ≤ (hL h 118 (i * 60 + k)).toInt ∧ (hL h 118 (i * 60 + k)).toInt ≤ Int64.toInt 31) from q), if_pos rfl]; rfl
theorem op_paintRows {h : HP} {t u : Nat} (I : Inv h t u) (a : Int32) : Op t u (f_X11_paintRows h t a) (fun g => f_X12_paintRows g a) := by
  have ht := I.t
  have T := I.2.2.1
  obtain ⟨w, r, m, c, qH, -⟩ := I.tn
  obtain ⟨⟨w1, w5, hw, hw'⟩, ⟨r1, r6, hr, hr'⟩, -, -, ⟨h4, h5⟩, -⟩ := qH.n
  have C : f_X11_paintRows h t a = (if wpF h a (nI r - 1) = 0 then f_X11_paintRows_36 t FU a (nI r) 0 0 h else some (-1, uI h 0 11 (wpF h a (nI r - 1)))) := by
    unfold f_X11_paintRows
    simp only [ltv_e]
    rw [hr', wnt_e T, bd2_s, ref_e, bd2_s]
  rw [C]
  have S : ∀ (v : Int32) (b k : Nat), b ≠ 0 → hI (uI h 0 11 v) b k = hI h b k := fun v b k hb => hI_st h v hb k
  rcases wp_rows (a := a) T r1 r6 with ⟨e, i, m', hi, rfl, m60, z, hrm⟩ | ⟨e, hn⟩ | ⟨e, i, hi, rfl, z⟩ | ⟨e, i, m', hi, rfl, m60, z, hrm⟩
  · rw [if_pos e]
    obtain ⟨v, hv⟩ : ∃ v : Int32, v = (if cIf (∀ y, y < r → okR (hL h 118 (i * 60 + y))) = 0 then 5 else 0) := ⟨_, rfl⟩
    have c1 := cpr_lp h qH hi T v hv r 0 FU (by omega) (FU_gt (by omega)) (fun y hy => absurd hy (by omega))
    obtain ⟨p, ep⟩ : ∃ p, p = pntF h (pwF (fun y => hL h 118 (i * 60 + y)) w r) := ⟨_, rfl⟩
    rw [← ep] at c1
    have pre : ∀ g, (∀ b k, b = 114 ∨ b = 117 → (b = 114 → k = 0 ∨ k = 1) → hI g b k = hI h b k) → f_X12_paintRows g (nI i) = f_X12_paintRows_54 FU (nI i) 0 0 g := fun g hg => by
      unfold f_X12_paintRows
      rw [mTray_e, bd2_s, bI_dt (nI_4 hi), if_neg (by decide), gdi_nI hi (by decide), gdi_nI hi (by decide), nI_clamp (by omega), hg 117 i (by omega) (by omega), z, if_neg (nI_m1 (by omega)), hg 114 1 (by omega) (by omega), hr, if_pos (by rw [nI_leI (by omega) (by omega)]; exact hrm)]
    by_cases q : v = 0
    · rw [if_pos q] at c1
      obtain ⟨p1, p2⟩ := pnt_x qH (pwF (fun y => hL h 118 (i * 60 + y)) w r)
      rw [← ep] at p1 p2
      refine ⟨_, _, _, c1, ?_, I.pic1 p 0 p1 p2⟩
      show f_X12_paintRows (uI (uI h t 13 p) 0 11 0) (nI i) = _
      have E : ∀ b k, b ≠ 0 → b ≠ t → hI (uI (uI h t 13 p) 0 11 0) b k = hI h b k := fun b k h1 h2 => by rw [hI_uI_n (by omega), hI_uI_n (by omega)]
      rw [pre _ (fun b k hb _ => E b k (by omega) (by omega))]
      have m1 := mpr_lp (uI (uI h t 13 p) 0 11 0) hi w5 r6 (by rw [E 114 0 (by omega) (by omega)]; exact hw) (by rw [E 114 1 (by omega) (by omega)]; exact hr) v hv r 0 FU (by omega) (FU_gt (by omega)) (fun y hy => absurd hy (by omega))
      rw [if_pos q, pnt_k (h := h) _ (E 114 2 (by omega) (by omega)) (E 114 3 (by omega) (by omega)) (E 114 4 (by omega) (by omega)), show (fun y => hL (uI (uI h t 13 p) 0 11 0) 118 (i * 60 + y)) = fun y => hL h 118 (i * 60 + y) from rfl, ← ep] at m1
      exact m1
    · rw [if_neg q] at c1
      refine op_st I (v := 5) (r := -1) c1 ?_
      rw [pre _ (fun b k hb _ => S 5 b k (by omega))]
      have m1 := mpr_lp (uI h 0 11 5) hi w5 r6 (by rw [S 5 114 0 (by decide)]; exact hw) (by rw [S 5 114 1 (by decide)]; exact hr) v hv r 0 FU (by omega) (FU_gt (by omega)) (fun y hy => absurd hy (by omega))
      rw [if_neg q] at m1
      exact m1
  · rw [e, if_neg (by decide)]
    exact op_st I (v := 1) (r := -1) rfl (by
      unfold f_X12_paintRows
      rw [mTray_e, bd2_s, bI_df hn, if_pos rfl]; rfl)
  · rw [e, if_neg (by decide)]
    exact op_st I (v := 2) (r := -1) rfl (by
      unfold f_X12_paintRows
      rw [mTray_e, bd2_s, bI_dt (nI_4 hi), if_neg (by decide), gdi_nI hi (by decide), nI_clamp (by omega), S 2 117 i (by decide), z, if_pos rfl]; rfl)
  · rw [e, if_neg (by decide)]
    exact op_st I (v := 3) (r := -1) rfl (by
      unfold f_X12_paintRows
      rw [mTray_e, bd2_s, bI_dt (nI_4 hi), if_neg (by decide), gdi_nI hi (by decide), gdi_nI hi (by decide), nI_clamp (by omega), S 3 117 i (by decide), z, if_neg (nI_m1 (by omega)), S 3 114 1 (by decide), hr, if_neg (by rw [nI_leI (by omega) (by omega)]; omega)]; rfl)
