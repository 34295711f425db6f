/-! ===== alike: what was seen, rows read ===== -/
theorem i32p {k : Nat} : (32 : Int32) + nI k = nI (32 + k) := by rw [show (32 : Int32) = nI 32 from rfl, nI_add]
theorem ge10 {k : Nat} (hk : k < 2 ^ 31) : (10 : Int32) ≤ nI k ↔ 10 ≤ k := by rw [show (10 : Int32) = nI 10 from rfl, nI_leI (by omega) hk]
theorem left_lp (h : HP) (s : Nat → Int32) (hs : ∀ k, k < 10 → hI h 114 (32 + k) = s k) : ∀ d k n, k + d = 10 → d < n → f_X12_rulesLeft_4 n (leftN s k) (nI k) h = some (leftN s 10, uI h 113 2 0)
  | d, k, 0, _, z => absurd z (by omega)
  | 0, k, n + 1, e, _ => by
    unfold f_X12_rulesLeft_4
    rw [if_pos ((ge10 (by omega)).mpr (by omega)), giv_e, bd2_s, show k = 10 by omega]
  | d + 1, k, n + 1, e, z => by
    have key := left_lp h s hs d (k + 1) n (by omega) (by omega)
    unfold f_X12_rulesLeft_4
    rw [if_neg (by rw [ge10 (by omega)]; omega), i32p, gdi_nI (by omega) (by decide), gdi_nI (by omega) (by decide), nI_clamp (by omega), hs k (by omega)]
    simp only [ltv_e, nI_1]
    rw [leftN] at key
    by_cases h0 : s k = 0
    · rw [if_pos h0]; rw [if_pos h0] at key; exact key
    · rw [if_neg h0]; rw [if_neg h0] at key
      by_cases h3 : s k = 3
      · rw [if_pos h3]; rw [if_pos h3] at key; rw [Int32.mul_zero]; exact key
      · rw [if_neg h3]; rw [if_neg h3] at key; rw [Int32.mul_one]; exact key
theorem op_rulesLeft {h : HP} {t u : Nat} (I : Inv h t u) : Op t u (f_X11_rulesLeft h t) (fun g => f_X12_rulesLeft g) := by
  obtain ⟨w, r, m, c, -, -, qS, -⟩ := I.tn
  refine op_st I (v := 0) (r := leftN (hI h (t + 15)) 10) rfl ?_
  unfold f_X12_rulesLeft
  exact left_lp _ (hI h (t + 15)) (fun k hk => by rw [hI_st h 0 (by decide), (qS.n.2 k hk).1]) 10 0 FU (by omega) (FU_gt (by omega))
/-- the reference's row with the first k of what was seen forgotten -/
def zk32 (A : Nat → Int32) (k : Nat) : Nat → Int32 := fun j => if 32 ≤ j ∧ j < 32 + k then 0 else A j
theorem zk32_st (A : Nat → Int32) (k : Nat) : upd (zk32 A k) (32 + k) 0 = zk32 A (k + 1) := by
  funext j; unfold upd zk32
  by_cases e : j = 32 + k
  · rw [if_pos e, if_pos (by omega)]
  · rw [if_neg e]
    by_cases e2 : 32 ≤ j ∧ j < 32 + k
    · rw [if_pos e2, if_pos (by omega)]
    · rw [if_neg e2, if_neg (by omega)]
theorem forg_lp (h : HP) (s : Nat → Int32) (hs : ∀ k, k < 10 → hI h 114 (32 + k) = s k) : ∀ d k n, k + d = 10 → d < n → f_X12_forget_4 n (nzN s k) (nI k) (rI h 114 (zk32 (hI h 114) k)) = some (nzN s 10, uI (rI h 114 (zk32 (hI h 114) 10)) 113 2 0)
  | d, k, 0, _, z => absurd z (by omega)
  | 0, k, n + 1, e, _ => by
    unfold f_X12_forget_4
    rw [if_pos ((ge10 (by omega)).mpr (by omega)), giv_e, bd2_s, show k = 10 by omega]
  | d + 1, k, n + 1, e, z => by
    have key := forg_lp h s hs d (k + 1) n (by omega) (by omega)
    have st : ∀ x : Int32, f_X12_forget_28 (f_X12_forget_4 n) (nI k) (nzN s k) x (rI h 114 (zk32 (hI h 114) k)) = f_X12_forget_4 n (nzN s k + x) (nI (k + 1)) (rI h 114 (zk32 (hI h 114) (k + 1))) := fun x => by
      unfold f_X12_forget_28
      simp only [ltv_e]
      rw [i32p, gdi_nI (by omega) (by decide), nI_clamp (by omega), uI_rI, zk32_st, nI_1]
    unfold f_X12_forget_4
    rw [if_neg (by rw [ge10 (by omega)]; omega), i32p, gdi_nI (by omega) (by decide), nI_clamp (by omega), hI_rI_s, show zk32 (hI h 114) k (32 + k) = s k by unfold zk32; rw [if_neg (by omega)]; exact hs k (by omega), st, st]
    rw [nzN] at key
    by_cases h0 : s k = 0
    · rw [if_pos h0]; rw [if_pos h0] at key; exact key
    · rw [if_neg h0]; rw [if_neg h0] at key; exact key
theorem op_forget {h : HP} {t u : Nat} (I : Inv h t u) : Op t u (f_X11_forget h t) (fun g => f_X12_forget g) := by
  have ht := I.t
  obtain ⟨w, r, m, c, qH, qR, qS, qY⟩ := I.tn
  obtain ⟨g, eg⟩ : ∃ g, g = uI (rI h (t + 15) (zk (hI h (t + 15)) 10)) 0 11 0 := ⟨_, rfl⟩
  have Eg : ∀ b k, (b ≠ 0 ∨ k ≠ 11) → b ≠ t + 15 → hI g b k = hI h b k := fun b k h1 h2 => by rw [eg, hI_uI_n (by omega), hI_rI_n _ _ h2]
  obtain ⟨g2, eg2⟩ : ∃ g2, g2 = uI (rI g 114 (zk32 (hI g 114) 10)) 113 2 0 := ⟨_, rfl⟩
  have E2 : ∀ b k, (b ≠ 0 ∨ k ≠ 11) → b ≠ t + 15 → (b ≠ 113 ∨ k ≠ 2) → (b ≠ 114 ∨ k < 32 ∨ 42 ≤ k) → hI g2 b k = hI h b k := fun b k h1 h2 h3 h4 => by
    rw [eg2, hI_uI_n (by omega)]
    by_cases e : b = 114
    · subst e; rw [hI_rI_s]; unfold zk32; rw [if_neg (by omega)]; exact Eg _ _ h1 h2
    · rw [hI_rI_n _ _ e]; exact Eg _ _ h1 h2
  have hL2 : hL g2 = hL h := by rw [eg2, eg]; rfl
  refine ⟨nzN (hI h (t + 15)) 10, g, g2, by rw [eg]; rfl, ?_, I.own (h := h) ⟨⟨by rw [eg2, eg]; rfl, by rw [eg2, eg]; rfl⟩, fun a j q => E2 a j (by unfold relO inT at q; omega) (by unfold relO inT at q; omega) (by unfold relO inT at q; omega) (by unfold relO inT at q; omega), fun a j _ => by rw [hL2]⟩ ?_ ⟨w, r, m, c, qH.k (fun b k q => E2 b k (by unfold cnH at q; omega) (by unfold cnH at q; omega) (by unfold cnH at q; omega) (by unfold cnH at q; omega)), qR.k (fun b k q => E2 b k (by unfold cnR at q; omega) (by unfold cnR at q; omega) (by unfold cnR at q; omega) (by unfold cnR at q; omega)) (fun b k _ => by rw [hL2]), ?_, qY.k (fun b k q => E2 b k (by unfold cnY at q; omega) (by unfold cnY at q; omega) (by unfold cnY at q; omega) (by unfold cnY at q; omega))⟩⟩
  · show f_X12_forget g = _
    unfold f_X12_forget
    have key := forg_lp g (hI h (t + 15)) (fun k hk => by rw [Eg 114 _ (by omega) (by omega), (qS.n.2 k hk).1]) 10 0 FU (by omega) (FU_gt (by omega))
    rw [show zk32 (hI g 114) 0 = hI g 114 from funext fun j => by unfold zk32; rw [if_neg (by omega)], rI_self] at key
    rw [eg2]; exact key
  · rw [eg2, hI_uI_s, hI_uI_n (by omega), hI_rI_n _ _ (by decide), eg, hI_uI_s]
  · unfold RtS
    simp only [Nat.zero_add]
    rw [E2 t 14 (by omega) (by omega) (by omega) (by omega), E2 t 15 (by omega) (by omega) (by omega) (by omega), E2 114 7 (by omega) (by omega) (by omega) (by omega), E2 114 8 (by omega) (by omega) (by omega) (by omega)]
    refine ⟨qS.n.1, fun i hi => ?_⟩
    have z1 : hI g2 (t + 15) i = 0 := by
      rw [eg2, hI_uI_n (by omega), hI_rI_n _ _ (by omega), eg, hI_uI_n (by omega), hI_rI_s]
      unfold zk; rw [if_pos hi]
    have z2 : hI g2 114 (32 + i) = 0 := by
      rw [eg2, hI_uI_n (by omega), hI_rI_s]
      unfold zk32; rw [if_pos (by omega)]
    rw [z1, z2]; exact ⟨rfl, 0, by decide, rfl⟩
theorem rowM_e {h : HP} {w : Nat} (hw : hI h 114 0 = nI w) (p y : Int32) : f_X12_rowOf h p y = some ((p >>> ((nI w * y) &&& 31)) &&& (((1 : Int32) <<< (nI w &&& 31)) - 1), h) := by
  unfold f_X12_rowOf; rw [hw]
theorem rowF_e {f : Nat → Int32} {w : Nat} (hw : f 0 = nI w) (p y : Int32) : rowF f p y = (p >>> ((nI w * y) &&& 31)) &&& (((1 : Int32) <<< (nI w &&& 31)) - 1) := by
  unfold rowF maskF shl shr; rw [hw, Int32.mul_comm]
theorem col_lp (h : HP) {w r : Nat} (hw : hI h 114 0 = nI w) (hr : hI h 114 1 = nI r) (r6 : r ≤ 6) (f : Nat → Int32) (hf : f 0 = nI w) (x : Int32) : ∀ d k n, k + d = r → d < n → f_X12_reads_67 n x (colF f (hI h 114 3) x k) (nI k) h = some (colF f (hI h 114 3) x r, uI h 113 2 0)
  | d, k, 0, _, z => absurd z (by omega)
  | 0, k, n + 1, e, _ => by
    unfold f_X12_reads_67
    rw [if_pos (by rw [hr, nI_leI (by omega) (by omega)]; omega), giv_e, bd2_s, show k = r by omega]
  | d + 1, k, n + 1, e, z => by
    have key := col_lp h hw hr r6 f hf x d (k + 1) n (by omega) (by omega)
    unfold f_X12_reads_67
    rw [if_neg (by rw [hr, nI_leI (by omega) (by omega)]; omega)]
    simp only [ltv_e]
    rw [nI_1, hw]
    rw [colF, hf] at key
    rw [Int32.mul_comm (nI w)]
    exact key
theorem op_reads {h : HP} {t u : Nat} (I : Inv h t u) (k b : Int32) : Op t u (f_X11_reads h t k b) (fun g => f_X12_reads g k b) := by
  obtain ⟨w, r, m, c, qH, -⟩ := I.tn
  obtain ⟨⟨w1, w5, hw, hw'⟩, ⟨r1, r6, hr, hr'⟩, -, -, ⟨h4, h5⟩, -⟩ := qH.n
  have m36 : ∀ g, f_X12_reads_36 g = some (-1, uI g 113 2 1) := fun g => rfl
  have S : ∀ v, hI (uI h 0 11 v) 114 0 = nI w ∧ hI (uI h 0 11 v) 114 1 = nI r ∧ hI (uI h 0 11 v) 114 3 = hI h 114 3 := fun v => ⟨by rw [hI_st h v (by decide)]; exact hw, by rw [hI_st h v (by decide)]; exact hr, hI_st h v (by decide) _⟩
  have lt0 : ∀ {x : Int32}, ¬ x < 0 → ∃ i, i < 2 ^ 31 ∧ x = nI i := fun {x} hx => nat_is (by rw [Int32.lt_iff_toInt_lt, show (0 : Int32).toInt = 0 from rfl] at hx; omega)
  by_cases hb : b = 0 ∨ b = 1
  · obtain ⟨b1, b2⟩ := le1.mpr hb
    by_cases hk : k < 0
    · refine op_st I (v := 1) (r := -1) ?_ ?_
      · unfold f_X11_reads f_X11_reads_41
        rcases hb with rfl | rfl
        · rw [if_pos rfl, if_pos hk, if_neg (by decide)]; rfl
        · rw [if_neg (by decide), if_pos rfl, if_pos hk]; rfl
      · show f_X12_reads _ k b = _
        unfold f_X12_reads
        rw [if_neg b1, if_neg b2, if_pos hk, m36]
    · obtain ⟨i, hi31, rfl⟩ := lt0 hk
      rcases hb with rfl | rfl
      · by_cases hir : i < r
        · refine op_st I (v := 0) (r := (hI h 114 3 >>> ((nI w * nI i) &&& 31)) &&& (((1 : Int32) <<< (nI w &&& 31)) - 1)) ?_ ?_
          · unfold f_X11_reads f_X1_rowOf
            rw [if_pos rfl, if_neg hk, if_neg (by rw [hr', nI_leI (by omega) hi31]; omega), bd2_s, ans_e, bd2_s, rowF_e hw', h5]
          · show f_X12_reads _ (nI i) 0 = _
            unfold f_X12_reads f_X12_reads_33
            rw [if_neg b1, if_neg b2, if_neg hk, if_pos rfl, if_pos (by rw [(S 0).2.1, nI_ltI hi31 (by omega)]; exact hir), if_pos rfl, rowM_e (S 0).1, bd2_s, giv_e, bd2_s, (S 0).2.2]
        · refine op_st I (v := 1) (r := -1) ?_ ?_
          · unfold f_X11_reads f_X11_reads_41
            rw [if_pos rfl, if_neg hk, if_pos (by rw [hr', nI_leI (by omega) hi31]; omega), if_neg (by decide)]; rfl
          · show f_X12_reads _ (nI i) 0 = _
            unfold f_X12_reads f_X12_reads_33
            rw [if_neg b1, if_neg b2, if_neg hk, if_pos rfl, if_neg (by rw [(S 1).2.1, nI_ltI hi31 (by omega)]; exact hir), m36]
      · by_cases hiw : i < w
        · refine op_st I (v := 0) (r := colF (hI h (t + 1)) (hI h 114 3) (nI i) r) ?_ ?_
          · unfold f_X11_reads f_X11_reads_41 f_X1_columnOf
            rw [if_neg (by decide), if_pos rfl, if_neg hk, if_neg (by rw [hw', nI_leI (by omega) hi31]; omega), hr', gdi_nI (by omega) (by decide), nI_clamp (by omega), bd2_s, ans_e, bd2_s, h5]
          · show f_X12_reads _ (nI i) 1 = _
            unfold f_X12_reads f_X12_reads_33
            rw [if_neg b1, if_neg b2, if_neg hk, if_neg (by decide), if_pos (by rw [(S 0).1, nI_ltI hi31 (by omega)]; exact hiw), if_neg (by decide)]
            have key := col_lp (uI h 0 11 0) (S 0).1 (S 0).2.1 r6 (hI h (t + 1)) hw' (nI i) r 0 FU (by omega) (FU_gt (by omega))
            rw [(S 0).2.2] at key
            exact key
        · refine op_st I (v := 1) (r := -1) ?_ ?_
          · unfold f_X11_reads f_X11_reads_41
            rw [if_neg (by decide), if_pos rfl, if_neg hk, if_pos (by rw [hw', nI_leI (by omega) hi31]; omega)]; rfl
          · show f_X12_reads _ (nI i) 1 = _
            unfold f_X12_reads f_X12_reads_33
            rw [if_neg b1, if_neg b2, if_neg hk, if_neg (by decide), if_neg (by rw [(S 1).1, nI_ltI hi31 (by omega)]; exact hiw), m36]
  · have hb0 : ¬ b = 0 := fun q => hb (Or.inl q)
    have hb1 : ¬ b = 1 := fun q => hb (Or.inr q)
    refine op_st I (v := 1) (r := -1) ?_ ?_
    · unfold f_X11_reads f_X11_reads_41
      rw [if_neg hb0, if_neg hb1]; rfl
    · show f_X12_reads _ k b = _
      unfold f_X12_reads
      by_cases b1 : b < 0
      · rw [if_pos b1, m36]
      · rw [if_neg b1, if_pos (Decidable.byContradiction fun q => hb (le1.mp ⟨b1, q⟩)), m36]
