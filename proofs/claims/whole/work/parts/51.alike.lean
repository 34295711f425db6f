/-! ===== alike: trays made and poured, the feed ===== -/
theorem mtray_lp {n0 : Nat} (t m : Nat) (ht : t < 4) (hm : m ≤ 60) : ∀ d k n h, k + d = m → d < n →
    f_X12_tray_49 n (nI t) (nI m) (nI k) (rL h 118 (rowL (hL h 118) (fun _ => 0) (t * 60) k)) = some (1, uI (rL h 118 (rowL (hL h 118) (fun _ => 0) (t * 60) m)) 113 2 0)
  | d, k, 0, h, _, q => absurd q (by omega)
  | 0, k, n + 1, h, e, _ => by
    unfold f_X12_tray_49
    rw [if_pos (by rw [nI_leI (by omega) (by omega)]; omega), is0_e, bd2_s, gdv_t is01_1, show k = m by omega]
  | d + 1, k, n + 1, h, e, q => by
    unfold f_X12_tray_49
    rw [if_neg (by rw [nI_leI (by omega) (by omega)]; omega), i60, gdi_nI (by omega) (by decide), nI_clamp (by omega)]
    simp only [ltv_e]
    rw [nI_1, uL_row h 118 (hL h 118) (fun _ => 0) (t * 60) k]
    exact mtray_lp (n0 := n0) t m ht hm d (k + 1) n h (by omega) (by omega)
theorem okTray_iff (t s m : Int32) : okTray t s m ↔ ((0 ≤ t ∧ t < 4) ∧ (¬ s < 0 ∧ ¬ 3 < s) ∧ (¬ m < 0 ∧ m ≤ 60)) := by
  unfold okTray
  simp only [Int32.lt_iff_toInt_lt, Int32.le_iff_toInt_le, Int32.reduceToInt]; omega
theorem mtray_ok {h : HP} {t s m : Nat} (ht : t < 4) (hs : s < 4) (hm : m ≤ 60) : f_X12_tray h (nI t) (nI s) (nI m) = some (1, uI (rL (uI (uI h 116 t (nI s)) 117 t (nI m)) 118 (rowL (hL h 118) (fun _ => 0) (t * 60) m)) 113 2 0) := by
  have z0 : (0 : Int32) = nI 0 := rfl
  unfold f_X12_tray
  rw [mTray_e, bd2_s, bI_dt ⟨by rw [z0, nI_leI (by omega) (by omega)]; omega, by rw [show (4 : Int32) = nI 4 from rfl, nI_ltI (by omega) (by omega)]; exact ht⟩, if_neg (by decide), if_neg (lt_nI0 s (by omega)), if_neg (by rw [show (3 : Int32) = nI 3 from rfl, nI_ltI (by omega) (by omega)]; omega), if_neg (lt_nI0 m (by omega)), if_pos (by rw [show (60 : Int32) = nI 60 from rfl, nI_leI (by omega) (by omega)]; omega), gdi_nI ht (by decide)]
  simp only [ltv_e]
  rw [gdi_nI ht (by decide), nI_clamp (by omega)]
  have := mtray_lp (n0 := 0) t m ht hm m 0 FU (uI (uI h 116 t (nI s)) 117 t (nI m)) (by omega) (FU_gt (by omega))
  rw [rowL_0, rL_self] at this
  exact this
theorem mtray_no {h : HP} {t s m : Int32} (hn : ¬ okTray t s m) : f_X12_tray h t s m = some (0, uI h 113 2 1) := by
  have e26 : ∀ g, f_X12_tray_26 g = some (0, uI g 113 2 1) := fun g => by unfold f_X12_tray_26; rw [is1_e _ (by decide), bd2_s, gdv_t is01_0]
  rw [okTray_iff] at hn
  unfold f_X12_tray
  rw [mTray_e, bd2_s]
  simp only [e26]
  by_cases h1 : 0 ≤ t ∧ t < 4
  · rw [bI_dt h1, if_neg (by decide)]
    by_cases h2 : s < 0
    · rw [if_pos h2]
    · rw [if_neg h2]
      by_cases h3 : 3 < s
      · rw [if_pos h3]
      · rw [if_neg h3]
        by_cases h4 : m < 0
        · rw [if_pos h4]
        · rw [if_neg h4, if_neg (fun q => hn ⟨h1, ⟨h2, h3⟩, h4, q⟩)]
  · rw [bI_df h1, if_pos rfl]
noncomputable def f_X11_tray (h : HP) (t s m : Int32) : Option (Int32 × HP) := @ite _ (okTray t s m) (Classical.propDecidable _) (some (1, uI (trayE h 3 4 2 t s m) 0 11 0)) (some (0, uI h 0 11 1))
theorem th_X11_tray {h : HP} (ly : Lay h) {t s m : Int32} {rr : Int32} {hh : HP} (hf : f_X11_tray h t s m = some (rr, hh)) : Spec yX11_tray cX11_tray miX11_tray [.ref 0, .int t, .int s, .int m] h (pI fun r' h' => (r' = rr ∧ h' = hh) ∧ SR h hh) := by
  unfold f_X11_tray at hf
  by_cases q : okTray t s m
  · rw [if_pos q] at hf
    cases hf
    exact Spec.dI (sp_X11_tray ly t s m) (fun r h' => ⟨fun p => p.elim (fun p => p.2) (fun p => absurd q p.1), fun p => Or.inl ⟨q, p⟩⟩) ⟨rfl, rfl⟩
  · rw [if_neg q] at hf
    cases hf
    exact Spec.dI (sp_X11_tray ly t s m) (fun r h' => ⟨fun p => p.elim (fun p => absurd p.1 q) (fun p => p.2), fun p => Or.inr ⟨q, p⟩⟩) ⟨rfl, rfl⟩
theorem op_tray {h : HP} {t u : Nat} (I : Inv h t u) (a s m : Int32) : Op t u (f_X11_tray h a s m) (fun g => f_X12_tray g a s m) := by
  have T := I.2.2.1
  unfold f_X11_tray
  by_cases q : okTray a s m
  · obtain ⟨⟨q1, q2⟩, ⟨q3, q4⟩, q5, q6⟩ := (okTray_iff a s m).mp q
    obtain ⟨i, hi, rfl⟩ := tray_nI ⟨q1, q2⟩
    obtain ⟨j, hj, rfl⟩ := rng_nI (n := 3) ((toI32 (n := 3) (by decide)).mp ⟨q3, q4⟩)
    obtain ⟨k, hk, rfl⟩ := rng_nI (n := 60) ((toI32 (n := 60) (by decide)).mp ⟨q5, Int32.not_lt.mpr q6⟩)
    rw [if_pos q, trayE_nI _ _ _ _ _ hi hk]
    obtain ⟨g, eg⟩ : ∃ g, g = uI (rL (uI (uI h 3 i (nI j)) 4 i (nI k)) 2 (rowL (hL h 2) (fun _ => 0) (i * 60) k)) 0 11 0 := ⟨_, rfl⟩
    rw [← eg]
    refine ⟨1, g, _, rfl, mtray_ok hi (by omega) hk, ?_⟩
    have Eg : ∀ b k, b ≠ 0 → b ≠ 3 → b ≠ 4 → hI g b k = hI h b k := fun b k h0 h1 h2 => by
      rw [eg, hI_uI_n (by omega), hI_rL, hI_uI_n (by omega), hI_uI_n (by omega)]
    refine I.tr (h := h) ⟨by rw [eg]; rfl, by rw [eg]; rfl⟩ (fun b c n1 n2 n3 => ?_) (fun b c n1 n2 => ?_) ?_ ⟨fun c hc => ?_, fun c hc => ?_⟩
    · unfold cnTr at n1
      rw [hI_uI_n (by omega), hI_rL, hI_uI_n (by omega), hI_uI_n (by omega), eg, hI_uI_n (by omega), hI_rL, hI_uI_n (by omega), hI_uI_n (by omega)]
    · rw [hL_uI, hL_rL_n _ _ n2, hL_uI, hL_uI, eg, hL_uI, hL_rL_n _ _ n1, hL_uI, hL_uI]
    · rw [hI_uI_s, hI_uI_n (by omega), hI_rL, hI_uI_n (by omega), hI_uI_n (by omega), eg, hI_uI_s]
    · have z3 : hI (uI (rL (uI (uI g 116 i (nI j)) 117 i (nI k)) 118 (rowL (hL g 118) (fun _ => 0) (i * 60) k)) 113 2 0) 3 c = if c = i then nI j else hI h 3 c := by
        rw [hI_uI_n (by omega), hI_rL, hI_uI_n (by omega), hI_uI_n (by omega), eg, hI_uI_n (by omega), hI_rL, hI_uI_n (by omega), hI_uI]; simp
      have z4 : hI (uI (rL (uI (uI g 116 i (nI j)) 117 i (nI k)) 118 (rowL (hL g 118) (fun _ => 0) (i * 60) k)) 113 2 0) 4 c = if c = i then nI k else hI h 4 c := by
        rw [hI_uI_n (by omega), hI_rL, hI_uI_n (by omega), hI_uI_n (by omega), eg, hI_uI_n (by omega), hI_rL, hI_uI, hI_uI_n (by omega)]; simp
      have z6 : hI (uI (rL (uI (uI g 116 i (nI j)) 117 i (nI k)) 118 (rowL (hL g 118) (fun _ => 0) (i * 60) k)) 113 2 0) 116 c = if c = i then nI j else hI h 116 c := by
        rw [hI_uI_n (by omega), hI_rL, hI_uI_n (by omega), hI_uI, Eg _ _ (by decide) (by decide) (by decide)]; simp
      have z7 : hI (uI (rL (uI (uI g 116 i (nI j)) 117 i (nI k)) 118 (rowL (hL g 118) (fun _ => 0) (i * 60) k)) 113 2 0) 117 c = if c = i then nI k else hI h 117 c := by
        rw [hI_uI_n (by omega), hI_rL, hI_uI, hI_uI_n (by omega), Eg _ _ (by decide) (by decide) (by decide)]; simp
      rw [z3, z4, z6, z7]
      by_cases e : c = i
      · rw [if_pos e, if_pos e, if_pos e, if_pos e]
        exact ⟨⟨rfl, rfl⟩, ⟨j, by omega, rfl⟩, Or.inr ⟨k, hk, rfl⟩⟩
      · rw [if_neg e, if_neg e, if_neg e, if_neg e]; exact T.1 c hc
    · rw [hL_uI, hL_rL_n _ _ (by decide), hL_rL_s, hL_uI, hL_uI]
      have z2 : hL g 2 = rowL (hL h 2) (fun _ => 0) (i * 60) k := by rw [eg, hL_uI, hL_rL_s]
      have z8 : hL g 118 = hL h 118 := by rw [eg, hL_uI, hL_rL_n _ _ (by decide)]; rfl
      rw [z2, z8]
      unfold rowL
      by_cases e : i * 60 ≤ c ∧ c < i * 60 + k
      · rw [if_pos e, if_pos e]
      · rw [if_neg e, if_neg e]; exact T.2 c hc
  · rw [if_neg q]
    exact op_st I (v := 1) (r := 0) rfl (mtray_no q)
