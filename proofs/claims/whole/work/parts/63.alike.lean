/-! ===== alike: spoils, a lamp ===== -/
theorem bit_e (h : HP) {w a b : Nat} (hw : hI h 114 0 = nI w) : f_X12_bitOf h (nI a) (nI b) = some (bitI (b * w + a), h) := by
  unfold f_X12_bitOf; rw [hw, Int32.mul_comm, pl_nI]
theorem plc_e {h : HP} {t w r a b : Nat} (w5 : w ≤ 5) (r6 : r ≤ 6) (hw : hI h (t + 1) 0 = nI w) (hr : hI h (t + 1) 1 = nI r) (ha : a < w) (hb : b < r) : f_X1_placeOf h (t + 1) (nI a) (nI b) = some (nI (b * w + a), h) := by
  have hc : 0 ≤ (a : Int) ∧ (a : Int) < (w : Int) ∧ 0 ≤ (b : Int) ∧ (b : Int) < (r : Int) := by omega
  unfold f_X1_placeOf placeF
  rw [hw, hr, nI_t (by omega), nI_t (by omega), nI_t (by omega), nI_t (by omega), if_pos hc, pl_nI]
theorem plc_no {h : HP} {t : Nat} {x y : Int32} (hn : ¬ (0 ≤ x.toInt ∧ x.toInt < (hI h (t + 1) 0).toInt ∧ 0 ≤ y.toInt ∧ y.toInt < (hI h (t + 1) 1).toInt)) : f_X1_placeOf h (t + 1) x y = some (-1, h) := by
  unfold f_X1_placeOf placeF; rw [if_neg hn]
theorem op_spoils {h : HP} {t u : Nat} (I : Inv h t u) (x y a : Int32) : Op t u (f_X11_spoils h t x y a) (fun g => f_X12_spoils g x y a) := by
  have ht := I.t
  obtain ⟨w, r, m, c, j, T⟩ := I.tw
  obtain ⟨⟨w1, w5, hw, hw'⟩, ⟨r1, r6, hr, hr'⟩, -, -, ⟨h4, h5⟩, h6, h7⟩ := T.1.n
  have h30 := wr_le w5 r6
  have fr : ∀ g, f_X12_isFrom g (Int32.toInt64 a) 0 30 = some (bI (decide (0 ≤ a.toInt ∧ a.toInt ≤ 30)), g) := fun g => fr32 g a (n := 30) (by decide)
  unfold f_X11_spoils f_X12_spoils
  simp only [fr, nts_e, bd2_s]
  have m22 : ∀ g s, ¬ s ≤ 0 → f_X12_spoils_22 x y a s g = some (-1, uI g 113 2 s) := fun g s hs => by
    unfold f_X12_spoils_22; rw [if_neg hs]; rfl
  by_cases ha : 0 ≤ a.toInt ∧ a.toInt ≤ 30
  · obtain ⟨N, hN, rfl⟩ := rng_nI (n := 30) ha
    rw [bI_dt ha, if_neg (by decide)]
    rcases pl_cases (w := w) (r := r) (by omega) (by omega) x y with ⟨p, q, hp, hq, rfl, rfl⟩ | hn
    · have hpl := pl_lt hp hq
      rw [wf_in w5 r6 hw' hr' hp hq]
      simp only [bd2_s]
      have hf2 := (h6 (q * w + p) (by omega)).1
      by_cases hf : bt (hI h (t + 1) 5) (q * w + p) = true
      · rw [hf] at hf2
        have hh : bt (hI h 114 2) (q * w + p) = true := by
          cases h8 : bt (hI h 114 2) (q * w + p)
          · rw [h8] at hf2; cases hf2
          · rfl
        rw [if_pos hf, if_pos rfl, plc_e w5 r6 hw' hr' hp hq, bd2_s]
        obtain ⟨f', e⟩ := splC T (bitI (q * w + p)) (N := N) (by omega) (hI h (t + 1 + 1))
        rw [← scr_self] at e
        have sm := SmN.sc (h := h) ht f' 0
        refine op_sc I (g1 := scr h t f') (g2 := lnH (uI (scr h t f') 0 11 0) w r j) (v := 0) (r := splF (nxF h t) (hI h 114 3) (bitI (q * w + p)) N) (by rw [e, bd2_s, ans_e, bd2_s]) ((Sm.refl t h).scr ht f') ?_ ((Sm.refl _ _).ln ht w r j) (by rw [lnH_I _ _ _ _ (by decide), hI_uI_s])
        try simp only []
        rw [if_neg (show ¬ (1 : Int32) = 0 by decide), wl_in w5 r6 (by rw [sm 0 (by omega)]; exact hw) (by rw [sm 1 (by omega)]; exact hr) hp hq, bd2_s, sm 2 (by omega), sm 4 (by omega), ← hf2, if_pos rfl]
        unfold f_X12_spoils_22
        rw [if_pos (show (0 : Int32) ≤ 0 by decide), bit_e _ (by rw [sm 0 (by omega)]; exact hw), bd2_s, splM T sm (bit_inH (by omega) hh) (by omega), bd2_s, giv_e, bd2_s]
      · rw [if_neg hf, if_neg (by decide)]
        refine op_st I (v := 7) (r := -1) rfl ?_
        try simp only []
        rw [if_neg (show ¬ (1 : Int32) = 0 by decide), wl_in w5 r6 (by rw [hI_st h 7 (by decide)]; exact hw) (by rw [hI_st h 7 (by decide)]; exact hr) hp hq, bd2_s, hI_st h 7 (by decide), hI_st h 7 (by decide), ← hf2, if_neg hf, m22 _ _ (by decide)]
    · rw [wf_out (by rw [hw', hr']; exact hn)]
      refine op_st I (v := 1) (r := -1) rfl ?_
      try simp only []
      rw [if_neg (show ¬ (1 : Int32) = 0 by decide), wl_out (by rw [hI_st h 1 (by decide), hI_st h 1 (by decide), hw, hr]; exact hn), bd2_s, m22 _ _ (by decide)]
  · rw [bI_df ha, if_pos rfl]
    exact op_st I (v := 1) (r := -1) rfl (by (try simp only []); rw [if_pos trivial, m22 _ _ (by decide)])
theorem cnt_b {f : Nat → Int32} {w r : Nat} {j : Bool} (H : HillOK f w r j) {x : Int32} (hx : ∀ i, i < 32 → bt x i = true → i < w * r) {k : Nat} (hk : k < w * r) : cntF f x (bitI k) = nI (nbC w j (bt x) k) := by
  have h30 := wr_le H.1.2.1 H.2.1.2
  have l := fun m (hm : m < 5) => lit_b H hx hk hm
  have z := fun m => and_bit (x := litF f x m) (k := k) (by omega)
  have hc := nbC_le w j (bt x) k
  unfold cntF
  have e : ∀ m, m < 5 → ((litF f x m &&& bitI k ≠ 0) ↔ nbC w j (bt x) k = m) := fun m hm => by
    rw [Ne, z m, l m hm, decide_eq_false_iff_not, Decidable.not_not]
  obtain ⟨n, hn⟩ : ∃ n, n = nbC w j (bt x) k := ⟨_, rfl⟩
  rw [← hn] at e hc ⊢
  rcases (show n = 0 ∨ n = 1 ∨ n = 2 ∨ n = 3 ∨ n = 4 by omega) with rfl | rfl | rfl | rfl | rfl
  · rw [if_neg (by rw [e 1 (by decide)]; decide), if_neg (by rw [e 2 (by decide)]; decide), if_neg (by rw [e 3 (by decide)]; decide), if_neg (by rw [e 4 (by decide)]; decide)]; rfl
  · rw [if_pos (by rw [e 1 (by decide)])]; rfl
  · rw [if_neg (by rw [e 1 (by decide)]; decide), if_pos (by rw [e 2 (by decide)])]; rfl
  · rw [if_neg (by rw [e 1 (by decide)]; decide), if_neg (by rw [e 2 (by decide)]; decide), if_pos (by rw [e 3 (by decide)])]; rfl
  · rw [if_neg (by rw [e 1 (by decide)]; decide), if_neg (by rw [e 2 (by decide)]; decide), if_neg (by rw [e 3 (by decide)]; decide), if_pos (by rw [e 4 (by decide)])]; rfl
theorem near_ct' {H : Int32} {w r : Nat} {j : Bool} (w1 : 1 ≤ w) (w5 : w ≤ 5) (r6 : r ≤ 6) (hj : j = true → 2 < w) (hP : ∀ i, i < 32 → bt H i = true → i < w * r) {k : Nat} (hk : k < w * r) : pc (nrF H w r j k) = nbC w j (bt H) k := by
  have := near_ct (H := H) (x := H) w1 w5 r6 hj (fun _ _ q => q) hP hk
  rw [← this]
  congr 1
  unfold nrF
  refine b_ext (fun i hi => ?_)
  rw [b_and, b_and, b_and]; cases bt H i <;> simp
theorem op_lamp {h : HP} {t u : Nat} (I : Inv h t u) (x y a : Int32) : Op t u (f_X11_lamp h t x y a) (fun g => f_X12_lamp g x y a) := by
  have ht := I.t
  obtain ⟨w, r, m, c, j, T⟩ := I.tw
  obtain ⟨qH, qR, H, j1, j2⟩ := T
  obtain ⟨⟨w1, w5, hw, hw'⟩, ⟨r1, r6, hr, hr'⟩, -, -, ⟨h4, h5⟩, h6, h7⟩ := qH.n
  have h30 := wr_le w5 r6
  have m19 : ∀ g s, ¬ s ≤ 0 → f_X12_lamp_19 x y a s g = some (-1, uI g 113 2 s) := fun g s hs => by
    unfold f_X12_lamp_19; rw [if_neg hs]; rfl
  have mbad : ¬ (0 ≤ a.toInt ∧ a.toInt ≤ 3) → f_X12_lamp (uI h 0 11 1) x y a = some (-1, uI (uI h 0 11 1) 113 2 1) := fun q => by
    unfold f_X12_lamp
    by_cases a1 : a < 0
    · rw [if_pos a1, m19 _ _ (by decide)]
    · rw [if_neg a1, if_neg (show ¬ a ≤ 3 from fun p => q ((toI32 (n := 3) (by decide)).mp ⟨a1, Int32.not_lt.mpr p⟩)), m19 _ _ (by decide)]
  unfold f_X11_lamp
  rcases pl_cases (w := w) (r := r) (by omega) (by omega) x y with ⟨p, q, hp, hq, rfl, rfl⟩ | hn
  · have hpl := pl_lt hp hq
    obtain ⟨k, ek⟩ : ∃ k, k = q * w + p := ⟨_, rfl⟩
    rw [plc_e w5 r6 hw' hr' hp hq, bd2_s, if_neg (lt_nI0 _ (by omega)), ← ek]
    rw [← ek] at hpl
    by_cases ha : 0 ≤ a.toInt ∧ a.toInt ≤ 3
    · obtain ⟨a1, a2⟩ := (toI32 (n := 3) (by decide)).mpr ha
      rw [if_neg a1, if_pos (show a ≤ 3 from Int32.not_lt.mp a2)]
      simp only [ltv_e, ans_e, ref_e, bd2_s]
      rw [show (1 : Int32) <<< (nI k &&& 31) = bitI k from rfl, h4]
      have S : ∀ v, SmN h (uI h 0 11 v) := fun v k _ => by rw [hI_st h v (by decide)]
      by_cases hh : bt (hI h 114 2) k = true
      · rw [if_neg (fun z => by rw [(and_bit (by omega)).mp z] at hh; cases hh)]
        have M : ∀ g, SmN h g → f_X12_lamp g (nI p) (nI q) a = (if a = 0 then (if hI h 114 3 &&& bitI k = 0 then some (0, uI g 113 2 0) else some (1, uI g 113 2 0)) else if a = 1 then some (nI (nbC w j (bt (hI h 114 2)) k), uI g 113 2 0) else if a = 2 then some (nI (nbC w j (bt (hI h 114 3)) k), uI g 113 2 0) else if hI h 114 4 &&& bitI k = 0 then some (0, uI g 113 2 0) else some (1, uI g 113 2 0)) := fun g sm => by
          unfold f_X12_lamp
          rw [if_neg a1, if_pos (show a ≤ 3 from Int32.not_lt.mp a2), wh_in w5 r6 (by rw [sm 0 (by omega)]; exact hw) (by rw [sm 1 (by omega)]; exact hr) hp hq, bd2_s, sm 2 (by omega), ← ek, if_pos hh]
          unfold f_X12_lamp_19
          rw [if_pos (by decide), sm 0 (by omega), hw, Int32.mul_comm, pl_nI, ← ek, near_e (j := j) w1 w5 r6 (by rw [sm 0 (by omega)]; exact hw) (by rw [sm 1 (by omega)]; exact hr) (by rw [sm 9 (by omega)]; exact j1) hpl, bd2_s, bit_e _ (by rw [sm 0 (by omega)]; exact hw), bd2_s, ← ek]
          simp only [bits_e, bd2_s, giv_e]
          rw [sm 2 (by omega), sm 3 (by omega), sm 4 (by omega), near_ct' w1 w5 r6 j2 (fun i hi b => (h7 i hi).1 b) hpl, near_ct w1 w5 r6 j2 (fun i hi b => (h7 i hi).2.1 b) (inH_P qH (fun i hi b => (h7 i hi).2.1 b)) hpl]
        obtain ⟨n, hn3, rfl⟩ := rng_nI (n := 3) ha
        rcases (show n = 0 ∨ n = 1 ∨ n = 2 ∨ n = 3 by omega) with rfl | rfl | rfl | rfl
        · have M0 := M (uI h 0 11 0) (S 0)
          rw [if_pos (show nI 0 = 0 from rfl)] at M0
          rw [if_pos (show nI 0 = 0 from rfl), h5]
          by_cases z : hI h 114 3 &&& bitI k = 0
          · rw [if_pos z] at M0 ⊢; exact op_st I (v := 0) (r := 0) rfl M0
          · rw [if_neg z] at M0 ⊢; exact op_st I (v := 0) (r := 1) rfl M0
        · rw [if_neg (show ¬ nI 1 = 0 by decide), if_pos (show nI 1 = 1 from rfl)]
          obtain ⟨f', e⟩ : ∃ f', litH h (t + 1) (hI h 114 2) = scr h t f' := ⟨_, rfl⟩
          have M0 := M (uI (scr h t f') 0 11 0) (SmN.sc ht f' 0)
          rw [if_neg (show ¬ nI 1 = 0 by decide), if_pos (show nI 1 = 1 from rfl)] at M0
          refine op_sc I (g1 := scr h t f') (g2 := uI (scr h t f') 0 11 0) (v := 0) (r := nI (nbC w j (bt (hI h 114 2)) k)) ?_ ((Sm.refl t h).scr ht f') M0 (Sm.refl _ _) (hI_uI_s _ _ _ _)
          unfold f_X1_countAround
          rw [bd2_s, cnt_b H (fun i hi b => (h7 i hi).1 b) hpl, e]
        · rw [if_neg (show ¬ nI 2 = 0 by decide), if_neg (show ¬ nI 2 = 1 by decide), if_pos (show nI 2 = 2 from rfl), h5]
          obtain ⟨f', e⟩ : ∃ f', litH h (t + 1) (hI h 114 3) = scr h t f' := ⟨_, rfl⟩
          have M0 := M (uI (scr h t f') 0 11 0) (SmN.sc ht f' 0)
          rw [if_neg (show ¬ nI 2 = 0 by decide), if_neg (show ¬ nI 2 = 1 by decide), if_pos (show nI 2 = 2 from rfl)] at M0
          refine op_sc I (g1 := scr h t f') (g2 := uI (scr h t f') 0 11 0) (v := 0) (r := nI (nbC w j (bt (hI h 114 3)) k)) ?_ ((Sm.refl t h).scr ht f') M0 (Sm.refl _ _) (hI_uI_s _ _ _ _)
          unfold f_X1_countAround
          rw [bd2_s, cnt_b H (inH_P qH (fun i hi b => (h7 i hi).2.1 b)) hpl, e]
        · have M0 := M (uI h 0 11 0) (S 0)
          rw [if_neg (show ¬ nI 3 = 0 by decide), if_neg (show ¬ nI 3 = 1 by decide), if_neg (show ¬ nI 3 = 2 by decide)] at M0 ⊢
          have hf := (h6 k (by omega)).1
          rw [hh, Bool.true_and] at hf
          by_cases z : hI h 114 4 &&& bitI k = 0
          · rw [if_pos z] at M0
            rw [(and_bit (by omega)).mp z] at hf
            rw [if_neg (fun y => by rw [(and_bit (by omega)).mp y] at hf; cases hf)]
            exact op_st I (v := 0) (r := 0) rfl M0
          · rw [if_neg z] at M0
            have : bt (hI h 114 4) k = true := by
              cases y : bt (hI h 114 4) k
              · exact absurd ((and_bit (by omega)).mpr y) z
              · rfl
            rw [this] at hf
            rw [if_pos ((and_bit (by omega)).mpr hf)]
            exact op_st I (v := 0) (r := 1) rfl M0
      · have hh : bt (hI h 114 2) k = false := by simpa using hh
        rw [if_pos ((and_bit (by omega)).mpr hh)]
        refine op_st I (v := 7) (r := -1) rfl ?_
        show f_X12_lamp _ _ _ _ = _
        unfold f_X12_lamp
        rw [if_neg a1, if_pos (show a ≤ 3 from Int32.not_lt.mp a2), wh_in w5 r6 (by rw [S 7 0 (by omega)]; exact hw) (by rw [S 7 1 (by omega)]; exact hr) hp hq, bd2_s, S 7 2 (by omega), ← ek, hh, if_neg (by decide), m19 _ _ (by decide)]
    · refine op_st I (v := 1) (r := -1) ?_ (mbad ha)
      by_cases a1 : a < 0
      · rw [if_pos a1]; rfl
      · rw [if_neg a1, if_neg (show ¬ a ≤ 3 from fun p => ha ((toI32 (n := 3) (by decide)).mp ⟨a1, Int32.not_lt.mpr p⟩))]; rfl
  · rw [plc_no (by rw [hw', hr']; exact hn), bd2_s, if_pos (by decide)]
    refine op_st I (v := 1) (r := -1) rfl ?_
    by_cases ha : 0 ≤ a.toInt ∧ a.toInt ≤ 3
    · obtain ⟨a1, a2⟩ := (toI32 (n := 3) (by decide)).mpr ha
      show f_X12_lamp _ _ _ _ = _
      unfold f_X12_lamp
      rw [if_neg a1, if_pos (show a ≤ 3 from Int32.not_lt.mp a2), wh_out (by rw [hI_st h 1 (by decide), hI_st h 1 (by decide), hw, hr]; exact hn), bd2_s, m19 _ _ (by decide)]
    · exact mbad ha
