/-! ===== alike: oil, the brightest night, what is spoilt ===== -/
theorem scr_scr (h : HP) (t : Nat) (f g : Nat → Int32) : scr (scr h t f) t g = scr h t g := rI_rI _ _ _ _
theorem scr_r4 {h : HP} {t : Nat} (hr : (hI h t 10).toInt ≤ 4) (f : Nat → Int32) : (hI (scr h t f) t 10).toInt ≤ 4 := by rw [scr_I _ _ _ (by omega)]; exact hr
theorem aftC2 (h : HP) {t N : Nat} (hN : N < 1000000) (hr : (hI h t 10).toInt ≤ 4) (x : Int32) (f : Nat → Int32) : ∃ f', f_X5_after (scr h t f) t x (nI N) = some (itN (nxF h t) N x, scr h t f') := by
  obtain ⟨f', e⟩ := aftC_e (scr h t f) hN (scr_r4 hr f) x
  refine ⟨f', ?_⟩
  rw [e, scr_scr]
  have : nxF (scr h t f) t = nxF h t := nxF_sc h t f
  rw [this]
theorem nxtC (h : HP) {t : Nat} (hr : (hI h t 10).toInt ≤ 4) (x : Int32) (f : Nat → Int32) : ∃ f', f_X5_nextOf (scr h t f) t x = some (nxF h t x, scr h t f') := by
  obtain ⟨f', e⟩ := scr_lit h t f x
  refine ⟨f', ?_⟩
  unfold f_X5_nextOf
  rw [gdv_t (scr_r4 hr f), e]
  have : nxF (scr h t f) t = nxF h t := nxF_sc h t f
  rw [this]
theorem pc_30 {h : HP} {t w r m c : Nat} {j : Bool} (T : TW h t w r m c j) {x : Int32} (hx : inH h x) : pc x ≤ 30 := by
  have h30 := wr_le T.1.n.1.2.1 T.1.n.2.1.2.1
  have : pc x = fb_ct (bt x) 30 := by
    unfold pc
    rw [show 32 = 30 + 2 from rfl, fb_ct_split]
    have z : fb_ct (fun k => bt x (30 + k)) 2 = 0 := by
      refine fb_ct_zero.mpr (fun k hk => ?_)
      cases q : bt x (30 + k)
      · rfl
      · have := inH_P T.1 hx (30 + k) (by omega) q; omega
    omega
  rw [this]; exact fb_ct_le _ _
/-- the oil burnt in k nights -/
def oS (F : Int32 → Int32) (p : Int32) : Nat → Nat
  | 0 => 0
  | k + 1 => oS F p k + pc (itN F k p)
def oilR (F : Int32 → Int32) (p : Int32) (M : Nat) : Nat → Nat → Nat
  | 0, k => k
  | d + 1, k => if oS F p (k + 1) ≤ M then oilR F p M d (k + 1) else k
theorem coil_lp {h : HP} {t w r m c : Nat} {j : Bool} (T : TW h t w r m c j) {p : Int32} (hp : inH h p) {M : Nat} (hM : M ≤ 9999) : ∀ d k n, k + d = 999 → d < n → oS (nxF h t) p k ≤ M → ∀ f,
    ∃ f', f_X11_oil_30 t n (nI M) (itN (nxF h t) k p) (nI (oS (nxF h t) p k)) (nI k) (scr h t f) = some (nI (oilR (nxF h t) p M d k), uI (scr h t f') 0 11 0)
  | d, k, 0, _, z, _, _ => absurd z (by omega)
  | 0, k, n + 1, e, _, _, f => by
    unfold f_X11_oil_30
    rw [if_pos (by rw [show (999 : Int32) = nI 999 from rfl, nI_leI (by omega) (by omega)]; omega), ans_e, bd2_s]
    exact ⟨f, rfl⟩
  | d + 1, k, n + 1, e, z, hs, f => by
    have hpc := pc_30 T (T.it k hp)
    unfold f_X11_oil_30 f_J6_bitCount_0f7a4
    rw [if_neg (by rw [show (999 : Int32) = nI 999 from rfl, nI_leI (by omega) (by omega)]; omega), bd2_s]
    simp only [ltv_e]
    rw [nI_add, show oS (nxF h t) p k + pc (itN (nxF h t) k p) = oS (nxF h t) p (k + 1) from rfl]
    have hs1 : oS (nxF h t) p (k + 1) = oS (nxF h t) p k + pc (itN (nxF h t) k p) := rfl
    rw [oilR]
    by_cases q : oS (nxF h t) p (k + 1) ≤ M
    · rw [if_pos (by rw [nI_leI (by omega) (by omega)]; exact q), if_pos q]
      obtain ⟨f1, e1⟩ := nxtC h T.r4 (itN (nxF h t) k p) f
      rw [e1, bd2_s, nI_1, ← itN_last (nxF h t) k p]
      exact coil_lp T hp hM d (k + 1) n (by omega) (by omega) q f1
    · rw [if_neg (by rw [nI_leI (by omega) (by omega)]; exact q), if_neg q, ans_e, bd2_s]
      exact ⟨f, rfl⟩
theorem moil_lp {h g : HP} {t w r m c : Nat} {j : Bool} (T : TW h t w r m c j) (sm : SmN h g) (ln : LN g w r j) {p : Int32} (hp : inH h p) {M : Nat} (hM : M ≤ 9999) : ∀ d k n, k + d = 999 → d < n → oS (nxF h t) p k ≤ M →
    f_X12_oil_34 n (itN (nxF h t) k p) (nI (M - oS (nxF h t) p k)) (nI k) g = some (nI (oilR (nxF h t) p M d k), uI g 113 2 0)
  | d, k, 0, _, z, _ => absurd z (by omega)
  | 0, k, n + 1, e, _, _ => by
    unfold f_X12_oil_34
    rw [if_pos (by rw [show (999 : Int32) = nI 999 from rfl, nI_leI (by omega) (by omega)]; omega), giv_e, bd2_s]; rfl
  | d + 1, k, n + 1, e, z, hs => by
    have hpc := pc_30 T (T.it k hp)
    have hs1 : oS (nxF h t) p (k + 1) = oS (nxF h t) p k + pc (itN (nxF h t) k p) := rfl
    unfold f_X12_oil_34
    rw [if_neg (by rw [show (999 : Int32) = nI 999 from rfl, nI_leI (by omega) (by omega)]; omega), bits_e, bd2_s, bits_e, bd2_s]
    rw [oilR]
    by_cases q : oS (nxF h t) p (k + 1) ≤ M
    · rw [if_neg (by rw [nI_ltI (by omega) (by omega)]; omega), if_pos q]
      simp only [ltv_e]
      rw [T.bec sm ln (T.it k hp), bd2_s, nI_1, nI_sub (by omega), show M - oS (nxF h t) p k - pc (itN (nxF h t) k p) = M - oS (nxF h t) p (k + 1) by omega, ← itN_last (nxF h t) k p]
      exact moil_lp T sm ln hp hM d (k + 1) n (by omega) (by omega) q
    · rw [if_pos (by rw [nI_ltI (by omega) (by omega)]; omega), if_neg q, giv_e, bd2_s]
theorem op_oil {h : HP} {t u : Nat} (I : Inv h t u) (a : Int32) : Op t u (f_X11_oil h t a) (fun g => f_X12_oil g a) := by
  have ht := I.t
  obtain ⟨w, r, m, c, j, T⟩ := I.tw
  have fr : ∀ g, f_X12_isFrom g (Int32.toInt64 a) 0 9999 = some (bI (decide (0 ≤ a.toInt ∧ a.toInt ≤ 9999)), g) := fun g => fr32 g a (n := 9999) (by decide)
  unfold f_X11_oil f_X12_oil
  simp only [fr, bd2_s, ltv_e]
  by_cases ha : 0 ≤ a.toInt ∧ a.toInt ≤ 9999
  · obtain ⟨a1, a2⟩ := (toI32 (n := 9999) (by decide)).mpr ha
    obtain ⟨M, hM, rfl⟩ := rng_nI (n := 9999) ha
    obtain ⟨f', e⟩ := coil_lp T T.pic hM 999 0 FU (by omega) (FU_gt (by omega)) (Nat.zero_le _) (hI h (t + 1 + 1))
    rw [← scr_self] at e
    have sm := SmN.sc (h := h) ht f' 0
    refine op_sc I (g1 := scr h t f') (g2 := lnH (uI (scr h t f') 0 11 0) w r j) (v := 0) (r := nI (oilR (nxF h t) (hI h 114 3) M 999 0)) ?_ ((Sm.refl t h).scr ht f') ?_ ((Sm.refl _ _).ln ht w r j) (by rw [lnH_I _ _ _ _ (by decide), hI_uI_s])
    · rw [if_neg a1, if_pos (show nI M ≤ 9999 from Int32.not_lt.mp a2), T.pic0]; exact e
    · try simp only []
      rw [bI_dt ha, if_neg (by decide), T.ln sm, bd1_s, lnH_I _ _ _ _ (by decide), sm 3 (by omega)]
      have key := moil_lp T (sm.ln w r j) (lnH_LN _ w r j) T.pic hM 999 0 FU (by omega) (FU_gt (by omega)) (Nat.zero_le _)
      exact key
  · refine op_st I (v := 1) (r := -1) ?_ ?_
    · by_cases a1 : a < 0
      · rw [if_pos a1]; rfl
      · rw [if_neg a1, if_neg (show ¬ a ≤ 9999 from fun q => ha ((toI32 (n := 9999) (by decide)).mp ⟨a1, Int32.not_lt.mpr q⟩))]; rfl
    · try simp only []
      rw [bI_df ha, if_pos rfl]; rfl
/-- the most lit lamps of k nights -/
def brM (F : Int32 → Int32) (p : Int32) : Nat → Int32
  | 0 => nI (pc p)
  | k + 1 => if brM F p k < nI (pc (itN F (k + 1) p)) then nI (pc (itN F (k + 1) p)) else brM F p k
theorem cbr_lp {h : HP} {t w r m c : Nat} {j : Bool} (T : TW h t w r m c j) (p : Int32) {N : Nat} (hN : N < 2 ^ 31) : ∀ d k n, k + d = N → d < n → ∀ f,
    ∃ f', f_X11_brightest_33 t n (nI N) (itN (nxF h t) k p) (brM (nxF h t) p k) (nI k) (scr h t f) = some (brM (nxF h t) p N, uI (scr h t f') 0 11 0)
  | d, k, 0, _, z, _ => absurd z (by omega)
  | 0, k, n + 1, e, _, f => by
    unfold f_X11_brightest_33
    rw [if_pos (by rw [nI_leI (by omega) (by omega)]; omega), ans_e, bd2_s, show k = N by omega]
    exact ⟨f, rfl⟩
  | d + 1, k, n + 1, e, z, f => by
    unfold f_X11_brightest_33 f_J6_bitCount_0f7a4
    obtain ⟨f1, e1⟩ := nxtC h T.r4 (itN (nxF h t) k p) f
    rw [if_neg (by rw [nI_leI (by omega) (by omega)]; omega), e1, bd2_s, bd2_s, ← itN_last (nxF h t) k p]
    simp only [ltv_e, nI_1]
    exact cbr_lp T p hN d (k + 1) n (by omega) (by omega) f1
theorem mbr_lp {h g : HP} {t w r m c : Nat} {j : Bool} (T : TW h t w r m c j) (sm : SmN h g) (ln : LN g w r j) {p : Int32} (hp : inH h p) {N : Nat} (hN : N < 2 ^ 31) : ∀ d k n, k + d = N → d < n →
    f_X12_brightest_37 n (nI N) (itN (nxF h t) k p) (brM (nxF h t) p k) (nI k) g = some (brM (nxF h t) p N, uI g 113 2 0)
  | d, k, 0, _, z => absurd z (by omega)
  | 0, k, n + 1, e, _ => by
    unfold f_X12_brightest_37
    rw [if_pos (by rw [nI_leI (by omega) (by omega)]; omega), giv_e, bd2_s, show k = N by omega]
  | d + 1, k, n + 1, e, z => by
    unfold f_X12_brightest_37
    rw [if_neg (by rw [nI_leI (by omega) (by omega)]; omega), T.bec sm ln (T.it k hp), bd2_s, bits_e, bd2_s, ← itN_last (nxF h t) k p]
    simp only [ltv_e, nI_1]
    exact mbr_lp T sm ln hp hN d (k + 1) n (by omega) (by omega)
theorem op_brightest {h : HP} {t u : Nat} (I : Inv h t u) (a : Int32) : Op t u (f_X11_brightest h t a) (fun g => f_X12_brightest g a) := by
  have ht := I.t
  obtain ⟨w, r, m, c, j, T⟩ := I.tw
  have fr : ∀ g, f_X12_isFrom g (Int32.toInt64 a) 0 999 = some (bI (decide (0 ≤ a.toInt ∧ a.toInt ≤ 999)), g) := fun g => fr32 g a (n := 999) (by decide)
  unfold f_X11_brightest f_X12_brightest f_J6_bitCount_0f7a4
  simp only [fr, bd2_s, ltv_e, bits_e]
  by_cases ha : 0 ≤ a.toInt ∧ a.toInt ≤ 999
  · obtain ⟨a1, a2⟩ := (toI32 (n := 999) (by decide)).mpr ha
    obtain ⟨N, hN, rfl⟩ := rng_nI (n := 999) ha
    obtain ⟨f', e⟩ := cbr_lp T (hI h 114 3) (N := N) (by omega) N 0 FU (by omega) (FU_gt (by omega)) (hI h (t + 1 + 1))
    rw [← scr_self] at e
    have sm := SmN.sc (h := h) ht f' 0
    refine op_sc I (g1 := scr h t f') (g2 := lnH (uI (scr h t f') 0 11 0) w r j) (v := 0) (r := brM (nxF h t) (hI h 114 3) N) ?_ ((Sm.refl t h).scr ht f') ?_ ((Sm.refl _ _).ln ht w r j) (by rw [lnH_I _ _ _ _ (by decide), hI_uI_s])
    · rw [if_neg a1, if_pos (show nI N ≤ 999 from Int32.not_lt.mp a2), T.pic0]; exact e
    · try simp only []
      rw [bI_dt ha, if_neg (by decide), T.ln sm, bd1_s, lnH_I _ _ _ _ (by decide), sm 3 (by omega)]
      have key := mbr_lp T (sm.ln w r j) (lnH_LN _ w r j) T.pic (N := N) (by omega) N 0 FU (by omega) (FU_gt (by omega))
      exact key
  · refine op_st I (v := 1) (r := -1) ?_ ?_
    · by_cases a1 : a < 0
      · rw [if_pos a1]; rfl
      · rw [if_neg a1, if_neg (show ¬ a ≤ 999 from fun q => ha ((toI32 (n := 999) (by decide)).mp ⟨a1, Int32.not_lt.mpr q⟩))]; rfl
    · try simp only []
      rw [bI_df ha, if_pos rfl]; rfl
/-- what one lamp turned spoils -/
def splF (F : Int32 → Int32) (p b : Int32) (N : Nat) : Int32 := nI (pc (itN F N p ^^^ itN F N (p ^^^ b)))
theorem splC {h : HP} {t w r m c : Nat} {j : Bool} (T : TW h t w r m c j) (b : Int32) {N : Nat} (hN : N < 1000000) (f : Nat → Int32) : ∃ f', f_X8_countSpoilt (scr h t f) t b (nI N) = some (splF (nxF h t) (hI h 114 3) b N, scr h t f') := by
  obtain ⟨f1, e1⟩ := aftC2 h hN T.r4 (hI h 114 3) f
  obtain ⟨f2, e2⟩ := aftC2 h hN T.r4 (hI h 114 3 ^^^ b) f1
  refine ⟨f2, ?_⟩
  unfold f_X8_countSpoilt f_J6_bitCount_0f7a4
  rw [scr_I _ _ _ (by omega), T.pic0, e1, bd2_s, scr_I _ _ _ (by omega), T.pic0, e2, bd2_s, bd2_s]
  rfl
theorem lnH_lnH {h : HP} {w r : Nat} {j : Bool} : lnH (lnH h w r j) w r j = lnH h w r j := by
  unfold lnH
  rw [rI_rI, hI_rI_s, hI_rI_n _ _ (by decide)]
  congr 1
  funext k; unfold rowI
  split <;> rfl
theorem splM {h g : HP} {t w r m c : Nat} {j : Bool} (T : TW h t w r m c j) (sm : SmN h g) {b : Int32} (hb : inH h b) {N : Nat} (hN : N < 1000000) : f_X12_spoilsBy g b (nI N) = some (splF (nxF h t) (hI h 114 3) b N, lnH g w r j) := by
  have hx : inH h (hI h 114 3 ^^^ b) := fun i hi q => by
    rw [b_xor] at q
    cases h1 : bt (hI h 114 3) i
    · rw [h1] at q; exact hb i hi (by simpa using q)
    · exact T.pic i hi h1
  unfold f_X12_spoilsBy
  rw [sm 3 (by omega), aft_e T sm hN T.pic, bd2_s, lnH_I _ _ _ _ (by decide), sm 3 (by omega), aft_e T (sm.ln w r j) hN hx, bd2_s, bits_e, bd2_s, lnH_lnH]
  rfl
theorem bit_inH {h : HP} {k : Nat} (hk : k < 32) (hh : bt (hI h 114 2) k = true) : inH h (bitI k) := fun i hi q => by
  rw [bitI_b hk hi] at q
  rw [of_decide_eq_true q]; exact hh
theorem nts_e (h : HP) (a : Int32) : f_X11_isTurnedNights h a = some (bI (decide (0 ≤ a.toInt ∧ a.toInt ≤ 30)), h) := by
  unfold f_X11_isTurnedNights
  simp only [Int32.lt_iff_toInt_lt, Int32.le_iff_toInt_le, Int32.reduceToInt]
  by_cases h1 : a.toInt < 0
  · rw [if_pos h1, bI_df (by omega)]
  · rw [if_neg h1]
    by_cases h2 : a.toInt ≤ 30
    · first | rw [if_pos h2, bI_dt (by omega)] | rw [if_neg (by omega), bI_dt (by omega)]
    · first | rw [if_neg h2, bI_df (by omega)] | rw [if_pos (by omega), bI_df (by omega)]
