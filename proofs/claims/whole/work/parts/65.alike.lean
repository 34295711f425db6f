/-! ===== alike: the worst lamp, what was lived ===== -/
theorem op_lived {h : HP} {t u : Nat} (I : Inv h t u) (a : Int32) : Op t u (f_X11_lived h t a) (fun g => f_X12_lived g a) := by
  obtain ⟨⟨v1, v2⟩, v3⟩ := I.2.2.2.2.1
  have S : ∀ (v : Int32) (b k : Nat), b ≠ 0 → hI (uI h 0 11 v) b k = hI h b k := fun v b k hb => hI_st h v hb k
  unfold f_X11_lived
  by_cases ha : 0 ≤ a.toInt ∧ a.toInt ≤ 4
  · obtain ⟨a1, a2⟩ := (toI32 (n := 4) (by decide)).mpr ha
    have a3 : a ≤ 4 := Int32.not_lt.mp a2
    rw [if_neg a1, if_pos a3, v1]
    have M : ∀ v, f_X12_lived (uI h 0 11 v) a = (if hI h 113 37 = 0 then some (-1, uI (uI h 0 11 v) 113 2 6) else some (hI h 129 a.toNatClampNeg, uI (uI h 0 11 v) 113 2 0)) := fun v => by
      obtain ⟨n, hn, rfl⟩ := rng_nI (n := 4) ha
      unfold f_X12_lived
      rw [if_neg a1, if_pos a3, S v 113 37 (by decide), gdi_nI (by omega) (by decide), S v 129 _ (by decide)]; rfl
    rcases v2 with v2 | v2
    · rw [v2, if_pos rfl]
      exact op_st I (v := 6) (r := -1) rfl (by rw [M, v2, if_pos rfl])
    · obtain ⟨e0, e1, e2, e3, e4, e5⟩ := v3 v2
      rw [v2, if_neg (by decide)]
      have M0 := M 0
      rw [v2, if_neg (by decide)] at M0
      obtain ⟨n, hn, rfl⟩ := rng_nI (n := 4) ha
      rw [nI_clamp (by omega)] at M0
      rcases (show n = 0 ∨ n = 1 ∨ n = 2 ∨ n = 3 ∨ n = 4 by omega) with rfl | rfl | rfl | rfl | rfl
      · rw [if_pos (show nI 0 = 0 from rfl), e0]; exact op_st I (v := 0) rfl M0
      · rw [if_neg (show ¬ nI 1 = 0 by decide), if_pos (show nI 1 = 1 from rfl), e1]; exact op_st I (v := 0) rfl M0
      · rw [if_neg (show ¬ nI 2 = 0 by decide), if_neg (show ¬ nI 2 = 1 by decide), if_pos (show nI 2 = 2 from rfl), e2]; exact op_st I (v := 0) rfl M0
      · rw [if_neg (show ¬ nI 3 = 0 by decide), if_neg (show ¬ nI 3 = 1 by decide), if_neg (show ¬ nI 3 = 2 by decide), if_pos (show nI 3 = 3 from rfl), e3]; exact op_st I (v := 0) rfl M0
      · rw [if_neg (show ¬ nI 4 = 0 by decide), if_neg (show ¬ nI 4 = 1 by decide), if_neg (show ¬ nI 4 = 2 by decide), if_neg (show ¬ nI 4 = 3 by decide), e4]
        rcases e5 with e5 | e5
        · rw [e5] at M0 ⊢; rw [if_pos rfl]; exact op_st I (v := 0) rfl M0
        · rw [e5] at M0 ⊢; rw [if_neg (by decide)]; exact op_st I (v := 0) rfl M0
  · refine op_st I (v := 1) (r := -1) ?_ ?_
    · by_cases a1 : a < 0
      · rw [if_pos a1]; rfl
      · rw [if_neg a1, if_neg (show ¬ a ≤ 4 from fun q => ha ((toI32 (n := 4) (by decide)).mp ⟨a1, Int32.not_lt.mpr q⟩))]; rfl
    · show f_X12_lived _ a = _
      unfold f_X12_lived
      by_cases a1 : a < 0
      · rw [if_pos a1]; rfl
      · rw [if_neg a1, if_neg (show ¬ a ≤ 4 from fun q => ha ((toI32 (n := 4) (by decide)).mp ⟨a1, Int32.not_lt.mpr q⟩))]; rfl
/-- a heap that is another in scratch alone, as the class's nights see it -/
def CS (t : Nat) (h h' : HP) : Prop := (∀ b, b = 114 ∨ (t ≤ b ∧ b ≤ t + 15 ∧ b ≠ t + 1 + 1) → hI h' b = hI h b) ∧ hL h' = hL h
theorem CS.refl (t : Nat) (h : HP) : CS t h h := ⟨fun _ _ => rfl, rfl⟩
theorem CS.trans {t : Nat} {h g k : HP} (a : CS t h g) (b : CS t g k) : CS t h k := ⟨fun x q => (b.1 x q).trans (a.1 x q), b.2.trans a.2⟩
theorem CS.I {t : Nat} {h g : HP} (s : CS t h g) (a j : Nat) (x : Int32) (hn : ¬ (a = 114 ∨ (t ≤ a ∧ a ≤ t + 15 ∧ a ≠ t + 1 + 1))) : CS t h (uI g a j x) := ⟨fun b q => by rw [hI_uI_n' (fun e => hn (by rw [← e]; exact q))]; exact s.1 b q, s.2⟩
theorem CS.rI {t : Nat} {h g : HP} (s : CS t h g) (a : Nat) (f : Nat → Int32) (hn : ¬ (a = 114 ∨ (t ≤ a ∧ a ≤ t + 15 ∧ a ≠ t + 1 + 1))) : CS t h (rI g a f) := ⟨fun b q => by rw [hI_rI_n _ _ (fun e => hn (by rw [← e]; exact q))]; exact s.1 b q, s.2⟩
theorem CS.sc {t : Nat} {h g : HP} (ht : t = 79 ∨ t = 96) (s : CS t h g) (f : Nat → Int32) : CS t h (scr g t f) := s.rI _ _ (by omega)
theorem CS.nx {t : Nat} {h h' : HP} (s : CS t h h') : nxF h' t = nxF h t := by
  unfold nxF bornF staysF
  rw [s.1 (t + 1) (by omega), s.1 t (by omega), s.1 (t + 10) (by omega), s.1 (t + 11) (by omega)]
theorem CS.tw {t : Nat} {h h' : HP} (ht : t = 79 ∨ t = 96) (s : CS t h h') {w r m c : Nat} {j : Bool} (T : TW h t w r m c j) : TW h' t w r m c j := by
  obtain ⟨qH, qR, H, j1, j2⟩ := T
  refine ⟨qH.k (fun b k q => by rw [s.1 b (by unfold cnH at q; omega)]), qR.k (fun b k q => by rw [s.1 b (by unfold cnR at q; omega)]) (fun b k _ => by rw [s.2]), by rw [s.1 (t + 1) (by omega)]; exact H, by rw [s.1 114 (Or.inl rfl)]; exact j1, j2⟩
theorem CS.r4 {t : Nat} {h h' : HP} (s : CS t h h') (hr : (hI h t 10).toInt ≤ 4) : (hI h' t 10).toInt ≤ 4 := by rw [s.1 t (by omega)]; exact hr
/-- the class's calls on such heaps: the heap they leave is that of before but for the count of lit neighbours -/
theorem aftC3 {h g : HP} {t N : Nat} (hN : N < 1000000) (s : CS t h g) (hr : (hI h t 10).toInt ≤ 4) (x : Int32) : ∃ f', f_X5_after g t x (nI N) = some (itN (nxF h t) N x, scr g t f') := by
  obtain ⟨f', e⟩ := aftC_e g hN (s.r4 hr) x
  exact ⟨f', by rw [e, s.nx]⟩
theorem nxtC3 {h g : HP} {t : Nat} (s : CS t h g) (hr : (hI h t 10).toInt ≤ 4) (x : Int32) : ∃ f', f_X5_nextOf g t x = some (nxF h t x, scr g t f') := by
  refine ⟨litRow (hI g (t + 1 + 1)) (hI g (t + 1)) x, ?_⟩
  unfold f_X5_nextOf
  rw [gdv_t (s.r4 hr), s.nx]; rfl
theorem splC3 {h g : HP} {t w r m c : Nat} {j : Bool} (ht : t = 79 ∨ t = 96) (T : TW h t w r m c j) (s : CS t h g) (b : Int32) {N : Nat} (hN : N < 1000000) : ∃ f', f_X8_countSpoilt g t b (nI N) = some (splF (nxF h t) (hI h 114 3) b N, scr g t f') := by
  obtain ⟨f1, e1⟩ := aftC3 hN s T.r4 (hI h 114 3)
  obtain ⟨f2, e2⟩ := aftC3 hN (s.sc ht f1) T.r4 (hI h 114 3 ^^^ b)
  refine ⟨f2, ?_⟩
  unfold f_X8_countSpoilt f_J6_bitCount_0f7a4
  rw [s.1 t (by omega), T.pic0, e1, bd2_s, (s.sc ht f1).1 t (by omega), T.pic0, e2, bd2_s, bd2_s, scr_scr]
  rfl
/-- the worst lamp among the first k places, and what it spoils -/
def woF (F : Int32 → Int32) (p fr : Int32) (N : Nat) : Nat → Int32 × Int32
  | 0 => (-1, -1)
  | k + 1 => if bt fr k then (if (woF F p fr N k).2 < splF F p (bitI k) N then (nI k, splF F p (bitI k) N) else woF F p fr N k) else woF F p fr N k
theorem cwo_lp {h : HP} {t w r m c : Nat} {j : Bool} (ht : t = 79 ∨ t = 96) (T : TW h t w r m c j) {N : Nat} (hN : N < 1000000) : ∀ d k n, k + d = 30 → d < n → ∀ g, CS t h g → Sm t h g → hI g 73 4 = (woF (nxF h t) (hI h 114 3) (hI h (t + 1) 5) N k).2 → ((woF (nxF h t) (hI h 114 3) (hI h (t + 1) 5) N k).1 = -1 ∨ hI g 73 3 = (woF (nxF h t) (hI h 114 3) (hI h (t + 1) 5) N k).1) →
    ∃ g', f_X8_findWorst_7 t n (nI N) (nI k) g = some g' ∧ CS t h g' ∧ Sm t h g' ∧ hI g' 73 4 = (woF (nxF h t) (hI h 114 3) (hI h (t + 1) 5) N 30).2 ∧ ((woF (nxF h t) (hI h 114 3) (hI h (t + 1) 5) N 30).1 = -1 ∨ hI g' 73 3 = (woF (nxF h t) (hI h 114 3) (hI h (t + 1) 5) N 30).1)
  | d, k, 0, _, z, _, _, _, _, _ => absurd z (by omega)
  | 0, k, n + 1, e, _, g, s1, s2, s3, s4 => by
    have hk : k = 30 := by omega
    subst hk
    unfold f_X8_findWorst_7
    rw [if_pos (by decide)]
    exact ⟨g, rfl, s1, s2, s3, s4⟩
  | d + 1, k, n + 1, e, z, g, s1, s2, s3, s4 => by
    unfold f_X8_findWorst_7
    rw [if_neg (by rw [show (30 : Int32) = nI 30 from rfl, nI_leI (by omega) (by omega)]; omega), s1.1 (t + 1) (by omega)]
    have ih := fun g' => cwo_lp ht T hN d (k + 1) n (by omega) (by omega) g'
    cases hF : bt (hI h (t + 1) 5) k
    · have ew : woF (nxF h t) (hI h 114 3) (hI h (t + 1) 5) N (k + 1) = woF (nxF h t) (hI h 114 3) (hI h (t + 1) 5) N k := by rw [woF, hF]; rfl
      rw [if_pos ((and_bit (by omega)).mpr hF)]
      simp only [ltv_e, nI_1]
      rw [ew] at ih
      exact ih g s1 s2 s3 s4
    · have ew : woF (nxF h t) (hI h 114 3) (hI h (t + 1) 5) N (k + 1) = if (woF (nxF h t) (hI h 114 3) (hI h (t + 1) 5) N k).2 < splF (nxF h t) (hI h 114 3) (bitI k) N then (nI k, splF (nxF h t) (hI h 114 3) (bitI k) N) else woF (nxF h t) (hI h 114 3) (hI h (t + 1) 5) N k := by rw [woF, hF]; rfl
      obtain ⟨f', ef⟩ := splC3 ht T s1 (bitI k) hN
      rw [if_neg (fun y => by rw [(and_bit (by omega)).mp y] at hF; cases hF), ef, bd2_s, scr_I _ _ _ (by omega), s3]
      simp only [ltv_e, nI_1]
      rw [ew] at ih
      by_cases q : (woF (nxF h t) (hI h 114 3) (hI h (t + 1) 5) N k).2 < splF (nxF h t) (hI h 114 3) (bitI k) N
      · rw [if_neg (Int32.not_le.mpr q)]
        rw [if_pos q] at ih
        refine ih _ (((s1.sc ht f').I _ _ _ (by omega)).I _ _ _ (by omega)) (((s2.scr ht f').I _ _ _ (by unfold relI inT; omega)).I _ _ _ (by unfold relI inT; omega)) ?_ (Or.inr ?_)
        · rw [hI_uI_n (by decide), hI_uI_s]
        · rw [hI_uI_s]
      · rw [if_pos (Int32.not_lt.mp q)]
        rw [if_neg q] at ih
        refine ih _ (s1.sc ht f') (s2.scr ht f') ?_ ?_
        · rw [scr_I _ _ _ (by omega)]; exact s3
        · rw [scr_I _ _ _ (by omega)]; exact s4
theorem wo_out (F : Int32 → Int32) (p fr : Int32) (N P : Nat) (hP : ∀ i, i < 32 → bt fr i = true → i < P) : ∀ d, P + d ≤ 32 → woF F p fr N (P + d) = woF F p fr N P
  | 0, _ => rfl
  | d + 1, hd => by
    have : bt fr (P + d) = false := by
      cases q : bt fr (P + d)
      · rfl
      · have := hP _ (by omega) q; omega
    rw [show P + (d + 1) = (P + d) + 1 by omega, woF, this]
    exact wo_out F p fr N P hP d (by omega)
theorem mwo_lp {h : HP} {t w r m c : Nat} {j : Bool} (T : TW h t w r m c j) {N : Nat} (hN : N < 1000000) (b : Int32) : ∀ d k n, k + d = w * r → d < n → ∀ g, SmN h g → (∃ g0, g = g0 ∨ g = lnH g0 w r j) →
    ∃ g', f_X12_worst_35 n (nI N) b (woF (nxF h t) (hI h 114 3) (hI h (t + 1) 5) N k).1 (woF (nxF h t) (hI h 114 3) (hI h (t + 1) 5) N k).2 (nI k) g = bd2 (if b = 0 then f_X12_orNone g' (woF (nxF h t) (hI h 114 3) (hI h (t + 1) 5) N (w * r)).1 else f_X12_orNone g' (woF (nxF h t) (hI h 114 3) (hI h (t + 1) 5) N (w * r)).2) (fun r g => some (r, g)) ∧ (g' = g ∨ g' = lnH g w r j)
  | d, k, 0, _, z, _, _, _ => absurd z (by omega)
  | 0, k, n + 1, e, _, g, sm, _ => by
    obtain ⟨⟨w1, w5, hw, hw'⟩, ⟨r1, r6, hr, hr'⟩, -⟩ := T.1.n
    have h30 := wr_le w5 r6
    unfold f_X12_worst_35
    rw [places_e g (w := w) (r := r) (by rw [sm 0 (by omega)]; exact hw) (by rw [sm 1 (by omega)]; exact hr), bd2_s, if_pos (by rw [nI_leI (by omega) (by omega)]; omega), show k = w * r by omega]
    refine ⟨g, ?_, Or.inl rfl⟩
    by_cases q : b = 0
    · rw [if_pos q, if_pos q]
    · rw [if_neg q, if_neg q]
  | d + 1, k, n + 1, e, z, g, sm, _ => by
    obtain ⟨⟨w1, w5, hw, hw'⟩, ⟨r1, r6, hr, hr'⟩, -, -, -, h6, h7⟩ := T.1.n
    have h30 := wr_le w5 r6
    have ih := fun g => mwo_lp T hN b d (k + 1) n (by omega) (by omega) g
    unfold f_X12_worst_35
    rw [places_e g (w := w) (r := r) (by rw [sm 0 (by omega)]; exact hw) (by rw [sm 1 (by omega)]; exact hr), bd2_s, if_neg (by rw [nI_leI (by omega) (by omega)]; omega), freeM_e, bd2_s, sm 2 (by omega), sm 4 (by omega), ← free_e T.1, shr1 (by omega)]
    cases hF : bt (hI h (t + 1) 5) k
    · have ew : woF (nxF h t) (hI h 114 3) (hI h (t + 1) 5) N (k + 1) = woF (nxF h t) (hI h 114 3) (hI h (t + 1) 5) N k := by rw [woF, hF]; rfl
      rw [if_pos (show bI false = 0 from rfl)]
      simp only [ltv_e, nI_1]
      rw [ew] at ih
      exact ih g sm ⟨g, Or.inl rfl⟩
    · have ew : woF (nxF h t) (hI h 114 3) (hI h (t + 1) 5) N (k + 1) = if (woF (nxF h t) (hI h 114 3) (hI h (t + 1) 5) N k).2 < splF (nxF h t) (hI h 114 3) (bitI k) N then (nI k, splF (nxF h t) (hI h 114 3) (bitI k) N) else woF (nxF h t) (hI h 114 3) (hI h (t + 1) 5) N k := by rw [woF, hF]; rfl
      have hh : bt (hI h 114 2) k = true := by
        have := (h6 k (by omega)).1
        rw [hF] at this
        cases q : bt (hI h 114 2) k
        · rw [q] at this; cases this
        · rfl
      rw [if_neg (show ¬ bI true = 0 by decide), splM T sm (bit_inH (by omega) hh) hN, bd2_s]
      simp only [ltv_e, nI_1]
      rw [ew] at ih
      have key : ∃ g', f_X12_worst_35 n (nI N) b (woF (nxF h t) (hI h 114 3) (hI h (t + 1) 5) N (k + 1)).1 (woF (nxF h t) (hI h 114 3) (hI h (t + 1) 5) N (k + 1)).2 (nI (k + 1)) (lnH g w r j) = bd2 (if b = 0 then f_X12_orNone g' (woF (nxF h t) (hI h 114 3) (hI h (t + 1) 5) N (w * r)).1 else f_X12_orNone g' (woF (nxF h t) (hI h 114 3) (hI h (t + 1) 5) N (w * r)).2) (fun r g => some (r, g)) ∧ (g' = g ∨ g' = lnH g w r j) := by
        obtain ⟨g', e1, e2⟩ := ih (lnH g w r j) (sm.ln w r j) ⟨g, Or.inr rfl⟩
        rw [← ew] at e1
        refine ⟨g', e1, Or.inr ?_⟩
        rcases e2 with e2 | e2
        · exact e2
        · rw [e2, lnH_lnH]
      rw [ew] at key
      by_cases q : (woF (nxF h t) (hI h 114 3) (hI h (t + 1) 5) N k).2 < splF (nxF h t) (hI h 114 3) (bitI k) N
      · rw [if_pos q]; rw [if_pos q] at key; exact key
      · rw [if_neg q]; rw [if_neg q] at key; exact key

theorem wo_inv (F : Int32 → Int32) (p fr : Int32) (N : Nat) : ∀ k, ((∀ i, i < k → bt fr i = false) ∧ woF F p fr N k = (-1, -1)) ∨ ((∃ i, i < k ∧ bt fr i = true) ∧ ∃ i s, i < k ∧ s ≤ 32 ∧ woF F p fr N k = (nI i, nI s))
  | 0 => Or.inl ⟨fun i hi => absurd hi (by omega), rfl⟩
  | k + 1 => by
    have hs : pc (itN F N p ^^^ itN F N (p ^^^ bitI k)) ≤ 32 := pc_le _
    cases hF : bt fr k
    · have ew : woF F p fr N (k + 1) = woF F p fr N k := by rw [woF, hF]; rfl
      rw [ew]
      rcases wo_inv F p fr N k with ⟨h1, h2⟩ | ⟨⟨i, h1, h2⟩, i', s, h3, h4, h5⟩
      · refine Or.inl ⟨fun i hi => ?_, h2⟩
        by_cases q : i = k
        · rw [q]; exact hF
        · exact h1 i (by omega)
      · exact Or.inr ⟨⟨i, by omega, h2⟩, i', s, by omega, h4, h5⟩
    · have ew : woF F p fr N (k + 1) = if (woF F p fr N k).2 < splF F p (bitI k) N then (nI k, splF F p (bitI k) N) else woF F p fr N k := by rw [woF, hF]; rfl
      rw [ew]
      refine Or.inr ⟨⟨k, by omega, hF⟩, ?_⟩
      rcases wo_inv F p fr N k with ⟨h1, h2⟩ | ⟨⟨i, h1, h2⟩, i', s, h3, h4, h5⟩
      · rw [h2, if_pos (show (-1 : Int32) < splF F p (bitI k) N by
          unfold splF
          rw [Int32.lt_iff_toInt_lt, nI_t (by omega), show (-1 : Int32).toInt = -1 from rfl]; omega)]
        exact ⟨k, _, by omega, hs, rfl⟩
      · split
        · exact ⟨k, _, by omega, hs, rfl⟩
        · exact ⟨i', s, by omega, h4, h5⟩
theorem orN_m1 (g : HP) : f_X12_orNone g (-1) = some (-1, uI g 113 2 6) := by unfold f_X12_orNone; rw [if_pos rfl]; rfl
theorem orN_nI (g : HP) {k : Nat} (hk : k < 2 ^ 31) : f_X12_orNone g (nI k) = some (nI k, uI g 113 2 0) := by unfold f_X12_orNone; rw [if_neg (nI_m1 hk)]; rfl
theorem op_worst {h : HP} {t u : Nat} (I : Inv h t u) (a b : Int32) : Op t u (f_X11_worst h t a b) (fun g => f_X12_worst g a b) := by
  have ht := I.t
  obtain ⟨w, r, m, c, j, T⟩ := I.tw
  obtain ⟨⟨w1, w5, hw, hw'⟩, ⟨r1, r6, hr, hr'⟩, -⟩ := T.1.n
  have h30 := wr_le w5 r6
  have fr : ∀ g, f_X12_isFrom g (Int32.toInt64 a) 0 30 = some (bI (decide (0 ≤ a.toInt ∧ a.toInt ≤ 30)), g) := fun g => fr32 g a (n := 30) (by decide)
  unfold f_X11_worst
  simp only [nts_e, bd2_s]
  have bad : ¬ ((0 ≤ a.toInt ∧ a.toInt ≤ 30) ∧ (b = 0 ∨ b = 1)) → f_X12_worst (uI h 0 11 1) a b = some (-1, uI (uI h 0 11 1) 113 2 1) := fun q => by
    unfold f_X12_worst
    rw [fr, bd2_s]
    by_cases ha : 0 ≤ a.toInt ∧ a.toInt ≤ 30
    · rw [bI_dt ha, if_neg (by decide)]
      by_cases b1 : b < 0
      · rw [if_pos b1]; rfl
      · rw [if_neg b1, if_neg (fun b2 => q ⟨ha, le1.mp ⟨b1, Int32.not_lt.mpr b2⟩⟩)]; rfl
    · rw [bI_df ha, if_pos rfl]; rfl
  by_cases ha : 0 ≤ a.toInt ∧ a.toInt ≤ 30
  · rw [bI_dt ha, if_neg (by decide)]
    by_cases hb : b = 0 ∨ b = 1
    · obtain ⟨b1, b2⟩ := le1.mpr hb
      obtain ⟨N, hN, rfl⟩ := rng_nI (n := 30) ha
      rw [if_neg b1, if_pos (Int32.not_lt.mp b2)]
      have M : ∀ g, SmN h g → ∃ g', f_X12_worst g (nI N) b = bd2 (if b = 0 then f_X12_orNone g' (woF (nxF h t) (hI h 114 3) (hI h (t + 1) 5) N (w * r)).1 else f_X12_orNone g' (woF (nxF h t) (hI h 114 3) (hI h (t + 1) 5) N (w * r)).2) (fun r g => some (r, g)) ∧ (g' = g ∨ g' = lnH g w r j) := fun g sm => by
        obtain ⟨g', e1, e2⟩ := mwo_lp T (N := N) (by omega) b (w * r) 0 FU (by omega) (FU_gt (by omega)) g sm ⟨g, Or.inl rfl⟩
        refine ⟨g', ?_, e2⟩
        unfold f_X12_worst
        rw [fr, bd2_s, bI_dt ha, if_neg (by decide), if_neg b1, if_pos (Int32.not_lt.mp b2)]
        exact e1
      have w30 : woF (nxF h t) (hI h 114 3) (hI h (t + 1) 5) N 30 = woF (nxF h t) (hI h 114 3) (hI h (t + 1) 5) N (w * r) := by
        have := wo_out (nxF h t) (hI h 114 3) (hI h (t + 1) 5) N (w * r) (free_P T.1) (30 - w * r) (by omega)
        rw [show w * r + (30 - w * r) = 30 by omega] at this; exact this
      rcases wo_inv (nxF h t) (hI h 114 3) (hI h (t + 1) 5) N (w * r) with ⟨h1, h2⟩ | ⟨⟨i, h1, h2⟩, i', s, h3, h4, h5⟩
      · have h0 : hI h (t + 1) 5 = 0 := none_b.mpr (fun i hi => by
          by_cases q : i < w * r
          · exact h1 i q
          · cases z : bt (hI h (t + 1) 5) i
            · rfl
            · exact absurd (free_P T.1 i hi z) q)
        rw [h0, if_pos rfl]
        obtain ⟨g', e1, e2⟩ := M (uI h 0 11 6) (fun k _ => by rw [hI_st h 6 (show 114 ≠ 0 by decide)])
        rw [h2] at e1
        simp only [orN_m1, ite_self, bd2_s] at e1
        refine op_sc I (g1 := h) (g2 := g') (v := 6) (r := -1) rfl (Sm.refl t h) e1 ?_ ?_
        · rcases e2 with e2 | e2
          · rw [e2]; exact Sm.refl _ _
          · rw [e2]; exact (Sm.refl _ _).ln ht w r j
        · rcases e2 with e2 | e2
          · rw [e2, hI_uI_s]
          · rw [e2, lnH_I _ _ _ _ (by decide), hI_uI_s]
      · have h0 : ¬ hI h (t + 1) 5 = 0 := fun q => by rw [q, b_0] at h2; cases h2
        rw [if_neg h0]
        obtain ⟨g1, e1, s1, s2, s3, s4⟩ := cwo_lp ht T (N := N) (by omega) 30 0 FU (by omega) (FU_gt (by omega)) (uI h 73 4 (-1)) ((CS.refl t h).I _ _ _ (by omega)) ((Sm.refl t h).I _ _ _ (by unfold relI inT; omega)) (hI_uI_s _ _ _ _) (Or.inl rfl)
        rw [w30, h5] at s3 s4
        have s4' : hI g1 73 3 = nI i' := by
          rcases s4 with s4 | s4
          · exact absurd s4 (nI_m1 (by omega))
          · exact s4
        have efw : f_X8_findWorst h t (nI N) = some g1 := by unfold f_X8_findWorst; simp only [ltv_e]; exact e1
        rw [efw, bd1_s, s3, s4']
        obtain ⟨g', e1', e2⟩ := M (uI g1 0 11 0) (fun k hk => by rw [hI_uI_n (by omega), s1.1 114 (Or.inl rfl)])
        rw [h5] at e1'
        have fin : Sm t (uI g1 0 11 0) g' ∧ hI g' 0 11 = 0 := by
          rcases e2 with e2 | e2
          · rw [e2]; exact ⟨Sm.refl _ _, hI_uI_s _ _ _ _⟩
          · rw [e2]; exact ⟨(Sm.refl _ _).ln ht w r j, by rw [lnH_I _ _ _ _ (by decide), hI_uI_s]⟩
        by_cases q : b = 0
        · rw [if_pos q]; rw [if_pos q, orN_nI _ (by omega)] at e1'
          exact op_sc I (g1 := g1) (g2 := g') (v := 0) (r := nI i') rfl s2 e1' fin.1 fin.2
        · rw [if_neg q]; rw [if_neg q, orN_nI _ (by omega)] at e1'
          exact op_sc I (g1 := g1) (g2 := g') (v := 0) (r := nI s) rfl s2 e1' fin.1 fin.2
    · refine op_st I (v := 1) (r := -1) ?_ (bad (fun q => hb q.2))
      by_cases b1 : b < 0
      · rw [if_pos b1]; rfl
      · rw [if_neg b1, if_neg (fun b2 => hb (le1.mp ⟨b1, Int32.not_lt.mpr b2⟩))]; rfl
  · exact op_st I (v := 1) (r := -1) (by rw [bI_df ha, if_pos rfl]; rfl) (bad (fun q => ha q.1))
