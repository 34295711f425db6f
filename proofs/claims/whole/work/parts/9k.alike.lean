/-! ===== alike: live ===== -/
theorem l12_lp : ∀ d k n b, k + d = 5 → d < n → ∃ f, f_X12_lives_12 n (nI k) b = f_X12_lives_32 FU 0 (rI b 128 f) ∧ ∀ q, f q = if k ≤ q ∧ q < 5 then 0 else hI b 128 q
  | d, k, 0, _, _, z => absurd z (by omega)
  | 0, k, n + 1, b, e, _ => by
    unfold f_X12_lives_12
    rw [if_pos (by rw [show (5 : Int32) = nI 5 from rfl, nI_leI (by omega) (by omega)]; omega)]
    exact ⟨hI b 128, by rw [rI_self], fun q => by rw [if_neg (by omega)]⟩
  | d + 1, k, n + 1, b, e, _ => by
    obtain ⟨f, e1, e2⟩ := l12_lp d (k + 1) n (uI b 128 k 0) (by omega) (by omega)
    unfold f_X12_lives_12
    rw [if_neg (by rw [show (5 : Int32) = nI 5 from rfl, nI_leI (by omega) (by omega)]; omega), gdi_nI (by omega) (by decide), nI_clamp (by omega), ltv_e, nI_1, ltv_e, e1]
    refine ⟨f, by unfold uI; rw [rI_rI], fun q => ?_⟩
    rw [e2 q]
    by_cases z : q = k
    · subst z; rw [if_neg (by omega), hI_uI_s, if_pos (by omega)]
    · rw [hI_uI_n (by omega)]
      by_cases z2 : k ≤ q ∧ q < 5
      · rw [if_pos (by omega), if_pos z2]
      · rw [if_neg (by omega), if_neg z2]
theorem life_e {t v w r m c e : Nat} {j : Bool} (ht : t = 79 ∨ t = 96) (hv : v = 75 ∨ v = 77) {a b : HP} (L : LT t w r m c j (mx a b)) (e60 : e ≤ 60) (y5 : hI a (t + 3) 5 = 1) (k6 : hI a (t + 3) 6 = nI e) {s : Nat} (hs : s < 65536) :
    ∃ a' b', f_X2_liveBy a v t (nI s) = some a' ∧ f_X12_lives b (nI s) = some b' ∧ FIN t v w r m c j a b a' b' := by
  obtain ⟨A, eA⟩ : ∃ A, A = uI (uI (uI (uI (uI (uI (uI a v 1 (nI s)) v 2 0) v 3 0) v 4 0) v 5 0) v 6 0) v 7 0 := ⟨_, rfl⟩
  obtain ⟨f, e1, e2⟩ := l12_lp 5 0 FU (uI (uI b 113 32 (nI s)) 113 33 0) (by omega) (FU_gt (by omega))
  obtain ⟨B, eB⟩ : ∃ B, B = rI (uI (uI b 113 32 (nI s)) 113 33 0) 128 f := ⟨_, rfl⟩
  rw [← eB] at e1
  have C : FC t v a A := by
    rw [eA]
    exact ((((((((FC.refl t v a).I v 1 _ (by omega)).I v 2 _ (by omega)).I v 3 _ (by omega)).I v 4 _ (by omega)).I v 5 _ (by omega)).I v 6 _ (by omega)).I v 7 _ (by omega))
  have M : FM b B := by
    have M1 := ((FM.refl b).I 113 32 (nI s) (by omega)).I 113 33 0 (by omega)
    rw [eB]
    exact ⟨M1.1, fun p q h1 h2 h3 h4 h5 => by rw [hI_rI_n _ _ h4]; exact M1.2.1 p q h1 h2 h3 h4 h5, M1.2.2⟩
  have aA : ∀ p, p ≠ v → hI A p = hI a p := fun p hp => by rw [eA, hI_uI_n' hp, hI_uI_n' hp, hI_uI_n' hp, hI_uI_n' hp, hI_uI_n' hp, hI_uI_n' hp, hI_uI_n' hp]
  have bB : ∀ p, p ≠ 113 → p ≠ 128 → hI B p = hI b p := fun p h1 h2 => by rw [eB, hI_rI_n _ _ h2, hI_uI_n' h1, hI_uI_n' h1]
  have b8 : ∀ q, q < 5 → hI B 128 q = 0 := fun q hq => by rw [eB, hI_rI_s, e2 q, if_pos (by omega)]
  have v1 : hI A v 1 = nI s := by rw [eA, hI_uI_n (by omega), hI_uI_n (by omega), hI_uI_n (by omega), hI_uI_n (by omega), hI_uI_n (by omega), hI_uI_n (by omega), hI_uI_s]
  have v2 : hI A v 2 = 0 := by rw [eA, hI_uI_n (by omega), hI_uI_n (by omega), hI_uI_n (by omega), hI_uI_n (by omega), hI_uI_n (by omega), hI_uI_s]
  have v3 : hI A v 3 = 0 := by rw [eA, hI_uI_n (by omega), hI_uI_n (by omega), hI_uI_n (by omega), hI_uI_n (by omega), hI_uI_s]
  have v4 : hI A v 4 = 0 := by rw [eA, hI_uI_n (by omega), hI_uI_n (by omega), hI_uI_n (by omega), hI_uI_s]
  have v5 : hI A v 5 = 0 := by rw [eA, hI_uI_n (by omega), hI_uI_n (by omega), hI_uI_s]
  have v6 : hI A v 6 = 0 := by rw [eA, hI_uI_n (by omega), hI_uI_s]
  have v7 : hI A v 7 = 0 := by rw [eA, hI_uI_s]
  have L' : LT t w r m c j (mx A B) := L.cn ht hv C M (aA _ (by omega)) (aA _ (by omega)) (bB _ (by decide) (by decide))
  have y5' : hI A (t + 3) 5 = 1 := by rw [aA _ (by omega)]; exact y5
  have k6' : hI A (t + 3) 6 = nI e := by rw [aA _ (by omega)]; exact k6
  obtain ⟨e11, q1, q2⟩ := yr_of ht L' y5' e60 k6'
  have G := prog_of ht e60 q1 q2
  have no : ∀ o, ¬ enc (hI A (t + 3 + 1)) (paF (hI A (t + 3 + 5))) o 0 := fun o z => by have := z.2.1; omega
  have p0 : pot (hI A (t + 3 + 1)) (paF (hI A (t + 3 + 5))) e (hI A (v + 1)) 0 = 0 := sumN_0 (fun o _ => wtE_n (no o))
  obtain ⟨a', b', g1, g2, F⟩ := live_lp (c := c) ht hv e60 y5' k6' 300 0 FU rfl (FU_gt (by omega)) 0 0 FU A B rfl (by rw [p0]; omega) (Nat.zero_le e) (fun ke z => by have := (G.2.1 0 ke z).1; omega) ⟨FC.refl _ _ _, FM.refl _, L', ⟨by rw [v4, b8 1 (by decide)], by rw [v5, b8 2 (by decide)], by rw [v6, b8 3 (by decide)], by rw [v7, b8 4 (by decide)], s, hs, v1, by rw [eB, hI_rI_n _ _ (by decide), hI_uI_n (by omega), hI_uI_s]⟩, by rw [v3, b8 0 (by decide)], ⟨v2, by rw [eB, hI_rI_n _ _ (by decide), hI_uI_s]; rfl, b8 4 (by decide)⟩, fun o _ _ z => absurd z (no o)⟩
  obtain ⟨f1, f2, f3⟩ := F
  refine ⟨a', b', ?_, ?_, C.trans f1, M.trans f2, f3⟩
  · unfold f_X2_liveBy
    rw [ltv_e, ltv_e, ltv_e, ltv_e, ltv_e, ltv_e, ltv_e, ← eA]
    exact g1
  · unfold f_X12_lives
    rw [ltv_e, ltv_e, show (0 : Int32) = nI 0 from rfl]
    rw [show nI 0 = (0 : Int32) from rfl] at e1 g2 ⊢
    exact e1.trans g2
theorem l43_lp : ∀ d k n b, k + d = 5 → d < n → ∃ f, f_X12_live_43 n (nI k) b = some (hI b 113 33, uI (uI (rI b 129 f) 113 37 1) 113 2 0) ∧ ∀ q, f q = if k ≤ q ∧ q < 5 then hI b 128 q else hI b 129 q
  | d, k, 0, _, _, z => absurd z (by omega)
  | 0, k, n + 1, b, e, _ => by
    unfold f_X12_live_43
    rw [if_pos (by rw [show (5 : Int32) = nI 5 from rfl, nI_leI (by omega) (by omega)]; omega), ltv_e, hI_uI_n (by omega), giv_e, bd2_s]
    exact ⟨hI b 129, by rw [rI_self], fun q => by rw [if_neg (by omega)]⟩
  | d + 1, k, n + 1, b, e, _ => by
    obtain ⟨f, e1, e2⟩ := l43_lp d (k + 1) n (uI b 129 k (hI b 128 k)) (by omega) (by omega)
    unfold f_X12_live_43
    rw [if_neg (by rw [show (5 : Int32) = nI 5 from rfl, nI_leI (by omega) (by omega)]; omega), gdi_nI (by omega) (by decide), gdi_nI (by omega) (by decide), nI_clamp (by omega), ltv_e, nI_1, ltv_e, e1]
    have rr : rI (uI b 129 k (hI b 128 k)) 129 f = rI b 129 f := rI_rI _ _ _ _
    refine ⟨f, by rw [rr, hI_uI_n (by omega)], fun q => ?_⟩
    rw [e2 q, hI_uI_n (b := 128) (by omega)]
    by_cases z : q = k
    · subst z; rw [if_neg (by omega), hI_uI_s, if_pos (by omega)]
    · rw [hI_uI_n (by omega)]
      by_cases z2 : k ≤ q ∧ q < 5
      · rw [if_pos (by omega), if_pos z2]
      · rw [if_neg (by omega), if_neg z2]
theorem Inv.lt {h : HP} {t u : Nat} (I : Inv h t u) : ∃ w r m c j, LT t w r m c j h := by
  obtain ⟨w, r, m, c, qH, qR, qS, qY⟩ := I.tn
  obtain ⟨j, HH, jj1, jj2⟩ := qH.hill
  exact ⟨w, r, m, c, j, ⟨qH, qR, HH, jj1, jj2⟩, qS, qY⟩
theorem LT.rt {t w r m c : Nat} {j : Bool} {h : HP} (L : LT t w r m c j h) : Rt h t 0 0 := ⟨w, r, m, c, L.1.1, L.1.2.1, L.2.1, L.2.2⟩
/-- what the reference has stays while the class goes on -/
theorem mx_back {a b : HP} (s : SR a b) (h1 : ∀ p q, 113 ≤ p → hI b p q = hI a p q) (h2 : ∀ p, 113 ≤ p → hL b p = hL a p) : mx a b = a := HP_ext rfl (funext fun p => by
    by_cases lo : p < 113
    · exact mxI_lo _ _ lo
    · rw [mxI_hi _ _ (by omega)]; exact funext fun q => h1 p q (by omega)) (funext fun p => by
    by_cases lo : p < 113
    · exact mxL_lo _ _ lo
    · rw [mxL_hi _ _ (by omega)]; exact h2 p (by omega)) rfl
theorem op_live {h : HP} {t u : Nat} (I : Inv h t u) (x : Int32) : Op t u (f_X11_live h t x) (fun g => f_X12_live g x) := by
  have ht := I.t
  have fr : ∀ g, f_X12_isFrom g (Int32.toInt64 x) 0 9999 = some (bI (decide (0 ≤ x.toInt ∧ x.toInt ≤ 9999)), g) := fun g => fr32 g x (n := 9999) (by decide)
  obtain ⟨w, r, m, c, j, L⟩ := I.lt
  unfold f_X11_live f_X12_live
  simp only [fr, bd2_s]
  by_cases hx : 0 ≤ x.toInt ∧ x.toInt ≤ 9999
  · obtain ⟨s, hs, rfl⟩ := rng_nI (n := 9999) hx
    rw [if_neg (lt_nI0 _ (by omega)), if_pos (show nI s ≤ 9999 by rw [show (9999 : Int32) = nI 9999 from rfl, nI_leI (by omega) (by omega)]; exact hs), bI_dt hx]
    rcases L.2.2 with ⟨q1, q2, q3⟩ | ⟨q1, e, e60, k6, k11, -⟩
    · rw [if_pos q1]
      refine op_st I (v := 6) (r := -1) rfl ?_
      try simp only []
      rw [if_neg (show ¬ (1 : Int32) = 0 by decide), hI_st h 6 (by decide), if_pos (show hI h 114 11 = -1 from q3)]; rfl
    · have n11 : ¬ hI h 114 11 = -1 := fun z => nI_m1 (m := e) (by omega) (k11.symm.trans z)
      rw [if_neg (show ¬ hI h (t + 3) 5 = 0 by rw [q1]; decide)]
      obtain ⟨a1, b1, c1, -, F1⟩ := life_e (v := 75) ht (Or.inl rfl) (a := h) (b := h) (by rw [mx_self]; exact L) e60 q1 k6 (s := s) (by omega)
      obtain ⟨H1, eH⟩ : ∃ H1, H1 = uI (uI a1 0 14 1) 0 11 0 := ⟨_, rfl⟩
      have aH : ∀ p q, ¬ (p = 0 ∧ (q = 14 ∨ q = 11)) → hI H1 p q = hI a1 p q := fun p q hp => by rw [eH, hI_uI_n (by omega), hI_uI_n (by omega)]
      have hiH : ∀ p q, 113 ≤ p → hI H1 p q = hI h p q := fun p q hp => by
        rw [aH p q (by omega)]; exact F1.1.2.1 p q (by omega) (by omega) (by omega) (by omega) (by omega) (by omega)
      have hlH : hL H1 = hL h := by rw [eH]; exact F1.1.2.2
      have sH : SR h H1 := by rw [eH]; exact (F1.1.1.I _ _ _).I _ _ _
      have mxh : mx h H1 = h := mx_back sH hiH (fun p _ => by rw [hlH])
      obtain ⟨a2, b2, c2, d2, C, M, L2, ⟨k4, k5, k6', k7⟩, k3, k8, n, hn, k2, k2'⟩ := life_e (v := 75) ht (Or.inl rfl) (a := h) (b := H1) (by rw [mxh]; exact L) e60 q1 k6 (s := s) (by omega)
      have ea : a2 = a1 := by rw [c1] at c2; exact (Option.some.inj c2).symm
      subst ea
      obtain ⟨f, e3, e4⟩ := l43_lp 5 0 FU b2 (by omega) (FU_gt (by omega))
      obtain ⟨H2, eH2⟩ : ∃ H2, H2 = uI (uI (rI b2 129 f) 113 37 1) 113 2 0 := ⟨_, rfl⟩
      rw [← eH2] at e3
      have Z : ∀ p q, p ≠ 129 → ¬ (p = 113 ∧ (q = 37 ∨ q = 2)) → hI H2 p q = hI b2 p q := fun p q h1 h2 => by rw [eH2, hI_uI_n (by omega), hI_uI_n (by omega), hI_rI_n _ _ h1]
      have lo : ∀ p q, p < 113 → ¬ (p = 0 ∧ (q = 14 ∨ q = 11)) → hI H2 p q = hI a2 p q := fun p q h1 h2 => by
        rw [Z p q (by omega) (by omega), M.2.1 p q (by omega) (by omega) (by omega) (by omega) (by omega)]; exact aH p q h2
      have lc : ∀ p q, p < 113 → ¬ (p = 0 ∧ (q = 14 ∨ q = 11)) → ¬ (p = t ∧ 12 ≤ q ∧ q ≤ 15) → p ≠ t + 15 → p ≠ t + 1 + 1 → p ≠ t + 16 → p ≠ 75 → p ≠ 76 → hI H2 p q = hI h p q := fun p q h1 h2 h3 h4 h5 h6 h7 h8 => by
        rw [lo p q h1 h2]; exact C.2.1 p q h3 h4 h5 h6 h7 h8
      have hc : ∀ p q, 113 ≤ p → p ≠ 129 → ¬ (p = 113 ∧ (q = 37 ∨ q = 2 ∨ q = 32 ∨ q = 33)) → ¬ (p = 114 ∧ (q = 3 ∨ q = 7 ∨ q = 8 ∨ q = 10 ∨ (32 ≤ q ∧ q < 42))) → p ≠ 122 → p ≠ 127 → p ≠ 128 → hI H2 p q = hI h p q := fun p q h1 h2 h3 h4 h5 h6 h7 => by
        rw [Z p q h2 (by omega), M.2.1 p q h4 h5 h6 h7 (by omega)]; exact hiH p q h1
      have hl : ∀ p q, hL H2 p q = hL h p q := fun p q => by
        have : hL H2 = hL b2 := by rw [eH2]; rfl
        rw [this, M.2.2, hlH]
      have w0 : hI H2 0 11 = 0 := by rw [Z 0 11 (by omega) (by omega), M.2.1 0 11 (by omega) (by omega) (by omega) (by omega) (by omega), eH, hI_uI_s]
      have w1 : hI H2 0 14 = 1 := by rw [Z 0 14 (by omega) (by omega), M.2.1 0 14 (by omega) (by omega) (by omega) (by omega) (by omega), eH, hI_uI_n (by omega), hI_uI_s]
      have r9 : ∀ q, q < 5 → hI H2 129 q = hI b2 128 q := fun q hq => by rw [eH2, hI_uI_n (by omega), hI_uI_n (by omega), hI_rI_s, e4 q, if_pos (by omega)]
      refine ⟨nI n, H1, H2, ?_, ?_, I.re ?_ ⟨?_, ?_, ?_⟩ (I.2.2.1.k (fun p q z => ?_) (fun p q _ => hl p q)) (I.2.2.2.1.k (fun p q z => ?_)) ⟨⟨?_, ?_⟩, fun _ => ⟨?_, ?_, ?_, ?_, ?_, ?_⟩⟩ (I.2.2.2.2.2.1.k (fun q => hl 7 q)) (L2.rt.k (fun p q z => ?_) (fun p q z => ?_)) (I.2.2.2.2.2.2.2.k (fun p q z => ?_) (fun p q _ => hl p q))⟩
      · rw [c1, bd1_s, ltv_e, hI_uI_n (by omega), k2, ans_e, bd2_s, eH]
      · try simp only []
        rw [if_neg (show ¬ (1 : Int32) = 0 by decide), hiH _ _ (by omega), if_neg n11, d2, bd1_s]
        rw [show f_X12_live_43 FU 0 b2 = f_X12_live_43 FU (nI 0) b2 from rfl, e3, k2']
      · rw [eH2]; exact ((sH.trans M.1).trans ⟨rfl, rfl⟩)
      · rw [w0, eH2, hI_uI_s]
      · rw [hl, hl]; exact I.2.1.2.1
      · rw [hl, hl]; exact I.2.1.2.2
      · unfold cnTr at z
        by_cases q0 : p < 113
        · exact lc p q q0 (by omega) (by omega) (by omega) (by omega) (by omega) (by omega) (by omega)
        · exact hc p q (by omega) (by omega) (by omega) (by omega) (by omega) (by omega) (by omega)
      · unfold cnTk at z
        by_cases q0 : p < 113
        · exact lc p q q0 (by omega) (by omega) (by omega) (by omega) (by omega) (by omega) (by omega)
        · exact hc p q (by omega) (by omega) (by omega) (by omega) (by omega) (by omega) (by omega)
      · rw [w1, eH2, hI_uI_n (by omega), hI_uI_s]
      · rw [eH2, hI_uI_n (by omega), hI_uI_s]; exact Or.inr rfl
      · rw [lo 75 3 (by omega) (by omega), r9 0 (by omega)]; exact k3
      · rw [lo 75 4 (by omega) (by omega), r9 1 (by omega)]; exact k4
      · rw [lo 75 5 (by omega) (by omega), r9 2 (by omega)]; exact k5
      · rw [lo 75 6 (by omega) (by omega), r9 3 (by omega)]; exact k6'
      · rw [lo 75 7 (by omega) (by omega), r9 4 (by omega)]; exact k7
      · rw [r9 4 (by omega)]; exact k8
      · have pb := cnT_b ht z
        by_cases q0 : p < 113
        · rw [lo p q q0 (by omega), mxI_lo _ _ q0]
        · rw [Z p q (by omega) (by omega), mxI_hi _ _ (by omega)]
      · rw [hl]
        by_cases q0 : p < 113
        · rw [mxL_lo _ _ q0, C.2.2]
        · rw [mxL_hi _ _ (by omega), M.2.2, hlH]
      · unfold cnMk at z
        by_cases q0 : p < 113
        · exact lc p q q0 (by omega) (by omega) (by omega) (by omega) (by omega) (by omega) (by omega)
        · exact hc p q (by omega) (by omega) (by omega) (by omega) (by omega) (by omega) (by omega)
  · refine op_st I (v := 1) (r := -1) ?_ ?_
    · by_cases a1 : x < 0
      · rw [if_pos a1]; rfl
      · rw [if_neg a1, if_neg (fun a2 : x ≤ 9999 => hx ⟨by rw [Int32.lt_iff_toInt_lt] at a1; simp only [Int32.reduceToInt] at a1; omega, by rw [Int32.le_iff_toInt_le] at a2; simp only [Int32.reduceToInt] at a2; omega⟩)]; rfl
    · try simp only []
      rw [bI_df hx, if_pos rfl]; rfl
