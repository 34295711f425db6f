/-! ===== alike: heaps, the whole ===== -/
theorem TW.hp {h : HP} {t w r m c : Nat} {j : Bool} (T : TW h t w r m c j) : HpOK w r j (hI h 114 3) (hpX (hI h (t + 1)) (hI h 114 3)) :=
  ⟨T.1.n.1.1, inH_P T.1 T.pic, fun k _ => heapC T T.pic (fun i hi a => by rw [b_and, Bool.and_eq_true] at a; exact a.1)⟩
theorem rm_end {f : Nat → Int32} {w r : Nat} {j : Bool} {lit : Int32} (H : HpOK w r j lit (hpX f lit)) : rmX f lit (w * r) = 0 := b_ext (fun i hi => by
  rw [b_0]
  cases e : bt (rmX f lit (w * r)) i
  · rfl
  · obtain ⟨l, a⟩ := (rm_b f lit hi _).mp e
    have := hp_self H hi l
    rw [a i (H.2.1 i hi l)] at this; cases this)
theorem kn_le (f : Nat → Int32) (lit : Int32) : ∀ k, knX f lit k ≤ k
  | 0 => Nat.le_refl 0
  | k + 1 => by have := kn_le f lit k; rw [knX]; split <;> omega
theorem mx_le (f : Nat → Int32) (lit : Int32) : ∀ k, mxX f lit k ≤ 32
  | 0 => Nat.zero_le _
  | k + 1 => by
    have := mx_le f lit k
    have := pc_le (hpX f lit k)
    rw [mxX]; split <;> omega
theorem hsC_lp {h : HP} {t w r m c : Nat} {j : Bool} (T : TW h t w r m c j) (l1 : Int32) : ∀ d k n i, k + d = w * r → i ≤ k → d < n →
    f_X11_heaps_31 t n l1 (rmX (hI h (t + 1)) (hI h 114 3) k) (nI (knX (hI h (t + 1)) (hI h 114 3) k)) (nI (mxX (hI h (t + 1)) (hI h 114 3) k)) (nI i) h = some (if l1 = 0 then nI (knX (hI h (t + 1)) (hI h 114 3) (w * r)) else nI (mxX (hI h (t + 1)) (hI h 114 3) (w * r)), uI h 0 11 0)
  | d, k, 0, i, _, _, z => absurd z (by omega)
  | 0, k, n + 1, i, e, hi, _ => by
    have hk : k = w * r := by omega
    rw [hk, rm_end T.hp]
    unfold f_X11_heaps_31
    by_cases q : l1 = 0
    · simp only [if_pos q, ans_e, bd2_s, if_true]; split <;> rfl
    · simp only [if_neg q, ans_e, bd2_s, if_true]; split <;> rfl
  | d + 1, k, n + 1, i, e, hi, z => by
    obtain ⟨⟨w1, w5, hw, hw'⟩, ⟨r1, r6, hr, hr'⟩, -⟩ := T.1.n
    have h30 := wr_le w5 r6
    cases y : bt (rmX (hI h (t + 1)) (hI h 114 3) k) k
    · obtain ⟨s1, s2, s3⟩ := skip_k T.hp (by omega) y
      have key := hsC_lp T l1 d (k + 1) (n + 1) i (by omega) (by omega) (by omega)
      rw [s1, s2, s3] at key; exact key
    · obtain ⟨t1, t2, t3, t4, t5⟩ := take_k T.hp (by omega) y
      have rH : inH h (rmX (hI h (t + 1)) (hI h 114 3) k) := fun q hq a => T.pic q hq ((rm_b _ _ hq k).mp a).1
      have key := hsC_lp T l1 d (k + 1) n (i + 1) (by omega) (by omega) (by omega)
      unfold f_X11_heaps_31 f_X1_heapOf f_J6_bitCount_0f7a4
      have mle := mx_le (hI h (t + 1)) (hI h 114 3) k
      have ple := pc_le (hpX (hI h (t + 1)) (hI h 114 3) k)
      rw [if_neg (by rw [show (30 : Int32) = nI 30 from rfl, nI_leI (by omega) (by omega)]; omega), if_neg (fun q => by rw [q, b_0] at y; cases y), t1, bd2_s, t4 _ (heapC T rH t5)]
      simp only [ltv_e, nI_1, bd2_s]
      rw [rmX, knX, if_pos ⟨t2, t3⟩, mxX] at key
      by_cases q : mxX (hI h (t + 1)) (hI h 114 3) k < pc (hpX (hI h (t + 1)) (hI h 114 3) k)
      · rw [if_pos (by rw [nI_ltI (by omega) (by omega)]; exact q)]
        rw [if_pos q] at key; exact key
      · rw [if_neg (by rw [nI_ltI (by omega) (by omega)]; exact q)]
        rw [if_neg q] at key; exact key
theorem hsM_lp {h G : HP} {t w r m c : Nat} {j : Bool} (T : TW h t w r m c j) (sm : SmN h G) (ln : LN G w r j) (l1 : Int32) : ∀ d k n, k + d = w * r → d < n →
    f_X12_heaps_26 n l1 (nI (knX (hI h (t + 1)) (hI h 114 3) k)) (nI (mxX (hI h (t + 1)) (hI h 114 3) k)) (nI k) G = some (if l1 = 0 then nI (knX (hI h (t + 1)) (hI h 114 3) (w * r)) else nI (mxX (hI h (t + 1)) (hI h 114 3) (w * r)), uI G 113 2 0)
  | d, k, 0, _, z => absurd z (by omega)
  | 0, k, n + 1, e, _ => by
    obtain ⟨⟨w1, w5, hw, hw'⟩, ⟨r1, r6, hr, hr'⟩, -⟩ := T.1.n
    have h30 := wr_le w5 r6
    have hk : k = w * r := by omega
    unfold f_X12_heaps_26
    rw [places_e G (w := w) (r := r) (by rw [sm 0 (by omega)]; exact hw) (by rw [sm 1 (by omega)]; exact hr), bd2_s, if_pos (by rw [nI_leI (by omega) (by omega)]; omega), hk]
    by_cases q : l1 = 0
    · simp only [if_pos q, giv_e, bd2_s]
    · simp only [if_neg q, giv_e, bd2_s]
  | d + 1, k, n + 1, e, z => by
    obtain ⟨⟨w1, w5, hw, hw'⟩, ⟨r1, r6, hr, hr'⟩, -⟩ := T.1.n
    have h30 := wr_le w5 r6
    obtain ⟨X, e1, x1⟩ := heapM T sm ln (k := k)
    have ex : X = hpX (hI h (t + 1)) (hI h 114 3) k := IsH.uq x1 (T.hp.2.2 k (by omega))
    rw [ex] at e1
    have key := hsM_lp T sm ln l1 d (k + 1) n (by omega) (by omega)
    have mle := mx_le (hI h (t + 1)) (hI h 114 3) k
    have ple := pc_le (hpX (hI h (t + 1)) (hI h 114 3) k)
    unfold f_X12_heaps_26
    rw [places_e G (w := w) (r := r) (by rw [sm 0 (by omega)]; exact hw) (by rw [sm 1 (by omega)]; exact hr), bd2_s, if_neg (by rw [nI_leI (by omega) (by omega)]; omega), e1, bd2_s, bits_e, bd2_s]
    simp only [ltv_e, nI_1]
    have em : (if nI (mxX (hI h (t + 1)) (hI h 114 3) k) < nI (pc (hpX (hI h (t + 1)) (hI h 114 3) k)) then nI (pc (hpX (hI h (t + 1)) (hI h 114 3) k)) else nI (mxX (hI h (t + 1)) (hI h 114 3) k)) = nI (mxX (hI h (t + 1)) (hI h 114 3) (k + 1)) := by
      rw [mxX]
      by_cases q : mxX (hI h (t + 1)) (hI h 114 3) k < pc (hpX (hI h (t + 1)) (hI h 114 3) k)
      · rw [if_pos (by rw [nI_ltI (by omega) (by omega)]; exact q), if_pos q]
      · rw [if_neg (by rw [nI_ltI (by omega) (by omega)]; exact q), if_neg q]
    rw [em, show (1 : Int32) <<< (nI k &&& 31) = bitI k from rfl]
    rw [knX] at key
    by_cases q1 : hpX (hI h (t + 1)) (hI h 114 3) k = 0
    · rw [if_pos q1]
      rw [if_neg (fun q => q.1 q1)] at key
      rw [Int32.add_zero]; exact key
    · rw [if_neg q1]
      by_cases q2 : hpX (hI h (t + 1)) (hI h 114 3) k &&& (bitI k - 1) = 0
      · rw [if_pos q2]
        rw [if_pos ⟨q1, q2⟩] at key; exact key
      · rw [if_neg q2]
        rw [if_neg (fun q => q2 q.2)] at key
        rw [Int32.add_zero]; exact key
theorem op_heaps {h : HP} {t u : Nat} (I : Inv h t u) (a : Int32) : Op t u (f_X11_heaps h t a) (fun g => f_X12_heaps g a) := by
  have ht := I.t
  obtain ⟨w, r, m, c, j, T⟩ := I.tw
  unfold f_X11_heaps f_X12_heaps
  simp only [ltv_e]
  by_cases a1 : a < 0
  · rw [if_pos a1]
    exact op_st I (v := 1) (r := -1) rfl (by (try simp only []); rw [if_pos a1]; rfl)
  · rw [if_neg a1]
    by_cases a2 : a ≤ 1
    · rw [if_pos a2, T.pic0]
      have sm : SmN h (uI h 0 11 0) := fun q hq => hI_st h 0 (by decide) q
      have C := hsC_lp T a (w * r) 0 FU 0 (by omega) (by omega) (FU_gt (by have := wr_le T.1.n.1.2.1 T.1.n.2.1.2.1; omega))
      have M := hsM_lp T (sm.ln w r j) (lnH_LN _ w r j) a (w * r) 0 FU (by omega) (FU_gt (by have := wr_le T.1.n.1.2.1 T.1.n.2.1.2.1; omega))
      refine op_sc I (g1 := h) (g2 := lnH (uI h 0 11 0) w r j) (v := 0) C (Sm.refl t h) ?_ ((Sm.refl _ _).ln ht w r j) (by rw [lnH_I _ _ _ _ (by decide), hI_uI_s])
      try simp only []
      rw [if_neg a1, if_pos a2, T.ln sm, bd1_s]; exact M
    · rw [if_neg a2]
      exact op_st I (v := 1) (r := -1) rfl (by (try simp only []); rw [if_neg a1, if_neg a2]; rfl)
