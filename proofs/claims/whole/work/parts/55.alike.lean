/-! ===== alike: which rules fit, the mirror ===== -/
theorem shr1 {x : Int32} {k : Nat} (hk : k < 32) : (x >>> (nI k &&& 31)) &&& 1 = bI (bt x k) := by
  refine b_ext (fun i hi => ?_)
  rw [b_and, b_one i hi, b_sshr k hk x hi]
  by_cases h0 : i = 0
  · subst h0
    rw [if_pos (by omega), Nat.add_zero, decide_eq_true rfl, Bool.and_true]
    cases bt x k
    · exact (b_0 0).symm
    · exact (b_one 0 hi).symm
  · rw [decide_eq_false h0, Bool.and_false]
    cases bt x k
    · exact (b_0 i).symm
    · rw [show bI true = 1 from rfl, b_one i hi, decide_eq_false h0]
theorem b_small {n i : Nat} (hn : n < 32) (h5 : 5 ≤ i) (hi : i < 32) : bt (nI n) i = false := by
  rw [bt_nI n hi]; exact Nat.testBit_lt_two_pow (Nat.lt_of_lt_of_le hn (show 2 ^ 5 ≤ 2 ^ i from Nat.pow_le_pow_right (by decide) h5))
theorem sets_b {n k j : Nat} (hn : n < 32) (hk : k < 32) (hj : j < 10) : bt (nI n ||| shl (nI k) 5) j = if j < 5 then bt (nI n) j else bt (nI k) (j - 5) := by
  rw [b_or, shl, show (5 : Int32) = nI 5 from rfl, b_shl 5 (by decide) _ (by omega)]
  by_cases h : j < 5
  · rw [if_pos h, decide_eq_false (by omega), Bool.false_and, Bool.or_false]
  · rw [if_neg h, b_small hn (by omega) (by omega), decide_eq_true (by omega), Bool.true_and, Bool.false_or]
theorem k5 {k : Nat} (hk : k < 10) : nI k / 5 = nI (k / 5) ∧ nI k - nI (k / 5) * 5 = nI (k % 5) := by
  have h1 : nI k / nI 5 = nI (k / 5) := nI_div (by omega) (by omega) (by omega)
  have h2 : nI k - nI k / nI 5 * nI 5 = nI (k % 5) := nI_rem (by omega) (by omega) (by omega)
  rw [h1] at h2
  exact ⟨h1, h2⟩
theorem cIf_c {p q : Prop} (h : p ↔ q) : cIf p = cIf q := by rw [propext h]
theorem cIf_n {p : Prop} : cIf p = 0 ↔ ¬ p := by
  by_cases h : p
  · rw [cIf_t h]; exact ⟨fun q => absurd q (by decide), fun q => absurd h q⟩
  · rw [cIf_f h]; exact ⟨fun _ => h, fun _ => rfl⟩
/-- which rules fit, the first k of them -/
noncomputable def fitS (P : Nat → Prop) : Nat → Int32
  | 0 => 0
  | k + 1 => fitS P k ||| (if cIf (P k) = 0 then 0 else ((1 : Int32) <<< (nI k &&& 31)))
theorem cfit_lp (h : HP) (t m : Nat) (m4 : m ≤ 4) (hm : hI h t 10 = nI m) : ∀ d k n, k + d = m → d < n → f_X11_fits_4 t n (fitS (fun i => ∀ j, j < 10 → fitAt (hI h (t + 15)) (hI h (t + 10) i ||| shl (hI h (t + 11) i) 5) j) k) (nI k) h = some (fitS (fun i => ∀ j, j < 10 → fitAt (hI h (t + 15)) (hI h (t + 10) i ||| shl (hI h (t + 11) i) 5) j) m, uI h 0 11 0)
  | d, k, 0, _, z => absurd z (by omega)
  | 0, k, n + 1, e, _ => by
    unfold f_X11_fits_4
    rw [if_pos (by rw [hm, nI_leI (by omega) (by omega)]; omega), ans_e, bd2_s, show k = m by omega]
  | d + 1, k, n + 1, e, z => by
    have key := cfit_lp h t m m4 hm d (k + 1) n (by omega) (by omega)
    unfold f_X11_fits_4 f_X5_ruleFits
    rw [if_neg (by rw [hm, nI_leI (by omega) (by omega)]; omega), gdi_nI (by omega) (by decide), bd2_s, nI_clamp (by omega)]
    simp only [ltv_e, nI_1]
    rw [fitS] at key
    by_cases q : cIf (∀ j, j < 10 → fitAt (hI h (t + 15)) (hI h (t + 10) k ||| shl (hI h (t + 11) k) 5) j) = 0
    · rw [if_pos q]; rw [if_pos q] at key; exact key
    · rw [if_neg q]; rw [if_neg q] at key; exact key
theorem mfit_in (h : HP) (K : Int32 → Int32 → HP → Option (Int32 × HP)) (l : Int32) {r : Nat} (hr : r < 4) {b s : Nat} (hb : b < 32) (hs : s < 32) (eb : hI h 114 (12 + 2 * r) = nI b) (es : hI h 114 (13 + 2 * r) = nI s) (S : Nat → Int32) (hS : ∀ k, k < 10 → hI h 114 (32 + k) = S k) :
    ∀ d k n, k + d = 10 → d < n → f_X12_fits_19 K n l (nI r) (cIf (∀ j, j < k → fitAt S (nI b ||| shl (nI s) 5) j)) (nI k) h = K (l ||| (if cIf (∀ j, j < 10 → fitAt S (nI b ||| shl (nI s) 5) j) = 0 then 0 else ((1 : Int32) <<< (nI r &&& 31)))) (nI (r + 1)) h
  | d, k, 0, _, z => absurd z (by omega)
  | 0, k, n + 1, e, _ => by
    unfold f_X12_fits_19
    rw [if_pos ((ge10 (by omega)).mpr (by omega)), show k = 10 by omega]
    simp only [ltv_e, nI_1]
    by_cases q : cIf (∀ j, j < 10 → fitAt S (nI b ||| shl (nI s) 5) j) = 0
    · rw [if_pos q, if_pos q]
    · rw [if_neg q, if_neg q]
  | d + 1, k, n + 1, e, z => by
    have key := mfit_in h K l hr hb hs eb es S hS d (k + 1) n (by omega) (by omega)
    obtain ⟨d5, r5⟩ := k5 (k := k) (by omega)
    have hset : hI h 114 (12 + 2 * r + k / 5) = nI (if k < 5 then b else s) := by
      by_cases h5 : k < 5
      · rw [if_pos h5, show k / 5 = 0 by omega, Nat.add_zero, eb]
      · rw [if_neg h5, show 12 + 2 * r + k / 5 = 13 + 2 * r by omega, es]
    have hbit : (hI h 114 (12 + 2 * r + k / 5) >>> (nI (k % 5) &&& 31)) &&& 1 = shr (nI b ||| shl (nI s) 5) (nI k) &&& 1 := by
      unfold shr
      rw [hset, shr1 (by omega), shr1 (by omega), sets_b hb hs (by omega)]
      by_cases h5 : k < 5
      · rw [if_pos h5, if_pos h5, show k % 5 = k by omega]
      · rw [if_neg h5, if_neg h5, show k % 5 = k - 5 by omega]
    unfold f_X12_fits_19
    rw [if_neg (by rw [ge10 (by omega)]; omega), d5, r5, show (12 : Int32) = nI 12 from rfl, (idx2 (i := r) (by omega) 12 (by omega)).2.2, nI_add, gdi_nI (by omega) (by decide), nI_clamp (by omega), hbit]
    simp only [ltv_e, nI_1]
    have split : (∀ j, j < k + 1 → fitAt S (nI b ||| shl (nI s) 5) j) ↔ ((∀ j, j < k → fitAt S (nI b ||| shl (nI s) 5) j) ∧ fitAt S (nI b ||| shl (nI s) 5) k) :=
      ⟨fun q => ⟨fun j hj => q j (by omega), q k (by omega)⟩, fun q j hj => by
        by_cases e : j = k
        · rw [e]; exact q.2
        · exact q.1 j (by omega)⟩
    rw [cIf_c split] at key
    by_cases q : ∀ j, j < k → fitAt S (nI b ||| shl (nI s) 5) j
    · rw [cIf_t q, if_neg (by decide), i32p, gdi_nI (by omega) (by decide), nI_clamp (by omega), hS k (by omega)]
      by_cases q2 : fitAt S (nI b ||| shl (nI s) 5) k
      · rw [cIf_t ⟨q, q2⟩] at key
        unfold fitAt shl at q2
        unfold shl
        rw [if_pos q2]; exact key
      · rw [cIf_f (fun p => q2 p.2)] at key
        unfold fitAt shl at q2
        unfold shl
        rw [if_neg q2]; exact key
    · rw [cIf_f q, if_pos rfl]
      rw [cIf_f (fun p => q p.1)] at key; exact key
theorem mfit_lp (h : HP) (m : Nat) (m4 : m ≤ 4) (hm : hI h 114 5 = nI m) (S B T : Nat → Int32) (hS : ∀ k, k < 10 → hI h 114 (32 + k) = S k) (hB : ∀ i, i < m → hI h 114 (12 + 2 * i) = B i ∧ hI h 114 (13 + 2 * i) = T i ∧ (∃ n, n < 32 ∧ B i = nI n) ∧ ∃ n, n < 32 ∧ T i = nI n) : ∀ d k n, k + d = m → d < n →
    f_X12_fits_4 n (fitS (fun i => ∀ j, j < 10 → fitAt S (B i ||| shl (T i) 5) j) k) (nI k) h = some (fitS (fun i => ∀ j, j < 10 → fitAt S (B i ||| shl (T i) 5) j) m, uI h 113 2 0)
  | d, k, 0, _, z => absurd z (by omega)
  | 0, k, n + 1, e, _ => by
    unfold f_X12_fits_4
    rw [if_pos (by rw [hm, nI_leI (by omega) (by omega)]; omega), giv_e, bd2_s, show k = m by omega]
  | d + 1, k, n + 1, e, z => by
    have key := mfit_lp h m m4 hm S B T hS hB d (k + 1) n (by omega) (by omega)
    obtain ⟨e1, e2, ⟨b, hb, eb⟩, s, hs, es⟩ := hB k (by omega)
    have inn := mfit_in h (f_X12_fits_4 n) (fitS (fun i => ∀ j, j < 10 → fitAt S (B i ||| shl (T i) 5) j) k) (r := k) (by omega) hb hs (e1.trans eb) (e2.trans es) S hS 10 0 FU (by omega) (FU_gt (by omega))
    rw [cIf_t (fun j hj => absurd hj (by omega))] at inn
    unfold f_X12_fits_4
    rw [if_neg (by rw [hm, nI_leI (by omega) (by omega)]; omega)]
    rw [← eb, ← es] at inn
    refine inn.trans ?_
    rw [fitS] at key; exact key
theorem fitS_c {P Q : Nat → Prop} : ∀ {m : Nat}, (∀ i, i < m → (P i ↔ Q i)) → fitS P m = fitS Q m
  | 0, _ => rfl
  | k + 1, h => by rw [fitS, fitS, fitS_c (fun i hi => h i (by omega)), cIf_c (h k (by omega))]
theorem op_fits {h : HP} {t u : Nat} (I : Inv h t u) : Op t u (f_X11_fits h t) (fun g => f_X12_fits g) := by
  obtain ⟨w, r, m, c, -, qR, qS, -⟩ := I.tn
  obtain ⟨⟨m1, m2, m3⟩, -, -, p4, -, p6, -⟩ := qR.n
  refine op_st I (v := 0) (r := fitS (fun i => ∀ j, j < 10 → fitAt (hI h (t + 15)) (hI h (t + 10) i ||| shl (hI h (t + 11) i) 5) j) m) ?_ ?_
  · unfold f_X11_fits
    exact cfit_lp h t m m1 m3 m 0 FU (by omega) (FU_gt (by omega))
  · unfold f_X12_fits
    exact mfit_lp (uI h 0 11 0) m m1 (by rw [hI_st h 0 (by decide)]; exact m2) (hI h (t + 15)) (hI h (t + 10)) (hI h (t + 11)) (fun k hk => by rw [hI_st h 0 (by decide), (qS.n.2 k hk).1]) (fun i hi => by
      rw [hI_st h 0 (by decide), hI_st h 0 (by decide), (p4 i hi).1, (p4 i hi).2.1]
      exact ⟨rfl, rfl, p6 i hi⟩) m 0 FU (by omega) (FU_gt (by omega))
theorem mmir_in (h : HP) (K : Int32 → Int32 → HP → Option (Int32 × HP)) {w y : Nat} (w5 : w ≤ 5) (y6 : y < 6) (hw : hI h 114 0 = nI w) (f : Nat → Int32) (hf : f 0 = nI w) (p row : Int32) (hrow : rowF f p (nI y) = row) (A : Prop) : ∀ d k n, k + d = w → d < n →
    f_X12_mirror_29 K n (cIf (A ∧ ∀ x, x < k → mirAt f p y x)) (nI y) row (nI k) h = K (cIf (A ∧ ∀ x, x < w → mirAt f p y x)) (nI (y + 1)) h
  | d, k, 0, _, z => absurd z (by omega)
  | 0, k, n + 1, e, _ => by
    unfold f_X12_mirror_29
    rw [if_pos (by rw [hw, nI_leI (by omega) (by omega)]; omega), show k = w by omega]
    simp only [ltv_e, nI_1]
  | d + 1, k, n + 1, e, z => by
    have key := mmir_in h K w5 y6 hw f hf p row hrow A d (k + 1) n (by omega) (by omega)
    have split : (A ∧ ∀ x, x < k + 1 → mirAt f p y x) ↔ ((A ∧ ∀ x, x < k → mirAt f p y x) ∧ mirAt f p y k) :=
      ⟨fun q => ⟨⟨q.1, fun j hj => q.2 j (by omega)⟩, q.2 k (by omega)⟩, fun q => ⟨q.1.1, fun j hj => by
        by_cases e : j = k
        · rw [e]; exact q.2
        · exact q.1.2 j (by omega)⟩⟩
    rw [cIf_c split] at key
    unfold f_X12_mirror_29
    rw [if_neg (by rw [hw, nI_leI (by omega) (by omega)]; omega)]
    simp only [ltv_e, nI_1]
    by_cases q : A ∧ ∀ x, x < k → mirAt f p y x
    · rw [cIf_t q, if_neg (by decide), hw]
      by_cases q2 : mirAt f p y k
      · rw [cIf_t ⟨q, q2⟩] at key
        unfold mirAt shr at q2
        rw [hrow, hf] at q2
        rw [if_pos q2]; exact key
      · rw [cIf_f (fun p => q2 p.2)] at key
        unfold mirAt shr at q2
        rw [hrow, hf] at q2
        rw [if_neg q2]; exact key
    · rw [cIf_f q, if_pos rfl]
      rw [cIf_f (fun p => q p.1)] at key; exact key
theorem mmir_lp (h : HP) {w r : Nat} (w5 : w ≤ 5) (r6 : r ≤ 6) (hw : hI h 114 0 = nI w) (hr : hI h 114 1 = nI r) (f : Nat → Int32) (hf : f 0 = nI w) (p : Int32) (hp : hI h 114 3 = p) : ∀ d k n, k + d = r → d < n →
    f_X12_mirror_4 n (cIf (∀ y, y < k → ∀ x, x < w → mirAt f p y x)) (nI k) h = some (cIf (∀ y, y < r → ∀ x, x < w → mirAt f p y x), uI h 113 2 0)
  | d, k, 0, _, z => absurd z (by omega)
  | 0, k, n + 1, e, _ => by
    unfold f_X12_mirror_4
    rw [if_pos (by rw [hr, nI_leI (by omega) (by omega)]; omega), show k = r by omega]
    by_cases q : ∀ y, y < r → ∀ x, x < w → mirAt f p y x
    · rw [cIf_t q, if_neg (by decide)]; rfl
    · rw [cIf_f q, if_pos rfl]; rfl
  | d + 1, k, n + 1, e, z => by
    have key := mmir_lp h w5 r6 hw hr f hf p hp d (k + 1) n (by omega) (by omega)
    unfold f_X12_mirror_4
    rw [if_neg (by rw [hr, nI_leI (by omega) (by omega)]; omega), rowM_e hw, bd2_s, hp]
    have inn := mmir_in h (f_X12_mirror_4 n) (y := k) w5 (by omega) hw f hf p _ (rowF_e hf p (nI k)) (∀ y, y < k → ∀ x, x < w → mirAt f p y x) w 0 FU (by omega) (FU_gt (by omega))
    rw [cIf_c (show ((∀ y, y < k → ∀ x, x < w → mirAt f p y x) ∧ ∀ x, x < 0 → mirAt f p k x) ↔ (∀ y, y < k → ∀ x, x < w → mirAt f p y x) from ⟨fun q => q.1, fun q => ⟨q, fun x hx => absurd hx (by omega)⟩⟩)] at inn
    refine inn.trans ?_
    rw [cIf_c (show ((∀ y, y < k → ∀ x, x < w → mirAt f p y x) ∧ ∀ x, x < w → mirAt f p k x) ↔ (∀ y, y < k + 1 → ∀ x, x < w → mirAt f p y x) from ⟨fun q y hy => by
      by_cases e : y = k
      · rw [e]; exact q.2
      · exact q.1 y (by omega), fun q => ⟨fun y hy => q y (by omega), q k (by omega)⟩⟩)]
    exact key
theorem op_mirror {h : HP} {t u : Nat} (I : Inv h t u) : Op t u (f_X11_mirror h t) (fun g => f_X12_mirror g) := by
  obtain ⟨w, r, m, c, qH, -⟩ := I.tn
  obtain ⟨⟨w1, w5, hw, hw'⟩, ⟨r1, r6, hr, hr'⟩, -, -, ⟨h4, h5⟩, -⟩ := qH.n
  have e : (∀ y x, y < (hI h (t + 1) 1).toNatClampNeg → x < (hI h (t + 1) 0).toNatClampNeg → mirAt (hI h (t + 1)) (hI h t 13) y x) ↔ (∀ y, y < r → ∀ x, x < w → mirAt (hI h (t + 1)) (hI h 114 3) y x) := by
    rw [hw', hr', nI_clamp (by omega), nI_clamp (by omega), h5]
    exact ⟨fun q y hy x hx => q y x hy hx, fun q y x hy hx => q y hy x hx⟩
  refine op_st I (v := 0) (r := cIf (∀ y, y < r → ∀ x, x < w → mirAt (hI h (t + 1)) (hI h 114 3) y x)) ?_ ?_
  · unfold f_X11_mirror f_X1_isMirror
    rw [hw', gdi_nI (by omega) (by decide), hr', gdi_nI (by omega) (by decide), bd2_s, ← hw', ← hr', cIf_c e]
    by_cases q : ∀ y, y < r → ∀ x, x < w → mirAt (hI h (t + 1)) (hI h 114 3) y x
    · rw [cIf_t q, if_neg (by decide)]; rfl
    · rw [cIf_f q, if_pos rfl]; rfl
  · unfold f_X12_mirror
    have key := mmir_lp (uI h 0 11 0) w5 r6 (by rw [hI_st h 0 (by decide)]; exact hw) (by rw [hI_st h 0 (by decide)]; exact hr) (hI h (t + 1)) hw' (hI h 114 3) (hI_st h 0 (by decide) 3) r 0 FU (by omega) (FU_gt (by omega))
    rw [cIf_t (fun y hy => absurd hy (by omega))] at key
    exact key
