/-! ===== alike: the lamps in a list ===== -/
theorem Sc.I74 {t : Nat} {h g : HP} (ht : t = 79 ∨ t = 96) (s : Sc t h g) (a k : Nat) (v : Int32) (ha : a = 73 ∨ a = 74) : Sc t h (uI g a k v) := ⟨s.1.I _ _ _ (by omega), s.2.I _ _ _ (by unfold relI inT; omega)⟩
theorem ll_lp {h : HP} {t : Nat} (ht : t = 79 ∨ t = 96) (F : Int32) : ∀ d k n g, k + d = 30 → d < n → Sc t h g → hI g 73 1 = nI (fb_ct (bt F) k) → (∀ i, i < k → bt F i = true → hI g 74 (fb_ct (bt F) i) = bitI i) →
    ∃ g', f_X8_listLamps_7 n F (nI k) g = some g' ∧ Sc t h g' ∧ hI g' 73 1 = nI (fb_ct (bt F) 30) ∧ ∀ i, i < 30 → bt F i = true → hI g' 74 (fb_ct (bt F) i) = bitI i
  | d, k, 0, g, _, z, _, _, _ => absurd z (by omega)
  | 0, k, n + 1, g, e, _, s, k1, k2 => by
    have e : k = 30 := by omega
    subst e
    unfold f_X8_listLamps_7
    rw [if_pos (by rw [show (30 : Int32) = nI 30 from rfl, nI_leI (by omega) (by omega)]; omega)]
    exact ⟨g, rfl, s, k1, k2⟩
  | d + 1, k, n + 1, g, e, z, s, k1, k2 => by
    unfold f_X8_listLamps_7
    have cl := fb_ct_le (bt F) k
    rw [if_neg (by rw [show (30 : Int32) = nI 30 from rfl, nI_leI (by omega) (by omega)]; omega)]
    cases q : bt F k
    · rw [if_pos ((and_bit (by omega)).mpr q)]
      simp only [ltv_e, nI_1]
      refine ll_lp ht F d (k + 1) n g (by omega) (by omega) s (by rw [k1, fb_ct_succ, q]; rfl) (fun i hi b => ?_)
      by_cases y : i = k
      · subst y; rw [q] at b; cases b
      · exact k2 i (by omega) b
    · rw [if_neg (fun y => by rw [(and_bit (by omega)).mp y] at q; cases q), k1, gdi_nI (by omega) (by decide), nI_clamp (by omega)]
      simp only [ltv_e, nI_1]
      rw [hI_uI_n (h := g) (a := 74) (b := 73) (by omega), k1, nI_1]
      refine ll_lp ht F d (k + 1) n _ (by omega) (by omega) ((s.I74 ht 74 _ _ (Or.inr rfl)).I74 ht 73 _ _ (Or.inl rfl)) (by rw [hI_uI_s, fb_ct_succ, q]; rfl) (fun i hi b => ?_)
      rw [hI_uI_n (by omega)]
      by_cases y : i = k
      · subst y; rw [hI_uI_s]
      · have lt : fb_ct (bt F) i < fb_ct (bt F) k := by
          have a := fb_ct_succ (bt F) i
          rw [b, if_pos rfl] at a
          have := fb_ct_mono (bt F) (show i + 1 ≤ k by omega)
          omega
        rw [hI_uI_n (by omega)]; exact k2 i (by omega) b
theorem ll_e {h g : HP} {t : Nat} (ht : t = 79 ∨ t = 96) (s : Sc t h g) (F : Int32) : ∃ g', f_X8_listLamps g F = some g' ∧ Sc t h g' ∧ hI g' 73 1 = nI (fb_ct (bt F) 30) ∧ ∀ i, i < 30 → bt F i = true → hI g' 74 (fb_ct (bt F) i) = bitI i := by
  unfold f_X8_listLamps
  simp only [ltv_e]
  exact ll_lp ht F 30 0 FU _ (by omega) (FU_gt (by decide)) (s.I74 ht 73 _ _ (Or.inl rfl)) (hI_uI_s _ _ _ _) (fun i hi => absurd hi (by omega))
/-- the k-th lamp of a set -/
theorem kth {F : Int32} {k : Nat} (hk : k < fb_ct (bt F) 30) : ∃ i, i < 30 ∧ bt F i = true ∧ fb_ct (bt F) i = k := fb_ct_kth hk
theorem ct_lt {F : Int32} {i j : Nat} (hi : bt F i = true) (hij : i < j) : fb_ct (bt F) i < fb_ct (bt F) j := by
  have a := fb_ct_succ (bt F) i
  rw [hi, if_pos rfl] at a
  have := fb_ct_mono (bt F) (show i + 1 ≤ j by omega)
  omega
theorem ct_le' {F : Int32} {i j : Nat} (hi : bt F i = true) (h : fb_ct (bt F) i < fb_ct (bt F) j) : i < j := by
  refine Classical.byContradiction (fun q => ?_)
  have := fb_ct_mono (bt F) (show j ≤ i by omega)
  omega
