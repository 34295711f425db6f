/-! ===== alike: the reference's copies ===== -/
theorem cpM1_lp {G : HP} {a c : Nat} (ha : a < 6) (hc : c < 6) (ne : a ≠ c) : ∀ d k n, k + d = 410 → d < n →
    f_X12_copies_2 n (nI a) (nI c) (nI k) (rI G 114 (rowI (hI G 114) (fun i => hI G 114 (410 * a + i)) (410 * c) k)) = f_X12_copies_41 FU (nI a) (nI c) 0 (rI G 114 (rowI (hI G 114) (fun i => hI G 114 (410 * a + i)) (410 * c) 410))
  | d, k, 0, _, z => absurd z (by omega)
  | 0, k, n + 1, e, _ => by
    unfold f_X12_copies_2
    rw [if_pos (by rw [show (410 : Int32) = nI 410 from rfl, nI_leI (by omega) (by omega)]; omega), show k = 410 by omega]
  | d + 1, k, n + 1, e, z => by
    have key := cpM1_lp ha hc ne (G := G) d (k + 1) n (by omega) (by omega)
    have ea : ((410 : Int32) * nI a) + nI k = nI (410 * a + k) := by rw [show (410 : Int32) = nI 410 from rfl, nI_mul, nI_add]
    have ec : ((410 : Int32) * nI c) + nI k = nI (410 * c + k) := by rw [show (410 : Int32) = nI 410 from rfl, nI_mul, nI_add]
    unfold f_X12_copies_2
    rw [if_neg (by rw [show (410 : Int32) = nI 410 from rfl, nI_leI (by omega) (by omega)]; omega), ea, ec, gdi_nI (by omega) (by decide), gdi_nI (by omega) (by decide), nI_clamp (by omega), nI_clamp (by omega), hI_rI_s]
    simp only [ltv_e, nI_1]
    have e1 : rowI (hI G 114) (fun i => hI G 114 (410 * a + i)) (410 * c) k (410 * a + k) = hI G 114 (410 * a + k) := by
      unfold rowI; rw [if_neg (by omega)]
    rw [e1, uI_row G 114 (hI G 114) (fun i => hI G 114 (410 * a + i)) (410 * c) k]
    exact key
theorem cpM2_lp {G : HP} {a c : Nat} (ha : a < 6) (hc : c < 6) (ne : a ≠ c) : ∀ d k n, k + d = 10 → d < n →
    f_X12_copies_41 n (nI a) (nI c) (nI k) (rL G 115 (rowL (hL G 115) (fun i => hL G 115 (10 * a + i)) (10 * c) k)) = some (rL G 115 (rowL (hL G 115) (fun i => hL G 115 (10 * a + i)) (10 * c) 10))
  | d, k, 0, _, z => absurd z (by omega)
  | 0, k, n + 1, e, _ => by
    unfold f_X12_copies_41
    rw [if_pos (by rw [show (10 : Int32) = nI 10 from rfl, nI_leI (by omega) (by omega)]; omega), show k = 10 by omega]
  | d + 1, k, n + 1, e, z => by
    have key := cpM2_lp ha hc ne (G := G) d (k + 1) n (by omega) (by omega)
    have ea : ((10 : Int32) * nI a) + nI k = nI (10 * a + k) := by rw [show (10 : Int32) = nI 10 from rfl, nI_mul, nI_add]
    have ec : ((10 : Int32) * nI c) + nI k = nI (10 * c + k) := by rw [show (10 : Int32) = nI 10 from rfl, nI_mul, nI_add]
    unfold f_X12_copies_41
    rw [if_neg (by rw [show (10 : Int32) = nI 10 from rfl, nI_leI (by omega) (by omega)]; omega), ea, ec, gdi_nI (by omega) (by decide), gdi_nI (by omega) (by decide), nI_clamp (by omega), nI_clamp (by omega), hL_rL_s]
    simp only [ltv_e, nI_1]
    have e1 : rowL (hL G 115) (fun i => hL G 115 (10 * a + i)) (10 * c) k (10 * a + k) = hL G 115 (10 * a + k) := by
      unfold rowL; rw [if_neg (by omega)]
    rw [e1, uL_row G 115 (hL G 115) (fun i => hL G 115 (10 * a + i)) (10 * c) k]
    exact key
/-- block c is block a -/
def cpM (G : HP) (a c : Nat) : HP := rL (rI G 114 (rowI (hI G 114) (fun i => hI G 114 (410 * a + i)) (410 * c) 410)) 115 (rowL (hL G 115) (fun i => hL G 115 (10 * a + i)) (10 * c) 10)
theorem cpM_e (G : HP) {a c : Nat} (ha : a < 6) (hc : c < 6) (ne : a ≠ c) : f_X12_copies G (nI a) (nI c) = some (cpM G a c) := by
  have k1 := cpM1_lp ha hc ne (G := G) 410 0 FU (by omega) (FU_gt (by decide))
  rw [rowI_0, rI_self] at k1
  have k2 := cpM2_lp ha hc ne (G := rI G 114 (rowI (hI G 114) (fun i => hI G 114 (410 * a + i)) (410 * c) 410)) 10 0 FU (by omega) (FU_gt (by decide))
  have r0 : ∀ (H : HP) (g : Nat → Int64), rL H 115 (rowL (hL H 115) g (10 * c) 0) = H := fun H g => by
    refine HP_ext rfl rfl (funext fun b => ?_) rfl
    by_cases e : b = 115
    · subst e; rw [hL_rL_s]; funext j; unfold rowL; rw [if_neg (by omega)]
    · rw [hL_rL_n _ _ e]
  rw [r0] at k2
  unfold f_X12_copies
  exact k1.trans k2
theorem cpM_I (G : HP) (a c b : Nat) (hb : b ≠ 114) : hI (cpM G a c) b = hI G b := by unfold cpM; rw [hI_rL, hI_rI_n _ _ hb]
theorem cpM_4 (G : HP) (a c j : Nat) : hI (cpM G a c) 114 j = if 410 * c ≤ j ∧ j < 410 * c + 410 then hI G 114 (410 * a + (j - 410 * c)) else hI G 114 j := by
  unfold cpM; rw [hI_rL, hI_rI_s]; rfl
theorem cpM_5 (G : HP) (a c j : Nat) : hL (cpM G a c) 115 j = if 10 * c ≤ j ∧ j < 10 * c + 10 then hL G 115 (10 * a + (j - 10 * c)) else hL G 115 j := by
  unfold cpM; rw [hL_rL_s]; rfl
theorem cpM_L (G : HP) (a c b : Nat) (hb : b ≠ 115) : hL (cpM G a c) b = hL G b := by unfold cpM; rw [hL_rL_n _ _ hb]; rfl
