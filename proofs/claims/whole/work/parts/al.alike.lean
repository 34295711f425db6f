/-! ===== the first Inv ===== -/
theorem hC_L (g : Nat → Int32) : Lay (hC g) := by
  unfold hC
  refine hB_L.keep ?_ ?_
  · rw [rI_1, rI_1, rI_1, rI_1]
  · rw [hR_rI, hR_rI, hR_rI, hR_rI]
theorem hC_l (g : Nat → Int32) : hL (hC g) = hL hB := by
  unfold hC
  rw [hL_rI, hL_rI, hL_rI, hL_rI]
theorem hC_r (g : Nat → Int32) : hR (hC g) = hR hB := by
  unfold hC
  rw [hR_rI, hR_rI, hR_rI, hR_rI]
theorem hC_I (g : Nat → Int32) {b : Nat} (hb : b ≠ 114) : hI (hC g) b = hI hB b := by
  unfold hC
  rw [hI_rI_n _ _ hb, hI_rI_n _ _ hb, hI_rI_n _ _ hb, hI_rI_n _ _ hb]
theorem hC_114 {g : Nat → Int32} (hg : ∀ j, j < 410 → g j = plV j) {j : Nat} (hj : j < 410) : hI (hC g) 114 j = if j ≤ 2 then 1 else plV j := by
  unfold hC
  rw [hI_uI, hI_uI, hI_uI, hI_rI_s, hg j hj]
  by_cases q2 : j = 2
  · rw [if_pos ⟨rfl, q2⟩, if_pos (by omega)]
  · rw [if_neg (fun z => q2 z.2)]
    by_cases q1 : j = 1
    · rw [if_pos ⟨rfl, q1⟩, if_pos (by omega)]
    · rw [if_neg (fun z => q1 z.2)]
      by_cases q0 : j = 0
      · rw [if_pos ⟨rfl, q0⟩, if_pos (by omega)]
      · rw [if_neg (fun z => q0 z.2), if_neg (by omega)]
theorem hB_mk : (∀ k, k < 3 → hR hB 13 k = 14 + 17 * k) ∧ hR hB 0 8 = 79 ∧ hR hB 0 9 = 96 := by decide +kernel
theorem hB_st : (hI hB 0 11 = hI hB 113 2 ∧ hL hB 0 12 = hL hB 113 3 ∧ hL hB 0 13 = hL hB 113 4) ∧ (∀ k, k < 4 → hI hB 3 k = 0 ∧ hI hB 116 k = 0 ∧ hI hB 4 k = -1 ∧ hI hB 117 k = -1) ∧ (∀ j, j < 240 → hL hB 2 j = hL hB 118 j) := by decide +kernel
theorem hB_tk : (hI hB 5 7 = 0 ∧ hI hB 113 10 = 0 ∧ hI hB 5 12 = hI hB 113 16 ∧ hI hB 5 13 = hI hB 113 17) ∧ hI hB 0 14 = 0 ∧ hI hB 113 37 = 0 ∧ hI hB 0 10 = 0 ∧ hI hB 113 38 = 0 := by decide +kernel
theorem hB_kw : ∀ k, k < 22 → hL hB 7 k = kwC k := by decide +kernel
theorem hB_tw : (hI hB 80 0 = 1 ∧ hI hB 80 1 = 1 ∧ hI hB 80 2 = 0 ∧ hI hB 80 3 = 1 ∧ hI hB 80 4 = 1 ∧ hI hB 80 5 = 1 ∧ hI hB 80 6 = 0 ∧ hI hB 80 7 = 1 ∧ hI hB 80 8 = 1) ∧ (hI hB 79 10 = 0 ∧ hI hB 79 11 = 0 ∧ hI hB 79 12 = 0 ∧ hI hB 79 13 = 0 ∧ hI hB 79 14 = 0 ∧ hI hB 79 15 = 0) ∧ (hI hB 82 5 = 0 ∧ hI hB 82 6 = 0) ∧ ∀ i, i < 10 → hI hB 94 i = 0 := by decide +kernel
theorem first_Inv {g : Nat → Int32} (hg : ∀ j, j < 410 → g j = plV j) : Inv (hC g) 79 96 := by
  have G := fun j hj => hC_114 hg (j := j) hj
  have I : ∀ b, b ≠ 114 → hI (hC g) b = hI hB b := fun b hb => hC_I g hb
  obtain ⟨m1, m2, m3⟩ := hB_mk
  obtain ⟨⟨s1, s2, s3⟩, s4, s5⟩ := hB_st
  obtain ⟨⟨k1, k2, k3, k4⟩, k5, k6, k7, k8⟩ := hB_tk
  obtain ⟨⟨a0, a1, a2, a3, a4, a5, a6, a7, a8⟩, ⟨b10, b11, b12, b13, b14, b15⟩, ⟨y5, y6⟩, ys⟩ := hB_tw
  refine ⟨⟨hC_L g, fun k hk => by rw [hC_r]; exact m1 k hk, ⟨Or.inr (Or.inr (Or.inr (Or.inl rfl))), Or.inr (Or.inr (Or.inr (Or.inr rfl))), Or.inl ⟨rfl, rfl⟩⟩, by rw [hC_r]; exact m2, by rw [hC_r]; exact m3⟩, ?_, ?_, ?_, ?_, ?_, ?_, ?_⟩
  · unfold Rst
    rw [hC_l, I 0 (by decide), I 113 (by decide)]
    exact ⟨s1, s2, s3⟩
  · unfold Rtr
    rw [hC_l, I 3 (by decide), I 116 (by decide), I 4 (by decide), I 117 (by decide)]
    refine ⟨fun k hk => ?_, s5⟩
    obtain ⟨c1, c2, c3, c4⟩ := s4 k hk
    rw [c1, c2, c3, c4]
    exact ⟨⟨rfl, rfl⟩, ⟨0, by decide, rfl⟩, Or.inl rfl⟩
  · unfold Rtk
    rw [I 5 (by decide), I 113 (by decide), k1, k2, k3, k4]
    exact ⟨⟨0, by decide, rfl, rfl, fun k hk => absurd hk (by omega)⟩, rfl, rfl⟩
  · unfold Rlv
    rw [I 0 (by decide), I 113 (by decide), k5, k6]
    exact ⟨⟨rfl, Or.inl rfl⟩, fun z => absurd z (by decide)⟩
  · unfold Rkw
    rw [hC_l]
    exact hB_kw
  · refine ⟨1, 1, 0, 0, ?_, ?_, ?_, ?_⟩
    · unfold RtH
      rw [G 0 (by decide), G (0 + 1) (by decide), G (0 + 2) (by decide), G (0 + 3) (by decide), G (0 + 4) (by decide), G (0 + 9) (by decide), I (79 + 1) (by decide), I 79 (by decide), a0, a1, a2, a3, a4, a5, a6, a7, a8, b13]
      decide +kernel
    · unfold RtR
      rw [G (0 + 5) (by decide), G (0 + 6) (by decide), G (0 + 10) (by decide), I 79 (by decide), b10, b11]
      exact ⟨⟨by decide, by decide, rfl⟩, ⟨by decide, by decide, rfl⟩, Or.inl ⟨rfl, by decide⟩, fun i hi => absurd hi (by omega), fun i hi => absurd hi (by omega), fun i hi => absurd hi (by omega), fun i hi => absurd hi (by omega)⟩
    · unfold RtS
      rw [G (0 + 7) (by decide), G (0 + 8) (by decide), I 79 (by decide), b14, b15]
      refine ⟨⟨by decide, by decide⟩, fun i hi => ?_⟩
      rw [G (0 + 32 + i) (by omega), I (79 + 15) (by decide), ys i hi, if_neg (by omega), show plV (0 + 32 + i) = 0 from if_neg (by omega)]
      exact ⟨rfl, 0, by decide, rfl⟩
    · unfold Ry
      rw [G (0 + 11) (by decide), I (79 + 3) (by decide), y5, y6]
      exact Or.inl ⟨rfl, rfl, by decide⟩
  · unfold Rmk
    rw [I 0 (by decide), I 113 (by decide), k7, k8]
    exact ⟨0, by decide, rfl, rfl, fun i hi => absurd hi (by omega)⟩
