/-! ===== the town is read whole ===== -/
theorem read_is {T : Nat → Int32} {L n : Nat} {u : Nat} (hu : u = 79 ∨ u = 96) {a b : HP} (k : RD T L n a b) : ∃ b', (bd1 (f_X12_plain b 1640) fun h6 => bd2 (f_X12_first h6) fun r9 h8 => f_X12_town_29 FU r9 h8) = f_X12_town_91 b' ∧ FW b b' ∧ CW u a (readTownF a u).2 ∧ (((readTownF a u).1 = 0 ∧ FT (readTownF a u).2 b') ∨ ((readTownF a u).1 = 1 ∧ RD T L n (readTownF a u).2 b' ∧ ∃ w r m c, 1 ≤ r ∧ TSt (readTownF a u).2 b' u w r m c)) := by
  obtain ⟨b1, e1, P1, W1, k1, _⟩ := plain_is k
  rw [e1, bd1_s]
  obtain ⟨b2, e2, W2, C2, A2⟩ := first_is hu k1 P1
  rw [e2, bd2_s]
  unfold readTownF
  rcases A2 with ⟨r2, k2⟩ | ⟨r2, k2, w, S2⟩
  · rw [r2, if_pos rfl, t29_0 (FU_gt (by decide))]
    exact ⟨b2, rfl, W1.trans W2, C2, Or.inl ⟨rfl, k2⟩⟩
  · rw [r2, if_neg (show ¬ (1 : Int32) = 0 by decide)]
    generalize (takeWideF a u).2 = a2 at C2 k2 S2 ⊢
    obtain ⟨b3, e3, W3, C3, A3⟩ := rows_is hu 7 0 FU a2 b2 (by decide) (FU_gt (by decide)) k2 S2
    rw [e3]
    rcases A3 with ⟨r3, k3⟩ | ⟨r3, k3, r, hr, S3⟩
    · rw [r3, if_pos rfl, if_pos rfl]
      exact ⟨b3, rfl, (W1.trans W2).trans W3, C2.trans C3, Or.inl ⟨rfl, k3⟩⟩
    · rw [r3, if_neg (show ¬ (1 : Int32) = 0 by decide), if_neg (show ¬ (1 : Int32) = 0 by decide)]
      generalize (rowsG 7 0 a2 u).2 = a3 at C3 k3 S3 ⊢
      obtain ⟨b4, e4, W4, C4, A4⟩ := parts_is hu 11 FU a3 b3 0 0 (by decide) (FU_gt (by decide)) (by decide) (by decide) k3 S3
      rw [e4]
      rcases A4 with ⟨r4, k4⟩ | ⟨r4, k4, m, c, S4⟩
      · rw [r4, if_pos rfl]
        exact ⟨b4, rfl, ((W1.trans W2).trans W3).trans W4, (C2.trans C3).trans C4, Or.inl ⟨rfl, k4⟩⟩
      · rw [r4, if_neg (show ¬ (1 : Int32) = 0 by decide)]
        exact ⟨b4, rfl, ((W1.trans W2).trans W3).trans W4, (C2.trans C3).trans C4, Or.inr ⟨rfl, k4, w, r, m, c, hr, S4⟩⟩
/-- the read town is the reference's new one -/
theorem TSt.Rt {a b : HP} {u w r m c : Nat} (hu : u = 79 ∨ u = 96) (S : TSt a b u w r m c) (hr : 1 ≤ r) : Rt (mx a b) u 1640 40 := by
  obtain ⟨H, ⟨P1, P2, ⟨p7, p8⟩, P4, P5, P6, P7, _⟩, ⟨⟨z1, z2, z3, z4, z5⟩, z6, z7, z8, z9⟩⟩ := S
  have lo : ∀ c, c < 113 → hI (mx a b) c = hI a c := fun c h => mxI_lo a b h
  have h4 : hI (mx a b) 114 = hI b 114 := mxI_hi a b (by decide)
  have h5 : hL (mx a b) 115 = hL b 115 := mxL_hi a b (by decide)
  refine ⟨w, r, m, c, ?_, ?_, ?_, ?_⟩
  · unfold RtH
    rw [lo u (by omega), lo (u + 1) (by omega), h4]
    obtain ⟨q1, ⟨q2, q3, q4⟩, q5, q6, q7, q8, q9⟩ := H
    exact ⟨q1, ⟨hr, q2, q3, q4⟩, q5, q6, q7, q8, q9⟩
  · unfold RtR
    rw [lo u (by omega), lo (u + 10) (by omega), lo (u + 11) (by omega), lo (u + 13) (by omega), lo (u + 14) (by omega), h4, h5, mxL_lo a b (show u + 9 < 113 by omega)]
    refine ⟨P1, P2, ?_, fun i hi => P4 i hi, fun i hi => ⟨(P5 i hi).1, (P5 i hi).2.1, trivial⟩, fun i hi => P6 i hi, fun i hi => P7 i hi⟩
    rcases p8 with ⟨y1, y2⟩ | ⟨y1, y2⟩
    · exact Or.inl ⟨y1, y2⟩
    · exact Or.inr ⟨0, y1, y2, p7⟩
  · unfold RtS
    rw [lo u (by omega), lo (u + 15) (by omega), h4]
    exact ⟨⟨z1.trans z6.symm, z2.trans z7.symm⟩, fun i hi => ⟨(z5 i hi).trans (z9 i hi).symm, 0, by decide, z9 i hi⟩⟩
  · unfold Ry
    rw [lo (u + 3) (by omega), h4]
    exact Or.inl ⟨z3, z4, z8⟩
/-- the copying into the town's own place -/
theorem cp100 : ∀ d k f (b : HP), k + d = 410 → d < f → ∃ b', f_X12_town_100 f (nI k) b = f_X12_town_131 FU 0 b' ∧ SR b b' ∧ (∀ c, c ≠ 114 → hI b' c = hI b c) ∧ hL b' = hL b ∧ (∀ j, ¬ (k ≤ j ∧ j < 410) → hI b' 114 j = hI b 114 j) ∧ ∀ j, k ≤ j → j < 410 → hI b' 114 j = hI b 114 (1640 + j)
  | d, k, 0, b, _, hf => absurd hf (by omega)
  | 0, k, f + 1, b, hd, _ => by
    unfold f_X12_town_100
    rw [show k = 410 by omega, if_pos (show (410 : Int32) ≤ nI 410 from Int32.le_refl _)]
    exact ⟨b, rfl, SR.refl b, fun _ _ => rfl, rfl, fun _ _ => rfl, fun j h1 h2 => absurd h2 (by omega)⟩
  | d + 1, k, f + 1, b, hd, hf => by
    unfold f_X12_town_100
    rw [if_neg (show ¬ (410 : Int32) ≤ nI k from fun z => by have := (nI_leI (a := 410) (by omega) (by omega)).mp z; omega), show (1640 : Int32) + nI k = nI (1640 + k) from nI_add 1640 k, gdi_nI (by omega) (by decide), gdi_nI (by omega) (by decide), ltv_e, ltv_e, nI_1, nI_clamp (by omega), nI_clamp (by omega)]
    obtain ⟨b', e1, e2, e3, e4, e5, e6⟩ := cp100 d (k + 1) f (uI b 114 k (hI b 114 (1640 + k))) (by omega) (by omega)
    refine ⟨b', e1, ⟨e2.1, e2.2⟩, fun c hc => by rw [e3 c hc, hI_uI_n' hc], e4, fun j hj => ?_, fun j h1 h2 => ?_⟩
    · rw [e5 j (by omega), hI_uI_n (by omega)]
    · by_cases y : j = k
      · rw [y, e5 k (by omega), hI_uI_s]
      · rw [e6 j (by omega) h2, hI_uI_n (by omega)]
theorem cp131 : ∀ d k f (b : HP), k + d = 10 → d < f → ∃ b', f_X12_town_131 f (nI k) b = (bd2 (f_X12_bits b' (hI b' 114 2)) fun r46 h45 => bd2 (f_X12_taken h45 r46) fun r49 h48 => some (r49, h48)) ∧ SR b b' ∧ hI b' = hI b ∧ (∀ c, c ≠ 115 → hL b' c = hL b c) ∧ (∀ j, ¬ (k ≤ j ∧ j < 10) → hL b' 115 j = hL b 115 j) ∧ ∀ j, k ≤ j → j < 10 → hL b' 115 j = hL b 115 (40 + j)
  | d, k, 0, b, _, hf => absurd hf (by omega)
  | 0, k, f + 1, b, hd, _ => by
    unfold f_X12_town_131
    rw [show k = 10 by omega, if_pos (show (10 : Int32) ≤ nI 10 from Int32.le_refl _)]
    exact ⟨b, rfl, SR.refl b, rfl, fun _ _ => rfl, fun _ _ => rfl, fun j h1 h2 => absurd h2 (by omega)⟩
  | d + 1, k, f + 1, b, hd, hf => by
    unfold f_X12_town_131
    rw [if_neg (show ¬ (10 : Int32) ≤ nI k from fun z => by have := (nI_leI (a := 10) (by omega) (by omega)).mp z; omega), show (40 : Int32) + nI k = nI (40 + k) from nI_add 40 k, gdi_nI (by omega) (by decide), gdi_nI (by omega) (by decide), ltv_e, ltv_e, nI_1, nI_clamp (by omega), nI_clamp (by omega)]
    obtain ⟨b', e1, e2, e3, e4, e5, e6⟩ := cp131 d (k + 1) f (uL b 115 k (hL b 115 (40 + k))) (by omega) (by omega)
    refine ⟨b', e1, ⟨e2.1, e2.2⟩, e3, fun c hc => (e4 c hc).trans (funext fun q => hL_uL_n (by omega)), fun j hj => ?_, fun j h1 h2 => ?_⟩
    · rw [e5 j (by omega), hL_uL_n (by omega)]
    · by_cases y : j = k
      · rw [y, e5 k (by omega), hL_uL_s]
      · rw [e6 j (by omega) h2, hL_uL_n (by omega)]
/-- the reference ends with a fault -/
theorem t91_f {a b : HP} (F : FT a b) : ∃ b', f_X12_town_91 b = some (-1, b') ∧ b' = uI (uI b 113 16 (hI b 113 18)) 113 2 9 := by
  obtain ⟨e, h1, h7, e1, _⟩ := F
  unfold f_X12_town_91
  rw [if_neg (by rw [e1]; intro z; have := nI_inj (b := 0) (by omega) (by omega) z; omega), bits_e, bd2_s]
  unfold f_X12_taken
  rw [ltv_e, hI_uI_n (by decide), if_neg (by rw [e1]; intro z; have := (nI_leI (b := 0) (by omega) (by omega)).mp z; omega)]
  unfold f_X12_refuse
  rw [ltv_e, bd2_s, bd2_s]
  exact ⟨_, rfl, rfl⟩
theorem t91_t {b : HP} (h18 : hI b 113 18 = 0) : ∃ b', f_X12_town_91 b = some (nI (pc (hI b 114 1642)), b') ∧ SR b b' ∧ (∀ c, c ≠ 114 → c ≠ 113 → hI b' c = hI b c) ∧ (∀ j, j ≠ 2 → j ≠ 16 → hI b' 113 j = hI b 113 j) ∧ hI b' 113 2 = 0 ∧ hI b' 113 16 = 0 ∧ (∀ c, c ≠ 115 → hL b' c = hL b c) ∧ (∀ j, 410 ≤ j → hI b' 114 j = hI b 114 j) ∧ (∀ j, j < 410 → hI b' 114 j = hI b 114 (1640 + j)) ∧ (∀ j, 10 ≤ j → hL b' 115 j = hL b 115 j) ∧ ∀ j, j < 10 → hL b' 115 j = hL b 115 (40 + j) := by
  unfold f_X12_town_91
  rw [if_pos h18]
  obtain ⟨b1, e1, s1, i1, l1, o1, n1⟩ := cp100 410 0 FU b (by decide) (FU_gt (by decide))
  rw [show f_X12_town_100 FU 0 b = _ from e1]
  obtain ⟨b2, e2, s2, i2, l2, o2, n2⟩ := cp131 10 0 FU b1 (by decide) (FU_gt (by decide))
  rw [show f_X12_town_131 FU 0 b1 = _ from e2, bits_e, bd2_s, i2, n1 2 (by decide) (by decide)]
  unfold f_X12_taken
  rw [ltv_e, hI_uI_n (by decide), i2, i1 113 (by decide), h18, if_pos (Int32.le_refl _)]
  unfold f_X12_gives
  rw [ltv_e, bd2_s, bd2_s]
  refine ⟨_, rfl, ⟨(s1.trans s2).1, (s1.trans s2).2⟩, fun c h4 h3 => ?_, fun j h2 h16 => ?_, ?_, ?_, fun c hc => ?_, fun j hj => ?_, fun j hj => ?_, fun j hj => ?_, fun j hj => ?_⟩
  · rw [hI_uI_n' h3, hI_uI_n' h3, i2, i1 c h4]
  · rw [hI_uI_n (by omega), hI_uI_n (by omega), i2, i1 113 (by decide)]
  · rw [hI_uI_s]
  · rw [hI_uI_n (by decide), hI_uI_s]
  · rw [hL_uI, hL_uI, l2 c hc, l1]
  · rw [hI_uI_n (by omega), hI_uI_n (by omega), i2, o1 j (by omega)]
  · rw [hI_uI_n (by omega), hI_uI_n (by omega), i2, n1 j (Nat.zero_le _) hj]
  · rw [hL_uI, hL_uI, o2 j (by omega), l1]
  · rw [hL_uI, hL_uI, n2 j (Nat.zero_le _) hj, l1]
