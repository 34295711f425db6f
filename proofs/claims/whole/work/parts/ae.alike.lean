/-! ===== year ===== -/
theorem yearCp_I (h : HP) (y o e c : Nat) (hc : ¬ (y ≤ c ∧ c ≤ y + 5)) : hI (yearCp h y o e) c = hI h c := by
  unfold yearCp
  rw [hI_rI_n _ _ (by omega), hI_rI_n _ _ (by omega), hI_rI_n _ _ (by omega), hI_rI_n _ _ (by omega), hI_rI_n _ _ (by omega), hI_rI_n _ _ (by omega)]
theorem yearCp_y (h : HP) (y o e : Nat) : hI (yearCp h y o e) y 5 = hI h o 5 ∧ hI (yearCp h y o e) y 6 = nI e ∧ hI (yearCp h y o e) y 7 = hI h o 7 := by
  unfold yearCp
  rw [hI_rI_n _ _ (by omega), hI_rI_n _ _ (by omega), hI_rI_n _ _ (by omega), hI_rI_n _ _ (by omega), hI_rI_n _ _ (by omega), hI_rI_s]
  exact ⟨rfl, rfl, rfl⟩
theorem yearCp_k (h : HP) (y o e : Nat) {a k : Nat} (h1 : 1 ≤ a) (h5 : a ≤ 5) (hk : k < e) : hI (yearCp h y o e) (y + a) k = hI h (o + a) k := by
  unfold yearCp
  have cp : ∀ (f g : Nat → Int32), cpy f g e k = f k := fun f g => if_pos hk
  rcases (show a = 1 ∨ a = 2 ∨ a = 3 ∨ a = 4 ∨ a = 5 by omega) with rfl | rfl | rfl | rfl | rfl
  · rw [hI_rI_n _ _ (by omega), hI_rI_n _ _ (by omega), hI_rI_n _ _ (by omega), hI_rI_n _ _ (by omega), hI_rI_s, cp]
  · rw [hI_rI_n _ _ (by omega), hI_rI_n _ _ (by omega), hI_rI_n _ _ (by omega), hI_rI_s, cp]
  · rw [hI_rI_n _ _ (by omega), hI_rI_n _ _ (by omega), hI_rI_s, cp]
  · rw [hI_rI_n _ _ (by omega), hI_rI_s, cp]
  · rw [hI_rI_s, cp]
/-- a reading leaves as it was: all but the two towns -/
theorem year_parts {h h2 : HP} {t u : Nat} (I : Inv h t u) (e : hI h2 0 11 = hI h2 113 2)
    (g1 : ∀ c, c < 113 → c ≠ 0 → c ≠ 5 → ¬ (8 ≤ c ∧ c ≤ 11) → c < 79 → hI h2 c = hI h c) (g0 : ∀ j, j ≠ 11 → hI h2 0 j = hI h 0 j) (gL : ∀ c, c ≠ 12 → c ≠ 115 → ¬ (79 ≤ c ∧ c < 113) → hL h2 c = hL h c) (g3 : ∀ c, 115 ≤ c → c ≠ 120 → c ≠ 121 → hI h2 c = hI h c) (g4 : ∀ j, j ≠ 2 → ¬ (10 ≤ j ∧ j ≤ 22) → hI h2 113 j = hI h 113 j) (g5 : ∀ j, 410 ≤ j → j < 1640 → hI h2 114 j = hI h 114 j) (g6 : ∀ j, 10 ≤ j → j < 40 → hL h2 115 j = hL h 115 j) : Rst h2 ∧ Rtr h2 ∧ Rlv h2 ∧ Rkw h2 ∧ Rmk h2 := by
  obtain ⟨_, i6, i7, i8, i9, i10, i11, i12⟩ := I
  refine ⟨⟨e, ?_, ?_⟩, ⟨fun k hk => ?_, fun j hj => ?_⟩, ?_, ?_, ?_⟩
  · rw [gL 0 (by omega) (by omega) (by omega), gL 113 (by omega) (by omega) (by omega)]; exact i6.2.1
  · rw [gL 0 (by omega) (by omega) (by omega), gL 113 (by omega) (by omega) (by omega)]; exact i6.2.2
  · rw [g1 3 (by omega) (by omega) (by omega) (by omega) (by omega), g1 4 (by omega) (by omega) (by omega) (by omega) (by omega), g3 116 (by omega) (by omega) (by omega), g3 117 (by omega) (by omega) (by omega)]; exact i7.1 k hk
  · rw [gL 2 (by omega) (by omega) (by omega), gL 118 (by omega) (by omega) (by omega)]; exact i7.2 j hj
  · unfold Rlv
    rw [g0 14 (by decide), g4 37 (by decide) (by decide), g1 75 (by omega) (by omega) (by omega) (by omega) (by omega), g3 129 (by omega) (by omega) (by omega)]; exact i9
  · unfold Rkw
    rw [gL 7 (by omega) (by omega) (by omega)]; exact i10
  · obtain ⟨n, n3, e1, e2, q⟩ := i12
    refine ⟨n, n3, by rw [g0 10 (by decide)]; exact e1, by rw [g4 38 (by decide) (by decide)]; exact e2, fun i hi => (q i hi).same ⟨fun a j z => ?_, fun a z => ?_, fun j h1 h2 => g5 j (by omega) (by omega), fun j h1 h2 => g6 j (by omega) (by omega)⟩⟩
    · unfold inT at z
      rw [g1 a (by omega) (by omega) (by omega) (by omega) (by omega)]
    · unfold inTL at z
      exact gL a (by omega) (by omega) (by omega)
