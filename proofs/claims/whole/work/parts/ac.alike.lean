/-! ===== year: its end ===== -/
/-- all blocks closed: the entries as the relation has them, the reference's at 1640 -/
theorem YS.ent {a b : HP} {y w r m e s : Nat} {st : Nat → Nat} (S : YS a b y w r m e s 0 st) (hy : y + 5 < 113) : ∀ k, k < e → RyE (mx a b) y 1640 w r m e k := by
  obtain ⟨⟨a1, _⟩, _, ⟨_, _, _, _, c5⟩, _, e2, _⟩ := S
  intro k hk
  have lo : ∀ c, c ≤ 5 → hI (mx a b) (y + c) = hI a (y + c) := fun c h => mxI_lo a b (by omega)
  have h4 : hI (mx a b) 114 = hI b 114 := mxI_hi a b (by decide)
  have no : ¬ ((hI a (y + 1) k = 15 ∨ hI a (y + 1) k = 19) ∧ hI a (y + 5) k = nI k) := fun z => by
    obtain ⟨i, hi, _⟩ := c5 k hk (decide_eq_true z)
    omega
  unfold RyE
  rw [lo 1 (by decide), lo 2 (by decide), lo 3 (by decide), lo 4 (by decide), lo 5 (by decide), h4, show 1640 + 44 + 6 * k = 1684 + 6 * k by omega, show 1640 + 45 + 6 * k = 1684 + 6 * k + 1 by omega, show 1640 + 46 + 6 * k = 1684 + 6 * k + 2 by omega, show 1640 + 49 + 6 * k = 1684 + 6 * k + 5 by omega, show 1640 + 48 + 6 * k = 1688 + 6 * k by omega]
  rcases e2 k hk with ⟨q1, q2⟩ | q
  · unfold OD TD at q1
    rcases q1 with q1 | q1 | q1 | q1 | q1 | q1 | ⟨q1, q3⟩ | ⟨q1, q3, q4⟩ | q1
    · exact Or.inl q1
    · exact Or.inr (Or.inl q1)
    · exact Or.inr (Or.inr (Or.inl q1))
    · exact Or.inr (Or.inr (Or.inr (Or.inl q1)))
    · exact Or.inr (Or.inr (Or.inr (Or.inr (Or.inl q1))))
    · exact Or.inr (Or.inr (Or.inr (Or.inr (Or.inr (Or.inl q1)))))
    · rcases q2 (Or.inl q1) with z | z
      · exact absurd ⟨Or.inl q1, z⟩ no
      · refine Or.inr (Or.inr (Or.inr (Or.inr (Or.inr (Or.inr (Or.inl ⟨q1, ?_, z⟩))))))
        rcases q3 with q3 | q3 | q3
        · exact Or.inl q3
        · exact Or.inr (Or.inl q3)
        · exact Or.inr (Or.inr q3)
    · rcases q2 (Or.inr q1) with z | z
      · exact absurd ⟨Or.inr q1, z⟩ no
      · exact Or.inr (Or.inr (Or.inr (Or.inr (Or.inr (Or.inr (Or.inr (Or.inl ⟨q1, q3, q4, z⟩)))))))
    · exact Or.inr (Or.inr (Or.inr (Or.inr (Or.inr (Or.inr (Or.inr (Or.inr (Or.inr q1))))))))
  · exact Or.inr (Or.inr (Or.inr (Or.inr (Or.inr (Or.inr (Or.inr (Or.inr (Or.inl q))))))))
theorem cp102 : ∀ d k f (b : HP), k + d = 405 → d < f → ∃ b', f_X12_year_102 f (nI k) b = (bd2 (f_X12_taken b' (hI b' 113 22)) fun r34 h33 => some (r34, h33)) ∧ SR b b' ∧ (∀ c, c ≠ 114 → hI b' c = hI b c) ∧ hL b' = hL b ∧ (∀ j, ¬ (k ≤ j ∧ j < 405) → hI b' 114 j = hI b 114 j) ∧ ∀ j, k ≤ j → j < 405 → hI b' 114 j = hI b 114 (1640 + j)
  | d, k, 0, b, _, hf => absurd hf (by omega)
  | 0, k, f + 1, b, hd, _ => by
    unfold f_X12_year_102
    rw [show k = 405 by omega, if_pos (show (405 : Int32) ≤ nI 405 from Int32.le_refl _)]
    exact ⟨b, rfl, SR.refl b, fun _ _ => rfl, rfl, fun _ _ => rfl, fun j h1 h2 => absurd h2 (by omega)⟩
  | d + 1, k, f + 1, b, hd, hf => by
    unfold f_X12_year_102
    rw [if_neg (show ¬ (405 : Int32) ≤ nI k from fun z => by have := (nI_leI (a := 405) (by omega) (by omega)).mp z; omega), show (1640 : Int32) + nI k = nI (1640 + k) from nI_add 1640 k, gdi_nI (by omega) (by decide), gdi_nI (by omega) (by decide), ltv_e, ltv_e, nI_1, nI_clamp (by omega), nI_clamp (by omega)]
    obtain ⟨b', e1, e2, e3, e4, e5, e6⟩ := cp102 d (k + 1) f (uI b 114 k (hI b 114 (1640 + k))) (by omega) (by omega)
    refine ⟨b', e1, ⟨e2.1, e2.2⟩, fun c hc => by rw [e3 c hc, hI_uI_n' hc], e4, fun j hj => ?_, fun j h1 h2 => ?_⟩
    · rw [e5 j (by omega), hI_uI_n (by omega)]
    · by_cases y : j = k
      · rw [y, e5 k (by omega), hI_uI_s]
      · rw [e6 j (by omega) h2, hI_uI_n (by omega)]
theorem y77_f {a b : HP} (F : FT a b) : f_X12_year_77 b = some (-1, uI (uI b 113 16 (hI b 113 18)) 113 2 9) := by
  obtain ⟨e, h1, h7, e1, _⟩ := F
  unfold f_X12_year_77
  rw [if_neg (by rw [e1]; intro z; have := nI_inj (b := 0) (by omega) (by omega) z; omega)]
  unfold f_X12_taken
  rw [ltv_e, hI_uI_n (by decide), if_neg (by rw [e1]; intro z; have := (nI_leI (b := 0) (by omega) (by omega)).mp z; omega)]
  unfold f_X12_refuse
  rw [ltv_e, bd2_s, bd2_s]
theorem y77_t {b : HP} (h18 : hI b 113 18 = 0) : ∃ b', f_X12_year_77 b = some (hI b 113 22, b') ∧ SR b b' ∧ (∀ c, c ≠ 114 → c ≠ 113 → hI b' c = hI b c) ∧ (∀ j, j ≠ 2 → j ≠ 16 → hI b' 113 j = hI b 113 j) ∧ hI b' 113 2 = 0 ∧ hI b' 113 16 = 0 ∧ hL b' = hL b ∧ (∀ j, 405 ≤ j → hI b' 114 j = hI b 114 j) ∧ hI b' 114 11 = hI b 114 1651 ∧ (∀ j, j < 44 → j ≠ 11 → hI b' 114 j = hI b 114 j) ∧ ∀ j, 44 ≤ j → j < 405 → hI b' 114 j = hI b 114 (1640 + j) := by
  unfold f_X12_year_77
  rw [if_pos h18, ltv_e]
  obtain ⟨b1, e1, s1, i1, l1, o1, n1⟩ := cp102 361 44 FU (uI b 114 11 (hI b 114 1651)) (by decide) (FU_gt (by decide))
  rw [show f_X12_year_102 FU 44 (uI b 114 11 (hI b 114 1651)) = _ from e1, i1 113 (by decide), hI_uI_n' (show (113 : Nat) ≠ 114 by decide)]
  unfold f_X12_taken
  rw [ltv_e, hI_uI_n (by decide), i1 113 (by decide), hI_uI_n' (show (113 : Nat) ≠ 114 by decide), h18, if_pos (Int32.le_refl _)]
  unfold f_X12_gives
  rw [ltv_e, bd2_s, bd2_s]
  refine ⟨_, rfl, ⟨s1.1, s1.2⟩, fun c h4 h3 => ?_, fun j h2 h16 => ?_, ?_, ?_, ?_, fun j hj => ?_, ?_, fun j hj h11 => ?_, fun j h1 h2 => ?_⟩
  · rw [hI_uI_n' h3, hI_uI_n' h3, i1 c h4, hI_uI_n' h4]
  · rw [hI_uI_n (by omega), hI_uI_n (by omega), i1 113 (by decide), hI_uI_n (by omega)]
  · rw [hI_uI_s]
  · rw [hI_uI_n (by decide), hI_uI_s]
  · rw [hL_uI, hL_uI, l1]; rfl
  · rw [hI_uI_n (by omega), hI_uI_n (by omega), o1 j (by omega), hI_uI_n (by omega)]
  · rw [hI_uI_n (by omega), hI_uI_n (by omega), o1 11 (by omega), hI_uI_s]
  · rw [hI_uI_n (by omega), hI_uI_n (by omega), o1 j (by omega), hI_uI_n (by omega)]
  · rw [hI_uI_n (by omega), hI_uI_n (by omega), n1 j h1 h2, hI_uI_n (by omega)]
