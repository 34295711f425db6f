/-! ===== year: step after step ===== -/
theorem ystep {T : Nat → Int32} {L n t u w r m e s d N l : Nat} {a b : HP} {st : Nat → Nat} (hu : u = 79 ∨ u = 96) (ht : t = 79 ∨ t = 96) (htu : t ≠ u) (k : RD T L n a b) (ly : Lay a) (W : TWN a b t w r m) (S : YS a b (u + 3) w r m e s d st) (hl : l ≤ 60) (hn : kA a ≠ 1) : YN T L n t u w r m e N l a b := by
  have rk := k.rk ly
  obtain ⟨rr, e1, e2, e3, e4⟩ := k.isW
  by_cases h20 : kA a = 4 ∧ vA a = 20
  · have hr : rr = nI (rwK 20) := (e2 20 (by decide)).mp h20
    exact yend hu k ly S hl h20 (by rw [e1, hr]; rfl)
  · by_cases ho : ∃ j, isOW j ∧ kA a = 4 ∧ vA a = nI j
    · obtain ⟨j, hj, h4, hv⟩ := ho
      have hr := (e2 j (by unfold isOW at hj; omega)).mp ⟨h4, hv⟩
      exact yorder hu ht htu k ly W S hl hj ⟨h4, hv⟩ (by rw [e1, hr])
    · have nsw : ¬ isStepW (wnA a) := by
        intro z
        unfold wnA at z
        by_cases h4 : kA a = 4
        · rw [if_pos h4] at z
          rcases e3 with q | ⟨j, hj, q⟩
          · have := (e4 h4).mpr q
            rcases z with ⟨z, _⟩ | z | z
            · exact absurd (Int32.lt_of_le_of_lt z this) (by decide)
            · rw [z] at this; exact absurd this (by decide)
            · rw [z] at this; exact absurd this (by decide)
          · have hv := ((e2 j hj).mpr q).2
            refine ho ⟨j, ?_, h4, hv⟩
            rw [hv] at z
            rcases z with ⟨z1, z2⟩ | z | z
            · exact Or.inl ⟨(nI_leI (a := 9) (by omega) (by omega)).mp z1, (nI_leI (b := 15) (by omega) (by omega)).mp z2⟩
            · exact Or.inr (Or.inl (nI_inj (b := 19) (by omega) (by decide) z))
            · exact Or.inr (Or.inr (nI_inj (b := 21) (by omega) (by decide) z))
        · rw [if_neg h4] at z; exact absurd z (by decide)
      obtain ⟨b', g1, g2, g3⟩ := k.fail (w := 2) (by decide) (by decide)
      have g1 : f_X12_fails b 2 = some (0, b') := g1
      unfold YN
      rw [year2_e rk hn hl, if_neg h20, stepW_e rk, decide_eq_false nsw, if_pos (show bI false = 0 from rfl), yearStep_e e1]
      refine ⟨0, failF a 2, b', ?_, g2.W, CW.fr (failF_fr a 2), Or.inl ⟨rfl, by rw [bd2_s, if_pos rfl], g3⟩⟩
      unfold f_X12_yearStep_42
      have fl : (bd2 (f_X12_fails b 2) fun r11 h10 => gdv (is01 r11) <| some (r11, h10)) = some (0, b') := by rw [g1, bd2_s, gdv_t (Or.inl rfl)]
      by_cases q1 : rr < 9
      · rw [if_pos q1]; exact fl
      · rw [if_neg q1]
        by_cases q2 : 18 < rr
        · rw [if_pos q2]; exact fl
        · exfalso
          rcases e3 with q | ⟨j, hj, q⟩
          · rw [q] at q1; exact q1 (by decide)
          · rw [q] at q1 q2
            have pj := pm_rw j hj
            have q1' : ¬ rwK j < 9 := fun z => q1 ((nI_ltI (b := 9) (by omega) (by omega)).mpr z)
            have q2' : ¬ 18 < rwK j := fun z => q2 ((nI_ltI (a := 18) (by omega) (by omega)).mpr z)
            have hv := (e2 j hj).mpr q
            have dec : ∀ j, j < 22 → ¬ rwK j < 9 → ¬ 18 < rwK j → j = 20 ∨ ((9 ≤ j ∧ j ≤ 15) ∨ j = 19 ∨ j = 21) := by decide +kernel
            rcases dec j hj q1' q2' with z | z
            · rw [z] at hv; exact h20 hv
            · exact ho ⟨j, z, hv⟩
theorem y38_0 {f : Nat} (hf : 0 < f) {b : HP} (h : hI b 113 18 ≠ 0) : f_X12_year_38 f 0 b = f_X12_year_77 b := by
  obtain ⟨g, rfl⟩ : ∃ g, f = g + 1 := ⟨f - 1, by omega⟩
  unfold f_X12_year_38
  rw [if_pos rfl, if_neg h]
/-- the whole year is read -/
theorem yloop {T : Nat → Int32} {L n t u w r m : Nat} (hu : u = 79 ∨ u = 96) (ht : t = 79 ∨ t = 96) (htu : t ≠ u) : ∀ f e N F a b s d st, e + f = 61 → f < N → f < F → RD T L n a b → Lay a → TWN a b t w r m → YS a b (u + 3) w r m e s d st →
    ∃ x a' b', f_X10_takeYear_2 t (u + 3) N (nI e) a = some (x, a') ∧ f_X12_year_38 F 1 b = f_X12_year_77 b' ∧ FW b b' ∧ CW u a a' ∧ ((x = 0 ∧ FT a' b') ∨ (x = 1 ∧ RD T L n a' b' ∧ ∃ e' s' st', YS a' b' (u + 3) w r m e' s' 0 st'))
  | f, e, 0, F, a, b, s, d, st, _, hN, _, _, _, _, _ => absurd hN (by omega)
  | f, e, N + 1, 0, a, b, s, d, st, _, _, hF, _, _, _, _ => absurd hF (by omega)
  | 0, e, N + 1, F + 1, a, b, s, d, st, h61, _, _, _, _, _, S => by have := S.1.1; omega
  | f + 1, e, N + 1, F + 1, a, b, s, d, st, h61, hN, hF, k, ly, W, S => by
    have rk := k.rk ly
    have e60 := S.1.1
    have h18 : hI b 113 18 = 0 := k.2.1
    by_cases hn : kA a = 1
    · have c2 := S.2.2.1.2.1
      have ct := S.2.2.2.1
      have d3 := S.2.2.1.1
      have cls : f_X10_takeYear_2 t (u + 3) (N + 1) (nI e) a = f_X10_takeYear_86 t (u + 3) a := by
        show (if 60 < nI e then _ else _) = _
        rw [if_neg (show ¬ (60 : Int32) < nI e from fun z => by have := (nI_ltI (a := 60) (by omega) (by omega)).mp z; omega)]
        unfold f_X4_isEnd
        rw [gdc_t rk, bd2_s, decide_eq_true hn, if_neg (show ¬ bI true = 0 by decide)]
      rw [cls]
      unfold f_X10_takeYear_86 f_X9_countOpen
      rw [S.1.2.1, gdi_nI (by omega) (by decide), nI_clamp (by omega), ct, bd2_s]
      unfold f_X12_year_38
      rw [if_neg (show ¬ (1 : Int32) = 0 by decide), if_pos (k.fin.mp hn), if_pos h18, c2]
      by_cases d0 : d = 0
      · subst d0
        rw [if_pos (show nI 0 = 0 from rfl), if_pos (show nI 0 ≤ 0 by decide)]
        exact ⟨1, a, b, rfl, rfl, FW.refl b, CW.refl u a, Or.inr ⟨rfl, k, e, s, st, S⟩⟩
      · rw [if_neg (show ¬ nI d = 0 from fun z => d0 (nI_inj (b := 0) (by omega) (by decide) z)), if_neg (show ¬ nI d ≤ 0 from fun z => by have := (nI_leI (b := 0) (by omega) (by omega)).mp z; omega)]
        obtain ⟨b', g1, g2, g3⟩ := k.fail (w := 2) (by decide) (by decide)
        have g1 : f_X12_fails b 2 = some (0, b') := g1
        unfold f_X4_fail
        rw [g1, bd2_s, gdc_t rk, bd2_s, if_pos rfl]
        exact ⟨0, failF a 2, b', rfl, rfl, g2.W, CW.fr (failF_fr a 2), Or.inl ⟨rfl, g3⟩⟩
    · obtain ⟨rr, a', b', y1, y2, y3, y4⟩ := ystep (N := N) (l := e) hu ht htu k ly W S e60 hn
      have refe : f_X12_year_38 (F + 1) 1 b = f_X12_year_38 F rr b' := by
        show (if (1 : Int32) = 0 then _ else if hI b 113 12 = 0 then _ else bd2 (f_X12_yearStep b) fun r25 h24 => f_X12_year_38 F r25 h24) = _
        rw [if_neg (show ¬ (1 : Int32) = 0 by decide), if_neg (fun z => hn (k.fin.mpr z)), y1, bd2_s]
      rw [refe]
      rcases y4 with ⟨r0, q1, ft⟩ | ⟨r1, q1, k', s', d', st', S'⟩
      · have n18 : hI b' 113 18 ≠ 0 := by
          obtain ⟨v, v1, v7, v8, _⟩ := ft
          rw [v8]; intro z; have := nI_inj (b := 0) (by omega) (by decide) z; omega
        rw [r0, y38_0 (by omega) n18, q1]
        exact ⟨0, a', b', rfl, rfl, y2, y3, Or.inl ⟨rfl, ft⟩⟩
      · rw [r1, q1]
        obtain ⟨x, a2, b2, m1, m2, m3, m4, m5⟩ := yloop hu ht htu f (e + 1) N F a' b' s' d' st' (by omega) (by omega) (by omega) k' (y3.1.ly ly) (W.keep hu ht htu y3 y2) S'
        exact ⟨x, a2, b2, m1, m2, y2.trans m3, y3.trans m4, m5⟩
