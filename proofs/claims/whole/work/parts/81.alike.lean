/-! ===== alike: again, far ===== -/
theorem Sc.n {t : Nat} {h g : HP} (ht : t = 79 ∨ t = 96) (s : Sc t h g) (v : Int32) : SmN h (uI g 0 11 v) := fun k hk => by rw [hI_uI_n (by omega), s.1.1 114 (Or.inl rfl)]
theorem op_again {h : HP} {t u : Nat} (I : Inv h t u) (a : Int32) : Op t u (f_X11_again h t a) (fun g => f_X12_again g a) := by
  have ht := I.t
  obtain ⟨w, r, m, c, j, T⟩ := I.tw
  unfold f_X11_again f_X12_again
  by_cases a1 : a < 0
  · rw [if_pos a1]
    exact op_st I (v := 1) (r := -1) rfl (by (try simp only []); rw [if_pos a1]; rfl)
  · rw [if_neg a1]
    by_cases a2 : a ≤ 1
    · rw [if_pos a2]
      obtain ⟨v, g', e, s, q⟩ := roundC (h := h) ht T.r4
      rw [T.pic0] at q
      rw [e, bd2_s]
      rcases q with ⟨rfl, q⟩ | ⟨rfl, m', l, q, k0, k1⟩
      · rw [if_pos rfl, ref_e, bd2_s]
        rcases roundM (G0 := uI g' 0 11 7) ht T (s.n ht 7) with ⟨-, g2, e2, s2⟩ | ⟨b, d, q2, -⟩
        · refine op_sc I rfl s.2 ?_ s2.2.2.1 (by rw [s2.2.2.2, hI_uI_s])
          try simp only []
          rw [if_neg a1, if_pos a2, e2, bd2_s, if_pos rfl]; rfl
        · exact absurd q2.2.2.1.symm (q b (b + d) (by have := q2.1; omega) q2.2.1)
      · rw [if_neg (by decide)]
        rcases roundM (G0 := uI g' 0 11 0) ht T (s.n ht 0) with ⟨q2, -⟩ | ⟨b, d, q2, g2, e2, s2, -, k2, k3⟩
        · exact absurd q.2.2.1.symm (q2 m' (m' + l) (by have := q.1; omega) q.2.1)
        · obtain ⟨rfl, rfl⟩ := cyc_uq q q2
          by_cases a0 : a = 0
          · rw [if_pos a0, k0, ans_e, bd2_s]
            refine op_sc I rfl s.2 (g2 := g2) ?_ s2.2.2.1 (by rw [s2.2.2.2, hI_uI_s])
            try simp only []
            rw [if_neg a1, if_pos a2, e2, bd2_s, if_neg (by decide), if_pos a0, k2, giv_e, bd2_s]
          · rw [if_neg a0, k1, ans_e, bd2_s]
            refine op_sc I rfl s.2 (g2 := g2) ?_ s2.2.2.1 (by rw [s2.2.2.2, hI_uI_s])
            try simp only []
            rw [if_neg a1, if_pos a2, e2, bd2_s, if_neg (by decide), if_neg a0, k3, giv_e, bd2_s]
    · rw [if_neg a2]
      exact op_st I (v := 1) (r := -1) rfl (by (try simp only []); rw [if_neg a1, if_neg a2]; rfl)
theorem farC {h g : HP} {t : Nat} (ht : t = 79 ∨ t = 96) (hr : (hI h t 10).toInt ≤ 4) (s : Sc t h g) {m l N : Nat} (C : Cyc (fun i => itN (nxF h t) i (hI h t 13)) m l) (k0 : hI g 72 0 = nI m) (k1 : hI g 72 1 = nI l) (hN : N ≤ 999999999) : ∃ f, f_X3_farAhead g t (nI N) = some (itN (nxF h t) (if m ≤ N then m + (N - m) % l else N) (hI h t 13), scr g t f) := by
  have c1 := C.1
  have c2 := C.2.1
  unfold f_X3_farAhead f_X3_farAhead_34
  rw [k0, k1, s.1.1 t (by omega)]
  by_cases q : N ≤ m
  · rw [if_pos (by rw [nI_leI (by omega) (by omega)]; exact q)]
    obtain ⟨f, e⟩ := aftC3 (N := N) (by omega) s.1 hr (hI h t 13)
    refine ⟨f, ?_⟩
    rw [e, bd2_s]
    by_cases z : m ≤ N
    · have : N = m := by omega
      rw [if_pos z, this, Nat.sub_self, Nat.zero_mod, Nat.add_zero]
    · rw [if_neg z]
  · rw [if_neg (by rw [nI_leI (by omega) (by omega)]; exact q), if_neg (by rw [show (0 : Int32) = nI 0 from rfl, nI_leI (by omega) (by omega)]; omega), gdv_t (nI_ne0 (by omega) (by omega)), nI_sub (show m ≤ N by omega), nI_rem (by omega) (by omega) (by omega), nI_add]
    simp only [ltv_e]
    have := Nat.mod_lt (N - m) (show 0 < l by omega)
    obtain ⟨f, e⟩ := aftC3 (N := m + (N - m) % l) (by omega) s.1 hr (hI h t 13)
    exact ⟨f, by rw [e, bd2_s, if_pos (by omega)]⟩
theorem op_far {h : HP} {t u : Nat} (I : Inv h t u) (a : Int32) : OpL t u (f_X11_far h t a) (fun g => f_X12_far g a) := by
  have ht := I.t
  obtain ⟨w, r, m, c, j, T⟩ := I.tw
  have fr : ∀ g, f_X12_isFrom g (Int32.toInt64 a) 0 999999999 = some (bI (decide (0 ≤ a.toInt ∧ a.toInt ≤ 999999999)), g) := fun g => fr32 g a (n := 999999999) (by decide)
  unfold f_X11_far f_X12_far
  simp only [fr, bd2_s]
  by_cases ha : 0 ≤ a.toInt ∧ a.toInt ≤ 999999999
  · obtain ⟨a1, a2⟩ := (toI32 (n := 999999999) (by decide)).mpr ha
    obtain ⟨N, hN, rfl⟩ := rng_nI (n := 999999999) ha
    rw [if_neg a1, if_pos (show nI N ≤ 999999999 from Int32.not_lt.mp a2), bI_dt ha]
    obtain ⟨v, g', e, s, q⟩ := roundC (h := h) ht T.r4
    rw [e, bd2_s]
    rcases q with ⟨rfl, q⟩ | ⟨rfl, m', l, q, k0, k1⟩
    · rw [T.pic0] at q
      rw [if_pos rfl, ref_e, bd2_s]
      rcases roundM (G0 := uI g' 0 11 7) ht T (s.n ht 7) with ⟨-, g2, e2, s2⟩ | ⟨b, d, q2, -⟩
      · refine opL_sc I rfl s.2 (g2 := g2) ?_ s2.2.2.1 (by rw [s2.2.2.2, hI_uI_s])
        try simp only []
        rw [if_neg (by decide), e2, bd2_s, if_pos rfl]; rfl
      · exact absurd q2.2.2.1.symm (q b (b + d) (by have := q2.1; omega) q2.2.1)
    · rw [if_neg (by decide)]
      obtain ⟨f, ef⟩ := farC ht T.r4 s q k0 k1 hN
      rw [ef, bd2_s, ans_e, bd2_s]
      rw [T.pic0] at q ⊢
      have sn : SmN h (uI (scr g' t f) 0 11 0) := (s.sc ht f).n ht 0
      rcases roundM (G0 := uI (scr g' t f) 0 11 0) ht T sn with ⟨q2, -⟩ | ⟨b, d, q2, g2, e2, s2, tb, k2, k3⟩
      · exact absurd q.2.2.1.symm (q2 m' (m' + l) (by have := q.1; omega) q.2.1)
      · obtain ⟨rfl, rfl⟩ := cyc_uq q q2
        have c1 := q.1
        have c2 := q.2.1
        refine opL_sc I rfl (s.sc ht f).2 (g2 := g2) ?_ s2.2.2.1 (by rw [s2.2.2.2, hI_uI_s])
        try simp only []
        rw [if_neg (by decide), e2, bd2_s, if_neg (by decide), k2, k3]
        by_cases z : m' ≤ N
        · have := Nat.mod_lt (N - m') (show 0 < l by omega)
          have tbi : hI g2 123 (m' + (N - m') % l) = itN (nxF h t) (m' + (N - m') % l) (hI h 114 3) := tb (m' + (N - m') % l) (by omega)
          rw [if_pos (by rw [nI_leI (by omega) (by omega)]; exact z), gdv_t (nI_ne0 (by omega) (by omega)), nI_sub z, nI_rem (by omega) (by omega) (by omega), nI_add, gdi_nI (by omega) (by decide), nI_clamp (by omega), tbi, gvl_e, bd2_s, if_pos z]
        · have tbi : hI g2 123 N = itN (nxF h t) N (hI h 114 3) := tb N (by omega)
          rw [if_neg (by rw [nI_leI (by omega) (by omega)]; exact z), gdi_nI (by omega) (by decide), nI_clamp (by omega), tbi, gvl_e, bd2_s, if_neg z]
  · refine opL_st I (v := 1) (r := -1) ?_ ?_
    · by_cases a1 : a < 0
      · rw [if_pos a1]; rfl
      · rw [if_neg a1, if_neg (show ¬ a ≤ 999999999 from fun q => ha ((toI32 (n := 999999999) (by decide)).mp ⟨a1, Int32.not_lt.mpr q⟩))]; rfl
    · try simp only []
      rw [bI_df ha, if_pos rfl]; rfl
