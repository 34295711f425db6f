/-! ===== alike: elect, the whole ===== -/
theorem Sm.ao {t : Nat} {h g : HP} (s : Sm t h g) : SmO t h g := s.o
theorem op_elect {h : HP} {t u : Nat} (I : Inv h t u) : Op t u (f_X11_elect h t) (fun g => f_X12_elect g) := by
  have ht := I.t
  obtain ⟨w, r, m, c, j, T⟩ := I.tw
  obtain ⟨⟨m1, m2, m3⟩, ⟨c1, c2, c3⟩, -⟩ := T.2.1.n
  have z0 : ∀ {k}, k < 100 → (nI k = 0 ↔ k = 0) := fun {k} hk => ⟨fun e => nI_inj (by omega) (by omega) (e.trans (show (0 : Int32) = nI 0 from rfl)), fun e => by rw [e]; rfl⟩
  unfold f_X11_elect f_X12_elect f_X5_holdElection f_X12_elects
  rw [m3, c3]
  by_cases m0 : m = 0
  · rw [if_pos ((z0 (by omega)).mpr m0), bd2_s, if_pos rfl]
    refine op_st I (v := 6) (r := -1) rfl ?_
    try simp only []
    rw [hI_st h 6 (by decide), m2, if_pos ((z0 (by omega)).mpr m0), bd2_s, if_pos rfl]; rfl
  · have m0' : ¬ nI m = 0 := fun e => m0 ((z0 (by omega)).mp e)
    rw [if_neg m0']
    by_cases c0 : c = 0
    · rw [if_pos ((z0 (by omega)).mpr c0), bd2_s, if_pos rfl]
      refine op_st I (v := 6) (r := -1) rfl ?_
      try simp only []
      rw [hI_st h 6 (by decide), hI_st h 6 (by decide), m2, c2, if_neg m0', if_pos ((z0 (by omega)).mpr c0), bd2_s, if_pos rfl]; rfl
    · have c0' : ¬ nI c = 0 := fun e => c0 ((z0 (by omega)).mp e)
      rw [if_neg c0']
      obtain ⟨f, ef⟩ := look_e h ht m1 m3
      have A := elC_lp ht T f m 0 FU (by omega) (FU_gt (by omega))
      obtain ⟨v0, hv0, ev0⟩ := voX_n (h := h) (t := t) (m := m) 0 c
      have v1 : -1 < voX h t m c 0 := by rw [ev0, Int32.lt_iff_toInt_lt, nI_t (by omega), show (-1 : Int32).toInt = -1 from rfl]; omega
      obtain ⟨b, hb, eb⟩ := elF_n (voX h t m c) m (by omega) v1
      obtain ⟨b1, hb1, eb1⟩ := elF_n (voX h t m c) 1 (by omega) v1
      rw [eb] at A
      obtain ⟨G, eG⟩ : ∃ G, G = rI (scr h t f) (t + 16) (lkP (hI h (t + 16)) (lookU h t) m) := ⟨_, rfl⟩
      have sG : Sm t h G := by rw [eG]; exact lk_sm ht f _
      have nG : ∀ b k, b ≠ t + 16 → b ≠ t + 1 + 1 → hI G b k = hI h b k := fun b k h1 h2 => by rw [eG, lk_n _ _ h1 h2]
      have lG : ∀ b k, hL G b k = hL h b k := fun b k => by rw [eG]; rfl
      rw [ef, bd1_s]
      rw [← eG] at A ⊢
      have A' : f_X5_holdElection_26 t FU 0 (-1) 0 G = some (1, uI G t 12 (nI b)) := A
      rw [A', bd2_s, if_neg (by decide), hI_uI_s, ans_e, bd2_s]
      obtain ⟨H1, eH⟩ : ∃ H1, H1 = uI (uI G t 12 (nI b)) 0 11 0 := ⟨_, rfl⟩
      rw [← eH]
      have sv : SmV h H1 := fun k hk => by rw [eH, hI_uI_n (by omega), hI_uI_n (by omega), nG _ _ (by omega) (by omega)]
      obtain ⟨g', e1, e2⟩ := elM_lp T (m - 1) 1 FU (by omega) (by omega) (FU_gt (by omega)) H1 sv
      have e1' : f_X12_elects_25 FU 0 1 H1 = some (1, uI g' 114 10 (nI b)) := by
        rw [eb1, show b1 = 0 by omega, eb] at e1; exact e1
      have sg : Sm t H1 g' := by
        rcases e2 with e2 | e2
        · rw [e2]; exact Sm.refl _ _
        · rw [e2]; exact (Sm.refl _ _).ln ht w r j
      have ng : ∀ b k, b ≠ 122 → hI g' b k = hI H1 b k := fun b k hb => by
        rcases e2 with e2 | e2
        · rw [e2]
        · rw [e2, lnH_I _ _ _ _ hb]
      have lg : ∀ b k, hL g' b k = hL H1 b k := fun b k => by
        rcases e2 with e2 | e2
        · rw [e2]
        · rw [e2]; rfl
      refine ⟨nI b, H1, uI (uI g' 114 10 (nI b)) 113 2 0, rfl, ?_, ?_⟩
      · try simp only []
        rw [sv 5 (by omega), sv 6 (by omega), m2, c2, if_neg m0', if_neg c0', e1', bd2_s, if_neg (by decide), hI_uI_s, giv_e]; rfl
      · refine Inv.mayor I m3 m1 hb ?_ ?_ ?_ ?_ ?_ ?_
        · have a1 : SmO t h H1 := by rw [eH]; exact (sG.o.I _ _ _ (by unfold relO inT; omega)).I _ _ _ (by unfold relO inT; omega)
          exact ((a1.trans sg.o).I _ _ _ (by unfold relO inT; omega)).I _ _ _ (by unfold relO inT; omega)
        · rw [hI_uI_s, hI_uI_n (by omega), hI_uI_n (by omega), ng _ _ (by decide), eH, hI_uI_s]
        · intro b k q a1 a2
          have nb : b ≠ 0 ∧ b ≠ 113 ∧ b ≠ 122 ∧ b ≠ t + 16 ∧ b ≠ t + 1 + 1 := by unfold cnH cnR cnS cnY at q; omega
          rw [hI_uI_n (by omega), hI_uI_n (by omega), ng _ _ nb.2.2.1, eH, hI_uI_n (by omega), hI_uI_n (by omega), nG _ _ nb.2.2.2.1 nb.2.2.2.2]
        · intro b k _
          show hL g' b k = _
          rw [lg, eH]
          exact lG b k
        · rw [hI_uI_n (by omega), hI_uI_n (by omega), ng _ _ (by omega), eH, hI_uI_n (by omega), hI_uI_s]
        · rw [hI_uI_n (by omega), hI_uI_s]
