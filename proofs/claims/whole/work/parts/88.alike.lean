/-! ===== alike: mark, back ===== -/
def relB (a j : Nat) : Prop := (a = 0 ∧ j = 14) ∨ a = 3 ∨ a = 4 ∨ (a = 5 ∧ (j = 7 ∨ j = 12 ∨ j = 13)) ∨ a = 6 ∨ (a = 75 ∧ 3 ≤ j) ∨ (a = 113 ∧ (j = 10 ∨ j = 16 ∨ j = 17 ∨ j = 37)) ∨ a = 116 ∨ a = 117 ∨ a = 119 ∨ a = 129
def relBL (a j : Nat) : Prop := (a = 0 ∧ (j = 12 ∨ j = 13)) ∨ (a = 113 ∧ (j = 3 ∨ j = 4)) ∨ a = 2 ∨ a = 7 ∨ a = 118
theorem Inv.put {h h' : HP} {t u : Nat} (I : Inv h t u) (sr : SR h h') (e : hI h' 0 11 = hI h' 113 2) (sI : ∀ a j, relB a j → hI h' a j = hI h a j) (sL : ∀ a j, relBL a j → hL h' a j = hL h a j) (q1 : Rt h' t 0 0) (q2 : Rmk h') : Inv h' t u := by
  obtain ⟨⟨i1, i2, i3, i4, i5⟩, i6, i7, i8, i9, i10, i11, i12⟩ := I
  refine ⟨⟨sr.ly i1, fun k hk => by rw [sr.2]; exact i2 k hk, i3, sr.pr i4, sr.pr i5⟩, ⟨e, ?_, ?_⟩, ?_, ?_, ?_, ?_, q1, q2⟩
  · rw [sL 0 12 (by unfold relBL; omega), sL 113 3 (by unfold relBL; omega)]; exact i6.2.1
  · rw [sL 0 13 (by unfold relBL; omega), sL 113 4 (by unfold relBL; omega)]; exact i6.2.2
  · refine ⟨fun k hk => ?_, fun j hj => ?_⟩
    · rw [sI 3 k (by unfold relB; omega), sI 4 k (by unfold relB; omega), sI 116 k (by unfold relB; omega), sI 117 k (by unfold relB; omega)]; exact i7.1 k hk
    · rw [sL 2 j (by unfold relBL; omega), sL 118 j (by unfold relBL; omega)]; exact i7.2 j hj
  · unfold Rtk
    rw [sI 5 7 (by unfold relB; omega), sI 113 10 (by unfold relB; omega), sI 5 12 (by unfold relB; omega), sI 5 13 (by unfold relB; omega), sI 113 16 (by unfold relB; omega), sI 113 17 (by unfold relB; omega)]
    obtain ⟨⟨f, f1, f2, f3, f4⟩, f5⟩ := i8
    refine ⟨⟨f, f1, f2, f3, fun k hk => ?_⟩, f5⟩
    rw [sI 6 k (by unfold relB; omega), sI 119 k (by unfold relB; omega)]; exact f4 k hk
  · unfold Rlv
    rw [sI 0 14 (by unfold relB; omega), sI 113 37 (by unfold relB; omega), sI 75 3 (by unfold relB; omega), sI 75 4 (by unfold relB; omega), sI 75 5 (by unfold relB; omega), sI 75 6 (by unfold relB; omega), sI 75 7 (by unfold relB; omega), sI 129 0 (by unfold relB; omega), sI 129 1 (by unfold relB; omega), sI 129 2 (by unfold relB; omega), sI 129 3 (by unfold relB; omega), sI 129 4 (by unfold relB; omega)]
    exact i9
  · intro k hk; rw [sL 7 k (by unfold relBL; omega)]; exact i10 k hk
theorem Rt.g {h : HP} {t b nb : Nat} (q : Rt h t b nb) : (hI h (t + 1) 2 = 0 ∨ hI h (t + 1) 2 = 1) ∧ (hI h (t + 3) 5 = 0 ∨ hI h (t + 3) 5 = 1) := by
  obtain ⟨w, r, m, c, q1, q2, q3, q4⟩ := q
  refine ⟨?_, ?_⟩
  · unfold RtH at q1
    obtain ⟨-, -, ⟨a, b⟩, -⟩ := q1
    rw [a]; rcases b with b | b
    · exact Or.inl b
    · exact Or.inr b.1
  · rcases q4 with q | q
    · exact Or.inl q.1
    · exact Or.inr q.1
theorem SR.cp (h : HP) (t o e : Nat) : SR h (townCp h t o e) := ⟨rfl, rfl⟩
theorem SR.cpM (h : HP) (a c : Nat) : SR h (cpM h a c) := ⟨rfl, rfl⟩
theorem apart_t {t n : Nat} (ht : t = 79 ∨ t = 96) (hn : n < 3) : (∀ i j, i ≤ 16 → j ≤ 16 → t + i ≠ 14 + 17 * n + j) ∧ ∀ i j, i ≤ 16 → j ≤ 16 → 14 + 17 * n + i ≠ t + j := ⟨fun i j a b => by omega, fun i j a b => by omega⟩
theorem op_mark {h : HP} {t u : Nat} (I : Inv h t u) : Op t u (f_X11_mark h t) (fun g => f_X12_mark g) := by
  have ht := I.t
  have qT := I.tn
  obtain ⟨n, n3, k1, k2, mk⟩ := I.2.2.2.2.2.2.2
  obtain ⟨g1, g2⟩ := qT.g
  obtain ⟨e, e60, he⟩ := qT.ent
  unfold f_X11_mark f_X5_copyFrom
  rw [k1, if_neg (lt_nI0 _ (by omega))]
  by_cases c : n < 3
  · obtain ⟨ap1, ap2⟩ := apart_t ht c
    have emk : mkA (nI n) = 14 + 17 * n := by unfold mkA; rw [nI_clamp (by omega)]
    rw [if_pos (by rw [show (3 : Int32) = nI 3 from rfl, nI_ltI (by omega) (by omega)]; exact c)]
    simp only [ltv_e]
    rw [gdi_nI c (by decide), he, gdi_nI (by omega) (by decide), gdv_t g1, gdv_t g2, emk, gdv_t (by omega), nI_clamp (by omega), bd1_s]
    obtain ⟨C, eC⟩ : ∃ C, C = townCp h (14 + 17 * n) t e := ⟨_, rfl⟩
    have tw : TwEq h C t 0 0 (14 + 17 * n) 0 0 e := by rw [eC]; exact cp_eq he ap1 (by omega) (fun _ _ => rfl) (fun _ _ => rfl)
    have CI : ∀ b, (b < 14 + 17 * n ∨ 14 + 17 * n + 16 < b) → hI C b = hI h b := fun b hb => by rw [eC]; exact cp_I ap1 hb
    have CL : ∀ b k, b ≠ 14 + 17 * n + 9 → hL C b k = hL h b k := fun b k hb => by rw [eC, cp_L, if_neg hb]
    have sC : SR h C := by rw [eC]; exact SR.cp _ _ _ _
    rw [← eC, CI 0 (by omega), k1, hI_uI_s, ans_e, bd2_s, show (1 : Int32) = nI 1 from rfl, nI_add]
    obtain ⟨H1, e1⟩ : ∃ H1, H1 = uI (uI C 0 10 (nI (n + 1))) 0 11 0 := ⟨_, rfl⟩
    rw [← e1]
    have H1I : ∀ b k, b ≠ 0 → hI H1 b k = hI C b k := fun b k hb => by rw [e1, hI_uI_n (by omega), hI_uI_n (by omega)]
    have k2' : hI H1 113 38 = nI n := by rw [H1I _ _ (by omega), CI 113 (by omega)]; exact k2
    obtain ⟨H2, e2⟩ : ∃ H2, H2 = uI (cpM (uI H1 113 38 (nI (n + 1))) 0 (n + 1)) 113 2 0 := ⟨_, rfl⟩
    have b4 : ∀ j, hI H2 114 j = if 410 * (n + 1) ≤ j ∧ j < 410 * (n + 1) + 410 then hI h 114 (j - 410 * (n + 1)) else hI h 114 j := fun j => by
      rw [e2, hI_uI_n (by omega), cpM_4, hI_uI_n (by omega), hI_uI_n (by omega), H1I _ _ (by omega), H1I _ _ (by omega), CI 114 (by omega), Nat.mul_zero, Nat.zero_add]
    have b5 : ∀ j, hL H2 115 j = if 10 * (n + 1) ≤ j ∧ j < 10 * (n + 1) + 10 then hL h 115 (j - 10 * (n + 1)) else hL h 115 j := fun j => by
      have x : ∀ k, hL (uI H1 113 38 (nI (n + 1))) 115 k = hL h 115 k := fun k => by
        show hL H1 115 k = _
        rw [e1]; exact CL 115 k (by omega)
      rw [e2]
      show hL (cpM (uI H1 113 38 (nI (n + 1))) 0 (n + 1)) 115 j = _
      rw [cpM_5, x, x, Nat.mul_zero, Nat.zero_add]
    have bI : ∀ b k, b ≠ 114 → ¬ (b = 113 ∧ (k = 2 ∨ k = 38)) → b ≠ 0 → hI H2 b k = hI C b k := fun b k h1 h2 h3 => by
      rw [e2, hI_uI_n (by omega), cpM_I _ _ _ _ h1, hI_uI_n (by omega), H1I _ _ h3]
    have bL : ∀ b k, b ≠ 115 → hL H2 b k = hL C b k := fun b k h1 => by
      rw [e2]
      show hL (cpM (uI H1 113 38 (nI (n + 1))) 0 (n + 1)) b k = _
      rw [cpM_L _ _ _ _ h1]
      show hL H1 b k = _
      rw [e1]; rfl
    have b0 : ∀ k, hI H2 0 k = hI H1 0 k := fun k => by rw [e2, hI_uI_n (by omega), cpM_I _ _ _ _ (by decide), hI_uI_n (by omega)]
    refine ⟨nI (n + 1), H1, H2, rfl, ?_, ?_⟩
    · show f_X12_mark H1 = _
      unfold f_X12_mark
      rw [k2', if_neg (fun z => by have := nI_inj (by omega) (by omega) (z.trans (show (3 : Int32) = nI 3 from rfl)); omega)]
      simp only [ltv_e]
      rw [hI_uI_s, show (1 : Int32) = nI 1 from rfl, nI_add, show (0 : Int32) = nI 0 from rfl, cpM_e _ (by omega) (by omega) (by omega), bd1_s, cpM_I _ _ _ _ (by decide), hI_uI_s, giv_e, bd2_s, e2]
    · refine I.put (h' := H2) ?_ ?_ (fun a j q => ?_) (fun a j q => ?_) ?_ ?_
      · rw [e2]
        exact ((sC.trans (show SR C H1 by rw [e1]; exact ⟨rfl, rfl⟩)).trans ⟨rfl, rfl⟩)
      · rw [b0, e1, hI_uI_s, e2, hI_uI_s]
      · by_cases a0 : a = 0
        · subst a0
          have : j = 14 := by unfold relB at q; omega
          subst this
          rw [b0, e1, hI_uI_n (by omega), hI_uI_n (by omega), CI 0 (by omega)]
        · rw [bI a j (by unfold relB at q; omega) (by unfold relB at q; omega) a0, CI a (by unfold relB at q; omega)]
      · rw [bL a j (by unfold relBL at q; omega), CL a j (by unfold relBL at q; omega)]
      · refine qT.same ⟨fun a j q => ?_, fun a q => ?_, fun j j1 j2 => ?_, fun j j1 j2 => ?_⟩
        · rw [bI a j (by unfold inT at q; omega) (by unfold inT at q; omega) (by unfold inT at q; omega), CI a (by unfold inT at q; omega)]
        · funext k; rw [bL a k (by unfold inTL at q; omega), CL a k (by unfold inTL at q; omega)]
        · rw [b4, if_neg (by omega)]
        · rw [b5, if_neg (by omega)]
      · refine ⟨n + 1, by omega, ?_, ?_, fun i hi => ?_⟩
        · rw [b0, e1, hI_uI_n (by omega), hI_uI_s]
        · rw [e2, hI_uI_n (by omega), cpM_I _ _ _ _ (by decide), hI_uI_s]
        · by_cases ei : i = n
          · subst ei
            obtain ⟨t1, t2, t3, t4, t5, t6, t7, t8, -, -⟩ := tw
            refine Rt.mv (h := h) (t := t) (b := 0) (nb := 0) (e := e) ⟨fun j hj => ?_, fun j j1 j2 => ?_, ⟨?_, ?_⟩, fun a p a1 a2 a3 => ?_, fun a p a1 a2 => ?_, fun a p a1 a2 => ?_, fun p a2 => ?_, fun p a2 => ?_, fun j hj => ?_, fun j hj => ?_⟩ he e60 qT
            · rw [bI _ _ (by omega) (by omega) (by omega)]; exact t1 j hj
            · rw [bI _ _ (by omega) (by omega) (by omega)]; exact t2 j j1 j2
            · rw [bI _ _ (by omega) (by omega) (by omega)]; exact t3.1
            · rw [bI _ _ (by omega) (by omega) (by omega)]; exact t3.2
            · rw [bI _ _ (by omega) (by omega) (by omega)]; exact t4 a p a1 a2 a3
            · rw [bI _ _ (by omega) (by omega) (by omega)]; exact t5 a p a1 a2
            · rw [bI _ _ (by omega) (by omega) (by omega)]; exact t6 a p a1 a2
            · rw [bI _ _ (by omega) (by omega) (by omega)]; exact t7 p a2
            · rw [bL _ _ (by omega)]; exact t8 p a2
            · rw [b4, if_pos (by omega), Nat.add_sub_cancel_left, Nat.zero_add]
            · rw [b5, if_pos (by omega), Nat.add_sub_cancel_left, Nat.zero_add]
          · refine (mk i (by omega)).same ⟨fun a j q => ?_, fun a q => ?_, fun j j1 j2 => ?_, fun j j1 j2 => ?_⟩
            · rw [bI a j (by unfold inT at q; omega) (by unfold inT at q; omega) (by unfold inT at q; omega), CI a (by unfold inT at q; omega)]
            · funext k; rw [bL a k (by unfold inTL at q; omega), CL a k (by unfold inTL at q; omega)]
            · rw [b4, if_neg (by omega)]
            · rw [b5, if_neg (by omega)]
  · have e3 : n = 3 := by omega
    rw [if_neg (by rw [show (3 : Int32) = nI 3 from rfl, nI_ltI (by omega) (by omega)]; exact c)]
    refine op_st I (v := 4) (r := -1) rfl ?_
    show f_X12_mark _ = _
    unfold f_X12_mark
    rw [hI_st h 4 (by decide), k2, e3, if_pos (show nI 3 = 3 from rfl)]; rfl
theorem op_back {h : HP} {t u : Nat} (I : Inv h t u) : Op t u (f_X11_back h t) (fun g => f_X12_back g) := by
  have ht := I.t
  have qT := I.tn
  obtain ⟨n, n3, k1, k2, mk⟩ := I.2.2.2.2.2.2.2
  have nz : ∀ {k : Nat}, k < 10 → (nI k = 0 ↔ k = 0) := fun {k} hk => ⟨fun e => nI_inj (by omega) (by omega) (e.trans (show (0 : Int32) = nI 0 from rfl)), fun e => by rw [e]; rfl⟩
  unfold f_X11_back f_X5_copyFrom
  rw [k1]
  by_cases c : n < 1
  · have e0 : n = 0 := by omega
    rw [if_pos (by rw [show (1 : Int32) = nI 1 from rfl, nI_ltI (by omega) (by omega)]; exact c)]
    refine op_st I (v := 6) (r := -1) rfl ?_
    show f_X12_back _ = _
    unfold f_X12_back
    rw [hI_st h 6 (by decide), k2, if_pos ((nz (by omega)).mpr e0)]; rfl
  · obtain ⟨m, rfl⟩ : ∃ m, n = m + 1 := ⟨n - 1, by omega⟩
    have m3 : m < 3 := by omega
    obtain ⟨ap1, ap2⟩ := apart_t ht m3
    have qM := mk m (by omega)
    obtain ⟨g1, g2⟩ := qM.g
    obtain ⟨e, e60, he⟩ := qM.ent
    have emk : mkA (nI m) = 14 + 17 * m := by unfold mkA; rw [nI_clamp (by omega)]
    rw [if_neg (by rw [show (1 : Int32) = nI 1 from rfl, nI_ltI (by omega) (by omega)]; exact c), if_pos (by rw [show (3 : Int32) = nI 3 from rfl, nI_leI (by omega) (by omega)]; omega)]
    simp only [ltv_e]
    rw [show nI (m + 1) - 1 = nI m from nI_sub (a := m + 1) (b := 1) (by omega), hI_uI_s, gdi_nI m3 (by decide), emk]
    obtain ⟨G, eG⟩ : ∃ G, G = uI h 0 10 (nI m) := ⟨_, rfl⟩
    have GI : ∀ b, b ≠ 0 → hI G b = hI h b := fun b hb => by funext k; rw [eG, hI_uI_n (by omega)]
    have GL : hL G = hL h := by rw [eG]; rfl
    rw [← eG, GI _ (by omega), he, gdi_nI (by omega) (by decide), GI _ (by omega), gdv_t g1, gdv_t g2, gdv_t (by omega), nI_clamp (by omega), bd1_s]
    obtain ⟨C, eC⟩ : ∃ C, C = townCp G t (14 + 17 * m) e := ⟨_, rfl⟩
    have tw : TwEq G C (14 + 17 * m) 0 0 t 0 0 e := by rw [eC]; exact cp_eq (by rw [GI _ (by omega)]; exact he) ap2 (by omega) (fun _ _ => rfl) (fun _ _ => rfl)
    have CI : ∀ b, (b < t ∨ t + 16 < b) → hI C b = hI G b := fun b hb => by rw [eC]; exact cp_I ap2 hb
    have CL : ∀ b k, b ≠ t + 9 → hL C b k = hL h b k := fun b k hb => by rw [eC, cp_L, if_neg hb, GL]
    have sC : SR h C := by rw [eC, eG]; exact ⟨rfl, rfl⟩
    have C10 : hI C 0 10 = nI m := by rw [CI 0 (by omega), eG, hI_uI_s]
    rw [← eC, C10, ans_e, bd2_s]
    obtain ⟨H1, e1⟩ : ∃ H1, H1 = uI C 0 11 0 := ⟨_, rfl⟩
    rw [← e1]
    have H1I : ∀ b k, b ≠ 0 → hI H1 b k = hI C b k := fun b k hb => by rw [e1, hI_uI_n (by omega)]
    have k2' : hI H1 113 38 = nI (m + 1) := by rw [H1I _ _ (by omega), CI 113 (by omega), GI _ (by omega)]; exact k2
    obtain ⟨H2, e2⟩ : ∃ H2, H2 = uI (uI (cpM H1 (m + 1) 0) 113 38 (nI m)) 113 2 0 := ⟨_, rfl⟩
    have b4 : ∀ j, hI H2 114 j = if j < 410 then hI h 114 (410 * (m + 1) + j) else hI h 114 j := fun j => by
      rw [e2, hI_uI_n (by omega), hI_uI_n (by omega), cpM_4, H1I _ _ (by omega), H1I _ _ (by omega), CI 114 (by omega), GI _ (by omega), Nat.mul_zero, Nat.sub_zero, Nat.zero_add]
      by_cases q : j < 410
      · rw [if_pos ⟨Nat.zero_le _, q⟩, if_pos q]
      · rw [if_neg (fun z => q z.2), if_neg q]
    have b5 : ∀ j, hL H2 115 j = if j < 10 then hL h 115 (10 * (m + 1) + j) else hL h 115 j := fun j => by
      have x : ∀ k, hL H1 115 k = hL h 115 k := fun k => by rw [e1]; exact CL 115 k (by omega)
      rw [e2]
      show hL (cpM H1 (m + 1) 0) 115 j = _
      rw [cpM_5, x, x, Nat.mul_zero, Nat.sub_zero, Nat.zero_add]
      by_cases q : j < 10
      · rw [if_pos ⟨Nat.zero_le _, q⟩, if_pos q]
      · rw [if_neg (fun z => q z.2), if_neg q]
    have bI : ∀ b k, b ≠ 114 → ¬ (b = 113 ∧ (k = 2 ∨ k = 38)) → b ≠ 0 → hI H2 b k = hI C b k := fun b k h1 h2 h3 => by
      rw [e2, hI_uI_n (by omega), hI_uI_n (by omega), cpM_I _ _ _ _ h1, H1I _ _ h3]
    have bL : ∀ b k, b ≠ 115 → hL H2 b k = hL C b k := fun b k h1 => by
      rw [e2]
      show hL (cpM H1 (m + 1) 0) b k = _
      rw [cpM_L _ _ _ _ h1, e1]; rfl
    have b0 : ∀ k, hI H2 0 k = hI H1 0 k := fun k => by rw [e2, hI_uI_n (by omega), hI_uI_n (by omega), cpM_I _ _ _ _ (by decide)]
    refine ⟨nI m, H1, H2, rfl, ?_, ?_⟩
    · show f_X12_back H1 = _
      unfold f_X12_back
      rw [k2', if_neg (fun z => by have := (nz (by omega)).mp z; omega), show (0 : Int32) = nI 0 from rfl, cpM_e _ (by omega) (by omega) (by omega), bd1_s]
      simp only [ltv_e]
      rw [cpM_I _ _ _ _ (by decide), k2', show nI (m + 1) - 1 = nI m from nI_sub (a := m + 1) (b := 1) (by omega), hI_uI_s, giv_e, bd2_s, e2]
      first | done | rfl
    · refine I.put (h' := H2) ?_ ?_ (fun a j q => ?_) (fun a j q => ?_) ?_ ?_
      · rw [e2]
        exact ((sC.trans (show SR C H1 by rw [e1]; exact ⟨rfl, rfl⟩)).trans ⟨rfl, rfl⟩)
      · rw [b0, e1, hI_uI_s, e2, hI_uI_s]
      · by_cases a0 : a = 0
        · subst a0
          have : j = 14 := by unfold relB at q; omega
          subst this
          rw [b0, e1, hI_uI_n (by omega), CI 0 (by omega), eG, hI_uI_n (by omega)]
        · rw [bI a j (by unfold relB at q; omega) (by unfold relB at q; omega) a0, CI a (by unfold relB at q; omega), GI a a0]
      · rw [bL a j (by unfold relBL at q; omega), CL a j (by unfold relBL at q; omega)]
      · obtain ⟨t1, t2, t3, t4, t5, t6, t7, t8, -, -⟩ := tw
        refine Rt.mv (h := h) (t := 14 + 17 * m) (b := 410 * (m + 1)) (nb := 10 * (m + 1)) (e := e) ⟨fun j hj => ?_, fun j j1 j2 => ?_, ⟨?_, ?_⟩, fun a p a1 a2 a3 => ?_, fun a p a1 a2 => ?_, fun a p a1 a2 => ?_, fun p a2 => ?_, fun p a2 => ?_, fun j hj => ?_, fun j hj => ?_⟩ he e60 qM
        · rw [bI _ _ (by omega) (by omega) (by omega), t1 j hj, GI _ (by omega)]
        · rw [bI _ _ (by omega) (by omega) (by omega), t2 j j1 j2, GI _ (by omega)]
        · rw [bI _ _ (by omega) (by omega) (by omega), t3.1, GI _ (by omega)]
        · rw [bI _ _ (by omega) (by omega) (by omega), t3.2, GI _ (by omega)]
        · rw [bI _ _ (by omega) (by omega) (by omega), t4 a p a1 a2 a3, GI _ (by omega)]
        · rw [bI _ _ (by omega) (by omega) (by omega), t5 a p a1 a2, GI _ (by omega)]
        · rw [bI _ _ (by omega) (by omega) (by omega), t6 a p a1 a2, GI _ (by omega)]
        · rw [bI _ _ (by omega) (by omega) (by omega), t7 p a2, GI _ (by omega)]
        · rw [bL _ _ (by omega), t8 p a2, GL]
        · rw [Nat.zero_add, b4, if_pos hj]
        · rw [Nat.zero_add, b5, if_pos hj]
      · refine ⟨m, by omega, ?_, ?_, fun i hi => ?_⟩
        · rw [b0, e1, hI_uI_n (by omega), C10]
        · rw [e2, hI_uI_n (by omega), hI_uI_s]
        · refine (mk i (by omega)).same ⟨fun a j q => ?_, fun a q => ?_, fun j j1 j2 => ?_, fun j j1 j2 => ?_⟩
          · rw [bI a j (by unfold inT at q; omega) (by unfold inT at q; omega) (by unfold inT at q; omega), CI a (by unfold inT at q; omega), GI a (by unfold inT at q; omega)]
          · funext k; rw [bL a k (by unfold inTL at q; omega), CL a k (by unfold inTL at q; omega)]
          · rw [b4, if_neg (by omega)]
          · rw [b5, if_neg (by omega)]
