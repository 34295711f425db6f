/-! ===== alike: vote, votes ===== -/
theorem lk_sm {h : HP} {t : Nat} (ht : t = 79 ∨ t = 96) (f g : Nat → Int32) : Sm t h (rI (scr h t f) (t + 16) g) := ((Sm.refl t h).scr ht f).rI _ _ (fun j q => by unfold relI inT at q; omega)
theorem lk_n {h : HP} {t : Nat} (f g : Nat → Int32) {b : Nat} (h1 : b ≠ t + 16) (h2 : b ≠ t + 1 + 1) : hI (rI (scr h t f) (t + 16) g) b = hI h b := by rw [hI_rI_n _ _ h1, scr_I _ _ _ h2]
theorem SmV.refl (h : HP) : SmV h h := fun _ _ => rfl
theorem SmV.lk {h : HP} {t : Nat} (ht : t = 79 ∨ t = 96) (f g : Nat → Int32) (v : Int32) : SmV h (uI (rI (scr h t f) (t + 16) g) 0 11 v) := fun k hk => by rw [hI_uI_n (by omega), lk_n _ _ (by omega) (by omega)]
theorem op_vote {h : HP} {t u : Nat} (I : Inv h t u) (a : Int32) : Op t u (f_X11_vote h t a) (fun g => f_X12_vote g a) := by
  have ht := I.t
  obtain ⟨w, r, m, c, j, T⟩ := I.tw
  obtain ⟨⟨m1, m2, m3⟩, ⟨c1, c2, c3⟩, -⟩ := T.2.1.n
  unfold f_X11_vote f_X12_vote f_X5_hasCitizen
  simp only [bd2_s, isCitizen_e, ref_e, rfs_e]
  by_cases ha : 0 ≤ a.toInt ∧ a.toInt < (hI h t 11).toInt
  · rw [bI_dt ha, if_neg (by decide)]
    have ha2 : ∀ g, SmV h g → 0 ≤ a.toInt ∧ a.toInt < (hI g 114 6).toInt := fun g sv => by rw [sv 6 (by omega), c2, ← c3]; exact ha
    rw [c3] at ha
    obtain ⟨i, hi, rfl⟩ := rng_lt (by omega) ha
    have M : ∀ g, SmV h g → (bd2 (f_X12_voteOf g (nI i)) fun r10 h9 => bd2 (f_X12_orNone h9 r10) fun r13 h12 => some (r13, h12)) = (if m = 0 then some (-1, uI (lnH g w r j) 113 2 6) else some (chX h t m i, uI (lnH g w r j) 113 2 0)) := fun g sv => by
      rw [vote_e T sv hi, bd2_s]
      by_cases m0 : m = 0
      · rw [if_pos m0, if_pos m0, orN_m1]; rfl
      · obtain ⟨b, b1, -, b3⟩ := chF_n (hI h 114 (20 + 2 * i)) (hI h 114 (21 + 2 * i)) (lookU h t) m
        rw [if_neg m0, if_neg m0, show chX h t m i = nI b from b3, orN_nI _ (by omega)]; rfl
    by_cases m0 : m = 0
    · have z : hI h t 10 = 0 := by rw [m3, m0]; rfl
      rw [if_pos z]
      have sv : SmV h (uI h 0 11 6) := fun k hk => hI_st h 6 (by decide) k
      refine op_sc I (g1 := h) (g2 := lnH (uI h 0 11 6) w r j) (v := 6) (r := -1) rfl (Sm.refl t h) ?_ ((Sm.refl _ _).ln ht w r j) (by rw [lnH_I _ _ _ _ (by decide), hI_uI_s])
      try simp only []
      rw [bI_dt (ha2 _ sv), if_neg (by decide), M _ sv, if_pos m0]
    · obtain ⟨f, ef⟩ := look_e h ht m1 m3
      have z : ¬ hI h t 10 = 0 := by rw [m3]; exact fun e => m0 (nI_inj (by omega) (by omega) (e.trans (show (0 : Int32) = nI 0 from rfl)))
      rw [if_neg z, ef, bd1_s]
      unfold f_X5_choiceOf
      rw [lk_n _ _ (by omega) (by omega), m3, gdi_nI (by omega) (by decide), gdi_nI (by omega) (by decide), bd2_s, nI_clamp (by omega), nI_clamp (by omega), chC_e ht T f hi, ans_e, bd2_s]
      have sv := SmV.lk (h := h) ht f (lkP (hI h (t + 16)) (lookU h t) m) 0
      refine op_sc I (g2 := lnH (uI (rI (scr h t f) (t + 16) (lkP (hI h (t + 16)) (lookU h t) m)) 0 11 0) w r j) rfl (lk_sm ht f _) ?_ ((Sm.refl _ _).ln ht w r j) (by rw [lnH_I _ _ _ _ (by decide), hI_uI_s])
      try simp only []
      rw [bI_dt (ha2 _ sv), if_neg (by decide), M _ sv, if_neg m0]
  · rw [bI_df ha, if_pos rfl]
    have ha2 : ¬ (0 ≤ a.toInt ∧ a.toInt < (hI h 114 6).toInt) := by rw [c2, ← c3]; exact ha
    refine op_st I (v := 1) (r := -1) rfl ?_
    simp only [hI_st h _ (show 114 ≠ 0 by decide)]
    rw [bI_df ha2, if_pos rfl]
theorem cnt_e {h : HP} {t w r m c : Nat} {j : Bool} (ht : t = 79 ∨ t = 96) (T : TW h t w r m c j) (f : Nat → Int32) (q : Nat) : f_X5_countVotes (rI (scr h t f) (t + 16) (lkP (hI h (t + 16)) (lookU h t) m)) t (nI q) = some (voX h t m c q, rI (scr h t f) (t + 16) (lkP (hI h (t + 16)) (lookU h t) m)) := by
  obtain ⟨⟨m1, m2, m3⟩, ⟨c1, c2, c3⟩, -⟩ := T.2.1.n
  unfold f_X5_countVotes
  rw [lk_n _ _ (by omega) (by omega), m3, c3, gdi_nI (by omega) (by decide), gdi_nI (by omega) (by decide), nI_clamp (by omega), nI_clamp (by omega), voF_c _ c (fun i hi => chC_e ht T f hi)]
  rfl
theorem op_votes {h : HP} {t u : Nat} (I : Inv h t u) (a : Int32) : Op t u (f_X11_votes h t a) (fun g => f_X12_votes g a) := by
  have ht := I.t
  obtain ⟨w, r, m, c, j, T⟩ := I.tw
  obtain ⟨⟨m1, m2, m3⟩, ⟨c1, c2, c3⟩, -⟩ := T.2.1.n
  unfold f_X11_votes f_X12_votes f_X5_hasRule
  simp only [bd2_s, isRule_e, ref_e, rfs_e]
  by_cases ha : 0 ≤ a.toInt ∧ a.toInt < (hI h t 10).toInt
  · rw [bI_dt ha, if_neg (by decide)]
    have ha2 : ∀ g, SmV h g → 0 ≤ a.toInt ∧ a.toInt < (hI g 114 5).toInt := fun g sv => by rw [sv 5 (by omega), m2, ← m3]; exact ha
    rw [m3] at ha
    obtain ⟨q, hq, rfl⟩ := rng_lt (by omega) ha
    obtain ⟨f, ef⟩ := look_e h ht m1 m3
    rw [ef, bd1_s, cnt_e ht T f q, bd2_s, ans_e, bd2_s]
    have sv := SmV.lk (h := h) ht f (lkP (hI h (t + 16)) (lookU h t) m) 0
    obtain ⟨g', e1, e2⟩ := vfor_e T sv (show m ≠ 0 by omega) q
    refine op_sc I (g2 := g') rfl (lk_sm ht f _) ?_ ?_ ?_
    · try simp only []
      rw [bI_dt (ha2 _ sv), if_neg (by decide), e1, bd2_s, giv_e, bd2_s]
    · rcases e2 with e2 | e2
      · rw [e2]; exact Sm.refl _ _
      · rw [e2]; exact (Sm.refl _ _).ln ht w r j
    · rcases e2 with e2 | e2
      · rw [e2, hI_uI_s]
      · rw [e2, lnH_I _ _ _ _ (by decide), hI_uI_s]
  · rw [bI_df ha, if_pos rfl]
    have ha2 : ¬ (0 ≤ a.toInt ∧ a.toInt < (hI h 114 5).toInt) := by rw [m2, ← m3]; exact ha
    refine op_st I (v := 1) (r := -1) rfl ?_
    simp only [hI_st h _ (show 114 ≠ 0 by decide)]
    rw [bI_df ha2, if_pos rfl]
/-! ===== alike: elect ===== -/
theorem voX_n {h : HP} {t m : Nat} (q : Nat) : ∀ c, ∃ v, v ≤ c ∧ voX h t m c q = nI v
  | 0 => ⟨0, by omega, rfl⟩
  | c + 1 => by
    obtain ⟨v, h1, h2⟩ := voX_n (h := h) (t := t) (m := m) q c
    have s : voX h t m (c + 1) q = voX h t m c q + (if chX h t m c = nI q then 1 else 0) := rfl
    rw [s, h2]; split
    · exact ⟨v + 1, by omega, nI_add v 1⟩
    · exact ⟨v, by omega, nI_add v 0⟩
theorem elF_n (v : Nat → Int32) : ∀ k, 0 < k → -1 < v 0 → ∃ b, b < k ∧ elF v k = (nI b, v b)
  | 0, h, _ => absurd h (by omega)
  | 1, _, h => ⟨0, by omega, by rw [elF, elF, if_pos h]⟩
  | k + 2, _, h => by
    obtain ⟨b, h1, h2⟩ := elF_n v (k + 1) (by omega) h
    rw [elF, h2]; split
    · exact ⟨k + 1, by omega, rfl⟩
    · exact ⟨b, by omega, rfl⟩
theorem elC_lp {h : HP} {t w r m c : Nat} {j : Bool} (ht : t = 79 ∨ t = 96) (T : TW h t w r m c j) (f : Nat → Int32) : ∀ d k n, k + d = m → d < n →
    f_X5_holdElection_26 t n (elF (voX h t m c) k).1 (elF (voX h t m c) k).2 (nI k) (rI (scr h t f) (t + 16) (lkP (hI h (t + 16)) (lookU h t) m)) = some (1, uI (rI (scr h t f) (t + 16) (lkP (hI h (t + 16)) (lookU h t) m)) t 12 (elF (voX h t m c) m).1)
  | d, k, 0, _, z => absurd z (by omega)
  | 0, k, n + 1, e, _ => by
    obtain ⟨⟨m1, m2, m3⟩, -⟩ := T.2.1.n
    unfold f_X5_holdElection_26
    rw [lk_n _ _ (by omega) (by omega), m3, if_pos (by rw [nI_leI (by omega) (by omega)]; omega), show k = m by omega]; rfl
  | d + 1, k, n + 1, e, z => by
    obtain ⟨⟨m1, m2, m3⟩, -⟩ := T.2.1.n
    have key := elC_lp ht T f d (k + 1) n (by omega) (by omega)
    unfold f_X5_holdElection_26
    rw [lk_n _ _ (by omega) (by omega), m3, if_neg (by rw [nI_leI (by omega) (by omega)]; omega), cnt_e ht T f k, bd2_s]
    simp only [ltv_e, nI_1]
    rw [elF] at key
    by_cases q : (elF (voX h t m c) k).2 < voX h t m c k
    · rw [if_neg (by rw [Int32.le_iff_toInt_le]; rw [Int32.lt_iff_toInt_lt] at q; omega)]; rw [if_pos q] at key; exact key
    · rw [if_pos (by rw [Int32.le_iff_toInt_le]; rw [Int32.lt_iff_toInt_lt] at q; omega)]; rw [if_neg q] at key; exact key
theorem elM_lp {h : HP} {t w r m c : Nat} {j : Bool} (T : TW h t w r m c j) : ∀ d k n, 1 ≤ k → k + d = m → d < n → ∀ g, SmV h g →
    ∃ g', f_X12_elects_25 n (elF (voX h t m c) k).1 (nI k) g = some (1, uI g' 114 10 (elF (voX h t m c) m).1) ∧ (g' = g ∨ g' = lnH g w r j)
  | d, k, 0, _, _, z, _, _ => absurd z (by omega)
  | 0, k, n + 1, _, e, _, g, sv => by
    obtain ⟨⟨m1, m2, m3⟩, -⟩ := T.2.1.n
    refine ⟨g, ?_, Or.inl rfl⟩
    unfold f_X12_elects_25
    rw [sv 5 (by omega), m2, if_pos (by rw [nI_leI (by omega) (by omega)]; omega), show k = m by omega]; rfl
  | d + 1, k, n + 1, k1, e, z, g, sv => by
    obtain ⟨⟨m1, m2, m3⟩, -⟩ := T.2.1.n
    obtain ⟨v0, -, ev0⟩ := voX_n (h := h) (t := t) (m := m) 0 c
    have c6 := T.2.1.n.2.1.1
    obtain ⟨v0, hv0, ev0⟩ := voX_n (h := h) (t := t) (m := m) 0 c
    obtain ⟨b, hb, eb⟩ := elF_n (voX h t m c) k (by omega) (by rw [ev0, Int32.lt_iff_toInt_lt, nI_t (by omega), show (-1 : Int32).toInt = -1 from rfl]; omega)
    have or2 : ∀ {a b d : HP}, (b = a ∨ b = lnH a w r j) → (d = b ∨ d = lnH b w r j) → (d = a ∨ d = lnH a w r j) := fun {a b d} q1 q2 => by
      rcases q1 with q1 | q1
      · rw [q1] at q2; exact q2
      · rcases q2 with q2 | q2
        · rw [q2]; exact Or.inr q1
        · rw [q2, q1, lnH_lnH]; exact Or.inr rfl
    have sv2 : ∀ {a b : HP}, SmV h a → (b = a ∨ b = lnH a w r j) → SmV h b := fun {a b} s q => by
      rcases q with q | q
      · rw [q]; exact s
      · rw [q]; exact s.ln w r j
    obtain ⟨g1, e1, q1⟩ := vfor_e T sv (show m ≠ 0 by omega) k
    obtain ⟨g2, e2, q2⟩ := vfor_e T (sv2 sv q1) (show m ≠ 0 by omega) b
    obtain ⟨g3, e3, q3⟩ := elM_lp T d (k + 1) n (by omega) (by omega) (by omega) g2 (sv2 (sv2 sv q1) q2)
    refine ⟨g3, ?_, or2 (or2 q1 q2) q3⟩
    unfold f_X12_elects_25
    rw [sv 5 (by omega), m2, if_neg (by rw [nI_leI (by omega) (by omega)]; omega), e1, bd2_s, eb, e2, bd2_s]
    simp only [ltv_e, nI_1]
    rw [elF, eb] at e3
    by_cases q : voX h t m c b < voX h t m c k
    · rw [if_neg (by rw [Int32.le_iff_toInt_le]; rw [Int32.lt_iff_toInt_lt] at q; omega)]; rw [if_pos q] at e3; exact e3
    · rw [if_pos (by rw [Int32.le_iff_toInt_le]; rw [Int32.lt_iff_toInt_lt] at q; omega)]; rw [if_neg q] at e3; exact e3

theorem RtR.mayor {h h' : HP} {t m c i : Nat} (ht : t = 79 ∨ t = 96) (q : RtR h t 0 0 m c) (E : ∀ b k, cnR t b k → (b ≠ t ∨ k ≠ 12) → (b ≠ 114 ∨ k ≠ 10) → hI h' b k = hI h b k) (L : ∀ b k, b = t + 9 ∨ b = t + 12 ∨ (b = 115 ∧ k < 10) → hL h' b k = hL h b k) (hi : i < m) (e1 : hI h' t 12 = nI i) (e2 : hI h' 114 10 = nI i) : RtR h' t 0 0 m c := by
  have q' := q
  unfold RtR at q ⊢
  obtain ⟨q1, q2, q3, q4, q5, q6, q7⟩ := q
  have m4 := q1.1
  have c6 := q2.1
  refine ⟨?_, ?_, Or.inr ⟨i, hi, ?_, e1⟩, fun i hi => ?_, fun i hi => ?_, fun i hi => ?_, fun i hi => ?_⟩
  · rw [E 114 (0 + 5) (by unfold cnR; omega) (by omega) (by omega), E t 10 (by unfold cnR; omega) (by omega) (by omega)]; exact q1
  · rw [E 114 (0 + 6) (by unfold cnR; omega) (by omega) (by omega), E t 11 (by unfold cnR; omega) (by omega) (by omega)]; exact q2
  · exact e2
  · rw [E _ _ (by unfold cnR; omega) (by omega) (by omega), E _ _ (by unfold cnR; omega) (by omega) (by omega), E _ _ (by unfold cnR; omega) (by omega) (by omega), E _ _ (by unfold cnR; omega) (by omega) (by omega), L _ _ (by omega), L _ _ (by omega)]; exact q4 i hi
  · rw [E _ _ (by unfold cnR; omega) (by omega) (by omega), E _ _ (by unfold cnR; omega) (by omega) (by omega), E _ _ (by unfold cnR; omega) (by omega) (by omega), E _ _ (by unfold cnR; omega) (by omega) (by omega)]; exact q5 i hi
  · rw [E _ _ (by unfold cnR; omega) (by omega) (by omega), E _ _ (by unfold cnR; omega) (by omega) (by omega)]; exact q6 i hi
  · rw [E _ _ (by unfold cnR; omega) (by omega) (by omega), E _ _ (by unfold cnR; omega) (by omega) (by omega)]; exact q7 i hi
/-- another mayor -/
theorem Inv.mayor {h h' : HP} {t u m i : Nat} (I : Inv h t u) (hm : hI h t 10 = nI m) (m4 : m ≤ 4) (hi : i < m) (s : SmO t h h') (e : hI h' 0 11 = hI h' 113 2) (E : ∀ b k, (cnH t b k ∨ cnR t b k ∨ cnS t b k ∨ cnY t b k) → (b ≠ t ∨ k ≠ 12) → (b ≠ 114 ∨ k ≠ 10) → hI h' b k = hI h b k) (L : ∀ b k, b = t + 9 ∨ b = t + 12 ∨ (b = 115 ∧ k < 10) → hL h' b k = hL h b k) (e1 : hI h' t 12 = nI i) (e2 : hI h' 114 10 = nI i) : Inv h' t u := by
  have ht := I.t
  obtain ⟨w, r, m', c, qH, qR, qS, qY⟩ := I.tn
  have em : m' = m := by
    obtain ⟨⟨a1, a2, a3⟩, -⟩ := qR.n
    exact nI_inj (by omega) (by omega) (a3.symm.trans hm)
  subst em
  refine I.own s e ⟨w, r, m', c, qH.k (fun b k q => E b k (Or.inl q) ?_ ?_), qR.mayor ht (fun b k q a b => E _ _ (Or.inr (Or.inl q)) a b) L hi e1 e2, qS.k (fun b k q => E b k (Or.inr (Or.inr (Or.inl q))) ?_ ?_), qY.k (fun b k q => E b k (Or.inr (Or.inr (Or.inr q))) ?_ ?_)⟩
  all_goals first | (unfold cnH at q; omega) | (unfold cnS at q; omega) | (unfold cnY at q; omega)
