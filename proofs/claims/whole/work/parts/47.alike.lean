/-! ===== alike: the mayor, bends, lamps turned, paint ===== -/
theorem is0_e (h : HP) : f_X12_is h 0 = some (1, uI h 113 2 0) := by rw [is_e, bI_dt rfl]
theorem is1_e (h : HP) {v : Int32} (hv : v ≠ 0) : f_X12_is h v = some (0, uI h 113 2 v) := by rw [is_e, bI_df hv]
/-! the parts of a town kept or changed -/
def cnH (t b k : Nat) : Prop := (b = t + 1 ∧ k < 9) ∨ (b = t ∧ k = 13) ∨ (b = 114 ∧ (k ≤ 4 ∨ k = 9))
def cnR (t b k : Nat) : Prop := (b = t ∧ 10 ≤ k ∧ k ≤ 12) ∨ b = t + 10 ∨ b = t + 11 ∨ b = t + 13 ∨ b = t + 14 ∨ (b = 114 ∧ (k = 5 ∨ k = 6 ∨ k = 10 ∨ (12 ≤ k ∧ k < 32)))
def cnS (t b k : Nat) : Prop := (b = t ∧ (k = 14 ∨ k = 15)) ∨ b = t + 15 ∨ (b = 114 ∧ (k = 7 ∨ k = 8 ∨ (32 ≤ k ∧ k < 42)))
def cnY (t b k : Nat) : Prop := (b = t + 3 ∧ (k = 5 ∨ k = 6)) ∨ (t + 4 ≤ b ∧ b ≤ t + 8) ∨ (b = 114 ∧ (k = 11 ∨ (44 ≤ k ∧ k < 404)))
theorem RtH.k {h h' : HP} {t w r : Nat} (q : RtH h t 0 w r) (E : ∀ b k, cnH t b k → hI h' b k = hI h b k) : RtH h' t 0 w r :=
  q.same2 (fun j hj => E _ _ (Or.inl ⟨rfl, hj⟩)) (E _ _ (Or.inr (Or.inl ⟨rfl, rfl⟩))) (fun j hj => E _ _ (by unfold cnH; omega))
theorem RtR.k {h h' : HP} {t m c : Nat} (q : RtR h t 0 0 m c) (E : ∀ b k, cnR t b k → hI h' b k = hI h b k) (L : ∀ b k, b = t + 9 ∨ b = t + 12 ∨ (b = 115 ∧ k < 10) → hL h' b k = hL h b k) : RtR h' t 0 0 m c :=
  q.same2 (fun j h1 h2 => E _ _ (Or.inl ⟨rfl, h1, h2⟩)) (fun a i h1 h2 h3 => E _ _ (by unfold cnR; omega)) (fun a i h1 => L _ _ (by omega)) (fun j hj => E _ _ (by unfold cnR; omega)) (fun j hj => L _ _ (by omega))
theorem RtS.k {h h' : HP} {t : Nat} (q : RtS h t 0) (E : ∀ b k, cnS t b k → hI h' b k = hI h b k) : RtS h' t 0 :=
  q.same2 (fun j hj => E _ _ (Or.inl ⟨rfl, hj⟩)) (fun i _ => E _ _ (Or.inr (Or.inl rfl))) (fun j hj => E _ _ (by unfold cnS; omega))
theorem Ry.k {h h' : HP} {t w r m : Nat} (q : Ry h (t + 3) 0 w r m) (E : ∀ b k, cnY t b k → hI h' b k = hI h b k) : Ry h' (t + 3) 0 w r m :=
  q.same2 (fun j hj => E _ _ (Or.inl ⟨rfl, hj⟩)) (fun a p h1 h2 => E _ _ (by unfold cnY; omega)) (E _ _ (by unfold cnY; omega)) (fun j h1 h2 => E _ _ (by unfold cnY; omega))
/-- another picture -/
theorem RtH.pic {h h' : HP} {t w r : Nat} {x : Int32} (q : RtH h t 0 w r) (E : ∀ b k, cnH t b k → ¬ (b = t ∧ k = 13) → ¬ (b = 114 ∧ k = 3) → hI h' b k = hI h b k) (ht : t < 113) (e1 : hI h' t 13 = x) (e2 : hI h' 114 3 = x)
    (x1 : ∀ i, i < 32 → bt x i = true → bt (hI h 114 2) i = true) (x2 : ∀ i, i < 32 → bt (hI h 114 4) i = true → bt x i = bt (hI h 114 3) i) : RtH h' t 0 w r := by
  obtain ⟨a1, a2, a3, a4, a5, a6, a7⟩ := q.n
  have c1 : ∀ k, k < 9 → hI h' (t + 1) k = hI h (t + 1) k := fun k hk => E _ _ (Or.inl ⟨rfl, hk⟩) (by omega) (by omega)
  have c2 : ∀ k, (k ≤ 4 ∨ k = 9) → k ≠ 3 → hI h' 114 k = hI h 114 k := fun k hk h3 => E _ _ (Or.inr (Or.inr ⟨rfl, hk⟩)) (by omega) (by omega)
  unfold RtH
  simp only [Nat.zero_add]
  rw [c1 0 (by decide), c1 1 (by decide), c1 2 (by decide), c1 3 (by decide), c1 4 (by decide), c1 5 (by decide), c1 6 (by decide), c1 7 (by decide), c1 8 (by decide), c2 0 (by decide) (by decide), c2 1 (by decide) (by decide), c2 2 (by decide) (by decide), c2 4 (by decide) (by decide), c2 9 (by decide) (by decide), e1, e2]
  refine ⟨a1, a2, a3, a4, ⟨a5.1, rfl⟩, fun i hi => ⟨(a6 i hi).1, ?_⟩, fun i hi => ⟨(a7 i hi).1, x1 i hi, (a7 i hi).2.2⟩⟩
  rw [(a6 i hi).2]
  by_cases h4 : bt (hI h 114 4) i = true
  · rw [h4, x2 i hi h4]
  · rw [Bool.not_eq_true] at h4; rw [h4, Bool.and_false, Bool.and_false]
theorem op_mayor {h : HP} {t u : Nat} (I : Inv h t u) (a : Int32) : Op t u (f_X11_mayor h t a) (fun g => f_X12_mayor g a) := by
  have ht := I.t
  obtain ⟨w, r, m, c, qH, qR, qS, qY⟩ := I.tn
  obtain ⟨⟨m1, m2, m3⟩, -⟩ := qR.n
  unfold f_X11_mayor f_X12_mayor f_X5_hasRule
  simp only [bd2_s, ltv_e, isRule_e, alw_e, dny_e, is0_e]
  by_cases ha : 0 ≤ a.toInt ∧ a.toInt < (hI h t 10).toInt
  · rw [bI_dt ha, if_neg (by decide), gdv_t is01_1]
    have ha2 : 0 ≤ a.toInt ∧ a.toInt < (hI (uI (uI h t 12 a) 0 11 0) 114 5).toInt := by
      rw [hI_uI_n (by omega), hI_uI_n (by omega), m2, ← m3]; exact ha
    rw [m3] at ha
    obtain ⟨i, hi, rfl⟩ := rng_lt (by omega) ha
    refine ⟨1, _, uI (uI (uI (uI h t 12 (nI i)) 0 11 0) 114 10 (nI i)) 113 2 0, rfl, ?_, ?_⟩
    · simp only []
      rw [bI_dt ha2, if_neg (by decide), gdv_t is01_1]
    · refine I.own ((((SmO.refl t h).I _ _ _ (by unfold relO inT; omega)).I _ _ _ (by unfold relO inT; omega)).I _ _ _ (by unfold relO inT; omega) |>.I _ _ _ (by unfold relO inT; omega)) ?_ ?_
      · rw [hI_uI_s, hI_uI_n (by omega), hI_uI_n (by omega), hI_uI_s]
      · have E : ∀ b k, (b ≠ t ∨ k ≠ 12) → (b ≠ 114 ∨ k ≠ 10) → b ≠ 0 → b ≠ 113 → hI (uI (uI (uI (uI h t 12 (nI i)) 0 11 0) 114 10 (nI i)) 113 2 0) b k = hI h b k := fun b k h1 h2 h3 h4 => by
          rw [hI_uI_n (by omega), hI_uI_n (by omega), hI_uI_n (by omega), hI_uI_n (by omega)]
        refine ⟨w, r, m, c, qH.same2 (fun j hj => E _ _ (by omega) (by omega) (by omega) (by omega)) (E _ _ (by omega) (by omega) (by omega) (by omega)) (fun j hj => E _ _ (by omega) (by omega) (by omega) (by omega)), ?_, qS.same2 (fun j hj => E _ _ (by omega) (by omega) (by omega) (by omega)) (fun j hj => E _ _ (by omega) (by omega) (by omega) (by omega)) (fun j hj => E _ _ (by omega) (by omega) (by omega) (by omega)), qY.same2 (fun j hj => E _ _ (by omega) (by omega) (by omega) (by omega)) (fun a p h1 h2 => E _ _ (by omega) (by omega) (by omega) (by omega)) (E _ _ (by omega) (by omega) (by omega) (by omega)) (fun j h1 h2 => E _ _ (by omega) (by omega) (by omega) (by omega))⟩
        unfold RtR at qR ⊢
        obtain ⟨q1, q2, q3, q4, q5, q6, q7⟩ := qR
        refine ⟨?_, ?_, Or.inr ⟨i, hi, ?_, ?_⟩, fun i hi => ?_, fun i hi => ?_, fun i hi => ?_, fun i hi => ?_⟩
        · rw [E _ _ (by omega) (by omega) (by omega) (by omega), E _ _ (by omega) (by omega) (by omega) (by omega)]; exact q1
        · rw [E _ _ (by omega) (by omega) (by omega) (by omega), E _ _ (by omega) (by omega) (by omega) (by omega)]; exact q2
        · rw [hI_uI_n (by omega), hI_uI_s]
        · rw [hI_uI_n (by omega), hI_uI_n (by omega), hI_uI_n (by omega), hI_uI_s]
        · rw [E _ _ (by omega) (by omega) (by omega) (by omega), E _ _ (by omega) (by omega) (by omega) (by omega), E _ _ (by omega) (by omega) (by omega) (by omega), E _ _ (by omega) (by omega) (by omega) (by omega)]; exact q4 i hi
        · rw [E _ _ (by omega) (by omega) (by omega) (by omega), E _ _ (by omega) (by omega) (by omega) (by omega), E _ _ (by omega) (by omega) (by omega) (by omega), E _ _ (by omega) (by omega) (by omega) (by omega)]; exact q5 i hi
        · rw [E _ _ (by omega) (by omega) (by omega) (by omega), E _ _ (by omega) (by omega) (by omega) (by omega)]; exact q6 i hi
        · rw [E _ _ (by omega) (by omega) (by omega) (by omega), E _ _ (by omega) (by omega) (by omega) (by omega)]; exact q7 i hi
  · rw [bI_df ha, if_pos rfl, gdv_t is01_0]
    have ha2 : ¬ (0 ≤ a.toInt ∧ a.toInt < (hI h 114 5).toInt) := by rw [m2, ← m3]; exact ha
    refine ⟨0, _, _, rfl, ?_, I.st 1⟩
    simp only [hI_st h _ (show 114 ≠ 0 by decide)]
    rw [bI_df ha2, if_pos rfl, is1_e _ (by decide), bd2_s, gdv_t is01_0]
