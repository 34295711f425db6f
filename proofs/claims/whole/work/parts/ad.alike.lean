/-! ===== year: the reading whole ===== -/
def emY (a : HP) (y : Nat) : HP := rI a y (upd (upd (upd (upd (hI a y) 5 0) 6 0) 7 0) 5 1)
theorem yrun {h : HP} {t u L f : Nat} (I : Inv h t u) (hLf : L ≤ f) (f9 : f ≤ 900) (f1 : hI h 5 7 = nI f) (f2 : hI h 113 10 = nI f) (f3 : ∀ k, k < f → hI h 6 k = hI h 119 k ∧ ∃ c : Int8, hI h 119 k = c.toInt32) (h300 : L ≤ 300) (b0 : HP) (e0 : ∀ c, 113 ≤ c → hI b0 c = hI h c) (eL : ∀ c, 113 ≤ c → hL b0 c = hL h c) : ∃ w r m x a9 b1, f_X10_takeYear (emY (cutF h L) (u + 3)) t (u + 3) = some (x, a9) ∧ f_X12_year b0 (nI L) = f_X12_year_77 b1 ∧ FW (uI b0 113 10 0) b1 ∧ CW u (cutF h L) a9 ∧ hI a9 5 7 = 0 ∧ ((x = 0 ∧ FT a9 b1) ∨ (x = 1 ∧ RD (hI h 6) L (cutN (hI h 6) L) a9 b1 ∧ ∃ c e s st, RtH h t 0 w r ∧ RtR h t 0 0 m c ∧ RtS h t 0 ∧ YS a9 b1 (u + 3) w r m e s 0 st)) := by
  obtain ⟨hu, ht, htu⟩ := I.roles
  obtain ⟨⟨i1, i2, i3, i4, i5⟩, i6, i7, i8, i9, i10, i11, i12⟩ := I
  obtain ⟨w, r, m, c, tH, tR, tS, _⟩ := i11
  have tx : TX (hI h 6) L := ⟨by omega, fun j hj => by
    obtain ⟨c1, c, c2⟩ := f3 j (by omega)
    exact ⟨c, by rw [c1, c2]⟩⟩
  obtain ⟨ct, c10, c7, c12, c13⟩ := cutF_CT (h := h) (L := L) (by omega) i10
  obtain ⟨cs, cI, cL⟩ := cut_fr h L
  obtain ⟨b1, e1, F1, k1, _, _⟩ := begins_is tx (b := b0) (f := f) (m := 300) hLf f9 h300 (by decide) (by rw [e0 113 (by decide)]; exact f2) (fun j hj => by rw [e0 119 (by decide)]; exact ((f3 j (by omega)).1).symm) ct c10 c12 c13
  have ly : Lay (cutF h L) := cs.ly i1
  generalize cutF h L = a0 at ct c10 c7 c12 c13 cs cI cL k1 ly ⊢
  have Ce : CW u a0 (emY a0 (u + 3)) := (CW.refl u a0).rI _ (by omega) (by omega)
  have k2 : RD (hI h 6) L (cutN (hI h 6) L) (emY a0 (u + 3)) (uI (uI (uI b1 114 1651 0) 113 21 0) 113 22 0) := by
    have k3 : RD (hI h 6) L (cutN (hI h 6) L) (emY a0 (u + 3)) b1 := k1.keep (hI_rI_n _ _ (by omega)) (fun c hc => hI_rI_n _ _ (by omega)) rfl rfl rfl
    obtain ⟨⟨i, q1⟩, q2, q3, q4, q5⟩ := k3
    refine ⟨⟨i, q1.keep (TkFr.refl _) rfl (fun j hj => ?_) ?_⟩, ?_, ?_, q4, q5⟩
    · rw [hI_uI_n (by omega), hI_uI_n (by omega), hI_uI_n (by omega)]
    · rw [hI_uI_n' (by decide), hI_uI_n' (by decide), hI_uI_n' (by decide)]
    · rw [hI_uI_n (by decide), hI_uI_n (by decide), hI_uI_n (by decide)]; exact q2
    · rw [hI_uI_n (by decide), hI_uI_n (by decide), hI_uI_n (by decide)]; exact q3
  have F2 : FW (uI b0 113 10 0) (uI (uI (uI b1 114 1651 0) 113 21 0) 113 22 0) := ((F1.u4 _ (by decide)).u3 _ (by decide)).u3 _ (by decide)
  have W : TWN (emY a0 (u + 3)) (uI (uI (uI b1 114 1651 0) 113 21 0) 113 22 0) t w r m := by
    obtain ⟨h1, h2, h3, h4⟩ := tH.1
    obtain ⟨h5, h6, h7, h8⟩ := tH.2.1
    obtain ⟨r1, r2, r3⟩ := tR.1
    obtain ⟨r4, r5, r6⟩ := tR.2.1
    have r7 := tR.2.2.2.1
    have j4 : ∀ j, j < 1640 → hI (uI (uI (uI b1 114 1651 0) 113 21 0) 113 22 0) 114 j = hI h 114 j := fun j hj => by
      rw [F2.2.2.2.2.2.1 j hj, hI_uI_n' (by decide), e0 114 (by decide)]
    have j5 : ∀ j, j < 40 → hL (uI (uI (uI b1 114 1651 0) 113 21 0) 113 22 0) 115 j = hL h 115 j := fun j hj => by
      rw [F2.2.2.2.2.2.2 j hj, hL_uI, eL 115 (by decide)]
    unfold TWN
    rw [Ce.2.1 t (by omega) (by omega), Ce.2.1 (t + 1) (by omega) (by omega), Ce.2.2.1 (t + 9) (by omega), cI t (by omega) (by omega), cI (t + 1) (by omega) (by omega), cL (t + 9) (by omega), j4 0 (by decide), j4 1 (by decide), j4 5 (by decide)]
    simp only [Nat.zero_add] at h3 h7 r2
    refine ⟨⟨h1, h2, h4, h3⟩, ⟨h5, h6, h8, h7⟩, ⟨r1, r3, r2⟩, ⟨c, r4, r6⟩, fun i hi => ?_⟩
    rw [j5 i (by omega)]
    have := (r7 i hi).2.2
    rwa [Nat.zero_add] at this
  have S : YS (emY a0 (u + 3)) (uI (uI (uI b1 114 1651 0) 113 21 0) 113 22 0) (u + 3) w r m 0 0 0 (fun _ => 0) := by
    have y : hI (emY a0 (u + 3)) (u + 3) = upd (upd (upd (upd (hI a0 (u + 3)) 5 0) 6 0) 7 0) 5 1 := hI_rI_s _ _ _
    refine ⟨⟨by decide, by rw [y]; rfl, by rw [hI_uI_n (by decide), hI_uI_n (by decide), hI_uI_s]; rfl, by rw [y]; rfl⟩, ⟨by decide, by rw [y]; rfl, by rw [hI_uI_s]; rfl, by decide⟩, ⟨by decide, by rw [hI_uI_n (by decide), hI_uI_s]; rfl, fun i hi => absurd hi (by omega), fun i j _ hj => absurd hj (by omega), fun k hk => absurd hk (by omega)⟩, rfl, fun k hk => absurd hk (by omega), fun i j p q _ _ hp => absurd hp (by omega), fun i p j _ _ hp => absurd hp (by omega)⟩
  obtain ⟨x, a9, b9, m1, m2, m3, m4, m5⟩ := yloop hu ht htu 61 0 FU FU _ _ 0 0 (fun _ => 0) (by decide) (FU_gt (by decide)) (FU_gt (by decide)) k2 (Ce.1.ly ly) W S
  refine ⟨w, r, m, x, a9, b9, m1, ?_, F2.trans m3, Ce.trans m4, (Ce.trans m4).2.2.2.trans c7, ?_⟩
  · unfold f_X12_year
    rw [show f_X12_begins b0 (nI L) 300 = some (1, b1) from e1, bd2_s, if_neg (show ¬ (1 : Int32) = 0 by decide), ltv_e, ltv_e, ltv_e]
    exact m2
  · rcases m5 with m5 | ⟨q1, q2, e', s', st', q3⟩
    · exact Or.inl m5
    · exact Or.inr ⟨q1, q2, c, e', s', st', tH, tR, tS, q3⟩
