/-! ===== alike: bends, turns, paint, unlike ===== -/
theorem toI32 {a : Int32} {n : Nat} (hn : n < 2 ^ 31) : (¬ a < 0 ∧ ¬ nI n < a) ↔ (0 ≤ a.toInt ∧ a.toInt ≤ (n : Int)) := by
  rw [Int32.lt_iff_toInt_lt, Int32.lt_iff_toInt_lt, nI_t hn, show (0 : Int32).toInt = 0 from rfl]; omega
theorem fr32 (h : HP) (a : Int32) {n : Nat} (hn : n < 2 ^ 31) : f_X12_isFrom h a.toInt64 0 (Int32.toInt64 (nI n)) = some (bI (decide (0 ≤ a.toInt ∧ a.toInt ≤ (n : Int))), h) := by
  rw [isFrom_e, toInt64_toInt, toInt64_toInt, nI_t hn]; rfl
theorem free_e {h : HP} {t w r : Nat} (q : RtH h t 0 w r) : hI h (t + 1) 5 = hI h 114 2 &&& (hI h 114 4 ^^^ -1) := by
  refine b_ext (fun i hi => ?_)
  rw [(q.n.2.2.2.2.2.1 i hi).1, b_and, b_xor, b_m1 i hi, Bool.xor_true]
theorem op_bend {h : HP} {t u : Nat} (I : Inv h t u) (a b d : Int32) : Op t u (f_X11_bend h t a b d) (fun g => f_X12_bend g a b d) := by
  have ht := I.t
  obtain ⟨w, r, m, c, qH, qR, qS, qY⟩ := I.tn
  obtain ⟨⟨m1, m2, m3⟩, -⟩ := qR.n
  have f31 : ∀ g x, f_X12_isFrom g (Int32.toInt64 x) 0 31 = some (bI (decide (0 ≤ x.toInt ∧ x.toInt ≤ 31)), g) := fun g x => fr32 g x (n := 31) (by decide)
  have bad : (¬ (0 ≤ a.toInt ∧ a.toInt < (nI m).toInt) ∨ ¬ (0 ≤ b.toInt ∧ b.toInt ≤ 31) ∨ ¬ (0 ≤ d.toInt ∧ d.toInt ≤ 31)) → f_X12_bend (uI h 0 11 1) a b d = some (0, uI (uI h 0 11 1) 113 2 1) := fun q => by
    unfold f_X12_bend
    simp only [bd2_s, isRule_e, hI_st h 1 (show 114 ≠ 0 by decide), m2, f31, is1_e _ (show (1 : Int32) ≠ 0 by decide), gdv_t is01_0]
    by_cases q1 : 0 ≤ a.toInt ∧ a.toInt < (nI m).toInt
    · rw [bI_dt q1, if_neg (by decide)]
      by_cases q2 : 0 ≤ b.toInt ∧ b.toInt ≤ 31
      · rw [bI_dt q2, if_neg (by decide), bI_df (by rcases q with q | q | q; exact absurd q1 q; exact absurd q2 q; exact q), if_pos rfl]
      · rw [bI_df q2, if_pos rfl]
    · rw [bI_df q1, if_pos rfl]
  have b31 : f_X11_bend_31 t h = some (0, uI h 0 11 1) := by unfold f_X11_bend_31; rw [dny_e, bd2_s, gdv_t is01_0]
  unfold f_X11_bend f_X5_hasRule
  simp only [bd2_s, ltv_e, b31, alw_e, gdv_t is01_1, m3]
  by_cases ha : 0 ≤ a.toInt ∧ a.toInt < (nI m).toInt
  · rw [bI_dt ha, if_neg (by decide)]
    by_cases hb : 0 ≤ b.toInt ∧ b.toInt ≤ 31
    · obtain ⟨b1, b2⟩ := (toI32 (n := 31) (by decide)).mpr hb
      rw [if_neg b1, if_neg (show ¬ 31 < b from b2)]
      by_cases hd : 0 ≤ d.toInt ∧ d.toInt ≤ 31
      · obtain ⟨d1, d2⟩ := (toI32 (n := 31) (by decide)).mpr hd
        rw [if_neg d1, if_pos (show d ≤ 31 from Int32.not_lt.mp d2)]
        obtain ⟨i, hi, rfl⟩ := rng_lt (by omega) ha
        obtain ⟨-, -, f2⟩ := idx2 (i := i) (by omega) 12 (by omega)
        have f3 : nI (12 + 2 * i) + 1 = nI (13 + 2 * i) := by rw [nI_1]; congr 1; omega
        rw [gdi_nI (by omega) (by decide), gdi_nI (by omega) (by decide), nI_clamp (by omega)]
        have E : ∀ b' k, (b' ≠ t + 10 ∨ k ≠ i) → (b' ≠ t + 11 ∨ k ≠ i) → b' ≠ 0 → hI (uI (uI (uI h (t + 10) i b) (t + 11) i d) 0 11 0) b' k = hI h b' k := fun b' k h1 h2 h3 => by
          rw [hI_uI_n (by omega), hI_uI_n (by omega), hI_uI_n (by omega)]
        obtain ⟨g, eg⟩ : ∃ g, g = uI (uI (uI h (t + 10) i b) (t + 11) i d) 0 11 0 := ⟨_, rfl⟩
        have E' : ∀ b' k, (b' ≠ 114 ∨ (k ≠ 12 + 2 * i ∧ k ≠ 13 + 2 * i)) → b' ≠ 113 → hI (uI (uI (uI g 114 (12 + 2 * i) b) 114 (13 + 2 * i) d) 113 2 0) b' k = hI g b' k := fun b' k h1 h2 => by
          rw [hI_uI_n (by omega), hI_uI_n (by omega), hI_uI_n (by omega)]
        rw [← eg] at E ⊢
        refine ⟨1, g, uI (uI (uI g 114 (12 + 2 * i) b) 114 (13 + 2 * i) d) 113 2 0, rfl, ?_, ?_⟩
        · simp only []
          unfold f_X12_bend
          simp only [bd2_s, ltv_e, isRule_e, E 114 5 (by omega) (by omega) (by omega), m2, f31, is0_e, gdv_t is01_1]
          rw [bI_dt ha, if_neg (by decide), bI_dt hb, if_neg (by decide), bI_dt hd, if_neg (by decide), show (12 : Int32) = nI 12 from rfl, f2, gdi_nI (by omega) (by decide), f3, gdi_nI (by omega) (by decide), nI_clamp (by omega), nI_clamp (by omega)]
        · refine I.own (((((SmO.refl t h).I (t + 10) i b (by unfold relO inT; omega)).I (t + 11) i d (by unfold relO inT; omega)).I 0 11 0 (by unfold relO inT; omega)) |> fun s => by rw [← eg] at s; exact ((s.I 114 (12 + 2 * i) b (by unfold relO inT; omega)).I 114 (13 + 2 * i) d (by unfold relO inT; omega)).I 113 2 0 (by unfold relO inT; omega)) ?_ ?_
          · rw [hI_uI_s, E' _ _ (by omega) (by omega), eg, hI_uI_s]
          · have F : ∀ b' k, (b' ≠ t + 10 ∨ k ≠ i) → (b' ≠ t + 11 ∨ k ≠ i) → b' ≠ 0 → (b' ≠ 114 ∨ (k ≠ 12 + 2 * i ∧ k ≠ 13 + 2 * i)) → b' ≠ 113 → hI (uI (uI (uI g 114 (12 + 2 * i) b) 114 (13 + 2 * i) d) 113 2 0) b' k = hI h b' k := fun b' k h1 h2 h3 h4 h5 => (E' _ _ h4 h5).trans (E _ _ h1 h2 h3)
            refine ⟨w, r, m, c, qH.k (fun b' k q => F _ _ (by unfold cnH at q; omega) (by unfold cnH at q; omega) (by unfold cnH at q; omega) (by unfold cnH at q; omega) (by unfold cnH at q; omega)), ?_, qS.k (fun b' k q => F _ _ (by unfold cnS at q; omega) (by unfold cnS at q; omega) (by unfold cnS at q; omega) (by unfold cnS at q; omega) (by unfold cnS at q; omega)), qY.k (fun b' k q => F _ _ (by unfold cnY at q; omega) (by unfold cnY at q; omega) (by unfold cnY at q; omega) (by unfold cnY at q; omega) (by unfold cnY at q; omega))⟩
            obtain ⟨bn, hbn⟩ := rng_nI (n := 31) hb
            obtain ⟨dn, hdn⟩ := rng_nI (n := 31) hd
            obtain ⟨p1, p2, -, p4, p5, p6, p7⟩ := qR.n
            have hgL : hL (uI (uI (uI g 114 (12 + 2 * i) b) 114 (13 + 2 * i) d) 113 2 0) = hL h := by rw [eg]; rfl
            unfold RtR
            simp only [Nat.zero_add, hgL]
            rw [F 114 5 (by omega) (by omega) (by omega) (by omega) (by omega), F 114 6 (by omega) (by omega) (by omega) (by omega) (by omega), F 114 10 (by omega) (by omega) (by omega) (by omega) (by omega), F t 10 (by omega) (by omega) (by omega) (by omega) (by omega), F t 11 (by omega) (by omega) (by omega) (by omega) (by omega), F t 12 (by omega) (by omega) (by omega) (by omega) (by omega)]
            have A1 : hI (uI (uI (uI g 114 (12 + 2 * i) b) 114 (13 + 2 * i) d) 113 2 0) 114 (12 + 2 * i) = b := by rw [hI_uI_n (by omega), hI_uI_n (by omega), hI_uI_s]
            have A2 : hI (uI (uI (uI g 114 (12 + 2 * i) b) 114 (13 + 2 * i) d) 113 2 0) 114 (13 + 2 * i) = d := by rw [hI_uI_n (by omega), hI_uI_s]
            have A3 : hI (uI (uI (uI g 114 (12 + 2 * i) b) 114 (13 + 2 * i) d) 113 2 0) (t + 10) i = b := by rw [E' _ _ (by omega) (by omega), eg, hI_uI_n (by omega), hI_uI_n (by omega), hI_uI_s]
            have A4 : hI (uI (uI (uI g 114 (12 + 2 * i) b) 114 (13 + 2 * i) d) 113 2 0) (t + 11) i = d := by rw [E' _ _ (by omega) (by omega), eg, hI_uI_n (by omega), hI_uI_s]
            refine ⟨p1, p2, qR.n.2.2.1, fun j hj => ?_, fun j hj => ?_, fun j hj => ?_, fun j hj => ?_⟩
            · by_cases e : j = i
              · subst e; rw [A1, A2, A3, A4]; exact ⟨rfl, rfl, (p4 j hj).2.2⟩
              · rw [F (t + 10) j (by omega) (by omega) (by omega) (by omega) (by omega), F (t + 11) j (by omega) (by omega) (by omega) (by omega) (by omega), F 114 (12 + 2 * j) (by omega) (by omega) (by omega) (by omega) (by omega), F 114 (13 + 2 * j) (by omega) (by omega) (by omega) (by omega) (by omega)]; exact p4 j hj
            · rw [F (t + 13) j (by omega) (by omega) (by omega) (by omega) (by omega), F (t + 14) j (by omega) (by omega) (by omega) (by omega) (by omega), F 114 (20 + 2 * j) (by omega) (by omega) (by omega) (by omega) (by omega), F 114 (21 + 2 * j) (by omega) (by omega) (by omega) (by omega) (by omega)]; exact p5 j hj
            · by_cases e : j = i
              · subst e; rw [A1, A2]; exact ⟨⟨bn, by omega, hbn.2⟩, dn, by omega, hdn.2⟩
              · rw [F 114 (12 + 2 * j) (by omega) (by omega) (by omega) (by omega) (by omega), F 114 (13 + 2 * j) (by omega) (by omega) (by omega) (by omega) (by omega)]; exact p6 j hj
            · rw [F 114 (20 + 2 * j) (by omega) (by omega) (by omega) (by omega) (by omega), F 114 (21 + 2 * j) (by omega) (by omega) (by omega) (by omega) (by omega)]; exact p7 j hj
      · refine ⟨0, _, _, ?_, bad (Or.inr (Or.inr hd)), I.st 1⟩
        by_cases d1 : d < 0
        · rw [if_pos d1]
        · rw [if_neg d1, if_neg (show ¬ d ≤ 31 from fun q => hd ((toI32 (n := 31) (by decide)).mp ⟨d1, Int32.not_lt.mpr q⟩))]
    · refine ⟨0, _, _, ?_, bad (Or.inr (Or.inl hb)), I.st 1⟩
      by_cases b1 : b < 0
      · rw [if_pos b1]
      · rw [if_neg b1, if_pos (show 31 < b from Decidable.byContradiction fun q => hb ((toI32 (n := 31) (by decide)).mp ⟨b1, q⟩))]
  · exact ⟨0, _, _, by rw [bI_df ha, if_pos rfl], bad (Or.inl ha), I.st 1⟩

/-- paint and turns: a picture in the houses' bounds, the stuck lamps as they were -/
theorem Inv.pic {h h' : HP} {t u : Nat} (I : Inv h t u) {x : Int32} (s : SmO t h h') (e : hI h' 0 11 = hI h' 113 2) (e1 : hI h' t 13 = x) (e2 : hI h' 114 3 = x)
    (E : ∀ b k, cnH t b k ∨ cnR t b k ∨ cnS t b k ∨ cnY t b k → ¬ (b = t ∧ k = 13) → ¬ (b = 114 ∧ k = 3) → hI h' b k = hI h b k) (L : ∀ b k, b = t + 9 ∨ b = t + 12 ∨ (b = 115 ∧ k < 10) → hL h' b k = hL h b k)
    (x1 : ∀ i, i < 32 → bt x i = true → bt (hI h 114 2) i = true) (x2 : ∀ i, i < 32 → bt (hI h 114 4) i = true → bt x i = bt (hI h 114 3) i) : Inv h' t u := by
  have ht := I.t
  obtain ⟨w, r, m, c, qH, qR, qS, qY⟩ := I.tn
  exact I.own s e ⟨w, r, m, c, qH.pic (fun b k q => E b k (Or.inl q)) (by omega) e1 e2 x1 x2, qR.k (fun b k q => E b k (Or.inr (Or.inl q)) (by unfold cnR at q; omega) (by unfold cnR at q; omega)) L, qS.k (fun b k q => E b k (Or.inr (Or.inr (Or.inl q))) (by unfold cnS at q; omega) (by unfold cnS at q; omega)), qY.k (fun b k q => E b k (Or.inr (Or.inr (Or.inr q))) (by unfold cnY at q; omega) (by unfold cnY at q; omega))⟩
theorem cn_0 {t b k : Nat} (ht : t = 79 ∨ t = 96) (q : cnH t b k ∨ cnR t b k ∨ cnS t b k ∨ cnY t b k) : b ≠ 0 ∧ b ≠ 113 ∧ (b = t ∨ b = 114 ∨ (t < b ∧ b ≤ t + 15 ∧ b ≠ t + 2)) := by
  rcases q with q | q | q | q
  · unfold cnH at q; omega
  · unfold cnR at q; omega
  · unfold cnS at q; omega
  · unfold cnY at q; omega
/-- the picture alone is another, and the status -/
theorem Inv.pic1 {h : HP} {t u : Nat} (I : Inv h t u) (x v : Int32) (x1 : ∀ i, i < 32 → bt x i = true → bt (hI h 114 2) i = true) (x2 : ∀ i, i < 32 → bt (hI h 114 4) i = true → bt x i = bt (hI h 114 3) i) :
    Inv (uI (uI (uI (uI h t 13 x) 0 11 v) 114 3 x) 113 2 v) t u := by
  have ht := I.t
  refine I.pic (x := x) ((((SmO.refl t h).I t 13 x (by unfold relO inT; omega)).I 0 11 v (by unfold relO inT; omega)).I 114 3 x (by unfold relO inT; omega) |>.I 113 2 v (by unfold relO inT; omega)) ?_ ?_ ?_ (fun b k q n1 n2 => ?_) (fun _ _ _ => rfl) x1 x2
  · rw [hI_uI_s, hI_uI_n (by omega), hI_uI_n (by omega), hI_uI_s]
  · rw [hI_uI_n (by omega), hI_uI_n (by omega), hI_uI_n (by omega), hI_uI_s]
  · rw [hI_uI_n (by omega), hI_uI_s]
  · obtain ⟨z1, z2, z3⟩ := cn_0 ht q
    rw [hI_uI_n (by omega), hI_uI_n (by omega), hI_uI_n (by omega), hI_uI_n (by omega)]
theorem op_turn {h : HP} {t u : Nat} (I : Inv h t u) (x y : Int32) : Op t u (f_X11_turn h t x y) (fun g => f_X12_turn g x y) := by
  have ht := I.t
  obtain ⟨w, r, m, c, qH, -⟩ := I.tn
  obtain ⟨⟨w1, w5, hw, hw'⟩, ⟨r1, r6, hr, hr'⟩, -, -, ⟨h4, h5⟩, h6, h7⟩ := qH.n
  unfold f_X11_turn f_X12_turn
  rcases pl_cases (w := w) (r := r) (by omega) (by omega) x y with ⟨a, b, ha, hb, rfl, rfl⟩ | hn
  · have h30 := wr_le w5 r6
    have hpl := pl_lt ha hb
    obtain ⟨k, ek⟩ : ∃ k, k = b * w + a := ⟨_, rfl⟩
    have hk : k < 30 := by omega
    rw [wf_in w5 r6 hw' hr' ha hb]
    unfold f_X1_placeOf placeF f_X12_bitOf
    simp only [bd2_s, ltv_e, ans_e, ref_e, giv_e, rfs_e]
    have hc : 0 ≤ (nI a).toInt ∧ (nI a).toInt < (hI h (t + 1) 0).toInt ∧ 0 ≤ (nI b).toInt ∧ (nI b).toInt < (hI h (t + 1) 1).toInt := by rw [hw', hr', nI_t (by omega), nI_t (by omega), nI_t (by omega), nI_t (by omega)]; omega
    rw [if_pos hc, hw', pl_nI, ← ek]
    obtain ⟨bit, ebit⟩ : ∃ bit, bit = (1 : Int32) <<< (nI k &&& 31) := ⟨_, rfl⟩
    have hbit : ∀ i, i < 32 → bt bit i = decide (i = k) := fun i hi => by rw [ebit]; exact b_bit (by omega) hi
    rw [← ebit]
    by_cases hf : bt (hI h (t + 1) 5) k = true
    · have hf2 := (h6 k (by omega)).1
      rw [hf] at hf2
      obtain ⟨hh, hs⟩ : bt (hI h 114 2) k = true ∧ bt (hI h 114 4) k = false := by
        cases h8 : bt (hI h 114 2) k <;> cases h9 : bt (hI h 114 4) k <;> simp_all
      rw [if_pos hf, if_pos rfl, hI_uI_s]
      obtain ⟨p, ep⟩ : ∃ p, p = hI h t 13 ^^^ bit := ⟨_, rfl⟩
      rw [← ep]
      have key : ∀ v, Inv (uI (uI (uI (uI h t 13 p) 0 11 v) 114 3 p) 113 2 v) t u := fun v => I.pic1 p v (fun i hi q => by
          rw [ep, h5, b_xor, hbit i hi] at q
          by_cases e : i = k
          · rw [e]; exact hh
          · rw [decide_eq_false e, Bool.xor_false] at q; exact (h7 i hi).2.1 q) (fun i hi q => by
          rw [ep, h5, b_xor, hbit i hi, decide_eq_false (fun e => by rw [e, hs] at q; cases q), Bool.xor_false])
      have hl : f_X12_wrongLamp (uI (uI h t 13 p) 0 11 0) (nI a) (nI b) = some (0, uI (uI h t 13 p) 0 11 0) := by
        rw [wl_in w5 r6 (by rw [hI_uI_n (by omega), hI_uI_n (by omega)]; exact hw) (by rw [hI_uI_n (by omega), hI_uI_n (by omega)]; exact hr) ha hb, hI_uI_n (by omega), hI_uI_n (by omega), hI_uI_n (by omega), hI_uI_n (by omega), ← ek, hh, hs]; rfl
      have hm : nI w * nI b + nI a = nI k := by rw [Int32.mul_comm, pl_nI, ek]
      have e114 : hI (uI (uI h t 13 p) 0 11 0) 114 3 = hI h t 13 := by rw [hI_uI_n (by omega), hI_uI_n (by omega), h5]
      by_cases hz : p &&& bit = 0
      · refine ⟨0, _, _, by rw [if_pos hz], ?_, key 0⟩
        simp only []
        rw [hl]
        simp only [bd2_s]
        rw [if_pos (by decide)]
        simp only [hI_uI_n (show 114 ≠ 114 ∨ 0 ≠ 3 by decide), hI_uI_n (show 114 ≠ 0 ∨ 0 ≠ 11 by decide), hI_uI_n (show 114 ≠ t ∨ 0 ≠ 13 by omega), hw, hm, ← ebit, e114, ← ep, hI_uI_s]
        rw [if_pos hz]
      · refine ⟨1, _, _, by rw [if_neg hz], ?_, key 0⟩
        simp only []
        rw [hl]
        simp only [bd2_s]
        rw [if_pos (by decide)]
        simp only [hI_uI_n (show 114 ≠ 114 ∨ 0 ≠ 3 by decide), hI_uI_n (show 114 ≠ 0 ∨ 0 ≠ 11 by decide), hI_uI_n (show 114 ≠ t ∨ 0 ≠ 13 by omega), hw, hm, ← ebit, e114, ← ep, hI_uI_s]
        rw [if_neg hz]
    · have hf2 := (h6 k (by omega)).1
      refine op_st I (v := 7) (r := -1) ?_ ?_
      · rw [if_neg hf, if_neg (by decide)]
      · try simp only []
        rw [wl_in w5 r6 (by rw [hI_uI_n (by omega)]; exact hw) (by rw [hI_uI_n (by omega)]; exact hr) ha hb, hI_uI_n (by omega), hI_uI_n (by omega), ← ek, ← hf2, if_neg hf]
        simp only [bd2_s]
        rw [if_neg (by decide)]
  · rw [wf_out (by rw [hw', hr']; exact hn)]
    simp only [bd2_s, ref_e]
    refine op_st I (v := 1) (r := -1) ?_ ?_
    · rw [if_neg (by decide)]
    · try simp only []
      rw [wl_out (by rw [hI_uI_n (by omega), hI_uI_n (by omega), hw, hr]; exact hn)]
      simp only [bd2_s, rfs_e]
      rw [if_neg (by decide)]
